/-! ===== a heavy contract, pieces of it ===== -/
set_option maxRecDepth 100000 in
theorem zs394_2_49 : z_RUN zSPd zD zw394 0 0 4 none zDF zTC zT305 zoF394 zs394_2_t47 := z_RUN.chl (FU := 20000) (stp0 := []) (cs := [([60], 0), ([110], 2)]) (lit := zs394_2_t49) (by decide +kernel) zs394_2_51
set_option maxRecDepth 100000 in
theorem zs394_2_47 : z_RUN zSPd zD zw394 0 0 4 none zDF zTC zT305 zoF394 zs394_2_t45 := z_RUN.chl (FU := 20000) (stp0 := []) (cs := [([60], 0), ([110], 2)]) (lit := zs394_2_t47) (by decide +kernel) zs394_2_49
set_option maxRecDepth 100000 in
theorem zs394_2_45 : z_RUN zSPd zD zw394 0 0 4 none zDF zTC zT305 zoF394 zs394_2_t43 := z_RUN.chl (FU := 20000) (stp0 := []) (cs := [([60], 0), ([110], 2)]) (lit := zs394_2_t45) (by decide +kernel) zs394_2_47
