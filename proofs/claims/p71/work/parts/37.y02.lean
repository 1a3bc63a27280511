/-! ===== a heavy contract, pieces of it ===== -/
set_option maxRecDepth 100000 in
theorem zs394_1_51 : z_RUN zSPd zD zw394 0 0 4 none zDF zTC zT305 zoF394 zs394_1_t49 := z_RUN.chl (FU := 20000) (stp0 := []) (cs := [([60], 0), ([110], 2)]) (lit := zs394_1_t51) (by decide +kernel) zs394_1_53
set_option maxRecDepth 100000 in
theorem zs394_1_49 : z_RUN zSPd zD zw394 0 0 4 none zDF zTC zT305 zoF394 zs394_1_t47 := z_RUN.chl (FU := 20000) (stp0 := []) (cs := [([60], 0), ([110], 2)]) (lit := zs394_1_t49) (by decide +kernel) zs394_1_51
set_option maxRecDepth 100000 in
theorem zs394_1_47 : z_RUN zSPd zD zw394 0 0 4 none zDF zTC zT305 zoF394 zs394_1_t45 := z_RUN.chl (FU := 20000) (stp0 := []) (cs := [([60], 0), ([110], 2)]) (lit := zs394_1_t47) (by decide +kernel) zs394_1_49
