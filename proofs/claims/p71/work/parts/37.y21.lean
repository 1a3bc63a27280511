/-! ===== a heavy contract, pieces of it ===== -/
set_option maxRecDepth 100000 in
theorem zs394_3_53 : z_RUN zSPd zD zw394 0 0 4 none zDF zTC zT305 zoF394 zs394_3_t51 := z_RUN.chl (FU := 20000) (stp0 := []) (cs := [([60], 0), ([110], 2)]) (lit := zs394_3_t53) (by decide +kernel) zs394_3_55
set_option maxRecDepth 100000 in
theorem zs394_3_51 : z_RUN zSPd zD zw394 0 0 4 none zDF zTC zT305 zoF394 zs394_3_t49 := z_RUN.chl (FU := 20000) (stp0 := []) (cs := [([60], 0), ([110], 2)]) (lit := zs394_3_t51) (by decide +kernel) zs394_3_53
set_option maxRecDepth 100000 in
theorem zs394_3_49 : z_RUN zSPd zD zw394 0 0 4 none zDF zTC zT305 zoF394 zs394_3_t47 := z_RUN.chl (FU := 20000) (stp0 := []) (cs := [([60], 0), ([110], 2)]) (lit := zs394_3_t49) (by decide +kernel) zs394_3_51
