/-! ===== a heavy contract, pieces of it ===== -/
set_option maxRecDepth 100000 in
theorem zs394_1_33 : z_RUN zSPd zD zw394 0 0 4 none zDF zTC zT305 zoF394 zs394_1_t31 := z_RUN.chl (FU := 20000) (stp0 := []) (cs := [([60], 0), ([110], 2)]) (lit := zs394_1_t33) (by decide +kernel) zs394_1_35
set_option maxRecDepth 100000 in
theorem zs394_1_31 : z_RUN zSPd zD zw394 0 0 4 none zDF zTC zT305 zoF394 zs394_1_t29 := z_RUN.chl (FU := 20000) (stp0 := []) (cs := [([60], 0), ([110], 2)]) (lit := zs394_1_t31) (by decide +kernel) zs394_1_33
set_option maxRecDepth 100000 in
theorem zs394_1_29 : z_RUN zSPd zD zw394 0 0 4 none zDF zTC zT305 zoF394 zs394_1_t27 := z_RUN.chl (FU := 20000) (stp0 := []) (cs := [([60], 0), ([110], 2)]) (lit := zs394_1_t29) (by decide +kernel) zs394_1_31
