/-! ===== a heavy contract, pieces of it ===== -/
set_option maxRecDepth 100000 in
theorem zs394_1_15 : z_RUN zSPd zD zw394 0 0 4 none zDF zTC zT305 zoF394 zs394_1_t13 := z_RUN.chl (FU := 20000) (stp0 := []) (cs := [([60], 0), ([110], 2)]) (lit := zs394_1_t15) (by decide +kernel) zs394_1_17
set_option maxRecDepth 100000 in
theorem zs394_1_13 : z_RUN zSPd zD zw394 0 0 4 none zDF zTC zT305 zoF394 zs394_1_t11 := z_RUN.chl (FU := 20000) (stp0 := []) (cs := [([60], 0), ([110], 2)]) (lit := zs394_1_t13) (by decide +kernel) zs394_1_15
set_option maxRecDepth 100000 in
theorem zs394_1_11 : z_RUN zSPd zD zw394 0 0 4 none zDF zTC zT305 zoF394 zs394_1_t9 := z_RUN.chl (FU := 20000) (stp0 := []) (cs := [([60], 0), ([110], 2)]) (lit := zs394_1_t11) (by decide +kernel) zs394_1_13
