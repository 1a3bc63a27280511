/-! ===== a heavy contract, pieces of it ===== -/
set_option maxRecDepth 100000 in
theorem zs394_4_15 : z_RUN zSPd zD zw394 0 0 4 none zDF zTC zT305 zoF394 zs394_4_t13 := z_RUN.chl (FU := 20000) (stp0 := []) (cs := [([60], 0), ([110], 2)]) (lit := zs394_4_t15) (by decide +kernel) zs394_4_17
set_option maxRecDepth 100000 in
theorem zs394_4_13 : z_RUN zSPd zD zw394 0 0 4 none zDF zTC zT305 zoF394 zs394_4_t11 := z_RUN.chl (FU := 20000) (stp0 := []) (cs := [([60], 0), ([110], 2)]) (lit := zs394_4_t13) (by decide +kernel) zs394_4_15
set_option maxRecDepth 100000 in
theorem zs394_4_11 : z_RUN zSPd zD zw394 0 0 4 none zDF zTC zT305 zoF394 zs394_4_t9 := z_RUN.chl (FU := 20000) (stp0 := []) (cs := [([60], 0), ([110], 2)]) (lit := zs394_4_t11) (by decide +kernel) zs394_4_13
