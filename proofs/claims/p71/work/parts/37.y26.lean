/-! ===== a heavy contract, pieces of it ===== -/
set_option maxRecDepth 100000 in
theorem zs394_3_23 : z_RUN zSPd zD zw394 0 0 4 none zDF zTC zT305 zoF394 zs394_3_t21 := z_RUN.chl (FU := 20000) (stp0 := []) (cs := [([60], 0), ([110], 2)]) (lit := zs394_3_t23) (by decide +kernel) zs394_3_25
set_option maxRecDepth 100000 in
theorem zs394_3_21 : z_RUN zSPd zD zw394 0 0 4 none zDF zTC zT305 zoF394 zs394_3_t19 := z_RUN.chl (FU := 20000) (stp0 := []) (cs := [([60], 0), ([110], 2)]) (lit := zs394_3_t21) (by decide +kernel) zs394_3_23
set_option maxRecDepth 100000 in
theorem zs394_3_19 : z_RUN zSPd zD zw394 0 0 4 none zDF zTC zT305 zoF394 zs394_3_t17 := z_RUN.chl (FU := 20000) (stp0 := []) (cs := [([60], 0), ([110], 2)]) (lit := zs394_3_t19) (by decide +kernel) zs394_3_21
