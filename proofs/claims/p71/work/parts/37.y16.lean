/-! ===== a heavy contract, pieces of it ===== -/
set_option maxRecDepth 100000 in
theorem zs394_2_25 : z_RUN zSPd zD zw394 0 0 4 none zDF zTC zT305 zoF394 zs394_2_t23 := z_RUN.chl (FU := 20000) (stp0 := []) (cs := [([60], 0), ([110], 2)]) (lit := zs394_2_t25) (by decide +kernel) zs394_2_27
set_option maxRecDepth 100000 in
theorem zs394_2_23 : z_RUN zSPd zD zw394 0 0 4 none zDF zTC zT305 zoF394 zs394_2_t21 := z_RUN.chl (FU := 20000) (stp0 := []) (cs := [([60], 0), ([110], 2)]) (lit := zs394_2_t23) (by decide +kernel) zs394_2_25
set_option maxRecDepth 100000 in
theorem zs394_2_21 : z_RUN zSPd zD zw394 0 0 4 none zDF zTC zT305 zoF394 zs394_2_t19 := z_RUN.chl (FU := 20000) (stp0 := []) (cs := [([60], 0), ([110], 2)]) (lit := zs394_2_t21) (by decide +kernel) zs394_2_23
