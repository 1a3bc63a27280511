/-! ===== a heavy contract, pieces of it ===== -/
set_option maxRecDepth 100000 in
theorem zs394_4_21 : z_RUN zSPd zD zw394 0 0 4 none zDF zTC zT305 zoF394 zs394_4_t19 := z_RUN.chl (FU := 20000) (stp0 := []) (cs := [([60], 0), ([110], 2)]) (lit := zs394_4_t21) (by decide +kernel) zs394_4_23
set_option maxRecDepth 100000 in
theorem zs394_4_19 : z_RUN zSPd zD zw394 0 0 4 none zDF zTC zT305 zoF394 zs394_4_t17 := z_RUN.chl (FU := 20000) (stp0 := []) (cs := [([60], 0), ([110], 2)]) (lit := zs394_4_t19) (by decide +kernel) zs394_4_21
set_option maxRecDepth 100000 in
theorem zs394_4_17 : z_RUN zSPd zD zw394 0 0 4 none zDF zTC zT305 zoF394 zs394_4_t15 := z_RUN.chl (FU := 20000) (stp0 := []) (cs := [([60], 0), ([110], 2)]) (lit := zs394_4_t17) (by decide +kernel) zs394_4_19
