/-! ===== a heavy contract, pieces of it ===== -/
set_option maxRecDepth 100000 in
theorem zs394_2_19 : z_RUN zSPd zD zw394 0 0 4 none zDF zTC zT305 zoF394 zs394_2_t17 := z_RUN.chl (FU := 20000) (stp0 := []) (cs := [([60], 0), ([110], 2)]) (lit := zs394_2_t19) (by decide +kernel) zs394_2_21
set_option maxRecDepth 100000 in
theorem zs394_2_17 : z_RUN zSPd zD zw394 0 0 4 none zDF zTC zT305 zoF394 zs394_2_t15 := z_RUN.chl (FU := 20000) (stp0 := []) (cs := [([60], 0), ([110], 2)]) (lit := zs394_2_t17) (by decide +kernel) zs394_2_19
set_option maxRecDepth 100000 in
theorem zs394_2_15 : z_RUN zSPd zD zw394 0 0 4 none zDF zTC zT305 zoF394 zs394_2_t13 := z_RUN.chl (FU := 20000) (stp0 := []) (cs := [([60], 0), ([110], 2)]) (lit := zs394_2_t15) (by decide +kernel) zs394_2_17
