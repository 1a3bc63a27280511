/-! ===== a heavy contract, pieces of it ===== -/
set_option maxRecDepth 100000 in
theorem zs394_3_5 : z_RUN zSPd zD zw394 0 0 4 none zDF zTC zT305 zoF394 zs394_3_t3 := z_RUN.chl (FU := 20000) (stp0 := []) (cs := [([60], 0), ([110], 2)]) (lit := zs394_3_t5) (by decide +kernel) zs394_3_7
set_option maxRecDepth 100000 in
theorem zs394_3_3 : z_RUN zSPd zD zw394 0 0 4 none zDF zTC zT305 zoF394 zs394_3_t1 := z_RUN.chl (FU := 20000) (stp0 := []) (cs := [([60], 0), ([110], 2)]) (lit := zs394_3_t3) (by decide +kernel) zs394_3_5
set_option maxRecDepth 100000 in
theorem zs394_3_1 : z_RUN zSPd zD zw394 0 0 4 none zDF zTC zT305 zoF394 (z_swj zn394 zj394 3) := z_RUN.chl (FU := 20000) (stp0 := []) (cs := [([60], 4), ([110], 2)]) (lit := zs394_3_t1) (by decide +kernel) zs394_3_3
