/-! ===== a heavy contract, pieces of it ===== -/
set_option maxRecDepth 100000 in
theorem zs394_2_7 : z_RUN zSPd zD zw394 0 0 4 none zDF zTC zT305 zoF394 zs394_2_t5 := z_RUN.chl (FU := 20000) (stp0 := []) (cs := [([60], 0), ([110], 2)]) (lit := zs394_2_t7) (by decide +kernel) zs394_2_9
set_option maxRecDepth 100000 in
theorem zs394_2_5 : z_RUN zSPd zD zw394 0 0 4 none zDF zTC zT305 zoF394 zs394_2_t3 := z_RUN.chl (FU := 20000) (stp0 := []) (cs := [([60], 0), ([110], 2)]) (lit := zs394_2_t5) (by decide +kernel) zs394_2_7
set_option maxRecDepth 100000 in
theorem zs394_2_3 : z_RUN zSPd zD zw394 0 0 4 none zDF zTC zT305 zoF394 zs394_2_t1 := z_RUN.chl (FU := 20000) (stp0 := []) (cs := [([60], 0), ([110], 2)]) (lit := zs394_2_t3) (by decide +kernel) zs394_2_5
