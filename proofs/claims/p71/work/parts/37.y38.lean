/-! ===== a heavy contract, pieces of it ===== -/
set_option maxRecDepth 100000 in
theorem zs394_4_9 : z_RUN zSPd zD zw394 0 0 4 none zDF zTC zT305 zoF394 zs394_4_t7 := z_RUN.chl (FU := 20000) (stp0 := []) (cs := [([60], 0), ([110], 2)]) (lit := zs394_4_t9) (by decide +kernel) zs394_4_11
set_option maxRecDepth 100000 in
theorem zs394_4_7 : z_RUN zSPd zD zw394 0 0 4 none zDF zTC zT305 zoF394 zs394_4_t5 := z_RUN.chl (FU := 20000) (stp0 := []) (cs := [([60], 0), ([110], 2)]) (lit := zs394_4_t7) (by decide +kernel) zs394_4_9
set_option maxRecDepth 100000 in
theorem zs394_4_5 : z_RUN zSPd zD zw394 0 0 4 none zDF zTC zT305 zoF394 zs394_4_t3 := z_RUN.chl (FU := 20000) (stp0 := []) (cs := [([60], 0), ([110], 2)]) (lit := zs394_4_t5) (by decide +kernel) zs394_4_7
