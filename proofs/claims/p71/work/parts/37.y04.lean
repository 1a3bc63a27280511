/-! ===== a heavy contract, pieces of it ===== -/
set_option maxRecDepth 100000 in
theorem zs394_1_39 : z_RUN zSPd zD zw394 0 0 4 none zDF zTC zT305 zoF394 zs394_1_t37 := z_RUN.chl (FU := 20000) (stp0 := []) (cs := [([60], 0), ([110], 2)]) (lit := zs394_1_t39) (by decide +kernel) zs394_1_41
set_option maxRecDepth 100000 in
theorem zs394_1_37 : z_RUN zSPd zD zw394 0 0 4 none zDF zTC zT305 zoF394 zs394_1_t35 := z_RUN.chl (FU := 20000) (stp0 := []) (cs := [([60], 0), ([110], 2)]) (lit := zs394_1_t37) (by decide +kernel) zs394_1_39
set_option maxRecDepth 100000 in
theorem zs394_1_35 : z_RUN zSPd zD zw394 0 0 4 none zDF zTC zT305 zoF394 zs394_1_t33 := z_RUN.chl (FU := 20000) (stp0 := []) (cs := [([60], 0), ([110], 2)]) (lit := zs394_1_t35) (by decide +kernel) zs394_1_37
