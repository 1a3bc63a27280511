/-! ===== a heavy contract, pieces of it ===== -/
set_option maxRecDepth 100000 in
theorem zs394_1_45 : z_RUN zSPd zD zw394 0 0 4 none zDF zTC zT305 zoF394 zs394_1_t43 := z_RUN.chl (FU := 20000) (stp0 := []) (cs := [([60], 0), ([110], 2)]) (lit := zs394_1_t45) (by decide +kernel) zs394_1_47
set_option maxRecDepth 100000 in
theorem zs394_1_43 : z_RUN zSPd zD zw394 0 0 4 none zDF zTC zT305 zoF394 zs394_1_t41 := z_RUN.chl (FU := 20000) (stp0 := []) (cs := [([60], 0), ([110], 2)]) (lit := zs394_1_t43) (by decide +kernel) zs394_1_45
set_option maxRecDepth 100000 in
theorem zs394_1_41 : z_RUN zSPd zD zw394 0 0 4 none zDF zTC zT305 zoF394 zs394_1_t39 := z_RUN.chl (FU := 20000) (stp0 := []) (cs := [([60], 0), ([110], 2)]) (lit := zs394_1_t41) (by decide +kernel) zs394_1_43
