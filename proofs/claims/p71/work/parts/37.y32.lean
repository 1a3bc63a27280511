/-! ===== a heavy contract, pieces of it ===== -/
set_option maxRecDepth 100000 in
theorem zs394_4_45 : z_RUN zSPd zD zw394 0 0 4 none zDF zTC zT305 zoF394 zs394_4_t43 := z_RUN.chl (FU := 20000) (stp0 := []) (cs := [([60], 0), ([110], 2)]) (lit := zs394_4_t45) (by decide +kernel) zs394_4_47
set_option maxRecDepth 100000 in
theorem zs394_4_43 : z_RUN zSPd zD zw394 0 0 4 none zDF zTC zT305 zoF394 zs394_4_t41 := z_RUN.chl (FU := 20000) (stp0 := []) (cs := [([60], 0), ([110], 2)]) (lit := zs394_4_t43) (by decide +kernel) zs394_4_45
set_option maxRecDepth 100000 in
theorem zs394_4_41 : z_RUN zSPd zD zw394 0 0 4 none zDF zTC zT305 zoF394 zs394_4_t39 := z_RUN.chl (FU := 20000) (stp0 := []) (cs := [([60], 0), ([110], 2)]) (lit := zs394_4_t41) (by decide +kernel) zs394_4_43
