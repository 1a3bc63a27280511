/-! ===== a heavy contract, pieces of it ===== -/
set_option maxRecDepth 100000 in
theorem zs394_2_43 : z_RUN zSPd zD zw394 0 0 4 none zDF zTC zT305 zoF394 zs394_2_t41 := z_RUN.chl (FU := 20000) (stp0 := []) (cs := [([60], 0), ([110], 2)]) (lit := zs394_2_t43) (by decide +kernel) zs394_2_45
set_option maxRecDepth 100000 in
theorem zs394_2_41 : z_RUN zSPd zD zw394 0 0 4 none zDF zTC zT305 zoF394 zs394_2_t39 := z_RUN.chl (FU := 20000) (stp0 := []) (cs := [([60], 0), ([110], 2)]) (lit := zs394_2_t41) (by decide +kernel) zs394_2_43
set_option maxRecDepth 100000 in
theorem zs394_2_39 : z_RUN zSPd zD zw394 0 0 4 none zDF zTC zT305 zoF394 zs394_2_t37 := z_RUN.chl (FU := 20000) (stp0 := []) (cs := [([60], 0), ([110], 2)]) (lit := zs394_2_t39) (by decide +kernel) zs394_2_41
