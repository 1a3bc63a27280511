/-! ===== a heavy contract, pieces of it ===== -/
set_option maxRecDepth 100000 in
theorem zs394_3_41 : z_RUN zSPd zD zw394 0 0 4 none zDF zTC zT305 zoF394 zs394_3_t39 := z_RUN.chl (FU := 20000) (stp0 := []) (cs := [([60], 0), ([110], 2)]) (lit := zs394_3_t41) (by decide +kernel) zs394_3_43
set_option maxRecDepth 100000 in
theorem zs394_3_39 : z_RUN zSPd zD zw394 0 0 4 none zDF zTC zT305 zoF394 zs394_3_t37 := z_RUN.chl (FU := 20000) (stp0 := []) (cs := [([60], 0), ([110], 2)]) (lit := zs394_3_t39) (by decide +kernel) zs394_3_41
set_option maxRecDepth 100000 in
theorem zs394_3_37 : z_RUN zSPd zD zw394 0 0 4 none zDF zTC zT305 zoF394 zs394_3_t35 := z_RUN.chl (FU := 20000) (stp0 := []) (cs := [([60], 0), ([110], 2)]) (lit := zs394_3_t37) (by decide +kernel) zs394_3_39
