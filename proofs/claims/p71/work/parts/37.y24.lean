/-! ===== a heavy contract, pieces of it ===== -/
set_option maxRecDepth 100000 in
theorem zs394_3_35 : z_RUN zSPd zD zw394 0 0 4 none zDF zTC zT305 zoF394 zs394_3_t33 := z_RUN.chl (FU := 20000) (stp0 := []) (cs := [([60], 0), ([110], 2)]) (lit := zs394_3_t35) (by decide +kernel) zs394_3_37
set_option maxRecDepth 100000 in
theorem zs394_3_33 : z_RUN zSPd zD zw394 0 0 4 none zDF zTC zT305 zoF394 zs394_3_t31 := z_RUN.chl (FU := 20000) (stp0 := []) (cs := [([60], 0), ([110], 2)]) (lit := zs394_3_t33) (by decide +kernel) zs394_3_35
set_option maxRecDepth 100000 in
theorem zs394_3_31 : z_RUN zSPd zD zw394 0 0 4 none zDF zTC zT305 zoF394 zs394_3_t29 := z_RUN.chl (FU := 20000) (stp0 := []) (cs := [([60], 0), ([110], 2)]) (lit := zs394_3_t31) (by decide +kernel) zs394_3_33
