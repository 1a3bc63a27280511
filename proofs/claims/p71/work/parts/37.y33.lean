/-! ===== a heavy contract, pieces of it ===== -/
set_option maxRecDepth 100000 in
theorem zs394_4_39 : z_RUN zSPd zD zw394 0 0 4 none zDF zTC zT305 zoF394 zs394_4_t37 := z_RUN.chl (FU := 20000) (stp0 := []) (cs := [([60], 0), ([110], 2)]) (lit := zs394_4_t39) (by decide +kernel) zs394_4_41
set_option maxRecDepth 100000 in
theorem zs394_4_37 : z_RUN zSPd zD zw394 0 0 4 none zDF zTC zT305 zoF394 zs394_4_t35 := z_RUN.chl (FU := 20000) (stp0 := []) (cs := [([60], 0), ([110], 2)]) (lit := zs394_4_t37) (by decide +kernel) zs394_4_39
set_option maxRecDepth 100000 in
theorem zs394_4_35 : z_RUN zSPd zD zw394 0 0 4 none zDF zTC zT305 zoF394 zs394_4_t33 := z_RUN.chl (FU := 20000) (stp0 := []) (cs := [([60], 0), ([110], 2)]) (lit := zs394_4_t35) (by decide +kernel) zs394_4_37
