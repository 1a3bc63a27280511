/-! ===== contracts and their cuts, by program ===== -/
/-- m.passOf0 -/
noncomputable def zn456 : zCn := (((zjl_758, []), [(2, 0, 0), (0, 14, 0), (0, 15, 0)], [zcl287, zcl288, zcl289, zcl259, zcl37, zcl72, zcl290, zcl759, zcl262, zcl263, zcl264, zcl265, zcl266, zcl12, zcl12, zcl12, zcl757, zcl13, zcl14, zcl42, zcl42, zcl267, zcl49]), [((zjl_758, []), [(0, 0, (-1))], [zcl287, zcl288, zcl289, zcl259, zcl37, zcl72, zcl290, zcl759, zcl262, zcl263, zcl264, zcl265, zcl266, zcl12, zcl12, zcl12, zcl757, zcl13, zcl14, zcl42, zcl42, zcl267, zcl49])])
noncomputable def zc456 : List zCt := []
noncomputable def zu456 : List (Nat × zCn) := [(170, zn455)]
set_option maxRecDepth 100000 in
theorem zk456 : z_conB zSPd zD (z_callC 14 zu456 (z_runC zSPd 14 zu456 zD zDF zTC 20000 1)) zDF zTC 20000 17179869184 2 0 0 0 7 zT172 zn456 none zc456 = true := by decide +kernel
