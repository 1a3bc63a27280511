/-! ===== contracts and their cuts, by program ===== -/
/-- cr.act03 -/
noncomputable def zn465 : zCn := (((zjl_322, []), [(2, 0, 0), (0, 0, 90), (0, 0, 0), (0, 0, 3)], [zcl265]), [((zjl_322, []), [], [zcl265])])
noncomputable def zc465 : List zCt := []
noncomputable def zu465 : List (Nat × zCn) := []
set_option maxRecDepth 100000 in
theorem zk465 : z_conB zSPd zD (z_callC 14 zu465 (z_runC zSPd 14 zu465 zD zDF zTC 20000 0)) zDF zTC 20000 17179869184 2 3 0 0 5 zT223 zn465 none zc465 = true := by decide +kernel
