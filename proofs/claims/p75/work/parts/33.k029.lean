/-! ===== contracts and their cuts, by program ===== -/
/-- cr.act01 -/
noncomputable def zn463 : zCn := (((zjl_322, []), [(2, 0, 0), (0, 0, 90), (0, 0, 0), (0, 0, 1)], [zcl265]), [((zjl_322, []), [], [zcl265])])
noncomputable def zc463 : List zCt := []
noncomputable def zu463 : List (Nat × zCn) := []
set_option maxRecDepth 100000 in
theorem zk463 : z_conB zSPd zD (z_callC 14 zu463 (z_runC zSPd 14 zu463 zD zDF zTC 20000 0)) zDF zTC 20000 17179869184 2 3 0 0 5 zT223 zn463 none zc463 = true := by decide +kernel
