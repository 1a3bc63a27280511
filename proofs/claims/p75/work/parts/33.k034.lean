/-! ===== contracts and their cuts, by program ===== -/
/-- cr.act30 -/
noncomputable def zn468 : zCn := (((zjl_322, []), [(2, 0, 0), (0, 0, 90), (0, 0, 3), (0, 0, 0)], [zcl265]), [((zjl_322, []), [], [zcl265])])
noncomputable def zc468 : List zCt := []
noncomputable def zu468 : List (Nat × zCn) := []
set_option maxRecDepth 100000 in
theorem zk468 : z_conB zSPd zD (z_callC 14 zu468 (z_runC zSPd 14 zu468 zD zDF zTC 20000 0)) zDF zTC 20000 17179869184 2 3 0 0 5 zT223 zn468 none zc468 = true := by decide +kernel
