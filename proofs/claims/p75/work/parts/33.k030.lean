/-! ===== contracts and their cuts, by program ===== -/
/-- cr.act02 -/
noncomputable def zn464 : zCn := (((zjl_322, []), [(2, 0, 0), (0, 0, 90), (0, 0, 0), (0, 0, 2)], [zcl265]), [((zjl_322, []), [], [zcl265])])
noncomputable def zc464 : List zCt := []
noncomputable def zu464 : List (Nat × zCn) := []
set_option maxRecDepth 100000 in
theorem zk464 : z_conB zSPd zD (z_callC 14 zu464 (z_runC zSPd 14 zu464 zD zDF zTC 20000 0)) zDF zTC 20000 17179869184 2 3 0 0 5 zT223 zn464 none zc464 = true := by decide +kernel
