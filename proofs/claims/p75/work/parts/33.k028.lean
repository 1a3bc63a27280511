/-! ===== contracts and their cuts, by program ===== -/
/-- cr.act40 -/
noncomputable def zn462 : zCn := (((zjl_322, []), [(2, 0, 0), (0, 0, 90), (0, 0, 4), (0, 0, 0)], [zcl265]), [((zjl_322, []), [], [zcl265])])
noncomputable def zc462 : List zCt := []
noncomputable def zu462 : List (Nat × zCn) := []
set_option maxRecDepth 100000 in
theorem zk462 : z_conB zSPd zD (z_callC 14 zu462 (z_runC zSPd 14 zu462 zD zDF zTC 20000 0)) zDF zTC 20000 17179869184 2 3 0 0 5 zT223 zn462 none zc462 = true := by decide +kernel
