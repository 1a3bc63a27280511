/-! ===== contracts and their cuts, by program ===== -/
/-- cr.act20 -/
noncomputable def zn467 : zCn := (((zjl_322, []), [(2, 0, 0), (0, 0, 90), (0, 0, 2), (0, 0, 0)], [zcl265]), [((zjl_322, []), [], [zcl265])])
noncomputable def zc467 : List zCt := []
noncomputable def zu467 : List (Nat × zCn) := []
set_option maxRecDepth 100000 in
theorem zk467 : z_conB zSPd zD (z_callC 14 zu467 (z_runC zSPd 14 zu467 zD zDF zTC 20000 0)) zDF zTC 20000 17179869184 2 3 0 0 5 zT223 zn467 none zc467 = true := by decide +kernel
