/-! ===== contracts and their cuts, by program ===== -/
/-- cr.act10 -/
noncomputable def zn466 : zCn := (((zjl_322, []), [(2, 0, 0), (0, 0, 90), (0, 0, 1), (0, 0, 0)], [zcl265]), [((zjl_322, []), [], [zcl265])])
noncomputable def zc466 : List zCt := []
noncomputable def zu466 : List (Nat × zCn) := []
set_option maxRecDepth 100000 in
theorem zk466 : z_conB zSPd zD (z_callC 14 zu466 (z_runC zSPd 14 zu466 zD zDF zTC 20000 0)) zDF zTC 20000 17179869184 2 3 0 0 5 zT223 zn466 none zc466 = true := by decide +kernel
