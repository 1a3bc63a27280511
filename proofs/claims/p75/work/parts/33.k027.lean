/-! ===== contracts and their cuts, by program ===== -/
/-- cr.man -/
noncomputable def zn459 : zCn := (((zjl_770, []), [(2, 0, 0), (0, 0, 14), (0, 14, 0), (0, 15, 0)], [zcl262]), [((zjl_770, []), [], [zcl262])])
noncomputable def zc459 : List zCt := [(3, (([(0, 0), zi_0, zi_0, zi_0, zi_0, zi_0, zi_0, zi_0, zi_0, zi_0, zi_0, zi_0, zi_0, zi_0, (0, 4), (0, 4), zi_1], []), [(0, (2, 0, 0)), (1, (0, 0, 14)), (2, (0, 14, 0)), (3, (0, 15, 0)), (4, (0, 16, 0))], [], [zcl262], 0, 0), [(99997, 0), (14, 16)])]
noncomputable def zu459 : List (Nat × zCn) := []
set_option maxRecDepth 100000 in
theorem zk459 : z_conB zSPd zD (z_callC 14 zu459 (z_runC zSPd 14 zu459 zD zDF zTC 20000 0)) zDF zTC 20000 17179869184 2 3 0 0 5 zT223 zn459 none zc459 = true := by decide +kernel
/-- cr.hand -/
noncomputable def zn460 : zCn := (((zjl_770, []), [(2, 0, 0), (0, 0, 24), (0, 14, 0), (0, 15, 0)], [zcl263]), [((zjl_770, []), [], [zcl263])])
noncomputable def zc460 : List zCt := [(3, (([(0, 0), zi_0, zi_0, zi_0, zi_0, zi_0, zi_0, zi_0, zi_0, zi_0, zi_0, zi_0, zi_0, zi_0, (0, 4), (0, 4), (0, 29)], []), [(0, (2, 0, 0)), (1, (0, 0, 24)), (2, (0, 14, 0)), (3, (0, 15, 0)), (4, (0, 16, 0))], [], [zcl263], 0, 0), [(99997, 0), (29, 16)])]
noncomputable def zu460 : List (Nat × zCn) := []
set_option maxRecDepth 100000 in
theorem zk460 : z_conB zSPd zD (z_callC 14 zu460 (z_runC zSPd 14 zu460 zD zDF zTC 20000 0)) zDF zTC 20000 17179869184 2 3 0 0 5 zT223 zn460 none zc460 = true := by decide +kernel
/-- cr.ice -/
noncomputable def zn461 : zCn := (((zjl_770, []), [(2, 0, 0), (0, 0, 16), (0, 14, 0), (0, 15, 0)], [zcl264]), [((zjl_770, []), [], [zcl264])])
noncomputable def zc461 : List zCt := [(3, (([(0, 0), zi_0, zi_0, zi_0, zi_0, zi_0, zi_0, zi_0, zi_0, zi_0, zi_0, zi_0, zi_0, zi_0, (0, 4), (0, 4), zi_6], []), [(0, (2, 0, 0)), (1, (0, 0, 16)), (2, (0, 14, 0)), (3, (0, 15, 0)), (4, (0, 16, 0))], [], [zcl264], 0, 0), [(99997, 0), (20, 16)])]
noncomputable def zu461 : List (Nat × zCn) := []
set_option maxRecDepth 100000 in
theorem zk461 : z_conB zSPd zD (z_callC 14 zu461 (z_runC zSPd 14 zu461 zD zDF zTC 20000 0)) zDF zTC 20000 17179869184 2 3 0 0 5 zT223 zn461 none zc461 = true := by decide +kernel
