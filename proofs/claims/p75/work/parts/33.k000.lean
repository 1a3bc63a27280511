/-! ===== contracts and their cuts, by program ===== -/
/-- coldOfAll -/
noncomputable def zn0 : zCn := (((zjl_9, []), [(2, 0, 0), (0, 14, 0)], [zcl10, zcl11, zcl12, zcl12, zcl12, zcl13, zcl14, zcl13, zcl13, zcl14, zcl15, zcl16, zcl12, zcl17, zcl18, zcl19, zcl20]), [(([(0, 0), zi_0, zi_0, zi_0, zi_0, zi_0, zi_0, zi_0, zi_0, zi_0, zi_0, zi_0, zi_0, zi_0, zi_1, zi_2, zi_3, zi_2, zi_2, zi_1, (0, 3), zi_4, zi_5, zi_6, (0, 7), zi_7, (0, 8), zi_3, zi_8, zi_2], []), [(0, 29, 0)], [zcl10, zcl11, zcl12, zcl12, zcl12, zcl13, zcl14, zcl13, zcl13, zcl14, zcl15, zcl16, zcl12, zcl17, zcl18, zcl19, zcl20])])
noncomputable def zc0 : List zCt := [(4, (([(0, 0), zi_0, zi_0, zi_0, zi_0, zi_0, zi_0, zi_0, zi_0, zi_0, zi_0, zi_0, zi_0, zi_0, zi_1, zi_2, zi_3, zi_2, zi_2, zi_1, (0, 3), zi_4, zi_5, zi_6, (0, 7), zi_7, (0, 8), zi_3, zi_8, zi_2, (0, 7)], []), [(0, (2, 0, 0)), (1, (0, 14, 0)), (2, (0, 29, 0)), (3, (0, 30, 0))], [], [zcl10, zcl11, zcl12, zcl12, zcl12, zcl13, zcl14, zcl13, zcl13, zcl14, zcl15, zcl16, zcl12, zcl17, zcl18, zcl19, zcl20], 0, 0), [(99996, 0), (7, 30)])]
noncomputable def zu0 : List (Nat × zCn) := []
set_option maxRecDepth 100000 in
theorem zk0 : z_conB zSPd zD (z_callC 14 zu0 (z_runC zSPd 14 zu0 zD zDF zTC 20000 1)) zDF zTC 20000 17179869184 2 0 0 0 4 zT0 zn0 none zc0 = true := by decide +kernel
/-- takers -/
noncomputable def zn1 : zCn := (((zjl_9, []), [(2, 0, 0), (0, 14, 0)], [zcl10, zcl11, zcl12, zcl12, zcl12, zcl13, zcl14, zcl13, zcl13, zcl14, zcl15, zcl16, zcl12, zcl17, zcl18, zcl19, zcl20]), [(([(0, 0), zi_0, zi_0, zi_0, zi_0, zi_0, zi_0, zi_0, zi_0, zi_0, zi_0, zi_0, zi_0, zi_0, zi_1, zi_2, zi_3, zi_2, zi_2, zi_1, (0, 3), zi_4, zi_5, zi_6, (0, 7), zi_7, (0, 8), zi_3, zi_8, zi_21], []), [(0, 29, 0)], [zcl10, zcl11, zcl12, zcl12, zcl12, zcl13, zcl14, zcl13, zcl13, zcl14, zcl15, zcl16, zcl12, zcl17, zcl18, zcl19, zcl20])])
noncomputable def zc1 : List zCt := [(4, (([(0, 0), zi_0, zi_0, zi_0, zi_0, zi_0, zi_0, zi_0, zi_0, zi_0, zi_0, zi_0, zi_0, zi_0, zi_1, zi_2, zi_3, zi_2, zi_2, zi_1, (0, 3), zi_4, zi_5, zi_6, (0, 7), zi_7, (0, 8), zi_3, zi_8, zi_21, (0, 7)], []), [(0, (2, 0, 0)), (1, (0, 14, 0)), (2, (0, 29, 0)), (3, (0, 30, 0))], [], [zcl10, zcl11, zcl12, zcl12, zcl12, zcl13, zcl14, zcl13, zcl13, zcl14, zcl15, zcl16, zcl12, zcl17, zcl18, zcl19, zcl20], 0, 0), [(99996, 0), (7, 30)])]
noncomputable def zu1 : List (Nat × zCn) := []
set_option maxRecDepth 100000 in
theorem zk1 : z_conB zSPd zD (z_callC 14 zu1 (z_runC zSPd 14 zu1 zD zDF zTC 20000 1)) zDF zTC 20000 17179869184 2 0 0 0 4 zT2 zn1 none zc1 = true := by decide +kernel
/-- colderThan -/
noncomputable def zn2 : zCn := ((([(0, 0), zi_0, zi_0, zi_0, zi_0, zi_0, zi_0, zi_0, zi_0, zi_0, zi_0, zi_0, zi_0, zi_0, (0, 6), zi_1, zi_2, zi_3, zi_2, zi_2, zi_1, (0, 3), zi_4, zi_5, zi_6, (0, 7), zi_7, (0, 8), zi_3, zi_8], []), [(2, 0, 0), (0, 14, 0), (0, 15, 0)], [zcl22, zcl23, zcl12, zcl12, zcl12, zcl13, zcl14, zcl13, zcl13, zcl14, zcl15, zcl16, zcl12, zcl17, zcl18, zcl19, zcl20]), [(([(0, 0), zi_0, zi_0, zi_0, zi_0, zi_0, zi_0, zi_0, zi_0, zi_0, zi_0, zi_0, zi_0, zi_0, (0, 6), zi_1, zi_2, zi_3, zi_2, zi_2, zi_1, (0, 3), zi_4, zi_5, zi_6, (0, 7), zi_7, (0, 8), zi_3, zi_8, zi_21], []), [(0, 30, 0)], [zcl22, zcl23, zcl12, zcl12, zcl12, zcl13, zcl14, zcl13, zcl13, zcl14, zcl15, zcl16, zcl12, zcl17, zcl18, zcl19, zcl20])])
noncomputable def zc2 : List zCt := [(5, (([(0, 0), zi_0, zi_0, zi_0, zi_0, zi_0, zi_0, zi_0, zi_0, zi_0, zi_0, zi_0, zi_0, zi_0, (0, 6), zi_1, zi_2, zi_3, zi_2, zi_2, zi_1, (0, 3), zi_4, zi_5, zi_6, (0, 7), zi_7, (0, 8), zi_3, zi_8, zi_21, (0, 7)], []), [(0, (2, 0, 0)), (1, (0, 14, 0)), (2, (0, 15, 0)), (3, (0, 30, 0)), (4, (0, 31, 0))], [], [zcl22, zcl23, zcl12, zcl12, zcl12, zcl13, zcl14, zcl13, zcl13, zcl14, zcl15, zcl16, zcl12, zcl17, zcl18, zcl19, zcl20], 0, 0), [(99995, 0), (7, 31)])]
noncomputable def zu2 : List (Nat × zCn) := []
set_option maxRecDepth 100000 in
theorem zk2 : z_conB zSPd zD (z_callC 14 zu2 (z_runC zSPd 14 zu2 zD zDF zTC 20000 1)) zDF zTC 20000 17179869184 2 0 0 0 5 zT3 zn2 none zc2 = true := by decide +kernel
/-- oneHandOn -/
noncomputable def zn3 : zCn := (((zjl_24, []), [(2, 0, 0), (0, 14, 0)], [zcl10, zcl11, zcl12, zcl12, zcl12, zcl13, zcl14, zcl13, zcl13, zcl14, zcl15, zcl16, zcl12, zcl17, zcl18, zcl19, zcl20]), [(([(0, 0), zi_0, zi_0, zi_0, zi_0, zi_0, zi_0, zi_0, zi_0, zi_0, zi_0, zi_0, zi_0, zi_0, zi_2, zi_2, zi_3, zi_2, zi_2, zi_1, (0, 3), zi_4, zi_5, zi_6, (0, 7), zi_7, (0, 8), zi_3, zi_8, zi_2], []), [(0, 29, 0)], [zcl10, zcl11, zcl12, zcl12, zcl12, zcl13, zcl14, zcl13, zcl13, zcl14, zcl15, zcl16, zcl12, zcl17, zcl18, zcl19, zcl20])])
noncomputable def zc3 : List zCt := [(4, (([(0, 0), zi_0, zi_0, zi_0, zi_0, zi_0, zi_0, zi_0, zi_0, zi_0, zi_0, zi_0, zi_0, zi_0, zi_2, zi_2, zi_3, zi_2, zi_2, zi_1, (0, 3), zi_4, zi_5, zi_6, (0, 7), zi_7, (0, 8), zi_3, zi_8, zi_2, (0, 7)], []), [(0, (2, 0, 0)), (1, (0, 14, 0)), (2, (0, 29, 0)), (3, (0, 30, 0))], [], [zcl10, zcl11, zcl12, zcl12, zcl12, zcl13, zcl14, zcl13, zcl13, zcl14, zcl15, zcl16, zcl12, zcl17, zcl18, zcl19, zcl20], 0, 0), [(99996, 0), (7, 30)])]
noncomputable def zu3 : List (Nat × zCn) := []
set_option maxRecDepth 100000 in
theorem zk3 : z_conB zSPd zD (z_callC 14 zu3 (z_runC zSPd 14 zu3 zD zDF zTC 20000 0)) zDF zTC 20000 17179869184 2 0 0 0 4 zT4 zn3 none zc3 = true := by decide +kernel
/-- reachedFrom -/
noncomputable def zn4 : zCn := (((zjl_25, []), [(2, 0, 0), (0, 14, 0)], [zcl10, zcl11, zcl12, zcl12, zcl12, zcl13, zcl14, zcl13, zcl13, zcl14, zcl15, zcl16, zcl12, zcl17, zcl18, zcl19, zcl20]), [((zjl_26, []), [(0, 29, 0)], [zcl10, zcl11, zcl12, zcl12, zcl12, zcl13, zcl14, zcl13, zcl13, zcl14, zcl15, zcl16, zcl12, zcl17, zcl18, zcl19, zcl20])])
noncomputable def zc4 : List zCt := [(6, (([(0, 0), zi_0, zi_0, zi_0, zi_0, zi_0, zi_0, zi_0, zi_0, zi_0, zi_0, zi_0, zi_0, zi_0, (0, 6), zi_2, zi_3, zi_2, zi_2, zi_1, (0, 3), zi_4, zi_5, zi_6, (0, 7), zi_7, (0, 8), zi_3, zi_8, zi_2, (1, 7)], []), [(0, (2, 0, 0)), (2, (0, 29, 0)), (3, (0, 30, 0))], [], [zcl10, zcl11, zcl12, zcl12, zcl12, zcl13, zcl14, zcl13, zcl13, zcl14, zcl15, zcl16, zcl12, zcl17, zcl18, zcl19, zcl20], 0, 0), [(99994, 0), (7, 30)])]
noncomputable def zu4 : List (Nat × zCn) := [(4, zn3)]
set_option maxRecDepth 100000 in
theorem zk4 : z_conB zSPd zD (z_callC 14 zu4 (z_runC zSPd 14 zu4 zD zDF zTC 20000 0)) zDF zTC 20000 17179869184 2 0 0 0 4 zT5 zn4 none zc4 = true := by decide +kernel
/-- sufferedBy -/
noncomputable def zn5 : zCn := (((zjl_25, []), [(2, 0, 0), (0, 14, 0)], [zcl10, zcl11, zcl12, zcl12, zcl12, zcl13, zcl14, zcl13, zcl13, zcl14, zcl15, zcl16, zcl12, zcl17, zcl18, zcl19, zcl20]), [((zjl_26, []), [(0, 29, 0)], [zcl10, zcl11, zcl12, zcl12, zcl12, zcl13, zcl14, zcl13, zcl13, zcl14, zcl15, zcl16, zcl12, zcl17, zcl18, zcl19, zcl20])])
noncomputable def zc5 : List zCt := [(4, (([(0, 0), zi_0, zi_0, zi_0, zi_0, zi_0, zi_0, zi_0, zi_0, zi_0, zi_0, zi_0, zi_0, zi_0, (0, 6), zi_2, zi_3, zi_2, zi_2, zi_1, (0, 3), zi_4, zi_5, zi_6, (0, 7), zi_7, (0, 8), zi_3, zi_8, zi_2, zi_27], []), [(0, (2, 0, 0)), (1, (0, 14, 0)), (2, (0, 29, 0)), (3, (0, 30, 0))], [], [zcl10, zcl11, zcl12, zcl12, zcl12, zcl13, zcl14, zcl13, zcl13, zcl14, zcl15, zcl16, zcl12, zcl17, zcl18, zcl19, zcl20], 0, 0), [(99996, 0), (15, 30)])]
noncomputable def zu5 : List (Nat × zCn) := []
set_option maxRecDepth 100000 in
theorem zk5 : z_conB zSPd zD (z_callC 14 zu5 (z_runC zSPd 14 zu5 zD zDF zTC 20000 1)) zDF zTC 20000 17179869184 2 0 0 0 4 zT6 zn5 none zc5 = true := by decide +kernel
/-- sufferedByAll -/
noncomputable def zn6 : zCn := (((zjl_28, []), [(2, 0, 0)], [zcl29, zcl30, zcl12, zcl12, zcl12, zcl13, zcl14, zcl13, zcl13, zcl14, zcl15, zcl16, zcl12, zcl17, zcl18, zcl19, zcl20]), [(([(0, 0), zi_0, zi_0, zi_0, zi_0, zi_0, zi_0, zi_0, zi_0, zi_0, zi_0, zi_0, zi_0, zi_0, zi_2, zi_3, zi_2, zi_2, zi_1, (0, 3), zi_4, zi_5, zi_6, (0, 7), zi_7, (0, 8), zi_3, zi_8, zi_2], []), [(0, 28, 0)], [zcl29, zcl30, zcl12, zcl12, zcl12, zcl13, zcl14, zcl13, zcl13, zcl14, zcl15, zcl16, zcl12, zcl17, zcl18, zcl19, zcl20])])
noncomputable def zc6 : List zCt := [(4, (([(0, 0), zi_0, zi_0, zi_0, zi_0, zi_0, zi_0, zi_0, zi_0, zi_0, zi_0, zi_0, zi_0, zi_0, zi_2, zi_3, zi_2, zi_2, zi_1, (0, 3), zi_4, zi_5, zi_6, (0, 7), zi_7, (0, 8), zi_3, zi_8, zi_2, zi_27], []), [(0, (2, 0, 0)), (1, (0, 28, 0)), (2, (0, 29, 0))], [], [zcl29, zcl30, zcl12, zcl12, zcl12, zcl13, zcl14, zcl13, zcl13, zcl14, zcl15, zcl16, zcl12, zcl17, zcl18, zcl19, zcl20], 0, 0), [(99996, 0), (15, 29)])]
noncomputable def zu6 : List (Nat × zCn) := [(0, zn0)]
set_option maxRecDepth 100000 in
theorem zk6 : z_conB zSPd zD (z_callC 14 zu6 (z_runC zSPd 14 zu6 zD zDF zTC 20000 0)) zDF zTC 20000 17179869184 2 0 0 0 3 zT7 zn6 none zc6 = true := by decide +kernel
/-- isEverAsCold -/
noncomputable def zn7 : zCn := ((([(0, 0), zi_0, zi_0, zi_0, zi_0, zi_0, zi_0, zi_0, zi_0, zi_0, zi_0, zi_0, zi_0, zi_0, (0, 6), zi_2, zi_2, zi_3, zi_2, zi_2, zi_1, (0, 3), zi_4, zi_5, zi_6, (0, 7), zi_7, (0, 8), zi_3, zi_8], []), [(2, 0, 0), (0, 14, 0), (0, 15, 0)], [zcl22, zcl23, zcl12, zcl12, zcl12, zcl13, zcl14, zcl13, zcl13, zcl14, zcl15, zcl16, zcl12, zcl17, zcl18, zcl19, zcl20]), [(([(0, 0), zi_0, zi_0, zi_0, zi_0, zi_0, zi_0, zi_0, zi_0, zi_0, zi_0, zi_0, zi_0, zi_0, (0, 6), zi_2, zi_2, zi_3, zi_2, zi_2, zi_1, (0, 3), zi_4, zi_5, zi_6, (0, 7), zi_7, (0, 8), zi_3, zi_8, (0, 1)], []), [(0, 30, 0)], [zcl22, zcl23, zcl12, zcl12, zcl12, zcl13, zcl14, zcl13, zcl13, zcl14, zcl15, zcl16, zcl12, zcl17, zcl18, zcl19, zcl20])])
noncomputable def zc7 : List zCt := [(2, (([(0, 0), zi_0, zi_0, zi_0, zi_0, zi_0, zi_0, zi_0, zi_0, zi_0, zi_0, zi_0, zi_0, zi_0, (0, 6), zi_2, zi_2, zi_3, zi_2, zi_2, zi_1, (0, 3), zi_4, zi_5, zi_6, (0, 7), zi_7, (0, 8), zi_3, zi_8, zi_27], []), [(0, (2, 0, 0)), (1, (0, 14, 0)), (2, (0, 15, 0)), (3, (0, 30, 0))], [], [zcl22, zcl23, zcl12, zcl12, zcl12, zcl13, zcl14, zcl13, zcl13, zcl14, zcl15, zcl16, zcl12, zcl17, zcl18, zcl19, zcl20], 0, 0), [(99998, 0), (15, 30)])]
noncomputable def zu7 : List (Nat × zCn) := []
set_option maxRecDepth 100000 in
theorem zk7 : z_conB zSPd zD (z_callC 14 zu7 (z_runC zSPd 14 zu7 zD zDF zTC 20000 1)) zDF zTC 20000 17179869184 2 1 0 0 4 zT8 zn7 none zc7 = true := by decide +kernel
/-- everHas -/
noncomputable def zn8 : zCn := (((zjl_25, []), [(2, 0, 0), (0, 14, 0)], [zcl10, zcl11, zcl12, zcl12, zcl12, zcl13, zcl14, zcl13, zcl13, zcl14, zcl15, zcl16, zcl12, zcl17, zcl18, zcl19, zcl20]), [(([(0, 0), zi_0, zi_0, zi_0, zi_0, zi_0, zi_0, zi_0, zi_0, zi_0, zi_0, zi_0, zi_0, zi_0, (0, 6), zi_2, zi_3, zi_2, zi_2, zi_1, (0, 3), zi_4, zi_5, zi_6, (0, 7), zi_7, (0, 8), zi_3, zi_8, (0, 1)], []), [(0, 29, 0)], [zcl10, zcl11, zcl12, zcl12, zcl12, zcl13, zcl14, zcl13, zcl13, zcl14, zcl15, zcl16, zcl12, zcl17, zcl18, zcl19, zcl20])])
noncomputable def zc8 : List zCt := [(2, (([(0, 0), zi_0, zi_0, zi_0, zi_0, zi_0, zi_0, zi_0, zi_0, zi_0, zi_0, zi_0, zi_0, zi_0, (0, 6), zi_2, zi_3, zi_2, zi_2, zi_1, (0, 3), zi_4, zi_5, zi_6, (0, 7), zi_7, (0, 8), zi_3, zi_8, zi_27], []), [(0, (2, 0, 0)), (1, (0, 14, 0)), (2, (0, 29, 0))], [], [zcl10, zcl11, zcl12, zcl12, zcl12, zcl13, zcl14, zcl13, zcl13, zcl14, zcl15, zcl16, zcl12, zcl17, zcl18, zcl19, zcl20], 0, 0), [(99998, 0), (15, 29)])]
noncomputable def zu8 : List (Nat × zCn) := []
set_option maxRecDepth 100000 in
theorem zk8 : z_conB zSPd zD (z_callC 14 zu8 (z_runC zSPd 14 zu8 zD zDF zTC 20000 0)) zDF zTC 20000 17179869184 2 1 0 0 3 zT9 zn8 none zc8 = true := by decide +kernel
/-- passedByLaw -/
noncomputable def zn9 : zCn := (((zjl_9, []), [(2, 0, 0), (0, 14, 0)], [zcl10, zcl11, zcl12, zcl12, zcl12, zcl13, zcl14, zcl13, zcl13, zcl14, zcl15, zcl16, zcl12, zcl17, zcl18, zcl19, zcl20]), [(([(0, 0), zi_0, zi_0, zi_0, zi_0, zi_0, zi_0, zi_0, zi_0, zi_0, zi_0, zi_0, zi_0, zi_0, zi_1, zi_2, zi_3, zi_2, zi_2, zi_1, (0, 3), zi_4, zi_5, zi_6, (0, 7), zi_7, (0, 8), zi_3, zi_8, zi_3], []), [(0, 29, 0)], [zcl10, zcl11, zcl12, zcl12, zcl12, zcl13, zcl14, zcl13, zcl13, zcl14, zcl15, zcl16, zcl12, zcl17, zcl18, zcl19, zcl20])])
noncomputable def zc9 : List zCt := [(56, (([(0, 0), zi_0, zi_0, zi_0, zi_0, zi_0, zi_0, zi_0, zi_0, zi_0, zi_0, zi_0, zi_0, zi_0, zi_1, zi_2, zi_3, zi_2, zi_2, zi_1, (0, 3), zi_4, zi_5, zi_6, (0, 7), zi_7, (0, 8), zi_3, zi_8, zi_21, zi_3, (0, 7)], []), [(0, (2, 0, 0)), (1, (0, 14, 0)), (3, (0, 29, 0)), (4, (0, 30, 0)), (5, (0, 31, 0))], [], [zcl10, zcl11, zcl12, zcl12, zcl12, zcl13, zcl14, zcl13, zcl13, zcl14, zcl15, zcl16, zcl12, zcl17, zcl18, zcl19, zcl20], 0, 0), [(99944, 0), (7, 31)])]
noncomputable def zu9 : List (Nat × zCn) := [(2, zn1), (3, zn2), (5, zn4)]
set_option maxRecDepth 100000 in
theorem zk9 : z_conB zSPd zD (z_callC 14 zu9 (z_runC zSPd 14 zu9 zD zDF zTC 20000 2)) zDF zTC 20000 17179869184 2 0 0 0 6 zT10 zn9 none zc9 = true := by decide +kernel
/-- freeze -/
noncomputable def zn10 : zCn := (((zjl_32, []), [(2, 0, 0), (0, 14, 0)], [zcl10, zcl11, zcl12, zcl12, zcl12, zcl13, zcl14, zcl13, zcl13, zcl14, zcl15, zcl16, zcl12, zcl17, zcl18, zcl19, zcl20]), [((zjl_32, []), [], [zcl10, zcl11, zcl12, zcl12, zcl12, zcl13, zcl14, zcl13, zcl13, zcl14, zcl15, zcl16, zcl12, zcl17, zcl18, zcl19, zcl20])])
noncomputable def zc10 : List zCt := [(22, (([(0, 0), zi_0, zi_0, zi_0, zi_0, zi_0, zi_0, zi_0, zi_0, zi_0, zi_0, zi_0, zi_0, zi_0, zi_31, zi_2, zi_3, zi_2, zi_2, zi_1, (0, 3), zi_4, zi_5, zi_6, (0, 7), zi_7, (0, 8), zi_3, zi_8, zi_2, (0, 7)], []), [(0, (2, 0, 0)), (1, (0, 14, 0)), (2, (0, 29, 0)), (3, (0, 30, 0))], [], [zcl10, zcl11, zcl12, zcl12, zcl12, zcl13, zcl14, zcl13, zcl13, zcl14, zcl15, zcl16, zcl12, zcl17, zcl18, zcl19, zcl20], 0, 0), [(99978, 0), (7, 30)])]
noncomputable def zu10 : List (Nat × zCn) := []
set_option maxRecDepth 100000 in
theorem zk10 : z_conB zSPd zD (z_callC 14 zu10 (z_runC zSPd 14 zu10 zD zDF zTC 20000 1)) zDF zTC 20000 17179869184 2 3 0 0 6 zT12 zn10 none zc10 = true := by decide +kernel
/-- begin -/
noncomputable def zn11 : zCn := (((zjl_28, []), [(2, 0, 0)], [zcl29, zcl30, zcl12, zcl12, zcl12, zcl13, zcl14, zcl13, zcl13, zcl14, zcl15, zcl16, zcl12, zcl17, zcl18, zcl19, zcl20]), [((zjl_28, []), [], [zcl29, zcl30, zcl12, zcl12, zcl12, zcl13, zcl14, zcl13, zcl13, zcl14, zcl15, zcl16, zcl12, zcl17, zcl18, zcl19, zcl20])])
noncomputable def zc11 : List zCt := [(12, (([(0, 0), zi_0, zi_0, zi_0, zi_0, zi_0, zi_0, zi_0, zi_0, zi_0, zi_0, zi_0, zi_0, zi_0, zi_2, zi_3, zi_2, zi_2, zi_1, (0, 3), zi_4, zi_5, zi_6, (0, 7), zi_7, (0, 8), zi_3, zi_8, (0, 7)], []), [(0, (2, 0, 0)), (1, (0, 28, 0))], [], [zcl29, zcl30, zcl12, zcl12, zcl12, zcl13, zcl14, zcl13, zcl13, zcl14, zcl15, zcl16, zcl12, zcl17, zcl18, zcl19, zcl20], 0, 0), [(99988, 0), (7, 28)])]
noncomputable def zu11 : List (Nat × zCn) := []
set_option maxRecDepth 100000 in
theorem zk11 : z_conB zSPd zD (z_callC 14 zu11 (z_runC zSPd 14 zu11 zD zDF zTC 20000 1)) zDF zTC 20000 17179869184 2 3 0 0 2 zT17 zn11 none zc11 = true := by decide +kernel
/-- play -/
noncomputable def zn12 : zCn := (((zjl_9, []), [(2, 0, 0), (0, 14, 0)], [zcl10, zcl11, zcl12, zcl12, zcl12, zcl13, zcl14, zcl13, zcl13, zcl14, zcl15, zcl16, zcl12, zcl17, zcl18, zcl19, zcl20]), [((zjl_9, []), [], [zcl10, zcl11, zcl12, zcl12, zcl12, zcl13, zcl14, zcl13, zcl13, zcl14, zcl15, zcl16, zcl12, zcl17, zcl18, zcl19, zcl20])])
noncomputable def zc12 : List zCt := [(6, (([(0, 0), zi_0, zi_0, zi_0, zi_0, zi_0, zi_0, zi_0, zi_0, zi_0, zi_0, zi_0, zi_0, zi_0, zi_1, zi_2, zi_3, zi_2, zi_2, zi_1, (0, 3), zi_4, zi_5, zi_6, (0, 7), zi_7, (0, 8), zi_3, zi_8, zi_1], []), [(0, (2, 0, 0)), (1, (0, 14, 0)), (2, (0, 29, 0))], [], [zcl10, zcl11, zcl12, zcl12, zcl12, zcl13, zcl14, zcl13, zcl13, zcl14, zcl15, zcl16, zcl12, zcl17, zcl18, zcl19, zcl20], 0, 0), [(99994, 0), (14, 29)])]
noncomputable def zu12 : List (Nat × zCn) := [(10, zn9), (12, zn10), (17, zn11)]
set_option maxRecDepth 100000 in
theorem zk12 : z_conB zSPd zD (z_callC 14 zu12 (z_runC zSPd 14 zu12 zD zDF zTC 20000 0)) zDF zTC 20000 17179869184 2 3 0 0 4 zT18 zn12 none zc12 = true := by decide +kernel
/-- giveTo -/
noncomputable def zn13 : zCn := (((zjl_24, []), [(2, 0, 0), (0, 14, 0)], [zcl10, zcl11, zcl12, zcl12, zcl12, zcl13, zcl14, zcl13, zcl13, zcl14, zcl15, zcl16, zcl12, zcl17, zcl18, zcl19, zcl20]), [((zjl_24, []), [], [zcl10, zcl11, zcl12, zcl12, zcl12, zcl13, zcl14, zcl13, zcl13, zcl14, zcl15, zcl16, zcl12, zcl17, zcl18, zcl19, zcl20])])
noncomputable def zc13 : List zCt := [(2, (([(0, 0), zi_0, zi_0, zi_0, zi_0, zi_0, zi_0, zi_0, zi_0, zi_0, zi_0, zi_0, zi_0, zi_0, zi_2, zi_2, zi_3, zi_2, zi_2, zi_1, (0, 3), zi_4, zi_5, zi_6, (0, 7), zi_7, (0, 8), zi_3, zi_8, zi_27], []), [(0, (2, 0, 0)), (1, (0, 14, 0)), (2, (0, 29, 0))], [], [zcl10, zcl11, zcl12, zcl12, zcl12, zcl13, zcl14, zcl13, zcl13, zcl14, zcl15, zcl16, zcl12, zcl17, zcl18, zcl19, zcl20], 0, 0), [(99998, 0), (15, 29)]), (23, (([(0, 0), zi_0, zi_0, zi_0, zi_0, zi_0, zi_0, zi_0, zi_0, zi_0, zi_0, zi_0, zi_0, zi_0, zi_2, zi_2, zi_3, zi_2, zi_2, zi_1, (0, 3), zi_4, zi_5, zi_6, (0, 7), zi_7, (0, 8), zi_3, zi_8, zi_8], []), [(0, (2, 0, 0)), (1, (0, 14, 0)), (2, (0, 29, 0))], [], [zcl10, zcl11, zcl12, zcl12, zcl12, zcl13, zcl14, zcl13, zcl13, zcl14, zcl15, zcl16, zcl12, zcl17, zcl18, zcl19, zcl20], 0, 0), [(99977, 0), (30, 29)])]
noncomputable def zu13 : List (Nat × zCn) := []
set_option maxRecDepth 100000 in
theorem zk13 : z_conB zSPd zD (z_callC 14 zu13 (z_runC zSPd 14 zu13 zD zDF zTC 20000 0)) zDF zTC 20000 17179869184 2 3 0 0 3 zT19 zn13 none zc13 = true := by decide +kernel
/-- countSongs -/
noncomputable def zn14 : zCn := (((zjl_28, []), [(2, 0, 0)], [zcl29, zcl30, zcl12, zcl12, zcl12, zcl13, zcl14, zcl13, zcl13, zcl14, zcl15, zcl16, zcl12, zcl17, zcl18, zcl19, zcl20]), [((zjl_28, []), [], [zcl29, zcl30, zcl12, zcl12, zcl12, zcl13, zcl14, zcl13, zcl13, zcl14, zcl15, zcl16, zcl12, zcl17, zcl18, zcl19, zcl20])])
noncomputable def zc14 : List zCt := [(2, (([(0, 0), zi_0, zi_0, zi_0, zi_0, zi_0, zi_0, zi_0, zi_0, zi_0, zi_0, zi_0, zi_0, zi_0, zi_2, zi_3, zi_2, zi_2, zi_1, (0, 3), zi_4, zi_5, zi_6, (0, 7), zi_7, (0, 8), zi_3, zi_8, (0, 105)], []), [(0, (2, 0, 0)), (1, (0, 28, 0))], [], [zcl29, zcl30, zcl12, zcl12, zcl12, zcl13, zcl14, zcl13, zcl13, zcl14, zcl15, zcl16, zcl12, zcl17, zcl18, zcl19, zcl20], 0, 0), [(99998, 0), (105, 28)]), (26, (([(0, 0), zi_0, zi_0, zi_0, zi_0, zi_0, zi_0, zi_0, zi_0, zi_0, zi_0, zi_0, zi_0, zi_0, zi_2, zi_3, zi_2, zi_2, zi_1, (0, 3), zi_4, zi_5, zi_6, (0, 7), zi_7, (0, 8), zi_3, zi_8, zi_8], []), [(0, (2, 0, 0)), (1, (0, 28, 0))], [], [zcl29, zcl30, zcl12, zcl12, zcl12, zcl13, zcl14, zcl13, zcl13, zcl14, zcl15, zcl16, zcl12, zcl17, zcl18, zcl19, zcl20], 0, 0), [(99974, 0), (30, 28)])]
noncomputable def zu14 : List (Nat × zCn) := []
set_option maxRecDepth 100000 in
theorem zk14 : z_conB zSPd zD (z_callC 14 zu14 (z_runC zSPd 14 zu14 zD zDF zTC 20000 1)) zDF zTC 20000 17179869184 2 3 0 0 2 zT20 zn14 none zc14 = true := by decide +kernel
/-- tell -/
noncomputable def zn15 : zCn := (((zjl_28, []), [(2, 0, 0)], [zcl29, zcl30, zcl12, zcl12, zcl12, zcl13, zcl14, zcl13, zcl13, zcl14, zcl15, zcl16, zcl12, zcl17, zcl18, zcl19, zcl20]), [((zjl_28, []), [], [.inl (5, [(2, 1, 0), (0, 19, 0), (0, 26, 0), (0, 0, 0), (2, 2, 0), (2, 3, 0), (2, 4, 0), (2, 5, 0), (2, 6, 0), (2, 7, 0), (2, 8, 0), (2, 9, 0)]), zcl30, zcl12, zcl12, zcl12, zcl13, zcl14, zcl13, zcl13, zcl14, zcl15, zcl16, zcl12, zcl17, zcl18, zcl19, zcl20])])
noncomputable def zc15 : List zCt := []
noncomputable def zu15 : List (Nat × zCn) := [(19, zn13), (20, zn14)]
set_option maxRecDepth 100000 in
theorem zk15 : z_conB zSPd zD (z_callC 14 zu15 (z_runC zSPd 14 zu15 zD zDF zTC 20000 1)) zDF zTC 20000 17179869184 2 3 0 0 1 zT21 zn15 none zc15 = true := by decide +kernel
/-- leaveTo -/
noncomputable def zn16 : zCn := (((zjl_24, []), [(2, 0, 0), (0, 14, 0)], [zcl10, zcl11, zcl12, zcl12, zcl12, zcl13, zcl14, zcl13, zcl13, zcl14, zcl15, zcl16, zcl12, zcl17, zcl18, zcl19, zcl20]), [(([(0, 0), zi_0, zi_0, zi_0, zi_0, zi_0, zi_0, zi_0, zi_0, zi_0, zi_0, zi_0, zi_0, zi_0, zi_2, zi_2, zi_3, zi_2, zi_2, zi_1, (0, 3), zi_4, zi_5, zi_6, (0, 7), zi_7, (0, 8), zi_3, zi_8, zi_3], []), [], [.inl (5, [(2, 1, 0), (0, 15, 0), (0, 29, 0), (0, 17, 0), (2, 2, 0), (2, 3, 0), (2, 4, 0), (2, 5, 0), (2, 6, 0), (2, 7, 0), (2, 8, 0), (2, 9, 0)]), zcl11, zcl12, zcl12, zcl12, zcl13, zcl14, zcl13, zcl13, zcl14, zcl15, zcl16, zcl12, zcl17, zcl18, zcl19, zcl20])])
noncomputable def zc16 : List zCt := [(2, (([(0, 0), zi_0, zi_0, zi_0, zi_0, zi_0, zi_0, zi_0, zi_0, zi_0, zi_0, zi_0, zi_0, zi_0, zi_2, zi_2, zi_3, zi_2, zi_2, zi_1, (0, 3), zi_4, zi_5, zi_6, (0, 7), zi_7, (0, 8), zi_3, zi_8, (0, 7)], []), [(0, (2, 0, 0)), (1, (0, 14, 0)), (2, (0, 29, 0))], [], [zcl10, zcl11, zcl12, zcl12, zcl12, zcl13, zcl14, zcl13, zcl13, zcl14, zcl15, zcl16, zcl12, zcl17, zcl18, zcl19, zcl20], 0, 0), [(99998, 0), (7, 29)])]
noncomputable def zu16 : List (Nat × zCn) := [(19, zn13)]
set_option maxRecDepth 100000 in
theorem zk16 : z_conB zSPd zD (z_callC 14 zu16 (z_runC zSPd 14 zu16 zD zDF zTC 20000 0)) zDF zTC 20000 17179869184 2 3 0 0 3 zT23 zn16 none zc16 = true := by decide +kernel
/-- isAsSeen -/
noncomputable def zn17 : zCn := ((([(0, 0), zi_0, zi_0, zi_0, zi_0, zi_0, zi_0, zi_0, zi_0, zi_0, zi_0, zi_0, zi_0, zi_0, zi_2, zi_3, zi_2, (0, 1), (0, 3), zi_33, zi_2, zi_1, (0, 3), zi_4, zi_5, zi_6, (0, 7), zi_7, (0, 8), zi_3, zi_8], []), [(2, 0, 0), (2, 1, 0)], [zcl34, zcl35, zcl36, zcl12, zcl12, zcl12, zcl13, zcl14, zcl13, zcl13, zcl14, zcl37, zcl15, zcl16, zcl12, zcl17, zcl18, zcl19, zcl20]), [(([(0, 0), zi_0, zi_0, zi_0, zi_0, zi_0, zi_0, zi_0, zi_0, zi_0, zi_0, zi_0, zi_0, zi_0, zi_2, zi_3, zi_2, (0, 1), (0, 3), zi_33, zi_2, zi_1, (0, 3), zi_4, zi_5, zi_6, (0, 7), zi_7, (0, 8), zi_3, zi_8, (0, 1)], []), [(0, 31, 0)], [zcl34, zcl35, zcl36, zcl12, zcl12, zcl12, zcl13, zcl14, zcl13, zcl13, zcl14, zcl37, zcl15, zcl16, zcl12, zcl17, zcl18, zcl19, zcl20])])
noncomputable def zc17 : List zCt := [(2, (([(0, 0), zi_0, zi_0, zi_0, zi_0, zi_0, zi_0, zi_0, zi_0, zi_0, zi_0, zi_0, zi_0, zi_0, zi_2, zi_3, zi_2, (0, 1), (0, 3), zi_33, zi_2, zi_1, (0, 3), zi_4, zi_5, zi_6, (0, 7), zi_7, (0, 8), zi_3, zi_8, zi_33], []), [(0, (2, 0, 0)), (1, (2, 1, 0)), (2, (0, 31, 0))], [], [zcl34, zcl35, zcl36, zcl12, zcl12, zcl12, zcl13, zcl14, zcl13, zcl13, zcl14, zcl37, zcl15, zcl16, zcl12, zcl17, zcl18, zcl19, zcl20], 0, 0), [(99998, 0), (60, 31)])]
noncomputable def zu17 : List (Nat × zCn) := []
set_option maxRecDepth 100000 in
theorem zk17 : z_conB zSPd zD (z_callC 14 zu17 (z_runC zSPd 14 zu17 zD zDF zTC 20000 0)) zDF zTC 20000 17179869184 2 1 0 0 5 zT24 zn17 none zc17 = true := by decide +kernel
/-- bitCount -/
noncomputable def zn18 : zCn := ((([(0, 0), zi_0, zi_0, zi_0, zi_0, zi_0, zi_0, zi_0, zi_0, zi_0, zi_0, zi_0, zi_0, zi_0, zi_2], []), [(0, 14, 0)], []), [(([(0, 0), zi_0, zi_0, zi_0, zi_0, zi_0, zi_0, zi_0, zi_0, zi_0, zi_0, zi_0, zi_0, zi_0, zi_2, zi_38], []), [(0, 15, 0)], [])])
noncomputable def zc18 : List zCt := []
noncomputable def zu18 : List (Nat × zCn) := []
set_option maxRecDepth 100000 in
theorem zk18 : z_conB zSPd zD (z_callC 14 zu18 (z_runC zSPd 14 zu18 zD zDF zTC 20000 0)) zDF zTC 20000 17179869184 2 0 0 0 1 zT25 zn18 none zc18 = true := by decide +kernel
/-- goOn4 -/
noncomputable def zn19 : zCn := (((zjl_39, []), [(2, 0, 0), (0, 0, 4), (0, 14, 0)], [zcl40, zcl41, zcl42, zcl43, zcl12, zcl12, zcl12, zcl13, zcl14, zcl13, zcl13, zcl14, zcl15, zcl16, zcl12, zcl17, zcl18, zcl19, zcl20]), [((zjl_44, []), [], [zcl45, zcl41, zcl42, zcl43, zcl12, zcl12, zcl12, zcl13, zcl14, zcl13, zcl13, zcl14, zcl15, zcl16, zcl12, zcl17, zcl18, zcl19, zcl20])])
noncomputable def zc19 : List zCt := []
noncomputable def zu19 : List (Nat × zCn) := []
set_option maxRecDepth 100000 in
theorem zk19 : z_conB zSPd zD (z_callC 14 zu19 (z_runC zSPd 14 zu19 zD zDF zTC 20000 1)) zDF zTC 20000 17179869184 2 3 0 0 5 zT26 zn19 none zc19 = true := by decide +kernel
/-- goOn3 -/
noncomputable def zn20 : zCn := (((zjl_39, []), [(2, 0, 0), (0, 0, 3), (0, 14, 0)], [zcl40, zcl41, zcl42, zcl43, zcl12, zcl12, zcl12, zcl13, zcl14, zcl13, zcl13, zcl14, zcl15, zcl16, zcl12, zcl17, zcl18, zcl19, zcl20]), [((zjl_44, []), [], [zcl45, zcl41, zcl42, zcl43, zcl12, zcl12, zcl12, zcl13, zcl14, zcl13, zcl13, zcl14, zcl15, zcl16, zcl12, zcl17, zcl18, zcl19, zcl20])])
noncomputable def zc20 : List zCt := [(22, (([(0, 0), zi_0, zi_0, zi_0, zi_0, zi_0, zi_0, zi_0, zi_0, zi_0, zi_0, zi_0, zi_0, zi_0, zi_2, (4, 4), zi_2, zi_2, zi_2, zi_3, zi_2, zi_2, zi_1, (0, 3), zi_4, zi_5, zi_6, (0, 7), zi_7, (0, 8), zi_3, zi_8, zi_46, zi_2, zi_2], []), [(0, (2, 0, 0)), (1, (0, 0, 3)), (2, (0, 14, 0)), (3, (2, 1, 0)), (4, (0, 32, 0))], [], [zcl47, zcl41, zcl42, zcl43, zcl12, zcl12, zcl12, zcl13, zcl14, zcl13, zcl13, zcl14, zcl15, zcl16, zcl12, zcl17, zcl18, zcl19, zcl20], 0, 0), [(99978, 0), (7, 32)])]
noncomputable def zu20 : List (Nat × zCn) := [(0, zn0), (12, zn10), (26, zn19)]
set_option maxRecDepth 100000 in
theorem zk20 : z_conB zSPd zD (z_callC 14 zu20 (z_runC zSPd 14 zu20 zD zDF zTC 20000 2)) zDF zTC 20000 17179869184 2 3 0 0 5 zT26 zn20 none zc20 = true := by decide +kernel
/-- goOn2 -/
noncomputable def zn21 : zCn := (((zjl_39, []), [(2, 0, 0), (0, 0, 2), (0, 14, 0)], [zcl40, zcl41, zcl42, zcl43, zcl12, zcl12, zcl12, zcl13, zcl14, zcl13, zcl13, zcl14, zcl15, zcl16, zcl12, zcl17, zcl18, zcl19, zcl20]), [((zjl_44, []), [], [zcl45, zcl41, zcl42, zcl43, zcl12, zcl12, zcl12, zcl13, zcl14, zcl13, zcl13, zcl14, zcl15, zcl16, zcl12, zcl17, zcl18, zcl19, zcl20])])
noncomputable def zc21 : List zCt := [(22, (([(0, 0), zi_0, zi_0, zi_0, zi_0, zi_0, zi_0, zi_0, zi_0, zi_0, zi_0, zi_0, zi_0, zi_0, zi_2, (3, 4), zi_2, zi_2, zi_2, zi_3, zi_2, zi_2, zi_1, (0, 3), zi_4, zi_5, zi_6, (0, 7), zi_7, (0, 8), zi_3, zi_8, zi_46, zi_2, zi_2], []), [(0, (2, 0, 0)), (1, (0, 0, 2)), (2, (0, 14, 0)), (3, (2, 1, 0)), (4, (0, 32, 0))], [], [zcl47, zcl41, zcl42, zcl43, zcl12, zcl12, zcl12, zcl13, zcl14, zcl13, zcl13, zcl14, zcl15, zcl16, zcl12, zcl17, zcl18, zcl19, zcl20], 0, 0), [(99978, 0), (7, 32)])]
noncomputable def zu21 : List (Nat × zCn) := [(0, zn0), (12, zn10), (26, zn20)]
set_option maxRecDepth 100000 in
theorem zk21 : z_conB zSPd zD (z_callC 14 zu21 (z_runC zSPd 14 zu21 zD zDF zTC 20000 2)) zDF zTC 20000 17179869184 2 3 0 0 5 zT26 zn21 none zc21 = true := by decide +kernel
/-- goOn1 -/
noncomputable def zn22 : zCn := (((zjl_39, []), [(2, 0, 0), (0, 0, 1), (0, 14, 0)], [zcl40, zcl41, zcl42, zcl43, zcl12, zcl12, zcl12, zcl13, zcl14, zcl13, zcl13, zcl14, zcl15, zcl16, zcl12, zcl17, zcl18, zcl19, zcl20]), [((zjl_44, []), [], [zcl45, zcl41, zcl42, zcl43, zcl12, zcl12, zcl12, zcl13, zcl14, zcl13, zcl13, zcl14, zcl15, zcl16, zcl12, zcl17, zcl18, zcl19, zcl20])])
noncomputable def zc22 : List zCt := [(22, (([(0, 0), zi_0, zi_0, zi_0, zi_0, zi_0, zi_0, zi_0, zi_0, zi_0, zi_0, zi_0, zi_0, zi_0, zi_2, (2, 4), zi_2, zi_2, zi_2, zi_3, zi_2, zi_2, zi_1, (0, 3), zi_4, zi_5, zi_6, (0, 7), zi_7, (0, 8), zi_3, zi_8, zi_46, zi_2, zi_2], []), [(0, (2, 0, 0)), (1, (0, 0, 1)), (2, (0, 14, 0)), (3, (2, 1, 0)), (4, (0, 32, 0))], [], [zcl47, zcl41, zcl42, zcl43, zcl12, zcl12, zcl12, zcl13, zcl14, zcl13, zcl13, zcl14, zcl15, zcl16, zcl12, zcl17, zcl18, zcl19, zcl20], 0, 0), [(99978, 0), (7, 32)])]
noncomputable def zu22 : List (Nat × zCn) := [(0, zn0), (12, zn10), (26, zn21)]
set_option maxRecDepth 100000 in
theorem zk22 : z_conB zSPd zD (z_callC 14 zu22 (z_runC zSPd 14 zu22 zD zDF zTC 20000 2)) zDF zTC 20000 17179869184 2 3 0 0 5 zT26 zn22 none zc22 = true := by decide +kernel
/-- goOn0 -/
noncomputable def zn23 : zCn := (((zjl_39, []), [(2, 0, 0), (0, 0, 0), (0, 14, 0)], [zcl40, zcl41, zcl42, zcl43, zcl12, zcl12, zcl12, zcl13, zcl14, zcl13, zcl13, zcl14, zcl15, zcl16, zcl12, zcl17, zcl18, zcl19, zcl20]), [((zjl_44, []), [], [zcl45, zcl41, zcl42, zcl43, zcl12, zcl12, zcl12, zcl13, zcl14, zcl13, zcl13, zcl14, zcl15, zcl16, zcl12, zcl17, zcl18, zcl19, zcl20])])
noncomputable def zc23 : List zCt := [(22, (([(0, 0), zi_0, zi_0, zi_0, zi_0, zi_0, zi_0, zi_0, zi_0, zi_0, zi_0, zi_0, zi_0, zi_0, zi_2, (1, 4), zi_2, zi_2, zi_2, zi_3, zi_2, zi_2, zi_1, (0, 3), zi_4, zi_5, zi_6, (0, 7), zi_7, (0, 8), zi_3, zi_8, zi_46, zi_2, zi_2], []), [(0, (2, 0, 0)), (1, (0, 0, 0)), (2, (0, 14, 0)), (3, (2, 1, 0)), (4, (0, 32, 0))], [], [zcl47, zcl41, zcl42, zcl43, zcl12, zcl12, zcl12, zcl13, zcl14, zcl13, zcl13, zcl14, zcl15, zcl16, zcl12, zcl17, zcl18, zcl19, zcl20], 0, 0), [(99978, 0), (7, 32)])]
noncomputable def zu23 : List (Nat × zCn) := [(0, zn0), (12, zn10), (26, zn22)]
set_option maxRecDepth 100000 in
theorem zk23 : z_conB zSPd zD (z_callC 14 zu23 (z_runC zSPd 14 zu23 zD zDF zTC 20000 2)) zDF zTC 20000 17179869184 2 3 0 0 5 zT26 zn23 none zc23 = true := by decide +kernel
/-- search -/
noncomputable def zn24 : zCn := ((([(0, 0), zi_0, zi_0, zi_0, zi_0, zi_0, zi_0, zi_0, zi_0, zi_0, zi_0, zi_0, zi_0, zi_0, (1, 4), (0, 4), zi_2, zi_2, zi_2, zi_3, zi_2, zi_2, zi_1, (0, 3), zi_4, zi_5, zi_6, (0, 7), zi_7, (0, 8), zi_3, zi_8], []), [(2, 0, 0), (0, 14, 0)], [zcl40, zcl41, zcl42, zcl43, zcl12, zcl12, zcl12, zcl13, zcl14, zcl13, zcl13, zcl14, zcl15, zcl16, zcl12, zcl17, zcl18, zcl19, zcl20]), [(([(0, 0), zi_0, zi_0, zi_0, zi_0, zi_0, zi_0, zi_0, zi_0, zi_0, zi_0, zi_0, zi_0, zi_0, (1, 4), (0, 4), zi_2, zi_2, zi_2, zi_3, zi_2, zi_2, zi_1, (0, 3), zi_4, zi_5, zi_6, (0, 7), zi_7, (0, 8), zi_3, zi_8, zi_2, zi_2], []), [], [.inl (2, [(2, 1, 0), (2, 2, 0), (0, 14, 0), (0, 32, 0), (0, 33, 0)]), .inl (5, [(2, 3, 0), (0, 23, 0), (0, 30, 0), (0, 0, 0), (2, 4, 0), (2, 5, 0), (2, 6, 0), (2, 7, 0), (2, 8, 0), (2, 9, 0), (2, 10, 0), (2, 11, 0)]), zcl42, zcl43, zcl12, zcl12, zcl12, zcl13, zcl14, zcl13, zcl13, zcl14, zcl15, zcl16, zcl12, zcl17, zcl18, zcl19, zcl20])])
noncomputable def zc24 : List zCt := []
noncomputable def zu24 : List (Nat × zCn) := [(0, zn0), (17, zn11), (21, zn15), (26, zn23)]
set_option maxRecDepth 100000 in
theorem zk24 : z_conB zSPd zD (z_callC 14 zu24 (z_runC zSPd 14 zu24 zD zDF zTC 20000 1)) zDF zTC 20000 17179869184 2 3 0 0 2 zT30 zn24 none zc24 = true := by decide +kernel
/-- gclear -/
noncomputable def zn25 : zCn := (((zjl_48, []), [(2, 0, 0)], [.inl (1, [(2, 1, 0), (0, 14, 0), (0, 15, 0), (0, 16, 0)]), zcl49]), [((zjl_48, []), [], [zcl50, zcl49])])
noncomputable def zc25 : List zCt := [(17, (([(0, 0), zi_0, zi_0, zi_0, zi_0, zi_0, zi_0, zi_0, zi_0, zi_0, zi_0, zi_0, zi_0, zi_0, zi_2, zi_2, zi_2, zi_51], []), [(0, (2, 0, 0)), (1, (0, 17, 0))], [], [zcl50, zcl49], 0, 0), [(99983, 0), (120, 17)])]
noncomputable def zu25 : List (Nat × zCn) := []
set_option maxRecDepth 100000 in
theorem zk25 : z_conB zSPd zD (z_callC 14 zu25 (z_runC zSPd 14 zu25 zD zDF zTC 20000 0)) zDF zTC 20000 17179869184 2 3 0 0 2 zT31 zn25 none zc25 = true := by decide +kernel
/-- gadd -/
noncomputable def zn26 : zCn := ((([(0, 0), zi_0, zi_0, zi_0, zi_0, zi_0, zi_0, zi_0, zi_0, zi_0, zi_0, zi_0, zi_0, zi_0, zi_2, zi_1, zi_2, zi_2, zi_2, zi_2, zi_3, zi_2, zi_2, zi_1, (0, 3), zi_4, zi_5, zi_6, (0, 7), zi_7, (0, 8), zi_3, zi_8], []), [(2, 0, 0), (0, 14, 0), (2, 1, 0), (0, 15, 0)], [.inl (1, [(2, 2, 0), (0, 16, 0), (0, 17, 0), (0, 18, 0)]), zcl52, zcl49, zcl53, zcl12, zcl12, zcl12, zcl13, zcl14, zcl13, zcl13, zcl14, zcl15, zcl16, zcl12, zcl17, zcl18, zcl19, zcl20]), [(([(0, 0), zi_0, zi_0, zi_0, zi_0, zi_0, zi_0, zi_0, zi_0, zi_0, zi_0, zi_0, zi_0, zi_0, zi_2, zi_1, zi_2, zi_2, zi_2, zi_2, zi_3, zi_2, zi_2, zi_1, (0, 3), zi_4, zi_5, zi_6, (0, 7), zi_7, (0, 8), zi_3, zi_8, zi_2, zi_2], []), [], [.inl (1, [(2, 2, 0), (0, 33, 0), (0, 34, 0), (0, 14, 0)]), zcl52, zcl49, zcl53, zcl12, zcl12, zcl12, zcl13, zcl14, zcl13, zcl13, zcl14, zcl15, zcl16, zcl12, zcl17, zcl18, zcl19, zcl20])])
noncomputable def zc26 : List zCt := [(30, (([(0, 0), zi_0, zi_0, zi_0, zi_0, zi_0, zi_0, zi_0, zi_0, zi_0, zi_0, zi_0, zi_0, zi_0, zi_2, zi_1, zi_2, zi_2, zi_2, zi_2, zi_3, zi_2, zi_2, zi_1, (0, 3), zi_4, zi_5, zi_6, (0, 7), zi_7, (0, 8), zi_3, zi_8, zi_27, zi_2, zi_2], []), [(0, (2, 0, 0)), (2, (2, 1, 0)), (3, (0, 15, 0)), (4, (0, 33, 0))], [], [.inl (1, [(2, 2, 0), (0, 34, 0), (0, 35, 0), (0, 14, 0)]), zcl52, zcl49, zcl53, zcl12, zcl12, zcl12, zcl13, zcl14, zcl13, zcl13, zcl14, zcl15, zcl16, zcl12, zcl17, zcl18, zcl19, zcl20], 0, 0), [(99970, 0), (15, 33)])]
noncomputable def zu26 : List (Nat × zCn) := []
set_option maxRecDepth 100000 in
theorem zk26 : z_conB zSPd zD (z_callC 14 zu26 (z_runC zSPd 14 zu26 zD zDF zTC 20000 1)) zDF zTC 20000 17179869184 2 3 0 0 5 zT32 zn26 none zc26 = true := by decide +kernel
/-- leftBy -/
noncomputable def zn27 : zCn := ((([(0, 0), zi_0, zi_0, zi_0, zi_0, zi_0, zi_0, zi_0, zi_0, zi_0, zi_0, zi_0, zi_0, zi_0, zi_54, zi_2, zi_2, zi_2], []), [(2, 0, 0), (0, 14, 0)], [zcl55, zcl49]), [(([(0, 0), zi_0, zi_0, zi_0, zi_0, zi_0, zi_0, zi_0, zi_0, zi_0, zi_0, zi_0, zi_0, zi_0, zi_54, zi_2, zi_2, zi_2, zi_2], []), [(0, 18, 0)], [zcl55, zcl49])])
noncomputable def zc27 : List zCt := [(14, (([(0, 0), zi_0, zi_0, zi_0, zi_0, zi_0, zi_0, zi_0, zi_0, zi_0, zi_0, zi_0, zi_0, zi_0, zi_1, zi_2, zi_2, zi_2, zi_56, zi_46], []), [(0, (2, 0, 0)), (1, (0, 14, 0)), (2, (0, 18, 0)), (3, (0, 19, 0))], [], [zcl55, zcl49], 0, 0), [(99986, 0), (7, 19)])]
noncomputable def zu27 : List (Nat × zCn) := []
set_option maxRecDepth 100000 in
theorem zk27 : z_conB zSPd zD (z_callC 14 zu27 (z_runC zSPd 14 zu27 zD zDF zTC 20000 1)) zDF zTC 20000 17179869184 2 0 0 0 4 zT34 zn27 none zc27 = true := by decide +kernel
/-- bestMorning -/
noncomputable def zn28 : zCn := ((([(0, 0), zi_0, zi_0, zi_0, zi_0, zi_0, zi_0, zi_0, zi_0, zi_0, zi_0, zi_0, zi_0, zi_0, zi_1, zi_2, zi_2, zi_2], []), [(2, 0, 0), (0, 14, 0)], [zcl55, zcl49]), [(([(0, 0), zi_0, zi_0, zi_0, zi_0, zi_0, zi_0, zi_0, zi_0, zi_0, zi_0, zi_0, zi_0, zi_0, zi_1, zi_2, zi_2, zi_2, zi_54], []), [(0, 18, 0)], [zcl55, zcl49])])
noncomputable def zc28 : List zCt := [(4, (([(0, 0), zi_0, zi_0, zi_0, zi_0, zi_0, zi_0, zi_0, zi_0, zi_0, zi_0, zi_0, zi_0, zi_0, zi_1, zi_2, zi_2, zi_2, zi_54, zi_27], []), [(0, (2, 0, 0)), (1, (0, 14, 0)), (2, (0, 18, 0)), (3, (0, 19, 0))], [], [zcl55, zcl49], 0, 0), [(99996, 0), (15, 19)])]
noncomputable def zu28 : List (Nat × zCn) := [(34, zn27)]
set_option maxRecDepth 100000 in
theorem zk28 : z_conB zSPd zD (z_callC 14 zu28 (z_runC zSPd 14 zu28 zD zDF zTC 20000 0)) zDF zTC 20000 17179869184 2 0 0 0 4 zT35 zn28 none zc28 = true := by decide +kernel
/-- renew -/
noncomputable def zn29 : zCn := (((zjl_57, []), [(2, 0, 0), (0, 14, 0), (0, 15, 0)], [.inl (4, [(2, 1, 0), (0, 16, 0), (0, 17, 0), (0, 18, 0)]), zcl37]), [((zjl_57, []), [], [zcl58, zcl37])])
noncomputable def zc29 : List zCt := [(17, (([(0, 0), zi_0, zi_0, zi_0, zi_0, zi_0, zi_0, zi_0, zi_0, zi_0, zi_0, zi_0, zi_0, zi_0, (0, 3), zi_33, (0, 1), (0, 3), zi_33, zi_33], []), [(0, (2, 0, 0)), (3, (0, 19, 0))], [], [zcl58, zcl37], 0, 0), [(99983, 0), (60, 19)])]
noncomputable def zu29 : List (Nat × zCn) := []
set_option maxRecDepth 100000 in
theorem zk29 : z_conB zSPd zD (z_callC 14 zu29 (z_runC zSPd 14 zu29 zD zDF zTC 20000 0)) zDF zTC 20000 17179869184 2 3 0 0 4 zT36 zn29 none zc29 = true := by decide +kernel
/-- canBeSeen -/
noncomputable def zn30 : zCn := ((([(0, 0), zi_0, zi_0, zi_0, zi_0, zi_0, zi_0, zi_0, zi_0, zi_0, zi_0, zi_0, zi_0, zi_0, (0, 1), (0, 3), zi_33, zi_2, zi_1, (0, 3), zi_4, zi_5, zi_6, (0, 7), zi_7, (0, 8), zi_3, zi_8], []), [(2, 0, 0), (2, 1, 0)], [zcl59, zcl60, zcl37, zcl15, zcl16, zcl12, zcl17, zcl18, zcl19, zcl20]), [(([(0, 0), zi_0, zi_0, zi_0, zi_0, zi_0, zi_0, zi_0, zi_0, zi_0, zi_0, zi_0, zi_0, zi_0, (0, 1), (0, 3), zi_33, zi_2, zi_1, (0, 3), zi_4, zi_5, zi_6, (0, 7), zi_7, (0, 8), zi_3, zi_8, (0, 1)], []), [(0, 28, 0)], [zcl59, zcl60, zcl37, zcl15, zcl16, zcl12, zcl17, zcl18, zcl19, zcl20])])
noncomputable def zc30 : List zCt := [(13, (([(0, 0), zi_0, zi_0, zi_0, zi_0, zi_0, zi_0, zi_0, zi_0, zi_0, zi_0, zi_0, zi_0, zi_0, (0, 1), (0, 3), zi_33, zi_2, zi_1, (0, 3), zi_4, zi_5, zi_6, (0, 7), zi_7, (0, 8), zi_3, zi_8, zi_33], []), [(0, (2, 0, 0)), (1, (2, 1, 0)), (2, (0, 28, 0))], [], [zcl59, zcl60, zcl37, zcl15, zcl16, zcl12, zcl17, zcl18, zcl19, zcl20], 0, 0), [(99987, 0), (60, 28)])]
noncomputable def zu30 : List (Nat × zCn) := []
set_option maxRecDepth 100000 in
theorem zk30 : z_conB zSPd zD (z_callC 14 zu30 (z_runC zSPd 14 zu30 zD zDF zTC 20000 0)) zDF zTC 20000 17179869184 2 1 0 0 5 zT37 zn30 none zc30 = true := by decide +kernel
/-- clear -/
noncomputable def zn31 : zCn := (((zjl_65, []), [(2, 0, 0)], [.inl (0, [(0, 14, 0), (0, 15, 0), (0, 16, 0), (0, 17, 0), (0, 18, 0), (0, 19, 0), (0, 20, 0), (0, 21, 0), (0, 22, 0), (0, 23, 0), (0, 24, 0), (2, 1, 0), (2, 2, 0), (2, 3, 0), (2, 4, 0), (2, 5, 0), (2, 6, 0), (2, 7, 0)]), zcl15, zcl16, zcl12, zcl17, zcl18, zcl19, zcl20]), [((zjl_65, []), [], [zcl66, zcl15, zcl16, zcl12, zcl17, zcl18, zcl19, zcl20])])
noncomputable def zc31 : List zCt := [(57, (([(0, 0), zi_0, zi_0, zi_0, zi_0, zi_0, zi_0, zi_0, zi_0, zi_0, zi_0, zi_0, zi_0, zi_0, zi_2, zi_54, zi_61, zi_62, zi_63, zi_64, (0, 7), zi_7, (0, 8), zi_3, zi_8, (0, 7)], []), [(0, (2, 0, 0)), (1, (0, 25, 0))], [], [zcl66, zcl15, zcl16, zcl12, zcl17, zcl18, zcl19, zcl20], 0, 0), [(99943, 0), (7, 25)]), (78, (([(0, 0), zi_0, zi_0, zi_0, zi_0, zi_0, zi_0, zi_0, zi_0, zi_0, zi_0, zi_0, zi_0, zi_0, zi_2, zi_54, zi_61, zi_62, zi_63, zi_64, (0, 7), zi_7, (0, 8), zi_3, zi_8, zi_27], []), [(0, (2, 0, 0)), (1, (0, 25, 0))], [], [zcl66, zcl15, zcl16, zcl12, zcl17, zcl18, zcl19, zcl20], 0, 0), [(99922, 0), (15, 25)])]
noncomputable def zu31 : List (Nat × zCn) := []
set_option maxRecDepth 100000 in
theorem zk31 : z_conB zSPd zD (z_callC 14 zu31 (z_runC zSPd 14 zu31 zD zDF zTC 20000 0)) zDF zTC 20000 17179869184 2 3 0 0 2 zT38 zn31 none zc31 = true := by decide +kernel
/-- copy -/
noncomputable def zn32 : zCn := (((zjl_67, []), [(2, 0, 0), (2, 1, 0)], [.inl (0, [(0, 14, 0), (0, 15, 0), (0, 16, 0), (0, 17, 0), (0, 18, 0), (0, 19, 0), (0, 20, 0), (0, 21, 0), (0, 22, 0), (0, 23, 0), (0, 24, 0), (2, 2, 0), (2, 3, 0), (2, 4, 0), (2, 5, 0), (2, 6, 0), (2, 7, 0), (2, 8, 0)]), zcl68, zcl15, zcl16, zcl12, zcl17, zcl18, zcl19, zcl20, zcl15, zcl16, zcl12, zcl17, zcl18, zcl19, zcl20]), [((zjl_67, []), [], [.inl (0, [(0, 25, 0), (0, 26, 0), (0, 27, 0), (0, 28, 0), (0, 29, 0), (0, 30, 0), (0, 31, 0), (0, 32, 0), (0, 33, 0), (0, 34, 0), (0, 35, 0), (2, 2, 0), (2, 3, 0), (2, 4, 0), (2, 5, 0), (2, 6, 0), (2, 7, 0), (2, 8, 0)]), zcl68, zcl15, zcl16, zcl12, zcl17, zcl18, zcl19, zcl20, zcl15, zcl16, zcl12, zcl17, zcl18, zcl19, zcl20])])
noncomputable def zc32 : List zCt := []
noncomputable def zu32 : List (Nat × zCn) := []
set_option maxRecDepth 100000 in
theorem zk32 : z_conB zSPd zD (z_callC 14 zu32 (z_runC zSPd 14 zu32 zD zDF zTC 20000 0)) zDF zTC 20000 17179869184 2 3 0 0 2 zT39 zn32 none zc32 = true := by decide +kernel
