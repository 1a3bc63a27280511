/-! ===== contracts and their cuts, by program ===== -/
/-- next -/
noncomputable def zn33 : zCn := (((zjl_70, []), [(2, 0, 0)], [zcl71, zcl72]), [(([(0, 0), zi_0, zi_0, zi_0, zi_0, zi_0, zi_0, zi_0, zi_0, zi_0, zi_0, zi_0, zi_0, zi_0, zi_69, (0, 3), zi_2, (0, 4), zi_69, zi_69, zi_2, (0, 4), zi_69, zi_69, zi_2], []), [], [.inl (3, [(2, 1, 0), (0, 14, 0), (0, 15, 0), (0, 16, 0), (0, 21, 0), (0, 22, 0), (0, 23, 0), (0, 24, 0)]), zcl72])])
noncomputable def zc33 : List zCt := [(8, (([(0, 0), zi_0, zi_0, zi_0, zi_0, zi_0, zi_0, zi_0, zi_0, zi_0, zi_0, zi_0, zi_0, zi_0, zi_69, (0, 3), zi_2, (0, 4), zi_69, zi_69, zi_2, zi_69], []), [(0, (2, 0, 0))], [], [.inl (3, [(2, 1, 0), (0, 14, 0), (0, 15, 0), (0, 16, 0), (0, 17, 0), (0, 21, 0), (0, 19, 0), (0, 20, 0)]), zcl72], 0, 0), [(99992, 0), (700, 21)]), (147, (([(0, 0), zi_0, zi_0, zi_0, zi_0, zi_0, zi_0, zi_0, zi_0, zi_0, zi_0, zi_0, zi_0, zi_0, zi_69, (0, 3), zi_2, (0, 4), zi_69, zi_69, zi_2, (0, 1), (0, 4), zi_69, zi_69, zi_2], []), [(0, (2, 0, 0)), (1, (0, 21, 0))], [], [.inl (3, [(2, 1, 0), (0, 14, 0), (0, 15, 0), (0, 16, 0), (0, 22, 0), (0, 23, 0), (0, 24, 0), (0, 25, 0)]), zcl72], 0, 0), [(99853, 0), (700, 24)])]
noncomputable def zu33 : List (Nat × zCn) := []
set_option maxRecDepth 100000 in
theorem zk33 : z_conB zSPd zD (z_callC 14 zu33 (z_runC zSPd 14 zu33 zD zDF zTC 20000 1)) zDF zTC 20000 17179869184 2 3 0 0 2 zT40 zn33 none zc33 = true := by decide +kernel
/-- isAt1 -/
noncomputable def zn34 : zCn := (((zjl_70, []), [(2, 0, 0), (4, 1, 0)], [zcl71, zcl72]), [((zjl_70, []), [(0, 0, 0)], [zcl71, zcl72]), ((zjl_75, []), [(0, 0, 1)], [zcl71, zcl72])])
noncomputable def zc34 : List zCt := []
noncomputable def zu34 : List (Nat × zCn) := []
set_option maxRecDepth 100000 in
theorem zk34 : z_conB zSPd zD (z_callC 14 zu34 (z_runC zSPd 14 zu34 zD zDF zTC 20000 0)) zDF zTC 20000 17179869184 2 1 0 0 3 zT42 zn34 none zc34 = true := by decide +kernel
/-- isAt2 -/
noncomputable def zn35 : zCn := (((zjl_70, []), [(2, 0, 0), (4, 2, 0)], [zcl71, zcl72]), [((zjl_70, []), [(0, 0, 0)], [zcl71, zcl72]), ((zjl_78, []), [(0, 0, 1)], [zcl71, zcl72])])
noncomputable def zc35 : List zCt := []
noncomputable def zu35 : List (Nat × zCn) := []
set_option maxRecDepth 100000 in
theorem zk35 : z_conB zSPd zD (z_callC 14 zu35 (z_runC zSPd 14 zu35 zD zDF zTC 20000 0)) zDF zTC 20000 17179869184 2 1 0 0 3 zT42 zn35 none zc35 = true := by decide +kernel
/-- isAt3 -/
noncomputable def zn36 : zCn := (((zjl_70, []), [(2, 0, 0), (4, 3, 0)], [zcl71, zcl72]), [((zjl_70, []), [(0, 0, 0)], [zcl71, zcl72]), ((zjl_79, []), [(0, 0, 1)], [zcl71, zcl72])])
noncomputable def zc36 : List zCt := []
noncomputable def zu36 : List (Nat × zCn) := []
set_option maxRecDepth 100000 in
theorem zk36 : z_conB zSPd zD (z_callC 14 zu36 (z_runC zSPd 14 zu36 zD zDF zTC 20000 0)) zDF zTC 20000 17179869184 2 1 0 0 3 zT42 zn36 none zc36 = true := by decide +kernel
/-- isAt4 -/
noncomputable def zn37 : zCn := (((zjl_70, []), [(2, 0, 0), (4, 4, 0)], [zcl71, zcl72]), [((zjl_70, []), [(0, 0, 0)], [zcl71, zcl72]), ((zjl_82, []), [(0, 0, 1)], [zcl71, zcl72])])
noncomputable def zc37 : List zCt := []
noncomputable def zu37 : List (Nat × zCn) := []
set_option maxRecDepth 100000 in
theorem zk37 : z_conB zSPd zD (z_callC 14 zu37 (z_runC zSPd 14 zu37 zD zDF zTC 20000 0)) zDF zTC 20000 17179869184 2 1 0 0 3 zT42 zn37 none zc37 = true := by decide +kernel
/-- isAt5 -/
noncomputable def zn38 : zCn := (((zjl_70, []), [(2, 0, 0), (4, 5, 0)], [zcl71, zcl72]), [((zjl_70, []), [(0, 0, 0)], [zcl71, zcl72]), ((zjl_82, []), [(0, 0, 1)], [zcl71, zcl72])])
noncomputable def zc38 : List zCt := []
noncomputable def zu38 : List (Nat × zCn) := []
set_option maxRecDepth 100000 in
theorem zk38 : z_conB zSPd zD (z_callC 14 zu38 (z_runC zSPd 14 zu38 zD zDF zTC 20000 0)) zDF zTC 20000 17179869184 2 1 0 0 3 zT42 zn38 none zc38 = true := by decide +kernel
/-- isAt6 -/
noncomputable def zn39 : zCn := (((zjl_70, []), [(2, 0, 0), (4, 6, 0)], [zcl71, zcl72]), [((zjl_70, []), [(0, 0, 0)], [zcl71, zcl72]), ((zjl_75, []), [(0, 0, 1)], [zcl71, zcl72])])
noncomputable def zc39 : List zCt := []
noncomputable def zu39 : List (Nat × zCn) := []
set_option maxRecDepth 100000 in
theorem zk39 : z_conB zSPd zD (z_callC 14 zu39 (z_runC zSPd 14 zu39 zD zDF zTC 20000 0)) zDF zTC 20000 17179869184 2 1 0 0 3 zT42 zn39 none zc39 = true := by decide +kernel
/-- isAt7 -/
noncomputable def zn40 : zCn := (((zjl_70, []), [(2, 0, 0), (4, 7, 0)], [zcl71, zcl72]), [((zjl_70, []), [(0, 0, 0)], [zcl71, zcl72]), ((zjl_78, []), [(0, 0, 1)], [zcl71, zcl72])])
noncomputable def zc40 : List zCt := []
noncomputable def zu40 : List (Nat × zCn) := []
set_option maxRecDepth 100000 in
theorem zk40 : z_conB zSPd zD (z_callC 14 zu40 (z_runC zSPd 14 zu40 zD zDF zTC 20000 0)) zDF zTC 20000 17179869184 2 1 0 0 3 zT42 zn40 none zc40 = true := by decide +kernel
/-- isAt8 -/
noncomputable def zn41 : zCn := (((zjl_70, []), [(2, 0, 0), (4, 8, 0)], [zcl71, zcl72]), [((zjl_70, []), [(0, 0, 0)], [zcl71, zcl72]), ((zjl_82, []), [(0, 0, 1)], [zcl71, zcl72])])
noncomputable def zc41 : List zCt := []
noncomputable def zu41 : List (Nat × zCn) := []
set_option maxRecDepth 100000 in
theorem zk41 : z_conB zSPd zD (z_callC 14 zu41 (z_runC zSPd 14 zu41 zD zDF zTC 20000 0)) zDF zTC 20000 17179869184 2 1 0 0 3 zT42 zn41 none zc41 = true := by decide +kernel
/-- isAt9 -/
noncomputable def zn42 : zCn := (((zjl_70, []), [(2, 0, 0), (4, 9, 0)], [zcl71, zcl72]), [((zjl_70, []), [(0, 0, 0)], [zcl71, zcl72]), ((zjl_79, []), [(0, 0, 1)], [zcl71, zcl72])])
noncomputable def zc42 : List zCt := []
noncomputable def zu42 : List (Nat × zCn) := []
set_option maxRecDepth 100000 in
theorem zk42 : z_conB zSPd zD (z_callC 14 zu42 (z_runC zSPd 14 zu42 zD zDF zTC 20000 0)) zDF zTC 20000 17179869184 2 1 0 0 3 zT42 zn42 none zc42 = true := by decide +kernel
/-- isAt10 -/
noncomputable def zn43 : zCn := (((zjl_70, []), [(2, 0, 0), (4, 10, 0)], [zcl71, zcl72]), [((zjl_70, []), [(0, 0, 0)], [zcl71, zcl72]), ((zjl_75, []), [(0, 0, 1)], [zcl71, zcl72])])
noncomputable def zc43 : List zCt := []
noncomputable def zu43 : List (Nat × zCn) := []
set_option maxRecDepth 100000 in
theorem zk43 : z_conB zSPd zD (z_callC 14 zu43 (z_runC zSPd 14 zu43 zD zDF zTC 20000 0)) zDF zTC 20000 17179869184 2 1 0 0 3 zT42 zn43 none zc43 = true := by decide +kernel
/-- isAt11 -/
noncomputable def zn44 : zCn := (((zjl_70, []), [(2, 0, 0), (4, 11, 0)], [zcl71, zcl72]), [((zjl_70, []), [(0, 0, 0)], [zcl71, zcl72]), ((zjl_82, []), [(0, 0, 1)], [zcl71, zcl72])])
noncomputable def zc44 : List zCt := []
noncomputable def zu44 : List (Nat × zCn) := []
set_option maxRecDepth 100000 in
theorem zk44 : z_conB zSPd zD (z_callC 14 zu44 (z_runC zSPd 14 zu44 zD zDF zTC 20000 0)) zDF zTC 20000 17179869184 2 1 0 0 3 zT42 zn44 none zc44 = true := by decide +kernel
/-- isAt12 -/
noncomputable def zn45 : zCn := (((zjl_70, []), [(2, 0, 0), (4, 12, 0)], [zcl71, zcl72]), [((zjl_70, []), [(0, 0, 0)], [zcl71, zcl72]), ((zjl_75, []), [(0, 0, 1)], [zcl71, zcl72])])
noncomputable def zc45 : List zCt := []
noncomputable def zu45 : List (Nat × zCn) := []
set_option maxRecDepth 100000 in
theorem zk45 : z_conB zSPd zD (z_callC 14 zu45 (z_runC zSPd 14 zu45 zD zDF zTC 20000 0)) zDF zTC 20000 17179869184 2 1 0 0 3 zT42 zn45 none zc45 = true := by decide +kernel
/-- isAt13 -/
noncomputable def zn46 : zCn := (((zjl_70, []), [(2, 0, 0), (4, 13, 0)], [zcl71, zcl72]), [((zjl_70, []), [(0, 0, 0)], [zcl71, zcl72]), (([(0, 0), zi_0, zi_0, zi_0, zi_0, zi_0, zi_0, zi_0, zi_0, zi_0, zi_0, zi_0, zi_0, zi_0, zi_69, (0, 3), zi_2, (1, 1), (0, 698), (2, 700), zi_2], []), [(0, 0, 1)], [zcl71, zcl72])])
noncomputable def zc46 : List zCt := []
noncomputable def zu46 : List (Nat × zCn) := []
set_option maxRecDepth 100000 in
theorem zk46 : z_conB zSPd zD (z_callC 14 zu46 (z_runC zSPd 14 zu46 zD zDF zTC 20000 0)) zDF zTC 20000 17179869184 2 1 0 0 3 zT42 zn46 none zc46 = true := by decide +kernel
