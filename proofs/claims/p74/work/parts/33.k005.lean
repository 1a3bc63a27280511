/-! ===== contracts and their cuts, by program ===== -/
/-- x.paste -/
noncomputable def zn144 : zCn := (((zjl_91, []), [(2, 0, 0), (0, 14, 0), (0, 15, 0), (0, 16, 0), (0, 17, 0), (0, 18, 0)], [zcl92, zcl93, zcl94, zcl95, zcl96, zcl97, zcl98, zcl99, zcl100, zcl101, zcl102, zcl103, zcl72, zcl15, zcl16, zcl12, zcl17, zcl18, zcl19, zcl20, zcl15, zcl16, zcl12, zcl17, zcl18, zcl19, zcl20, zcl12, zcl12, zcl12, zcl13, zcl14, zcl13, zcl13, zcl14, zcl12, zcl12, zcl12, zcl13, zcl14, zcl13, zcl13, zcl14, zcl42, zcl49, zcl104, zcl105, zcl106, zcl107, zcl108, zcl109, zcl110, zcl37, zcl37, zcl37, zcl37, zcl15, zcl16, zcl12, zcl17, zcl18, zcl19, zcl20, zcl15, zcl16, zcl12, zcl17, zcl18, zcl19, zcl20, zcl15, zcl16, zcl12, zcl17, zcl18, zcl19, zcl20]), [(([(0, 0), zi_0, zi_0, zi_0, zi_0, zi_0, zi_0, zi_0, zi_0, zi_0, zi_0, zi_0, zi_0, zi_0, zi_2, zi_2, zi_2, zi_2, zi_2, zi_69, (0, 3), zi_2, (0, 4), zi_69, zi_69, zi_2, zi_2, zi_1, (0, 3), zi_4, zi_5, zi_6, (0, 7), zi_7, (0, 8), zi_3, zi_8, zi_2, zi_54, zi_61, zi_62, zi_63, zi_64, (0, 7), zi_7, (0, 8), zi_3, zi_8, zi_2, zi_3, zi_2, zi_2, zi_3, zi_2, (0, 4), zi_2, zi_2, zi_2, zi_2, zi_2, (0, 1), (0, 1), (0, 1), (0, 1), (0, 3), zi_33, (0, 1), (0, 3), zi_33, (0, 1), (0, 3), zi_33, (0, 1), (0, 3), zi_33, zi_2, zi_1, (0, 3), zi_4, zi_5, zi_6, (0, 7), zi_7, (0, 8), zi_3, zi_8, zi_2, zi_1, (0, 3), zi_4, zi_5, zi_6, (0, 7), zi_7, (0, 8), zi_3, zi_8, zi_2, zi_1, (0, 3), zi_4, zi_5, zi_6, (0, 7), zi_7, (0, 8), zi_3, zi_8, zi_255], []), [(0, 108, 0)], [zcl92, zcl93, zcl94, zcl95, zcl96, zcl97, zcl98, zcl99, zcl100, zcl101, zcl102, zcl103, zcl72, zcl15, zcl16, zcl12, zcl17, zcl18, zcl19, zcl20, zcl15, zcl16, zcl12, zcl17, zcl18, zcl19, zcl20, zcl12, zcl12, zcl12, zcl13, zcl14, zcl13, zcl13, zcl14, zcl12, zcl12, zcl12, zcl13, zcl14, zcl13, zcl13, zcl14, zcl42, zcl49, zcl104, zcl105, zcl106, zcl107, zcl108, zcl109, zcl110, zcl37, zcl37, zcl37, zcl37, zcl15, zcl16, zcl12, zcl17, zcl18, zcl19, zcl20, zcl15, zcl16, zcl12, zcl17, zcl18, zcl19, zcl20, zcl15, zcl16, zcl12, zcl17, zcl18, zcl19, zcl20])])
noncomputable def zc144 : List zCt := []
noncomputable def zu144 : List (Nat × zCn) := []
set_option maxRecDepth 100000 in
theorem zk144 : z_conB zSPd zD (z_callC 14 zu144 (z_runC zSPd 14 zu144 zD zDF zTC 20000 1)) zDF zTC 20000 17179869184 2 0 0 0 8 zT163 zn144 none zc144 = true := by decide +kernel
/-- m.frostAt -/
noncomputable def zn145 : zCn := (((zjl_256, []), [(2, 0, 0), (0, 14, 0)], [zcl257, zcl258, zcl259, zcl260, zcl37, zcl72, zcl261, zcl262, zcl263, zcl264, zcl265, zcl266, zcl267, zcl12, zcl12, zcl12, zcl13, zcl13, zcl14, zcl42, zcl42, zcl268, zcl49]), [((zjl_269, []), [(0, 106, 0)], [zcl257, zcl258, zcl259, zcl260, zcl37, zcl72, zcl261, zcl262, zcl263, zcl264, zcl265, zcl266, zcl267, zcl12, zcl12, zcl12, zcl13, zcl13, zcl14, zcl42, zcl42, zcl268, zcl49])])
noncomputable def zc145 : List zCt := [(9, ((zjl_270, []), [(0, (2, 0, 0)), (1, (0, 14, 0)), (2, (0, 106, 0)), (3, (0, 107, 0))], [], [zcl257, zcl258, zcl259, zcl260, zcl37, zcl72, zcl261, zcl262, zcl263, zcl264, zcl265, zcl266, zcl267, zcl12, zcl12, zcl12, zcl13, zcl13, zcl14, zcl42, zcl42, zcl268, zcl49], 0, 0), [(99991, 0), (8, 107)])]
noncomputable def zu145 : List (Nat × zCn) := []
set_option maxRecDepth 100000 in
theorem zk145 : z_conB zSPd zD (z_callC 14 zu145 (z_runC zSPd 14 zu145 zD zDF zTC 20000 0)) zDF zTC 20000 17179869184 2 0 0 0 4 zT165 zn145 none zc145 = true := by decide +kernel
/-- m.sung -/
noncomputable def zn146 : zCn := (((zjl_271, []), [(2, 0, 0), (0, 14, 0), (0, 15, 0), (0, 16, 0)], [zcl272, zcl273, zcl274, zcl260, zcl37, zcl72, zcl275, zcl276, zcl263, zcl264, zcl265, zcl266, zcl277, zcl12, zcl12, zcl12, zcl13, zcl13, zcl14, zcl42, zcl42, zcl268, zcl49]), [((zjl_278, []), [(0, 108, 0)], [zcl272, zcl273, zcl274, zcl260, zcl37, zcl72, zcl275, zcl276, zcl263, zcl264, zcl265, zcl266, zcl277, zcl12, zcl12, zcl12, zcl13, zcl13, zcl14, zcl42, zcl42, zcl268, zcl49])])
noncomputable def zc146 : List zCt := [(6, ((zjl_279, []), [(0, (2, 0, 0)), (1, (0, 14, 0)), (2, (0, 15, 0)), (4, (0, 108, 0)), (5, (0, 109, 0))], [], [zcl272, zcl273, zcl274, zcl260, zcl37, zcl72, zcl275, zcl276, zcl263, zcl264, zcl265, zcl266, zcl277, zcl12, zcl12, zcl12, zcl13, zcl13, zcl14, zcl42, zcl42, zcl268, zcl49], 0, 0), [(99994, 0), (30, 109)])]
noncomputable def zu146 : List (Nat × zCn) := []
set_option maxRecDepth 100000 in
theorem zk146 : z_conB zSPd zD (z_callC 14 zu146 (z_runC zSPd 14 zu146 zD zDF zTC 20000 1)) zDF zTC 20000 17179869184 2 0 0 0 6 zT166 zn146 none zc146 = true := by decide +kernel
/-- m.givenAt -/
noncomputable def zn147 : zCn := (((zjl_256, []), [(2, 0, 0), (0, 14, 0)], [zcl257, zcl258, zcl259, zcl260, zcl37, zcl72, zcl261, zcl262, zcl263, zcl264, zcl265, zcl266, zcl267, zcl12, zcl12, zcl12, zcl13, zcl13, zcl14, zcl42, zcl42, zcl268, zcl49]), [((zjl_280, []), [(0, 106, 0)], [zcl257, zcl258, zcl259, zcl260, zcl37, zcl72, zcl261, zcl262, zcl263, zcl264, zcl265, zcl266, zcl267, zcl12, zcl12, zcl12, zcl13, zcl13, zcl14, zcl42, zcl42, zcl268, zcl49])])
noncomputable def zc147 : List zCt := [(4, ((zjl_281, []), [(0, (2, 0, 0)), (1, (0, 14, 0)), (2, (0, 106, 0)), (3, (0, 107, 0))], [], [zcl257, zcl258, zcl259, zcl260, zcl37, zcl72, zcl261, zcl262, zcl263, zcl264, zcl265, zcl266, zcl267, zcl12, zcl12, zcl12, zcl13, zcl13, zcl14, zcl42, zcl42, zcl268, zcl49], 0, 0), [(99996, 0), (30, 107)])]
noncomputable def zu147 : List (Nat × zCn) := []
set_option maxRecDepth 100000 in
theorem zk147 : z_conB zSPd zD (z_callC 14 zu147 (z_runC zSPd 14 zu147 zD zDF zTC 20000 1)) zDF zTC 20000 17179869184 2 0 0 0 4 zT168 zn147 none zc147 = true := by decide +kernel
/-- m.reachOf -/
noncomputable def zn148 : zCn := (((zjl_282, []), [(2, 0, 0), (0, 14, 0)], [zcl257, zcl258, zcl259, zcl260, zcl37, zcl72, zcl261, zcl262, zcl263, zcl264, zcl265, zcl266, zcl267, zcl12, zcl12, zcl12, zcl13, zcl13, zcl14, zcl42, zcl42, zcl268, zcl49]), [((zjl_283, []), [(0, 106, 0)], [zcl257, zcl258, zcl259, zcl260, zcl37, zcl72, zcl261, zcl262, zcl263, zcl264, zcl265, zcl266, zcl267, zcl12, zcl12, zcl12, zcl13, zcl13, zcl14, zcl42, zcl42, zcl268, zcl49])])
noncomputable def zc148 : List zCt := [(6, ((zjl_284, []), [(0, (2, 0, 0)), (2, (0, 106, 0)), (3, (0, 107, 0))], [], [zcl257, zcl258, zcl259, zcl260, zcl37, zcl72, zcl261, zcl262, zcl263, zcl264, zcl265, zcl266, zcl267, zcl12, zcl12, zcl12, zcl13, zcl13, zcl14, zcl42, zcl42, zcl268, zcl49], 0, 0), [(99994, 0), (7, 107), (8589934592, 0), (8589934592, 0)]), (17, ((zjl_285, []), [(0, (2, 0, 0)), (2, (0, 106, 0)), (3, (0, 107, 0)), (4, (0, 108, 0))], [], [zcl257, zcl258, zcl259, zcl260, zcl37, zcl72, zcl261, zcl262, zcl263, zcl264, zcl265, zcl266, zcl267, zcl12, zcl12, zcl12, zcl13, zcl13, zcl14, zcl42, zcl42, zcl268, zcl49], 0, 0), [(99994, 0), (7, 107), (99983, 0), (7, 108)])]
noncomputable def zu148 : List (Nat × zCn) := []
set_option maxRecDepth 100000 in
theorem zk148 : z_conB zSPd zD (z_callC 14 zu148 (z_runC zSPd 14 zu148 zD zDF zTC 20000 1)) zDF zTC 20000 17179869184 4 0 0 0 5 zT170 zn148 none zc148 = true := by decide +kernel
/-- m.passOf -/
noncomputable def zn149 : zCn := (((zjl_287, []), [(2, 0, 0), (0, 14, 0), (0, 15, 0)], [zcl288, zcl289, zcl290, zcl260, zcl37, zcl72, zcl291, zcl292, zcl263, zcl264, zcl265, zcl266, zcl293, zcl12, zcl12, zcl12, zcl13, zcl13, zcl14, zcl42, zcl42, zcl268, zcl49]), [((zjl_294, []), [(0, 107, 0)], [zcl288, zcl289, zcl290, zcl260, zcl37, zcl72, zcl291, zcl292, zcl263, zcl264, zcl265, zcl266, zcl293, zcl12, zcl12, zcl12, zcl13, zcl13, zcl14, zcl42, zcl42, zcl268, zcl49])])
noncomputable def zc149 : List zCt := [(45, ((zjl_295, []), [(0, (2, 0, 0)), (1, (0, 14, 0)), (2, (0, 15, 0)), (3, (0, 107, 0)), (4, (0, 108, 0)), (5, (0, 109, 0))], [], [zcl288, zcl289, zcl290, zcl260, zcl37, zcl72, zcl291, zcl292, zcl263, zcl264, zcl265, zcl266, zcl293, zcl12, zcl12, zcl12, zcl13, zcl13, zcl14, zcl42, zcl42, zcl268, zcl49], 0, 0), [(99955, 0), (7, 109)])]
noncomputable def zu149 : List (Nat × zCn) := [(170, zn148)]
set_option maxRecDepth 100000 in
theorem zk149 : z_conB zSPd zD (z_callC 14 zu149 (z_runC zSPd 14 zu149 zD zDF zTC 20000 2)) zDF zTC 20000 17179869184 2 0 0 0 7 zT172 zn149 none zc149 = true := by decide +kernel
/-- m.lays -/
noncomputable def zn150 : zCn := (((zjl_296, []), [(2, 0, 0)], [zcl297, zcl298, zcl299, zcl260, zcl37, zcl72, zcl300, zcl301, zcl263, zcl264, zcl265, zcl266, zcl302, zcl12, zcl12, zcl12, zcl13, zcl13, zcl14, zcl42, zcl42, zcl268, zcl49]), [((zjl_296, []), [], [zcl303, zcl298, zcl299, zcl260, zcl37, zcl72, zcl300, zcl301, zcl263, zcl264, zcl265, zcl266, zcl302, zcl12, zcl12, zcl12, zcl13, zcl13, zcl14, zcl42, zcl42, zcl268, zcl49])])
noncomputable def zc150 : List zCt := [(38, ((zjl_304, []), [(0, (2, 0, 0)), (1, (0, 105, 0))], [], [zcl303, zcl298, zcl299, zcl260, zcl37, zcl72, zcl300, zcl301, zcl263, zcl264, zcl265, zcl266, zcl302, zcl12, zcl12, zcl12, zcl13, zcl13, zcl14, zcl42, zcl42, zcl268, zcl49], 0, 0), [(99962, 0), (7, 105)]), (91, ((zjl_305, []), [(0, (2, 0, 0)), (1, (0, 105, 0))], [], [zcl303, zcl298, zcl299, zcl260, zcl37, zcl72, zcl300, zcl301, zcl263, zcl264, zcl265, zcl266, zcl302, zcl12, zcl12, zcl12, zcl13, zcl13, zcl14, zcl42, zcl42, zcl268, zcl49], 0, 0), [(99909, 0), (12, 105)])]
noncomputable def zu150 : List (Nat × zCn) := []
set_option maxRecDepth 100000 in
theorem zk150 : z_conB zSPd zD (z_callC 14 zu150 (z_runC zSPd 14 zu150 zD zDF zTC 20000 1)) zDF zTC 20000 17179869184 2 3 0 0 2 zT175 zn150 none zc150 = true := by decide +kernel
/-- m.runs -/
noncomputable def zn151 : zCn := (((zjl_296, []), [(2, 0, 0)], [zcl297, zcl298, zcl299, zcl260, zcl37, zcl72, zcl300, zcl301, zcl263, zcl264, zcl265, zcl266, zcl302, zcl12, zcl12, zcl12, zcl13, zcl13, zcl14, zcl42, zcl42, zcl268, zcl49]), [((zjl_296, []), [], [zcl297, zcl298, zcl299, zcl260, zcl37, zcl72, zcl300, zcl301, zcl263, zcl264, zcl265, zcl266, zcl302, zcl12, zcl12, zcl12, zcl13, zcl13, zcl14, zcl42, zcl42, zcl268, zcl49])])
noncomputable def zc151 : List zCt := [(38, ((zjl_304, []), [(0, (2, 0, 0)), (1, (0, 105, 0))], [], [zcl297, zcl298, zcl299, zcl260, zcl37, zcl72, zcl300, zcl301, zcl263, zcl264, zcl265, zcl266, zcl302, zcl12, zcl12, zcl12, zcl13, zcl13, zcl14, zcl42, zcl42, zcl268, zcl49], 0, 0), [(99962, 0), (7, 105), (8589934592, 0), (8589934592, 0)]), (72, ((zjl_306, []), [(0, (2, 0, 0)), (1, (0, 105, 0))], [], [zcl297, zcl298, zcl299, zcl260, zcl37, zcl72, zcl300, zcl301, zcl263, zcl264, zcl265, zcl266, zcl302, zcl12, zcl12, zcl12, zcl13, zcl13, zcl14, zcl42, zcl42, zcl268, zcl49], 0, 0), [(99928, 0), (14, 105), (8589934592, 0), (8589934592, 0)]), (156, ((zjl_307, []), [(0, (2, 0, 0)), (1, (0, 105, 0)), (3, (0, 106, 0))], [], [zcl297, zcl298, zcl299, zcl260, zcl37, zcl72, zcl300, zcl301, zcl263, zcl264, zcl265, zcl266, zcl302, zcl12, zcl12, zcl12, zcl13, zcl13, zcl14, zcl42, zcl42, zcl268, zcl49], 0, 0), [(99928, 0), (14, 105), (99844, 0), (7, 106)])]
noncomputable def zu151 : List (Nat × zCn) := [(165, zn145), (166, zn146), (168, zn147), (172, zn149)]
set_option maxRecDepth 100000 in
theorem zk151 : z_conB zSPd zD (z_callC 14 zu151 (z_runC zSPd 14 zu151 zD zDF zTC 20000 2)) zDF zTC 20000 17179869184 4 3 0 0 4 zT177 zn151 none zc151 = true := by decide +kernel
/-- m.sufferOf -/
noncomputable def zn152 : zCn := (((zjl_282, []), [(2, 0, 0), (0, 14, 0)], [zcl257, zcl258, zcl259, zcl260, zcl37, zcl72, zcl261, zcl262, zcl263, zcl264, zcl265, zcl266, zcl267, zcl12, zcl12, zcl12, zcl13, zcl13, zcl14, zcl42, zcl42, zcl268, zcl49]), [((zjl_283, []), [(0, 106, 0)], [zcl257, zcl258, zcl259, zcl260, zcl37, zcl72, zcl261, zcl262, zcl263, zcl264, zcl265, zcl266, zcl267, zcl12, zcl12, zcl12, zcl13, zcl13, zcl14, zcl42, zcl42, zcl268, zcl49])])
noncomputable def zc152 : List zCt := [(4, (([(0, 0), zi_0, zi_0, zi_0, zi_0, zi_0, zi_0, zi_0, zi_0, zi_0, zi_0, zi_0, zi_0, zi_0, (0, 6), zi_2, zi_69, zi_69, (0, 4), zi_69, zi_2, zi_197, (0, 3), zi_2, (0, 3), zi_2, zi_2, zi_2, zi_2, zi_2, zi_3, zi_2, zi_2, zi_2, zi_2, zi_2, zi_2, zi_2, zi_2, zi_2, zi_61, zi_61, zi_61, zi_61, zi_33, zi_33, zi_33, zi_33, zi_2, zi_2, zi_2, zi_2, zi_2, zi_1, (0, 3), zi_4, zi_5, zi_6, (0, 7), zi_7, (0, 8), zi_8, zi_3, zi_1, (0, 3), zi_4, zi_5, zi_6, (0, 7), zi_7, (0, 8), zi_8, zi_3, zi_1, (0, 3), zi_4, zi_5, zi_6, (0, 7), zi_7, (0, 8), zi_8, zi_3, zi_1, (0, 3), zi_4, zi_5, zi_6, (0, 7), zi_7, (0, 8), zi_8, zi_3, zi_1, (0, 3), zi_4, zi_5, zi_6, (0, 7), zi_7, (0, 8), zi_8, zi_3, (0, 1), (0, 1), (0, 1), zi_2, zi_27], []), [(0, (2, 0, 0)), (1, (0, 14, 0)), (2, (0, 106, 0)), (3, (0, 107, 0))], [], [zcl257, zcl258, zcl259, zcl260, zcl37, zcl72, zcl261, zcl262, zcl263, zcl264, zcl265, zcl266, zcl267, zcl12, zcl12, zcl12, zcl13, zcl13, zcl14, zcl42, zcl42, zcl268, zcl49], 0, 0), [(99996, 0), (15, 107)])]
noncomputable def zu152 : List (Nat × zCn) := []
set_option maxRecDepth 100000 in
theorem zk152 : z_conB zSPd zD (z_callC 14 zu152 (z_runC zSPd 14 zu152 zD zDF zTC 20000 1)) zDF zTC 20000 17179869184 2 0 0 0 4 zT181 zn152 none zc152 = true := by decide +kernel
/-- m.allAt -/
noncomputable def zn153 : zCn := (((zjl_308, []), [(2, 0, 0), (0, 14, 0)], [zcl257, zcl258, zcl259, zcl260, zcl37, zcl72, zcl261, zcl262, zcl263, zcl264, zcl265, zcl266, zcl267, zcl12, zcl12, zcl12, zcl13, zcl13, zcl14, zcl42, zcl42, zcl268, zcl49]), [((zjl_309, []), [(0, 106, 0)], [zcl257, zcl258, zcl259, zcl260, zcl37, zcl72, zcl261, zcl262, zcl263, zcl264, zcl265, zcl266, zcl267, zcl12, zcl12, zcl12, zcl13, zcl13, zcl14, zcl42, zcl42, zcl268, zcl49])])
noncomputable def zc153 : List zCt := [(4, ((zjl_310, []), [(0, (2, 0, 0)), (1, (0, 14, 0)), (2, (0, 106, 0)), (3, (0, 107, 0))], [], [zcl257, zcl258, zcl259, zcl260, zcl37, zcl72, zcl261, zcl262, zcl263, zcl264, zcl265, zcl266, zcl267, zcl12, zcl12, zcl12, zcl13, zcl13, zcl14, zcl42, zcl42, zcl268, zcl49], 0, 0), [(99996, 0), (7, 107)])]
noncomputable def zu153 : List (Nat × zCn) := []
set_option maxRecDepth 100000 in
theorem zk153 : z_conB zSPd zD (z_callC 14 zu153 (z_runC zSPd 14 zu153 zD zDF zTC 20000 1)) zDF zTC 20000 17179869184 2 0 0 0 4 zT182 zn153 none zc153 = true := by decide +kernel
/-- m.sumNow -/
noncomputable def zn154 : zCn := (((zjl_296, []), [(2, 0, 0)], [zcl297, zcl298, zcl299, zcl260, zcl37, zcl72, zcl300, zcl301, zcl263, zcl264, zcl265, zcl266, zcl302, zcl12, zcl12, zcl12, zcl13, zcl13, zcl14, zcl42, zcl42, zcl268, zcl49]), [((zjl_311, []), [(0, 105, 0)], [zcl297, zcl298, zcl299, zcl260, zcl37, zcl72, zcl300, zcl301, zcl263, zcl264, zcl265, zcl266, zcl302, zcl12, zcl12, zcl12, zcl13, zcl13, zcl14, zcl42, zcl42, zcl268, zcl49])])
noncomputable def zc154 : List zCt := [(4, ((zjl_312, []), [(0, (2, 0, 0)), (1, (0, 105, 0)), (2, (0, 106, 0))], [], [zcl297, zcl298, zcl299, zcl260, zcl37, zcl72, zcl300, zcl301, zcl263, zcl264, zcl265, zcl266, zcl302, zcl12, zcl12, zcl12, zcl13, zcl13, zcl14, zcl42, zcl42, zcl268, zcl49], 0, 0), [(99996, 0), (15, 106)])]
noncomputable def zu154 : List (Nat × zCn) := [(182, zn153)]
set_option maxRecDepth 100000 in
theorem zk154 : z_conB zSPd zD (z_callC 14 zu154 (z_runC zSPd 14 zu154 zD zDF zTC 20000 1)) zDF zTC 20000 17179869184 2 0 0 0 3 zT183 zn154 none zc154 = true := by decide +kernel
/-- m.oneAt -/
noncomputable def zn155 : zCn := ((([(0, 0), zi_0, zi_0, zi_0, zi_0, zi_0, zi_0, zi_0, zi_0, zi_0, zi_0, zi_0, zi_0, zi_0, zi_1, zi_2, zi_2, zi_69, zi_69, (0, 4), zi_69, zi_2, zi_197, (0, 3), zi_2, (0, 3), zi_2, zi_2, zi_2, zi_2, zi_2, zi_3, zi_2, zi_2, zi_2, zi_2, zi_2, zi_2, zi_2, zi_2, zi_2, zi_61, zi_61, zi_61, zi_61, zi_33, zi_33, zi_33, zi_33, zi_2, zi_2, zi_2, zi_2, zi_2, zi_1, (0, 3), zi_4, zi_5, zi_6, (0, 7), zi_7, (0, 8), zi_8, zi_3, zi_1, (0, 3), zi_4, zi_5, zi_6, (0, 7), zi_7, (0, 8), zi_8, zi_3, zi_1, (0, 3), zi_4, zi_5, zi_6, (0, 7), zi_7, (0, 8), zi_8, zi_3, zi_1, (0, 3), zi_4, zi_5, zi_6, (0, 7), zi_7, (0, 8), zi_8, zi_3, zi_1, (0, 3), zi_4, zi_5, zi_6, (0, 7), zi_7, (0, 8), zi_8, zi_3, (0, 1), (0, 1), (0, 1)], []), [(2, 0, 0), (0, 14, 0), (0, 15, 0)], [zcl288, zcl289, zcl290, zcl260, zcl37, zcl72, zcl291, zcl292, zcl263, zcl264, zcl265, zcl266, zcl293, zcl12, zcl12, zcl12, zcl13, zcl13, zcl14, zcl42, zcl42, zcl268, zcl49]), [(([(0, 0), zi_0, zi_0, zi_0, zi_0, zi_0, zi_0, zi_0, zi_0, zi_0, zi_0, zi_0, zi_0, zi_0, zi_1, zi_2, zi_2, zi_69, zi_69, (0, 4), zi_69, zi_2, zi_197, (0, 3), zi_2, (0, 3), zi_2, zi_2, zi_2, zi_2, zi_2, zi_3, zi_2, zi_2, zi_2, zi_2, zi_2, zi_2, zi_2, zi_2, zi_2, zi_61, zi_61, zi_61, zi_61, zi_33, zi_33, zi_33, zi_33, zi_2, zi_2, zi_2, zi_2, zi_2, zi_1, (0, 3), zi_4, zi_5, zi_6, (0, 7), zi_7, (0, 8), zi_8, zi_3, zi_1, (0, 3), zi_4, zi_5, zi_6, (0, 7), zi_7, (0, 8), zi_8, zi_3, zi_1, (0, 3), zi_4, zi_5, zi_6, (0, 7), zi_7, (0, 8), zi_8, zi_3, zi_1, (0, 3), zi_4, zi_5, zi_6, (0, 7), zi_7, (0, 8), zi_8, zi_3, zi_1, (0, 3), zi_4, zi_5, zi_6, (0, 7), zi_7, (0, 8), zi_8, zi_3, (0, 1), (0, 1), (0, 1), zi_3], []), [(0, 107, 0)], [zcl288, zcl289, zcl290, zcl260, zcl37, zcl72, zcl291, zcl292, zcl263, zcl264, zcl265, zcl266, zcl293, zcl12, zcl12, zcl12, zcl13, zcl13, zcl14, zcl42, zcl42, zcl268, zcl49])])
noncomputable def zc155 : List zCt := [(5, (([(0, 0), zi_0, zi_0, zi_0, zi_0, zi_0, zi_0, zi_0, zi_0, zi_0, zi_0, zi_0, zi_0, zi_0, zi_1, zi_2, zi_2, zi_69, zi_69, (0, 4), zi_69, zi_2, zi_197, (0, 3), zi_2, (0, 3), zi_2, zi_2, zi_2, zi_2, zi_2, zi_3, zi_2, zi_2, zi_2, zi_2, zi_2, zi_2, zi_2, zi_2, zi_2, zi_61, zi_61, zi_61, zi_61, zi_33, zi_33, zi_33, zi_33, zi_2, zi_2, zi_2, zi_2, zi_2, zi_1, (0, 3), zi_4, zi_5, zi_6, (0, 7), zi_7, (0, 8), zi_8, zi_3, zi_1, (0, 3), zi_4, zi_5, zi_6, (0, 7), zi_7, (0, 8), zi_8, zi_3, zi_1, (0, 3), zi_4, zi_5, zi_6, (0, 7), zi_7, (0, 8), zi_8, zi_3, zi_1, (0, 3), zi_4, zi_5, zi_6, (0, 7), zi_7, (0, 8), zi_8, zi_3, zi_1, (0, 3), zi_4, zi_5, zi_6, (0, 7), zi_7, (0, 8), zi_8, zi_3, (0, 1), (0, 1), (0, 1), zi_3, (0, 7)], []), [(0, (2, 0, 0)), (1, (0, 14, 0)), (2, (0, 15, 0)), (3, (0, 107, 0)), (4, (0, 108, 0))], [], [zcl288, zcl289, zcl290, zcl260, zcl37, zcl72, zcl291, zcl292, zcl263, zcl264, zcl265, zcl266, zcl293, zcl12, zcl12, zcl12, zcl13, zcl13, zcl14, zcl42, zcl42, zcl268, zcl49], 0, 0), [(99995, 0), (7, 108)])]
noncomputable def zu155 : List (Nat × zCn) := []
set_option maxRecDepth 100000 in
theorem zk155 : z_conB zSPd zD (z_callC 14 zu155 (z_runC zSPd 14 zu155 zD zDF zTC 20000 1)) zDF zTC 20000 17179869184 2 0 0 0 5 zT184 zn155 none zc155 = true := by decide +kernel
/-- m.wornBy -/
noncomputable def zn156 : zCn := (((zjl_313, []), [(2, 0, 0), (0, 14, 0)], [zcl257, zcl258, zcl259, zcl260, zcl37, zcl72, zcl261, zcl262, zcl263, zcl264, zcl265, zcl266, zcl267, zcl12, zcl12, zcl12, zcl13, zcl13, zcl14, zcl42, zcl42, zcl268, zcl49]), [(([(0, 0), zi_0, zi_0, zi_0, zi_0, zi_0, zi_0, zi_0, zi_0, zi_0, zi_0, zi_0, zi_0, zi_0, zi_3, zi_2, zi_69, zi_69, (0, 4), zi_69, zi_2, zi_197, (0, 3), zi_2, (0, 3), zi_2, zi_2, zi_2, zi_2, zi_2, zi_3, zi_2, zi_2, zi_2, zi_2, zi_2, zi_2, zi_2, zi_2, zi_2, zi_61, zi_61, zi_61, zi_61, zi_33, zi_33, zi_33, zi_33, zi_2, zi_2, zi_2, zi_2, zi_2, zi_1, (0, 3), zi_4, zi_5, zi_6, (0, 7), zi_7, (0, 8), zi_8, zi_3, zi_1, (0, 3), zi_4, zi_5, zi_6, (0, 7), zi_7, (0, 8), zi_8, zi_3, zi_1, (0, 3), zi_4, zi_5, zi_6, (0, 7), zi_7, (0, 8), zi_8, zi_3, zi_1, (0, 3), zi_4, zi_5, zi_6, (0, 7), zi_7, (0, 8), zi_8, zi_3, zi_1, (0, 3), zi_4, zi_5, zi_6, (0, 7), zi_7, (0, 8), zi_8, zi_3, (0, 1), (0, 1), (0, 1), zi_2], []), [(0, 106, 0)], [zcl257, zcl258, zcl259, zcl260, zcl37, zcl72, zcl261, zcl262, zcl263, zcl264, zcl265, zcl266, zcl267, zcl12, zcl12, zcl12, zcl13, zcl13, zcl14, zcl42, zcl42, zcl268, zcl49])])
noncomputable def zc156 : List zCt := [(4, (([(0, 0), zi_0, zi_0, zi_0, zi_0, zi_0, zi_0, zi_0, zi_0, zi_0, zi_0, zi_0, zi_0, zi_0, zi_3, zi_2, zi_69, zi_69, (0, 4), zi_69, zi_2, zi_197, (0, 3), zi_2, (0, 3), zi_2, zi_2, zi_2, zi_2, zi_2, zi_3, zi_2, zi_2, zi_2, zi_2, zi_2, zi_2, zi_2, zi_2, zi_2, zi_61, zi_61, zi_61, zi_61, zi_33, zi_33, zi_33, zi_33, zi_2, zi_2, zi_2, zi_2, zi_2, zi_1, (0, 3), zi_4, zi_5, zi_6, (0, 7), zi_7, (0, 8), zi_8, zi_3, zi_1, (0, 3), zi_4, zi_5, zi_6, (0, 7), zi_7, (0, 8), zi_8, zi_3, zi_1, (0, 3), zi_4, zi_5, zi_6, (0, 7), zi_7, (0, 8), zi_8, zi_3, zi_1, (0, 3), zi_4, zi_5, zi_6, (0, 7), zi_7, (0, 8), zi_8, zi_3, zi_1, (0, 3), zi_4, zi_5, zi_6, (0, 7), zi_7, (0, 8), zi_8, zi_3, (0, 1), (0, 1), (0, 1), zi_2, zi_27], []), [(0, (2, 0, 0)), (1, (0, 14, 0)), (2, (0, 106, 0)), (3, (0, 107, 0))], [], [zcl257, zcl258, zcl259, zcl260, zcl37, zcl72, zcl261, zcl262, zcl263, zcl264, zcl265, zcl266, zcl267, zcl12, zcl12, zcl12, zcl13, zcl13, zcl14, zcl42, zcl42, zcl268, zcl49], 0, 0), [(99996, 0), (15, 107)])]
noncomputable def zu156 : List (Nat × zCn) := []
set_option maxRecDepth 100000 in
theorem zk156 : z_conB zSPd zD (z_callC 14 zu156 (z_runC zSPd 14 zu156 zD zDF zTC 20000 1)) zDF zTC 20000 17179869184 2 0 0 0 4 zT185 zn156 none zc156 = true := by decide +kernel
/-- m.getsAt -/
noncomputable def zn157 : zCn := (((zjl_282, []), [(2, 0, 0), (0, 14, 0)], [zcl257, zcl258, zcl259, zcl260, zcl37, zcl72, zcl261, zcl262, zcl263, zcl264, zcl265, zcl266, zcl267, zcl12, zcl12, zcl12, zcl13, zcl13, zcl14, zcl42, zcl42, zcl268, zcl49]), [(([(0, 0), zi_0, zi_0, zi_0, zi_0, zi_0, zi_0, zi_0, zi_0, zi_0, zi_0, zi_0, zi_0, zi_0, (0, 6), zi_2, zi_69, zi_69, (0, 4), zi_69, zi_2, zi_197, (0, 3), zi_2, (0, 3), zi_2, zi_2, zi_2, zi_2, zi_2, zi_3, zi_2, zi_2, zi_2, zi_2, zi_2, zi_2, zi_2, zi_2, zi_2, zi_61, zi_61, zi_61, zi_61, zi_33, zi_33, zi_33, zi_33, zi_2, zi_2, zi_2, zi_2, zi_2, zi_1, (0, 3), zi_4, zi_5, zi_6, (0, 7), zi_7, (0, 8), zi_8, zi_3, zi_1, (0, 3), zi_4, zi_5, zi_6, (0, 7), zi_7, (0, 8), zi_8, zi_3, zi_1, (0, 3), zi_4, zi_5, zi_6, (0, 7), zi_7, (0, 8), zi_8, zi_3, zi_1, (0, 3), zi_4, zi_5, zi_6, (0, 7), zi_7, (0, 8), zi_8, zi_3, zi_1, (0, 3), zi_4, zi_5, zi_6, (0, 7), zi_7, (0, 8), zi_8, zi_3, (0, 1), (0, 1), (0, 1), zi_54], []), [(0, 106, 0)], [zcl257, zcl258, zcl259, zcl260, zcl37, zcl72, zcl261, zcl262, zcl263, zcl264, zcl265, zcl266, zcl267, zcl12, zcl12, zcl12, zcl13, zcl13, zcl14, zcl42, zcl42, zcl268, zcl49])])
noncomputable def zc157 : List zCt := [(2, (([(0, 0), zi_0, zi_0, zi_0, zi_0, zi_0, zi_0, zi_0, zi_0, zi_0, zi_0, zi_0, zi_0, zi_0, (0, 6), zi_2, zi_69, zi_69, (0, 4), zi_69, zi_2, zi_197, (0, 3), zi_2, (0, 3), zi_2, zi_2, zi_2, zi_2, zi_2, zi_3, zi_2, zi_2, zi_2, zi_2, zi_2, zi_2, zi_2, zi_2, zi_2, zi_61, zi_61, zi_61, zi_61, zi_33, zi_33, zi_33, zi_33, zi_2, zi_2, zi_2, zi_2, zi_2, zi_1, (0, 3), zi_4, zi_5, zi_6, (0, 7), zi_7, (0, 8), zi_8, zi_3, zi_1, (0, 3), zi_4, zi_5, zi_6, (0, 7), zi_7, (0, 8), zi_8, zi_3, zi_1, (0, 3), zi_4, zi_5, zi_6, (0, 7), zi_7, (0, 8), zi_8, zi_3, zi_1, (0, 3), zi_4, zi_5, zi_6, (0, 7), zi_7, (0, 8), zi_8, zi_3, zi_1, (0, 3), zi_4, zi_5, zi_6, (0, 7), zi_7, (0, 8), zi_8, zi_3, (0, 1), (0, 1), (0, 1), zi_27], []), [(0, (2, 0, 0)), (1, (0, 14, 0)), (2, (0, 106, 0))], [], [zcl257, zcl258, zcl259, zcl260, zcl37, zcl72, zcl261, zcl262, zcl263, zcl264, zcl265, zcl266, zcl267, zcl12, zcl12, zcl12, zcl13, zcl13, zcl14, zcl42, zcl42, zcl268, zcl49], 0, 0), [(99998, 0), (15, 106)])]
noncomputable def zu157 : List (Nat × zCn) := []
set_option maxRecDepth 100000 in
theorem zk157 : z_conB zSPd zD (z_callC 14 zu157 (z_runC zSPd 14 zu157 zD zDF zTC 20000 1)) zDF zTC 20000 17179869184 2 0 0 0 3 zT186 zn157 none zc157 = true := by decide +kernel
/-- m.bluest -/
noncomputable def zn158 : zCn := (((zjl_282, []), [(2, 0, 0), (0, 14, 0)], [zcl257, zcl258, zcl259, zcl260, zcl37, zcl72, zcl261, zcl262, zcl263, zcl264, zcl265, zcl266, zcl267, zcl12, zcl12, zcl12, zcl13, zcl13, zcl14, zcl42, zcl42, zcl268, zcl49]), [(([(0, 0), zi_0, zi_0, zi_0, zi_0, zi_0, zi_0, zi_0, zi_0, zi_0, zi_0, zi_0, zi_0, zi_0, (0, 6), zi_2, zi_69, zi_69, (0, 4), zi_69, zi_2, zi_197, (0, 3), zi_2, (0, 3), zi_2, zi_2, zi_2, zi_2, zi_2, zi_3, zi_2, zi_2, zi_2, zi_2, zi_2, zi_2, zi_2, zi_2, zi_2, zi_61, zi_61, zi_61, zi_61, zi_33, zi_33, zi_33, zi_33, zi_2, zi_2, zi_2, zi_2, zi_2, zi_1, (0, 3), zi_4, zi_5, zi_6, (0, 7), zi_7, (0, 8), zi_8, zi_3, zi_1, (0, 3), zi_4, zi_5, zi_6, (0, 7), zi_7, (0, 8), zi_8, zi_3, zi_1, (0, 3), zi_4, zi_5, zi_6, (0, 7), zi_7, (0, 8), zi_8, zi_3, zi_1, (0, 3), zi_4, zi_5, zi_6, (0, 7), zi_7, (0, 8), zi_8, zi_3, zi_1, (0, 3), zi_4, zi_5, zi_6, (0, 7), zi_7, (0, 8), zi_8, zi_3, (0, 1), (0, 1), (0, 1), zi_56], []), [(0, 106, 0)], [zcl257, zcl258, zcl259, zcl260, zcl37, zcl72, zcl261, zcl262, zcl263, zcl264, zcl265, zcl266, zcl267, zcl12, zcl12, zcl12, zcl13, zcl13, zcl14, zcl42, zcl42, zcl268, zcl49])])
noncomputable def zc158 : List zCt := [(4, (([(0, 0), zi_0, zi_0, zi_0, zi_0, zi_0, zi_0, zi_0, zi_0, zi_0, zi_0, zi_0, zi_0, zi_0, (0, 6), zi_2, zi_69, zi_69, (0, 4), zi_69, zi_2, zi_197, (0, 3), zi_2, (0, 3), zi_2, zi_2, zi_2, zi_2, zi_2, zi_3, zi_2, zi_2, zi_2, zi_2, zi_2, zi_2, zi_2, zi_2, zi_2, zi_61, zi_61, zi_61, zi_61, zi_33, zi_33, zi_33, zi_33, zi_2, zi_2, zi_2, zi_2, zi_2, zi_1, (0, 3), zi_4, zi_5, zi_6, (0, 7), zi_7, (0, 8), zi_8, zi_3, zi_1, (0, 3), zi_4, zi_5, zi_6, (0, 7), zi_7, (0, 8), zi_8, zi_3, zi_1, (0, 3), zi_4, zi_5, zi_6, (0, 7), zi_7, (0, 8), zi_8, zi_3, zi_1, (0, 3), zi_4, zi_5, zi_6, (0, 7), zi_7, (0, 8), zi_8, zi_3, zi_1, (0, 3), zi_4, zi_5, zi_6, (0, 7), zi_7, (0, 8), zi_8, zi_3, (0, 1), (0, 1), (0, 1), zi_56, zi_27], []), [(0, (2, 0, 0)), (1, (0, 14, 0)), (2, (0, 106, 0)), (3, (0, 107, 0))], [], [zcl257, zcl258, zcl259, zcl260, zcl37, zcl72, zcl261, zcl262, zcl263, zcl264, zcl265, zcl266, zcl267, zcl12, zcl12, zcl12, zcl13, zcl13, zcl14, zcl42, zcl42, zcl268, zcl49], 0, 0), [(99996, 0), (15, 107)])]
noncomputable def zu158 : List (Nat × zCn) := []
set_option maxRecDepth 100000 in
theorem zk158 : z_conB zSPd zD (z_callC 14 zu158 (z_runC zSPd 14 zu158 zD zDF zTC 20000 1)) zDF zTC 20000 17179869184 2 0 0 0 4 zT187 zn158 none zc158 = true := by decide +kernel
/-- times0 -/
noncomputable def zn159 : zCn := (((zjl_314, []), [(0, 14, 0)], []), [((zjl_314, []), [(0, 0, 1)], [])])
noncomputable def zc159 : List zCt := []
noncomputable def zu159 : List (Nat × zCn) := []
set_option maxRecDepth 100000 in
theorem zk159 : z_conB zSPd zD (z_callC 14 zu159 (z_runC zSPd 14 zu159 zD zDF zTC 20000 0)) zDF zTC 20000 17179869184 2 0 0 0 1 zT188 zn159 none zc159 = true := by decide +kernel
/-- times1 -/
noncomputable def zn160 : zCn := (((zjl_315, []), [(0, 14, 0)], []), [((zjl_315, []), [(0, 0, 1)], [])])
noncomputable def zc160 : List zCt := []
noncomputable def zu160 : List (Nat × zCn) := []
set_option maxRecDepth 100000 in
theorem zk160 : z_conB zSPd zD (z_callC 14 zu160 (z_runC zSPd 14 zu160 zD zDF zTC 20000 0)) zDF zTC 20000 17179869184 2 0 0 0 1 zT188 zn160 none zc160 = true := by decide +kernel
/-- times2 -/
noncomputable def zn161 : zCn := ((([(0, 0), zi_0, zi_0, zi_0, zi_0, zi_0, zi_0, zi_0, zi_0, zi_0, zi_0, zi_0, zi_0, zi_0, zi_316], []), [(0, 14, 0)], []), [(([(0, 0), zi_0, zi_0, zi_0, zi_0, zi_0, zi_0, zi_0, zi_0, zi_0, zi_0, zi_0, zi_0, zi_0, zi_316, (1, 2)], []), [(0, 15, 0)], [])])
noncomputable def zc161 : List zCt := []
noncomputable def zu161 : List (Nat × zCn) := [(188, zn160)]
set_option maxRecDepth 100000 in
theorem zk161 : z_conB zSPd zD (z_callC 14 zu161 (z_runC zSPd 14 zu161 zD zDF zTC 20000 0)) zDF zTC 20000 17179869184 2 0 0 0 1 zT188 zn161 none zc161 = true := by decide +kernel
/-- times3 -/
noncomputable def zn162 : zCn := ((([(0, 0), zi_0, zi_0, zi_0, zi_0, zi_0, zi_0, zi_0, zi_0, zi_0, zi_0, zi_0, zi_0, zi_0, zi_317], []), [(0, 14, 0)], []), [(([(0, 0), zi_0, zi_0, zi_0, zi_0, zi_0, zi_0, zi_0, zi_0, zi_0, zi_0, zi_0, zi_0, zi_0, zi_317, (1, 6)], []), [(0, 15, 0)], [])])
noncomputable def zc162 : List zCt := []
noncomputable def zu162 : List (Nat × zCn) := [(188, zn161)]
set_option maxRecDepth 100000 in
theorem zk162 : z_conB zSPd zD (z_callC 14 zu162 (z_runC zSPd 14 zu162 zD zDF zTC 20000 0)) zDF zTC 20000 17179869184 2 0 0 0 1 zT188 zn162 none zc162 = true := by decide +kernel
/-- times4 -/
noncomputable def zn163 : zCn := ((([(0, 0), zi_0, zi_0, zi_0, zi_0, zi_0, zi_0, zi_0, zi_0, zi_0, zi_0, zi_0, zi_0, zi_0, zi_318], []), [(0, 14, 0)], []), [(([(0, 0), zi_0, zi_0, zi_0, zi_0, zi_0, zi_0, zi_0, zi_0, zi_0, zi_0, zi_0, zi_0, zi_0, zi_318, (1, 24)], []), [(0, 15, 0)], [])])
noncomputable def zc163 : List zCt := []
noncomputable def zu163 : List (Nat × zCn) := [(188, zn162)]
set_option maxRecDepth 100000 in
theorem zk163 : z_conB zSPd zD (z_callC 14 zu163 (z_runC zSPd 14 zu163 zD zDF zTC 20000 0)) zDF zTC 20000 17179869184 2 0 0 0 1 zT188 zn163 none zc163 = true := by decide +kernel
/-- times5 -/
noncomputable def zn164 : zCn := ((([(0, 0), zi_0, zi_0, zi_0, zi_0, zi_0, zi_0, zi_0, zi_0, zi_0, zi_0, zi_0, zi_0, zi_0, zi_319], []), [(0, 14, 0)], []), [(([(0, 0), zi_0, zi_0, zi_0, zi_0, zi_0, zi_0, zi_0, zi_0, zi_0, zi_0, zi_0, zi_0, zi_0, zi_319, (1, 120)], []), [(0, 15, 0)], [])])
noncomputable def zc164 : List zCt := []
noncomputable def zu164 : List (Nat × zCn) := [(188, zn163)]
set_option maxRecDepth 100000 in
theorem zk164 : z_conB zSPd zD (z_callC 14 zu164 (z_runC zSPd 14 zu164 zD zDF zTC 20000 0)) zDF zTC 20000 17179869184 2 0 0 0 1 zT188 zn164 none zc164 = true := by decide +kernel
/-- times6 -/
noncomputable def zn165 : zCn := ((([(0, 0), zi_0, zi_0, zi_0, zi_0, zi_0, zi_0, zi_0, zi_0, zi_0, zi_0, zi_0, zi_0, zi_0, zi_320], []), [(0, 14, 0)], []), [(([(0, 0), zi_0, zi_0, zi_0, zi_0, zi_0, zi_0, zi_0, zi_0, zi_0, zi_0, zi_0, zi_0, zi_0, zi_320, (1, 720)], []), [(0, 15, 0)], [])])
noncomputable def zc165 : List zCt := []
noncomputable def zu165 : List (Nat × zCn) := [(188, zn164)]
set_option maxRecDepth 100000 in
theorem zk165 : z_conB zSPd zD (z_callC 14 zu165 (z_runC zSPd 14 zu165 zD zDF zTC 20000 0)) zDF zTC 20000 17179869184 2 0 0 0 1 zT188 zn165 none zc165 = true := by decide +kernel
/-- times7 -/
noncomputable def zn166 : zCn := ((([(0, 0), zi_0, zi_0, zi_0, zi_0, zi_0, zi_0, zi_0, zi_0, zi_0, zi_0, zi_0, zi_0, zi_0, zi_321], []), [(0, 14, 0)], []), [(([(0, 0), zi_0, zi_0, zi_0, zi_0, zi_0, zi_0, zi_0, zi_0, zi_0, zi_0, zi_0, zi_0, zi_0, zi_321, (1, 5040)], []), [(0, 15, 0)], [])])
noncomputable def zc166 : List zCt := []
noncomputable def zu166 : List (Nat × zCn) := [(188, zn165)]
set_option maxRecDepth 100000 in
theorem zk166 : z_conB zSPd zD (z_callC 14 zu166 (z_runC zSPd 14 zu166 zD zDF zTC 20000 0)) zDF zTC 20000 17179869184 2 0 0 0 1 zT188 zn166 none zc166 = true := by decide +kernel
/-- times8 -/
noncomputable def zn167 : zCn := ((([(0, 0), zi_0, zi_0, zi_0, zi_0, zi_0, zi_0, zi_0, zi_0, zi_0, zi_0, zi_0, zi_0, zi_0, zi_322], []), [(0, 14, 0)], []), [(([(0, 0), zi_0, zi_0, zi_0, zi_0, zi_0, zi_0, zi_0, zi_0, zi_0, zi_0, zi_0, zi_0, zi_0, zi_322, (1, 40320)], []), [(0, 15, 0)], [])])
noncomputable def zc167 : List zCt := []
noncomputable def zu167 : List (Nat × zCn) := [(188, zn166)]
set_option maxRecDepth 100000 in
theorem zk167 : z_conB zSPd zD (z_callC 14 zu167 (z_runC zSPd 14 zu167 zD zDF zTC 20000 0)) zDF zTC 20000 17179869184 2 0 0 0 1 zT188 zn167 none zc167 = true := by decide +kernel
/-- pow10_0 -/
noncomputable def zn168 : zCn := (((zjl_323, []), [(1, 0, 10), (0, 0, 0)], []), [((zjl_323, []), [(1, 0, 1)], [])])
noncomputable def zc168 : List zCt := []
noncomputable def zu168 : List (Nat × zCn) := []
set_option maxRecDepth 100000 in
theorem zk168 : z_conB zSPd zD (z_callC 14 zu168 (z_runC zSPd 14 zu168 zD zDF zTC 20000 0)) zDF zTC 20000 17179869184 2 2 0 0 3 zT189 zn168 none zc168 = true := by decide +kernel
/-- pow10_1 -/
noncomputable def zn169 : zCn := (((zjl_324, []), [(1, 0, 10), (0, 14, 0)], []), [(([(0, 0), zi_0, zi_0, zi_0, zi_0, zi_0, zi_0, zi_0, zi_0, zi_0, zi_0, zi_0, zi_0, zi_0, (0, 1), zi_325], []), [(1, 15, 0)], [])])
noncomputable def zc169 : List zCt := []
noncomputable def zu169 : List (Nat × zCn) := [(189, zn168)]
set_option maxRecDepth 100000 in
theorem zk169 : z_conB zSPd zD (z_callC 14 zu169 (z_runC zSPd 14 zu169 zD zDF zTC 20000 0)) zDF zTC 20000 17179869184 2 2 0 0 3 zT189 zn169 none zc169 = true := by decide +kernel
/-- pow10_2 -/
noncomputable def zn170 : zCn := ((([(0, 0), zi_0, zi_0, zi_0, zi_0, zi_0, zi_0, zi_0, zi_0, zi_0, zi_0, zi_0, zi_0, zi_0, (0, 2)], []), [(1, 0, 10), (0, 14, 0)], []), [(([(0, 0), zi_0, zi_0, zi_0, zi_0, zi_0, zi_0, zi_0, zi_0, zi_0, zi_0, zi_0, zi_0, zi_0, (0, 2), zi_178], []), [(1, 15, 0)], [])])
noncomputable def zc170 : List zCt := []
noncomputable def zu170 : List (Nat × zCn) := [(189, zn169)]
set_option maxRecDepth 100000 in
theorem zk170 : z_conB zSPd zD (z_callC 14 zu170 (z_runC zSPd 14 zu170 zD zDF zTC 20000 0)) zDF zTC 20000 17179869184 2 2 0 0 3 zT189 zn170 none zc170 = true := by decide +kernel
/-- pow10_3 -/
noncomputable def zn171 : zCn := (((zjl_326, []), [(1, 0, 10), (0, 14, 0)], []), [(([(0, 0), zi_0, zi_0, zi_0, zi_0, zi_0, zi_0, zi_0, zi_0, zi_0, zi_0, zi_0, zi_0, zi_0, (0, 3), (1, 1000)], []), [(1, 15, 0)], [])])
noncomputable def zc171 : List zCt := []
noncomputable def zu171 : List (Nat × zCn) := [(189, zn170)]
set_option maxRecDepth 100000 in
theorem zk171 : z_conB zSPd zD (z_callC 14 zu171 (z_runC zSPd 14 zu171 zD zDF zTC 20000 0)) zDF zTC 20000 17179869184 2 2 0 0 3 zT189 zn171 none zc171 = true := by decide +kernel
/-- pow10_4 -/
noncomputable def zn172 : zCn := ((([(0, 0), zi_0, zi_0, zi_0, zi_0, zi_0, zi_0, zi_0, zi_0, zi_0, zi_0, zi_0, zi_0, zi_0, (0, 4)], []), [(1, 0, 10), (0, 14, 0)], []), [(([(0, 0), zi_0, zi_0, zi_0, zi_0, zi_0, zi_0, zi_0, zi_0, zi_0, zi_0, zi_0, zi_0, zi_0, (0, 4), (1, 10000)], []), [(1, 15, 0)], [])])
noncomputable def zc172 : List zCt := []
noncomputable def zu172 : List (Nat × zCn) := [(189, zn171)]
set_option maxRecDepth 100000 in
theorem zk172 : z_conB zSPd zD (z_callC 14 zu172 (z_runC zSPd 14 zu172 zD zDF zTC 20000 0)) zDF zTC 20000 17179869184 2 2 0 0 3 zT189 zn172 none zc172 = true := by decide +kernel
/-- pow10_5 -/
noncomputable def zn173 : zCn := ((([(0, 0), zi_0, zi_0, zi_0, zi_0, zi_0, zi_0, zi_0, zi_0, zi_0, zi_0, zi_0, zi_0, zi_0, (0, 5)], []), [(1, 0, 10), (0, 14, 0)], []), [(([(0, 0), zi_0, zi_0, zi_0, zi_0, zi_0, zi_0, zi_0, zi_0, zi_0, zi_0, zi_0, zi_0, zi_0, (0, 5), (1, 100000)], []), [(1, 15, 0)], [])])
noncomputable def zc173 : List zCt := []
noncomputable def zu173 : List (Nat × zCn) := [(189, zn172)]
set_option maxRecDepth 100000 in
theorem zk173 : z_conB zSPd zD (z_callC 14 zu173 (z_runC zSPd 14 zu173 zD zDF zTC 20000 0)) zDF zTC 20000 17179869184 2 2 0 0 3 zT189 zn173 none zc173 = true := by decide +kernel
/-- pow10_6 -/
noncomputable def zn174 : zCn := ((([(0, 0), zi_0, zi_0, zi_0, zi_0, zi_0, zi_0, zi_0, zi_0, zi_0, zi_0, zi_0, zi_0, zi_0, (0, 6)], []), [(1, 0, 10), (0, 14, 0)], []), [(([(0, 0), zi_0, zi_0, zi_0, zi_0, zi_0, zi_0, zi_0, zi_0, zi_0, zi_0, zi_0, zi_0, zi_0, (0, 6), (1, 1000000)], []), [(1, 15, 0)], [])])
noncomputable def zc174 : List zCt := []
noncomputable def zu174 : List (Nat × zCn) := [(189, zn173)]
set_option maxRecDepth 100000 in
theorem zk174 : z_conB zSPd zD (z_callC 14 zu174 (z_runC zSPd 14 zu174 zD zDF zTC 20000 0)) zDF zTC 20000 17179869184 2 2 0 0 3 zT189 zn174 none zc174 = true := by decide +kernel
/-- pow10_7 -/
noncomputable def zn175 : zCn := (((zjl_327, []), [(1, 0, 10), (0, 14, 0)], []), [(([(0, 0), zi_0, zi_0, zi_0, zi_0, zi_0, zi_0, zi_0, zi_0, zi_0, zi_0, zi_0, zi_0, zi_0, (0, 7), (1, 10000000)], []), [(1, 15, 0)], [])])
noncomputable def zc175 : List zCt := []
noncomputable def zu175 : List (Nat × zCn) := [(189, zn174)]
set_option maxRecDepth 100000 in
theorem zk175 : z_conB zSPd zD (z_callC 14 zu175 (z_runC zSPd 14 zu175 zD zDF zTC 20000 0)) zDF zTC 20000 17179869184 2 2 0 0 3 zT189 zn175 none zc175 = true := by decide +kernel
/-- pow10_8 -/
noncomputable def zn176 : zCn := ((([(0, 0), zi_0, zi_0, zi_0, zi_0, zi_0, zi_0, zi_0, zi_0, zi_0, zi_0, zi_0, zi_0, zi_0, (0, 8)], []), [(1, 0, 10), (0, 14, 0)], []), [(([(0, 0), zi_0, zi_0, zi_0, zi_0, zi_0, zi_0, zi_0, zi_0, zi_0, zi_0, zi_0, zi_0, zi_0, (0, 8), zi_328], []), [(1, 15, 0)], [])])
noncomputable def zc176 : List zCt := []
noncomputable def zu176 : List (Nat × zCn) := [(189, zn175)]
set_option maxRecDepth 100000 in
theorem zk176 : z_conB zSPd zD (z_callC 14 zu176 (z_runC zSPd 14 zu176 zD zDF zTC 20000 0)) zDF zTC 20000 17179869184 2 2 0 0 3 zT189 zn176 none zc176 = true := by decide +kernel
/-- pow_0 -/
noncomputable def zn177 : zCn := (((zjl_329, []), [(1, 14, 0), (0, 0, 0)], []), [((zjl_329, []), [(1, 0, 1)], [])])
noncomputable def zc177 : List zCt := []
noncomputable def zu177 : List (Nat × zCn) := []
set_option maxRecDepth 100000 in
theorem zk177 : z_conB zSPd zD (z_callC 14 zu177 (z_runC zSPd 14 zu177 zD zDF zTC 20000 0)) zDF zTC 20000 17179869184 2 2 0 0 3 zT189 zn177 none zc177 = true := by decide +kernel
/-- pow_1 -/
noncomputable def zn178 : zCn := ((([(0, 0), zi_0, zi_0, zi_0, zi_0, zi_0, zi_0, zi_0, zi_0, zi_0, zi_0, zi_0, zi_0, zi_0, zi_197, (0, 1)], []), [(1, 14, 0), (0, 15, 0)], []), [(([(0, 0), zi_0, zi_0, zi_0, zi_0, zi_0, zi_0, zi_0, zi_0, zi_0, zi_0, zi_0, zi_0, zi_0, zi_197, (0, 1), zi_197], []), [(1, 16, 0)], [])])
noncomputable def zc178 : List zCt := []
noncomputable def zu178 : List (Nat × zCn) := [(189, zn177)]
set_option maxRecDepth 100000 in
theorem zk178 : z_conB zSPd zD (z_callC 14 zu178 (z_runC zSPd 14 zu178 zD zDF zTC 20000 0)) zDF zTC 20000 17179869184 2 2 0 0 3 zT189 zn178 none zc178 = true := by decide +kernel
/-- pow_2 -/
noncomputable def zn179 : zCn := ((([(0, 0), zi_0, zi_0, zi_0, zi_0, zi_0, zi_0, zi_0, zi_0, zi_0, zi_0, zi_0, zi_0, zi_0, zi_197, (0, 2)], []), [(1, 14, 0), (0, 15, 0)], []), [(([(0, 0), zi_0, zi_0, zi_0, zi_0, zi_0, zi_0, zi_0, zi_0, zi_0, zi_0, zi_0, zi_0, zi_0, zi_197, (0, 2), zi_197], []), [(1, 16, 0)], [])])
noncomputable def zc179 : List zCt := []
noncomputable def zu179 : List (Nat × zCn) := [(189, zn178)]
set_option maxRecDepth 100000 in
theorem zk179 : z_conB zSPd zD (z_callC 14 zu179 (z_runC zSPd 14 zu179 zD zDF zTC 20000 0)) zDF zTC 20000 17179869184 2 2 0 0 3 zT189 zn179 none zc179 = true := by decide +kernel
/-- pow_3 -/
noncomputable def zn180 : zCn := ((([(0, 0), zi_0, zi_0, zi_0, zi_0, zi_0, zi_0, zi_0, zi_0, zi_0, zi_0, zi_0, zi_0, zi_0, zi_197, (0, 3)], []), [(1, 14, 0), (0, 15, 0)], []), [(([(0, 0), zi_0, zi_0, zi_0, zi_0, zi_0, zi_0, zi_0, zi_0, zi_0, zi_0, zi_0, zi_0, zi_0, zi_197, (0, 3), zi_197], []), [(1, 16, 0)], [])])
noncomputable def zc180 : List zCt := []
noncomputable def zu180 : List (Nat × zCn) := [(189, zn179)]
set_option maxRecDepth 100000 in
theorem zk180 : z_conB zSPd zD (z_callC 14 zu180 (z_runC zSPd 14 zu180 zD zDF zTC 20000 0)) zDF zTC 20000 17179869184 2 2 0 0 3 zT189 zn180 none zc180 = true := by decide +kernel
/-- pow_4 -/
noncomputable def zn181 : zCn := ((([(0, 0), zi_0, zi_0, zi_0, zi_0, zi_0, zi_0, zi_0, zi_0, zi_0, zi_0, zi_0, zi_0, zi_0, zi_197, (0, 4)], []), [(1, 14, 0), (0, 15, 0)], []), [(([(0, 0), zi_0, zi_0, zi_0, zi_0, zi_0, zi_0, zi_0, zi_0, zi_0, zi_0, zi_0, zi_0, zi_0, zi_197, (0, 4), zi_197], []), [(1, 16, 0)], [])])
noncomputable def zc181 : List zCt := []
noncomputable def zu181 : List (Nat × zCn) := [(189, zn180)]
set_option maxRecDepth 100000 in
theorem zk181 : z_conB zSPd zD (z_callC 14 zu181 (z_runC zSPd 14 zu181 zD zDF zTC 20000 0)) zDF zTC 20000 17179869184 2 2 0 0 3 zT189 zn181 none zc181 = true := by decide +kernel
/-- pow_5 -/
noncomputable def zn182 : zCn := ((([(0, 0), zi_0, zi_0, zi_0, zi_0, zi_0, zi_0, zi_0, zi_0, zi_0, zi_0, zi_0, zi_0, zi_0, zi_197, (0, 5)], []), [(1, 14, 0), (0, 15, 0)], []), [(([(0, 0), zi_0, zi_0, zi_0, zi_0, zi_0, zi_0, zi_0, zi_0, zi_0, zi_0, zi_0, zi_0, zi_0, zi_197, (0, 5), zi_197], []), [(1, 16, 0)], [])])
noncomputable def zc182 : List zCt := []
noncomputable def zu182 : List (Nat × zCn) := [(189, zn181)]
set_option maxRecDepth 100000 in
theorem zk182 : z_conB zSPd zD (z_callC 14 zu182 (z_runC zSPd 14 zu182 zD zDF zTC 20000 0)) zDF zTC 20000 17179869184 2 2 0 0 3 zT189 zn182 none zc182 = true := by decide +kernel
/-- pow_6 -/
noncomputable def zn183 : zCn := ((([(0, 0), zi_0, zi_0, zi_0, zi_0, zi_0, zi_0, zi_0, zi_0, zi_0, zi_0, zi_0, zi_0, zi_0, zi_197, (0, 6)], []), [(1, 14, 0), (0, 15, 0)], []), [(([(0, 0), zi_0, zi_0, zi_0, zi_0, zi_0, zi_0, zi_0, zi_0, zi_0, zi_0, zi_0, zi_0, zi_0, zi_197, (0, 6), zi_197], []), [(1, 16, 0)], [])])
noncomputable def zc183 : List zCt := []
noncomputable def zu183 : List (Nat × zCn) := [(189, zn182)]
set_option maxRecDepth 100000 in
theorem zk183 : z_conB zSPd zD (z_callC 14 zu183 (z_runC zSPd 14 zu183 zD zDF zTC 20000 0)) zDF zTC 20000 17179869184 2 2 0 0 3 zT189 zn183 none zc183 = true := by decide +kernel
/-- pow_7 -/
noncomputable def zn184 : zCn := ((([(0, 0), zi_0, zi_0, zi_0, zi_0, zi_0, zi_0, zi_0, zi_0, zi_0, zi_0, zi_0, zi_0, zi_0, zi_197, (0, 7)], []), [(1, 14, 0), (0, 15, 0)], []), [(([(0, 0), zi_0, zi_0, zi_0, zi_0, zi_0, zi_0, zi_0, zi_0, zi_0, zi_0, zi_0, zi_0, zi_0, zi_197, (0, 7), zi_197], []), [(1, 16, 0)], [])])
noncomputable def zc184 : List zCt := []
noncomputable def zu184 : List (Nat × zCn) := [(189, zn183)]
set_option maxRecDepth 100000 in
theorem zk184 : z_conB zSPd zD (z_callC 14 zu184 (z_runC zSPd 14 zu184 zD zDF zTC 20000 0)) zDF zTC 20000 17179869184 2 2 0 0 3 zT189 zn184 none zc184 = true := by decide +kernel
/-- pow_8 -/
noncomputable def zn185 : zCn := ((([(0, 0), zi_0, zi_0, zi_0, zi_0, zi_0, zi_0, zi_0, zi_0, zi_0, zi_0, zi_0, zi_0, zi_0, zi_197, (0, 8)], []), [(1, 14, 0), (0, 15, 0)], []), [(([(0, 0), zi_0, zi_0, zi_0, zi_0, zi_0, zi_0, zi_0, zi_0, zi_0, zi_0, zi_0, zi_0, zi_0, zi_197, (0, 8), zi_197], []), [(1, 16, 0)], [])])
noncomputable def zc185 : List zCt := []
noncomputable def zu185 : List (Nat × zCn) := [(189, zn184)]
set_option maxRecDepth 100000 in
theorem zk185 : z_conB zSPd zD (z_callC 14 zu185 (z_runC zSPd 14 zu185 zD zDF zTC 20000 0)) zDF zTC 20000 17179869184 2 2 0 0 3 zT189 zn185 none zc185 = true := by decide +kernel
/-- sizeOf1 -/
noncomputable def zn186 : zCn := (((zjl_324, []), [(0, 14, 0)], []), [(([(0, 0), zi_0, zi_0, zi_0, zi_0, zi_0, zi_0, zi_0, zi_0, zi_0, zi_0, zi_0, zi_0, zi_0, (0, 1), (0, 1)], []), [(0, 15, 0)], [])])
noncomputable def zc186 : List zCt := []
noncomputable def zu186 : List (Nat × zCn) := []
set_option maxRecDepth 100000 in
theorem zk186 : z_conB zSPd zD (z_callC 14 zu186 (z_runC zSPd 14 zu186 zD zDF zTC 20000 0)) zDF zTC 20000 17179869184 2 0 0 0 3 zT190 zn186 (some (14, [(0, 0), (1, 1)])) zc186 = true := by decide +kernel
/-- sizeOf2 -/
noncomputable def zn187 : zCn := (((zjl_326, []), [(0, 14, 0)], []), [(([(0, 0), zi_0, zi_0, zi_0, zi_0, zi_0, zi_0, zi_0, zi_0, zi_0, zi_0, zi_0, zi_0, zi_0, (0, 3), (0, 2)], []), [(0, 15, 0)], [])])
noncomputable def zc187 : List zCt := []
noncomputable def zu187 : List (Nat × zCn) := []
set_option maxRecDepth 100000 in
theorem zk187 : z_conB zSPd zD (z_callC 14 zu187 (z_runC zSPd 14 zu187 zD zDF zTC 20000 0)) zDF zTC 20000 17179869184 2 0 0 0 3 zT190 zn187 (some (14, [(0, 0), (1, 1), (2, 2), (3, 3)])) zc187 = true := by decide +kernel
/-- sizeOf3 -/
noncomputable def zn188 : zCn := (((zjl_327, []), [(0, 14, 0)], []), [(([(0, 0), zi_0, zi_0, zi_0, zi_0, zi_0, zi_0, zi_0, zi_0, zi_0, zi_0, zi_0, zi_0, zi_0, (0, 7), (0, 3)], []), [(0, 15, 0)], [])])
noncomputable def zc188 : List zCt := []
noncomputable def zu188 : List (Nat × zCn) := []
set_option maxRecDepth 100000 in
theorem zk188 : z_conB zSPd zD (z_callC 14 zu188 (z_runC zSPd 14 zu188 zD zDF zTC 20000 0)) zDF zTC 20000 17179869184 2 0 0 0 3 zT190 zn188 (some (14, [(0, 0), (1, 1), (2, 2), (3, 3), (4, 4), (5, 5), (6, 6), (7, 7)])) zc188 = true := by decide +kernel
