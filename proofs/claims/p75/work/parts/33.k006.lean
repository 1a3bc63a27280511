/-! ===== contracts and their cuts, by program ===== -/
/-- sizeOf4 -/
noncomputable def zn189 : zCn := ((([(0, 0), zi_0, zi_0, zi_0, zi_0, zi_0, zi_0, zi_0, zi_0, zi_0, zi_0, zi_0, zi_0, zi_0, zi_27], []), [(0, 14, 0)], []), [(([(0, 0), zi_0, zi_0, zi_0, zi_0, zi_0, zi_0, zi_0, zi_0, zi_0, zi_0, zi_0, zi_0, zi_0, zi_27, (0, 4)], []), [(0, 15, 0)], [])])
noncomputable def zc189 : List zCt := []
noncomputable def zu189 : List (Nat × zCn) := []
set_option maxRecDepth 100000 in
theorem zk189 : z_conB zSPd zD (z_callC 14 zu189 (z_runC zSPd 14 zu189 zD zDF zTC 20000 0)) zDF zTC 20000 17179869184 2 0 0 0 3 zT190 zn189 (some (14, [(0, 0), (1, 1), (2, 2), (3, 3), (4, 4), (5, 5), (6, 6), (7, 7), (8, 8), (9, 9), zi_329, zi_330, zi_331, zi_332, zi_333, zi_334])) zc189 = true := by decide +kernel
/-- sizeOf5 -/
noncomputable def zn190 : zCn := ((([(0, 0), zi_0, zi_0, zi_0, zi_0, zi_0, zi_0, zi_0, zi_0, zi_0, zi_0, zi_0, zi_0, zi_0, zi_335], []), [(0, 14, 0)], []), [(([(0, 0), zi_0, zi_0, zi_0, zi_0, zi_0, zi_0, zi_0, zi_0, zi_0, zi_0, zi_0, zi_0, zi_0, zi_335, (0, 5)], []), [(0, 15, 0)], [])])
noncomputable def zc190 : List zCt := []
noncomputable def zu190 : List (Nat × zCn) := []
set_option maxRecDepth 100000 in
theorem zk190 : z_conB zSPd zD (z_callC 14 zu190 (z_runC zSPd 14 zu190 zD zDF zTC 20000 0)) zDF zTC 20000 17179869184 2 0 0 0 3 zT190 zn190 (some (14, [(0, 0), (1, 1), (2, 2), (3, 3), (4, 4), (5, 5), (6, 6), (7, 7), (8, 8), (9, 9), zi_329, zi_330, zi_331, zi_332, zi_333, zi_334, zi_336, zi_337, zi_338, zi_339, zi_340, zi_341, zi_342, zi_343, zi_344, zi_345, zi_346, zi_347, zi_348, zi_349, zi_350, zi_351])) zc190 = true := by decide +kernel
/-- sizeOf6 -/
noncomputable def zn191 : zCn := ((([(0, 0), zi_0, zi_0, zi_0, zi_0, zi_0, zi_0, zi_0, zi_0, zi_0, zi_0, zi_0, zi_0, zi_0, zi_38], []), [(0, 14, 0)], []), [(([(0, 0), zi_0, zi_0, zi_0, zi_0, zi_0, zi_0, zi_0, zi_0, zi_0, zi_0, zi_0, zi_0, zi_0, zi_38, (0, 6)], []), [(0, 15, 0)], [])])
noncomputable def zc191 : List zCt := []
noncomputable def zu191 : List (Nat × zCn) := []
set_option maxRecDepth 100000 in
theorem zk191 : z_conB zSPd zD (z_callC 14 zu191 (z_runC zSPd 14 zu191 zD zDF zTC 20000 0)) zDF zTC 20000 17179869184 2 0 0 0 3 zT190 zn191 (some (14, [(0, 0), (1, 1), (2, 2), (3, 3), (4, 4), (5, 5), (6, 6), (7, 7), (8, 8), (9, 9), zi_329, zi_330, zi_331, zi_332, zi_333, zi_334, zi_336, zi_337, zi_338, zi_339, zi_340, zi_341, zi_342, zi_343, zi_344, zi_345, zi_346, zi_347, zi_348, zi_349, zi_350, zi_351, zi_352, zi_353, zi_354, zi_355, zi_356, zi_357, zi_358, zi_359, zi_360, zi_361, zi_362, zi_363, zi_364, zi_365, zi_366, zi_367, zi_368, zi_369, zi_370, zi_371, zi_372, zi_373, zi_374, zi_375, zi_376, zi_377, zi_378, zi_379, zi_380, zi_381, zi_382, zi_383])) zc191 = true := by decide +kernel
