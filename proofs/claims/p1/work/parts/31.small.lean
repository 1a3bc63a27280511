/-! ===== scripts too short for a call ===== -/
set_option maxRecDepth 100000 in
theorem zs_0 : zLw 0 [(0, zS0 0)] = true := by decide +kernel
set_option maxRecDepth 100000 in
theorem zs_1 : zLw 1 [(0, zS0 1)] = true := by decide +kernel
set_option maxRecDepth 100000 in
theorem zs_2 : zLw 2 [(0, zS0 2)] = true := by decide +kernel
set_option maxRecDepth 100000 in
theorem zs_3 : zLw 3 [(0, zS0 3)] = true := by decide +kernel
set_option maxRecDepth 100000 in
theorem zs_4 : zLw 4 [(0, zS0 4)] = true := by decide +kernel
set_option maxRecDepth 100000 in
theorem zs_5 : zLw 5 [(0, zS0 5)] = true := by decide +kernel
