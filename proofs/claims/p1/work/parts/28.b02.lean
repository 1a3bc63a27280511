/-! ===== the methods: code, links and words; by program ===== -/
set_option maxRecDepth 100000 in
theorem zb_72 : (List.range' 72 12).all zBB = true := by decide +kernel
set_option maxRecDepth 100000 in
theorem zb_84 : (List.range' 84 12).all zBB = true := by decide +kernel
set_option maxRecDepth 100000 in
theorem zb_96 : (List.range' 96 12).all zBB = true := by decide +kernel
set_option maxRecDepth 100000 in
theorem zb_108 : (List.range' 108 12).all zBB = true := by decide +kernel
set_option maxRecDepth 100000 in
theorem zb_120 : (List.range' 120 12).all zBB = true := by decide +kernel
set_option maxRecDepth 100000 in
theorem zb_132 : (List.range' 132 12).all zBB = true := by decide +kernel
