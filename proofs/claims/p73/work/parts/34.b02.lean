/-! ===== the methods: code, links and words; by program ===== -/
set_option maxRecDepth 100000 in
theorem zb_108 : (List.range' 108 6).all zBB = true := by decide +kernel
set_option maxRecDepth 100000 in
theorem zb_114 : (List.range' 114 6).all zBB = true := by decide +kernel
set_option maxRecDepth 100000 in
theorem zb_120 : (List.range' 120 6).all zBB = true := by decide +kernel
set_option maxRecDepth 100000 in
theorem zb_126 : (List.range' 126 6).all zBB = true := by decide +kernel
set_option maxRecDepth 100000 in
theorem zb_132 : (List.range' 132 6).all zBB = true := by decide +kernel
set_option maxRecDepth 100000 in
theorem zb_138 : (List.range' 138 6).all zBB = true := by decide +kernel
set_option maxRecDepth 100000 in
theorem zb_144 : (List.range' 144 6).all zBB = true := by decide +kernel
set_option maxRecDepth 100000 in
theorem zb_150 : (List.range' 150 6).all zBB = true := by decide +kernel
set_option maxRecDepth 100000 in
theorem zb_156 : (List.range' 156 6).all zBB = true := by decide +kernel
