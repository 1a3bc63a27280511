/-! ===== the methods: code, links and words; by program ===== -/
set_option maxRecDepth 100000 in
theorem zb_144 : (List.range' 144 12).all zBB = true := by decide +kernel
set_option maxRecDepth 100000 in
theorem zb_156 : (List.range' 156 12).all zBB = true := by decide +kernel
set_option maxRecDepth 100000 in
theorem zb_168 : (List.range' 168 12).all zBB = true := by decide +kernel
set_option maxRecDepth 100000 in
theorem zb_180 : (List.range' 180 12).all zBB = true := by decide +kernel
set_option maxRecDepth 100000 in
theorem zb_192 : (List.range' 192 12).all zBB = true := by decide +kernel
