/-! ===== the methods: code, links and words; by program ===== -/
set_option maxRecDepth 100000 in
theorem zb_0 : (List.range' 0 12).all zBB = true := by decide +kernel
set_option maxRecDepth 100000 in
theorem zb_12 : (List.range' 12 12).all zBB = true := by decide +kernel
set_option maxRecDepth 100000 in
theorem zb_24 : (List.range' 24 12).all zBB = true := by decide +kernel
set_option maxRecDepth 100000 in
theorem zb_36 : (List.range' 36 12).all zBB = true := by decide +kernel
set_option maxRecDepth 100000 in
theorem zb_48 : (List.range' 48 12).all zBB = true := by decide +kernel
set_option maxRecDepth 100000 in
theorem zb_60 : (List.range' 60 12).all zBB = true := by decide +kernel
