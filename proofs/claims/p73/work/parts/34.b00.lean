/-! ===== the methods: code, links and words; by program ===== -/
set_option maxRecDepth 100000 in
theorem zb_0 : (List.range' 0 6).all zBB = true := by decide +kernel
set_option maxRecDepth 100000 in
theorem zb_6 : (List.range' 6 6).all zBB = true := by decide +kernel
set_option maxRecDepth 100000 in
theorem zb_12 : (List.range' 12 6).all zBB = true := by decide +kernel
set_option maxRecDepth 100000 in
theorem zb_18 : (List.range' 18 6).all zBB = true := by decide +kernel
set_option maxRecDepth 100000 in
theorem zb_24 : (List.range' 24 6).all zBB = true := by decide +kernel
set_option maxRecDepth 100000 in
theorem zb_30 : (List.range' 30 6).all zBB = true := by decide +kernel
set_option maxRecDepth 100000 in
theorem zb_36 : (List.range' 36 6).all zBB = true := by decide +kernel
set_option maxRecDepth 100000 in
theorem zb_42 : (List.range' 42 6).all zBB = true := by decide +kernel
set_option maxRecDepth 100000 in
theorem zb_48 : (List.range' 48 6).all zBB = true := by decide +kernel
