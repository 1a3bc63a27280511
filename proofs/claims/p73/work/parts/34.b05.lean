/-! ===== the methods: code, links and words; by program ===== -/
set_option maxRecDepth 100000 in
theorem zb_270 : (List.range' 270 6).all zBB = true := by decide +kernel
set_option maxRecDepth 100000 in
theorem zb_276 : (List.range' 276 6).all zBB = true := by decide +kernel
set_option maxRecDepth 100000 in
theorem zb_282 : (List.range' 282 6).all zBB = true := by decide +kernel
set_option maxRecDepth 100000 in
theorem zb_288 : (List.range' 288 6).all zBB = true := by decide +kernel
set_option maxRecDepth 100000 in
theorem zb_294 : (List.range' 294 6).all zBB = true := by decide +kernel
set_option maxRecDepth 100000 in
theorem zb_300 : (List.range' 300 6).all zBB = true := by decide +kernel
set_option maxRecDepth 100000 in
theorem zb_306 : (List.range' 306 6).all zBB = true := by decide +kernel
set_option maxRecDepth 100000 in
theorem zb_312 : (List.range' 312 6).all zBB = true := by decide +kernel
set_option maxRecDepth 100000 in
theorem zb_318 : (List.range' 318 6).all zBB = true := by decide +kernel
