/-! ===== the methods: code, links and words; by program ===== -/
set_option maxRecDepth 100000 in
theorem zb_216 : (List.range' 216 6).all zBB = true := by decide +kernel
set_option maxRecDepth 100000 in
theorem zb_222 : (List.range' 222 6).all zBB = true := by decide +kernel
set_option maxRecDepth 100000 in
theorem zb_228 : (List.range' 228 6).all zBB = true := by decide +kernel
set_option maxRecDepth 100000 in
theorem zb_234 : (List.range' 234 6).all zBB = true := by decide +kernel
set_option maxRecDepth 100000 in
theorem zb_240 : (List.range' 240 6).all zBB = true := by decide +kernel
set_option maxRecDepth 100000 in
theorem zb_246 : (List.range' 246 6).all zBB = true := by decide +kernel
set_option maxRecDepth 100000 in
theorem zb_252 : (List.range' 252 6).all zBB = true := by decide +kernel
set_option maxRecDepth 100000 in
theorem zb_258 : (List.range' 258 6).all zBB = true := by decide +kernel
set_option maxRecDepth 100000 in
theorem zb_264 : (List.range' 264 6).all zBB = true := by decide +kernel
