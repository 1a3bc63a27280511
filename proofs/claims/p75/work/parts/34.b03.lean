/-! ===== the methods: code, links and words; by program ===== -/
set_option maxRecDepth 100000 in
theorem zb_216 : (List.range' 216 8).all zBC = true := by decide +kernel
set_option maxRecDepth 100000 in
theorem zb_224 : (List.range' 224 8).all zBC = true := by decide +kernel
set_option maxRecDepth 100000 in
theorem zb_232 : (List.range' 232 8).all zBC = true := by decide +kernel
set_option maxRecDepth 100000 in
theorem zb_240 : (List.range' 240 8).all zBC = true := by decide +kernel
set_option maxRecDepth 100000 in
theorem zb_248 : (List.range' 248 8).all zBC = true := by decide +kernel
set_option maxRecDepth 100000 in
theorem zb_256 : (List.range' 256 8).all zBC = true := by decide +kernel
set_option maxRecDepth 100000 in
theorem zb_264 : (List.range' 264 8).all zBC = true := by decide +kernel
set_option maxRecDepth 100000 in
theorem zb_272 : (List.range' 272 8).all zBC = true := by decide +kernel
set_option maxRecDepth 100000 in
theorem zb_280 : (List.range' 280 8).all zBC = true := by decide +kernel
