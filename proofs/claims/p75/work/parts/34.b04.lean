/-! ===== the methods: code, links and words; by program ===== -/
set_option maxRecDepth 100000 in
theorem zb_288 : (List.range' 288 8).all zBC = true := by decide +kernel
set_option maxRecDepth 100000 in
theorem zb_296 : (List.range' 296 8).all zBC = true := by decide +kernel
set_option maxRecDepth 100000 in
theorem zb_304 : (List.range' 304 8).all zBC = true := by decide +kernel
set_option maxRecDepth 100000 in
theorem zb_312 : (List.range' 312 8).all zBC = true := by decide +kernel
set_option maxRecDepth 100000 in
theorem zb_320 : (List.range' 320 7).all zBC = true := by decide +kernel
