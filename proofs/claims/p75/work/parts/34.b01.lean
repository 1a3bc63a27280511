/-! ===== the methods: code, links and words; by program ===== -/
set_option maxRecDepth 100000 in
theorem zb_72 : (List.range' 72 8).all zBC = true := by decide +kernel
set_option maxRecDepth 100000 in
theorem zb_80 : (List.range' 80 8).all zBC = true := by decide +kernel
set_option maxRecDepth 100000 in
theorem zb_88 : (List.range' 88 8).all zBC = true := by decide +kernel
set_option maxRecDepth 100000 in
theorem zb_96 : (List.range' 96 8).all zBC = true := by decide +kernel
set_option maxRecDepth 100000 in
theorem zb_104 : (List.range' 104 8).all zBC = true := by decide +kernel
set_option maxRecDepth 100000 in
theorem zb_112 : (List.range' 112 8).all zBC = true := by decide +kernel
set_option maxRecDepth 100000 in
theorem zb_120 : (List.range' 120 8).all zBC = true := by decide +kernel
set_option maxRecDepth 100000 in
theorem zb_128 : (List.range' 128 8).all zBC = true := by decide +kernel
set_option maxRecDepth 100000 in
theorem zb_136 : (List.range' 136 8).all zBC = true := by decide +kernel
