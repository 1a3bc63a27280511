/-! ===== the methods: code, links and words; by program ===== -/
set_option maxRecDepth 100000 in
theorem zb_0 : (List.range' 0 8).all zBC = true := by decide +kernel
set_option maxRecDepth 100000 in
theorem zb_8 : (List.range' 8 8).all zBC = true := by decide +kernel
set_option maxRecDepth 100000 in
theorem zb_16 : (List.range' 16 8).all zBC = true := by decide +kernel
set_option maxRecDepth 100000 in
theorem zb_24 : (List.range' 24 8).all zBC = true := by decide +kernel
set_option maxRecDepth 100000 in
theorem zb_32 : (List.range' 32 8).all zBC = true := by decide +kernel
set_option maxRecDepth 100000 in
theorem zb_40 : (List.range' 40 8).all zBC = true := by decide +kernel
set_option maxRecDepth 100000 in
theorem zb_48 : (List.range' 48 8).all zBC = true := by decide +kernel
set_option maxRecDepth 100000 in
theorem zb_56 : (List.range' 56 8).all zBC = true := by decide +kernel
set_option maxRecDepth 100000 in
theorem zb_64 : (List.range' 64 8).all zBC = true := by decide +kernel
