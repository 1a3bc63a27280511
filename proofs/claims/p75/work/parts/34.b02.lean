/-! ===== the methods: code, links and words; by program ===== -/
set_option maxRecDepth 100000 in
theorem zb_144 : (List.range' 144 8).all zBC = true := by decide +kernel
set_option maxRecDepth 100000 in
theorem zb_152 : (List.range' 152 8).all zBC = true := by decide +kernel
set_option maxRecDepth 100000 in
theorem zb_160 : (List.range' 160 8).all zBC = true := by decide +kernel
set_option maxRecDepth 100000 in
theorem zb_168 : (List.range' 168 8).all zBC = true := by decide +kernel
set_option maxRecDepth 100000 in
theorem zb_176 : (List.range' 176 8).all zBC = true := by decide +kernel
set_option maxRecDepth 100000 in
theorem zb_184 : (List.range' 184 8).all zBC = true := by decide +kernel
set_option maxRecDepth 100000 in
theorem zb_192 : (List.range' 192 8).all zBC = true := by decide +kernel
set_option maxRecDepth 100000 in
theorem zb_200 : (List.range' 200 8).all zBC = true := by decide +kernel
set_option maxRecDepth 100000 in
theorem zb_208 : (List.range' 208 8).all zBC = true := by decide +kernel
