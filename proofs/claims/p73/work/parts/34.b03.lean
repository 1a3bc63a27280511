/-! ===== the methods: code, links and words; by program ===== -/
set_option maxRecDepth 100000 in
theorem zb_162 : (List.range' 162 6).all zBB = true := by decide +kernel
set_option maxRecDepth 100000 in
theorem zb_168 : (List.range' 168 6).all zBB = true := by decide +kernel
set_option maxRecDepth 100000 in
theorem zb_174 : (List.range' 174 6).all zBB = true := by decide +kernel
set_option maxRecDepth 100000 in
theorem zb_180 : (List.range' 180 6).all zBB = true := by decide +kernel
set_option maxRecDepth 100000 in
theorem zb_186 : (List.range' 186 6).all zBB = true := by decide +kernel
set_option maxRecDepth 100000 in
theorem zb_192 : (List.range' 192 6).all zBB = true := by decide +kernel
set_option maxRecDepth 100000 in
theorem zb_198 : (List.range' 198 6).all zBB = true := by decide +kernel
set_option maxRecDepth 100000 in
theorem zb_204 : (List.range' 204 6).all zBB = true := by decide +kernel
set_option maxRecDepth 100000 in
theorem zb_210 : (List.range' 210 6).all zBB = true := by decide +kernel
