/-! ===== the methods: code, links and words; by program ===== -/
set_option maxRecDepth 100000 in
theorem zb_54 : (List.range' 54 6).all zBB = true := by decide +kernel
set_option maxRecDepth 100000 in
theorem zb_60 : (List.range' 60 6).all zBB = true := by decide +kernel
set_option maxRecDepth 100000 in
theorem zb_66 : (List.range' 66 6).all zBB = true := by decide +kernel
set_option maxRecDepth 100000 in
theorem zb_72 : (List.range' 72 6).all zBB = true := by decide +kernel
set_option maxRecDepth 100000 in
theorem zb_78 : (List.range' 78 6).all zBB = true := by decide +kernel
set_option maxRecDepth 100000 in
theorem zb_84 : (List.range' 84 6).all zBB = true := by decide +kernel
set_option maxRecDepth 100000 in
theorem zb_90 : (List.range' 90 6).all zBB = true := by decide +kernel
set_option maxRecDepth 100000 in
theorem zb_96 : (List.range' 96 6).all zBB = true := by decide +kernel
set_option maxRecDepth 100000 in
theorem zb_102 : (List.range' 102 6).all zBB = true := by decide +kernel
