/-! ===== the methods: code, links and words; by program ===== -/
set_option maxRecDepth 100000 in
theorem zb_324 : (List.range' 324 3).all zBB = true := by decide +kernel
