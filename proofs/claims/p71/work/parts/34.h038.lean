/-! ===== a heavy contract, a piece of it ===== -/
set_option maxRecDepth 100000 in
theorem zhp458_1_0 : (List.range' 0 4).all zhp458_1 = true := by decide +kernel
