/-! ===== a heavy contract, a piece of it ===== -/
set_option maxRecDepth 100000 in
theorem zhp458_0_0 : (List.range' 0 1).all zhp458_0 = true := by decide +kernel
