/-! ===== a heavy contract, a piece of it ===== -/
set_option maxRecDepth 100000 in
theorem zhp321_1_0 : (List.range' 0 1).all zhp321_1 = true := by decide +kernel
