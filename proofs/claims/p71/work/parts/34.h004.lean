/-! ===== a heavy contract, a piece of it ===== -/
set_option maxRecDepth 100000 in
theorem zhp321_0_1 : (List.range' 1 1).all zhp321_0 = true := by decide +kernel
