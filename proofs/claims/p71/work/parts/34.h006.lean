/-! ===== a heavy contract, a piece of it ===== -/
set_option maxRecDepth 100000 in
theorem zhp321_0_3 : (List.range' 3 1).all zhp321_0 = true := by decide +kernel
