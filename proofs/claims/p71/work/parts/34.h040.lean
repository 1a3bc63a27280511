/-! ===== a heavy contract, a piece of it ===== -/
set_option maxRecDepth 100000 in
theorem zhp458_2_0 : (List.range' 0 29).all zhp458_2 = true := by decide +kernel
