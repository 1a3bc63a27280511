/-! ===== a heavy contract, a piece of it ===== -/
set_option maxRecDepth 100000 in
theorem zpS321_0 : zpS321 0 = true := by decide +kernel
