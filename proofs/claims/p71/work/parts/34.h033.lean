/-! ===== a heavy contract, a piece of it ===== -/
set_option maxRecDepth 100000 in
theorem zpS458_0 : zpS458 0 = true := by decide +kernel
