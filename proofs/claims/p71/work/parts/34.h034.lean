/-! ===== a heavy contract, a piece of it ===== -/
set_option maxRecDepth 100000 in
theorem zpS458_1 : zpS458 1 = true := by decide +kernel
