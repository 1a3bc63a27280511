/-! ===== a heavy contract, a piece of it ===== -/
set_option maxRecDepth 100000 in
theorem zpS451_1 : zpS451 1 = true := by decide +kernel
