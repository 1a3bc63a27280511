/-! ===== a heavy contract, a piece of it ===== -/
set_option maxRecDepth 100000 in
theorem zpS451_0 : zpS451 0 = true := by decide +kernel
