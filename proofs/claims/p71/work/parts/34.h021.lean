/-! ===== a heavy contract, a piece of it ===== -/
set_option maxRecDepth 100000 in
theorem zpS451_2 : zpS451 2 = true := by decide +kernel
