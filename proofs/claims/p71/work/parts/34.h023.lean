/-! ===== a heavy contract, a piece of it ===== -/
set_option maxRecDepth 100000 in
theorem zpS451_4 : zpS451 4 = true := by decide +kernel
