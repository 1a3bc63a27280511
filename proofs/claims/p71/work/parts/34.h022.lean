/-! ===== a heavy contract, a piece of it ===== -/
set_option maxRecDepth 100000 in
theorem zpS451_3 : zpS451 3 = true := by decide +kernel
