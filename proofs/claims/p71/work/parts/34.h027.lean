/-! ===== a heavy contract, a piece of it ===== -/
set_option maxRecDepth 100000 in
theorem zpS452_1 : zpS452 1 = true := by decide +kernel
