/-! ===== a heavy contract, a piece of it ===== -/
set_option maxRecDepth 100000 in
theorem zpS452_2 : zpS452 2 = true := by decide +kernel
