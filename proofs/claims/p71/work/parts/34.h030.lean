/-! ===== a heavy contract, a piece of it ===== -/
set_option maxRecDepth 100000 in
theorem zpS452_4 : zpS452 4 = true := by decide +kernel
