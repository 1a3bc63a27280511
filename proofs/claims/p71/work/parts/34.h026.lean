/-! ===== a heavy contract, a piece of it ===== -/
set_option maxRecDepth 100000 in
theorem zpS452_0 : zpS452 0 = true := by decide +kernel
