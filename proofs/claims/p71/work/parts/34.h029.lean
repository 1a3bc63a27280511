/-! ===== a heavy contract, a piece of it ===== -/
set_option maxRecDepth 100000 in
theorem zpS452_3 : zpS452 3 = true := by decide +kernel
