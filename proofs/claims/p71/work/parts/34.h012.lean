/-! ===== a heavy contract, a piece of it ===== -/
set_option maxRecDepth 100000 in
theorem zpS394_1 : zpS394 1 = true := by decide +kernel
