/-! ===== a heavy contract, a piece of it ===== -/
set_option maxRecDepth 100000 in
theorem zpS394_2 : zpS394 2 = true := by decide +kernel
