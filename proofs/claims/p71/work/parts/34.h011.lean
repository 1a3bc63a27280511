/-! ===== a heavy contract, a piece of it ===== -/
set_option maxRecDepth 100000 in
theorem zpS394_0 : zpS394 0 = true := by decide +kernel
