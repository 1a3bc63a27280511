/-! ===== a heavy contract, a piece of it ===== -/
set_option maxRecDepth 100000 in
theorem zpS394_4 : zpS394 4 = true := by decide +kernel
