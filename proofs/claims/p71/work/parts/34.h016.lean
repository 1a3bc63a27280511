/-! ===== a heavy contract, a piece of it ===== -/
set_option maxRecDepth 100000 in
theorem zpS394_5 : zpS394 5 = true := by decide +kernel
