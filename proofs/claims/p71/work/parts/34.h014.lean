/-! ===== a heavy contract, a piece of it ===== -/
set_option maxRecDepth 100000 in
theorem zpS394_3 : zpS394 3 = true := by decide +kernel
