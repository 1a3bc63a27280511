set_option maxRecDepth 100000 in
theorem zk_2 : zqi 2 = true := by decide +kernel
