set_option maxRecDepth 100000 in
theorem zk_0 : zqi 0 = true := by decide +kernel
set_option maxRecDepth 100000 in
theorem zk_1 : zqi 1 = true := by decide +kernel
set_option maxRecDepth 100000 in
theorem zk_3 : (List.range' 3 44).all zqi = true := by decide +kernel
