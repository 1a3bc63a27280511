/-! ===== the law's ways, one by one: every end answers 1 ===== -/
set_option maxRecDepth 100000 in
theorem zk_0 : (List.range' 0 2).all zqi = true := by decide +kernel
set_option maxRecDepth 100000 in
theorem zk_3 : (List.range' 3 44).all zqi = true := by decide +kernel
set_option maxRecDepth 100000 in
theorem zk_47 : (List.range' 47 22).all zqi = true := by decide +kernel
set_option maxRecDepth 100000 in
theorem zk_70 : zqi 70 = true := by decide +kernel
set_option maxRecDepth 100000 in
theorem zk_72 : (List.range' 72 5).all zqi = true := by decide +kernel
set_option maxRecDepth 100000 in
theorem zk_len : zq.length = 76 := by decide +kernel
