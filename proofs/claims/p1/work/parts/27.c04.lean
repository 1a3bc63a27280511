set_option maxRecDepth 100000 in
theorem zk_71_0 : (List.range' 0 2).all (zqj 71 [-1, 0, 1, 2, 3]) = true := by decide +kernel
set_option maxRecDepth 100000 in
theorem zk_71_2 : (zqj 71 [-1, 0, 1, 2, 3]) 2 = true := by decide +kernel
set_option maxRecDepth 100000 in
theorem zk_71_3 : (zqj 71 [-1, 0, 1, 2, 3]) 3 = true := by decide +kernel
set_option maxRecDepth 100000 in
theorem zk_71_4 : (List.range' 4 2).all (zqj 71 [-1, 0, 1, 2, 3]) = true := by decide +kernel
