/-! ===== the law's round, pieces of it ===== -/
set_option maxRecDepth 100000 in
theorem zpL_10 : (List.range' 10 3).all zpL = true := by decide +kernel
set_option maxRecDepth 100000 in
theorem zpL_13 : (List.range' 13 2).all zpL = true := by decide +kernel
set_option maxRecDepth 100000 in
theorem zpL_15 : (List.range' 15 1).all zpL = true := by decide +kernel
