/-! ===== the law's round, pieces of it ===== -/
set_option maxRecDepth 100000 in
theorem zpL_23 : (List.range' 23 2).all zpL = true := by decide +kernel
set_option maxRecDepth 100000 in
theorem zpL_25 : (List.range' 25 2).all zpL = true := by decide +kernel
set_option maxRecDepth 100000 in
theorem zpL_27 : (List.range' 27 2).all zpL = true := by decide +kernel
