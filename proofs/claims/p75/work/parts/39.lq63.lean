/-! ===== the law's round, pieces of it ===== -/
set_option maxRecDepth 100000 in
theorem zpL_5 : (List.range' 5 1).all zpL = true := by decide +kernel
set_option maxRecDepth 100000 in
theorem zpL_6 : (List.range' 6 2).all zpL = true := by decide +kernel
set_option maxRecDepth 100000 in
theorem zpL_8 : (List.range' 8 2).all zpL = true := by decide +kernel
