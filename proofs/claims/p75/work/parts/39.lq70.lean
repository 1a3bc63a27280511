/-! ===== the law's round, pieces of it ===== -/
set_option maxRecDepth 100000 in
theorem zpL_63 : (List.range' 63 4).all zpL = true := by decide +kernel
set_option maxRecDepth 100000 in
theorem zpL_67 : (List.range' 67 3).all zpL = true := by decide +kernel
set_option maxRecDepth 100000 in
theorem zpL_70 : (List.range' 70 3).all zpL = true := by decide +kernel
