/-! ===== the law's round, pieces of it ===== -/
set_option maxRecDepth 100000 in
theorem zpL_16 : (List.range' 16 1).all zpL = true := by decide +kernel
set_option maxRecDepth 100000 in
theorem zpL_17 : (List.range' 17 2).all zpL = true := by decide +kernel
set_option maxRecDepth 100000 in
theorem zpL_19 : (List.range' 19 4).all zpL = true := by decide +kernel
