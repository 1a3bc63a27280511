/-! ===== the law's round, pieces of it ===== -/
set_option maxRecDepth 100000 in
theorem zpL_73 : (List.range' 73 1).all zpL = true := by decide +kernel
set_option maxRecDepth 100000 in
theorem zpL_74 : (List.range' 74 2).all zpL = true := by decide +kernel
