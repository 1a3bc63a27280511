/-! ===== the law's round, pieces of it ===== -/
set_option maxRecDepth 100000 in
theorem zpL_19 : (List.range' 19 4).all zpL = true := by decide +kernel

set_option maxRecDepth 100000 in
theorem zpL_23 : (List.range' 23 2).all zpL = true := by decide +kernel

set_option maxRecDepth 100000 in
theorem zpL_25 : (List.range' 25 2).all zpL = true := by decide +kernel

