/-! ===== the law's round, pieces of it ===== -/
set_option maxRecDepth 100000 in
theorem zpL_0 : (List.range' 0 2).all zpL = true := by decide +kernel

set_option maxRecDepth 100000 in
theorem zpL_2 : (List.range' 2 1).all zpL = true := by decide +kernel

set_option maxRecDepth 100000 in
theorem zpL_3 : (List.range' 3 1).all zpL = true := by decide +kernel

