/-! ===== the law's round, pieces of it ===== -/
set_option maxRecDepth 100000 in
theorem zpL_29 : (List.range' 29 4).all zpL = true := by decide +kernel
set_option maxRecDepth 100000 in
theorem zpL_33 : (List.range' 33 4).all zpL = true := by decide +kernel
set_option maxRecDepth 100000 in
theorem zpL_37 : (List.range' 37 5).all zpL = true := by decide +kernel
