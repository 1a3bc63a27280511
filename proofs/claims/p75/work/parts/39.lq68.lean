/-! ===== the law's round, pieces of it ===== -/
set_option maxRecDepth 100000 in
theorem zpL_42 : (List.range' 42 3).all zpL = true := by decide +kernel
set_option maxRecDepth 100000 in
theorem zpL_45 : (List.range' 45 3).all zpL = true := by decide +kernel
set_option maxRecDepth 100000 in
theorem zpL_48 : (List.range' 48 4).all zpL = true := by decide +kernel
