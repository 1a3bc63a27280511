/-! ===== the law's round, pieces of it ===== -/
set_option maxRecDepth 100000 in
theorem zpL_52 : (List.range' 52 5).all zpL = true := by decide +kernel
set_option maxRecDepth 100000 in
theorem zpL_57 : (List.range' 57 3).all zpL = true := by decide +kernel
set_option maxRecDepth 100000 in
theorem zpL_60 : (List.range' 60 3).all zpL = true := by decide +kernel
