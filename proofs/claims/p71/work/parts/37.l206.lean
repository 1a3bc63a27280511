/-! ===== the law's round, pieces of it ===== -/
set_option maxRecDepth 100000 in
theorem zpL_37 : (List.range' 37 5).all zpL = true := by decide +kernel

set_option maxRecDepth 100000 in
theorem zpL_42 : (List.range' 42 3).all zpL = true := by decide +kernel

set_option maxRecDepth 100000 in
theorem zpL_45 : (List.range' 45 3).all zpL = true := by decide +kernel

