/-! ===== the law: code, links and words; by program ===== -/
def zLB (k : Nat) : Bool := match zTL[k]? with
  | some b => b.all (fun x => decide (decode code x.1 = .ok (x.2.1, x.2.2.1)) && z_lok zTb vwCl zTY zTC zY zVK zHN "WaistcoatGreenLaw" false x.2.1 x.2.2.1 x.2.2.2.1 x.2.2.2.2.1 x.2.2.2.2.2.1 x.2.2.2.2.2.2)
  | none => true
set_option maxRecDepth 100000 in
theorem zl_0 : (List.range' 0 2).all zLB = true := by decide +kernel
set_option maxRecDepth 100000 in
theorem zl_2 : (List.range' 2 2).all zLB = true := by decide +kernel
set_option maxRecDepth 100000 in
theorem zl_4 : (List.range' 4 2).all zLB = true := by decide +kernel
set_option maxRecDepth 100000 in
theorem zl_6 : (List.range' 6 2).all zLB = true := by decide +kernel
set_option maxRecDepth 100000 in
theorem zl_8 : (List.range' 8 2).all zLB = true := by decide +kernel
set_option maxRecDepth 100000 in
theorem zl_10 : (List.range' 10 2).all zLB = true := by decide +kernel
set_option maxRecDepth 100000 in
theorem zl_12 : (List.range' 12 2).all zLB = true := by decide +kernel
set_option maxRecDepth 100000 in
theorem zl_14 : (List.range' 14 2).all zLB = true := by decide +kernel
set_option maxRecDepth 100000 in
theorem zl_16 : (List.range' 16 2).all zLB = true := by decide +kernel
set_option maxRecDepth 100000 in
theorem zl_18 : (List.range' 18 2).all zLB = true := by decide +kernel
set_option maxRecDepth 100000 in
theorem zl_20 : (List.range' 20 2).all zLB = true := by decide +kernel
set_option maxRecDepth 100000 in
theorem zl_22 : (List.range' 22 2).all zLB = true := by decide +kernel
set_option maxRecDepth 100000 in
theorem zl_24 : (List.range' 24 2).all zLB = true := by decide +kernel
set_option maxRecDepth 100000 in
theorem zl_26 : (List.range' 26 2).all zLB = true := by decide +kernel
set_option maxRecDepth 100000 in
theorem zl_28 : (List.range' 28 2).all zLB = true := by decide +kernel
set_option maxRecDepth 100000 in
theorem zl_30 : (List.range' 30 2).all zLB = true := by decide +kernel
set_option maxRecDepth 100000 in
theorem zl_32 : (List.range' 32 2).all zLB = true := by decide +kernel
set_option maxRecDepth 100000 in
theorem zl_34 : (List.range' 34 2).all zLB = true := by decide +kernel
set_option maxRecDepth 100000 in
theorem zl_36 : (List.range' 36 2).all zLB = true := by decide +kernel
set_option maxRecDepth 100000 in
theorem zl_38 : (List.range' 38 2).all zLB = true := by decide +kernel
set_option maxRecDepth 100000 in
theorem zl_40 : (List.range' 40 2).all zLB = true := by decide +kernel
set_option maxRecDepth 100000 in
theorem zl_42 : (List.range' 42 2).all zLB = true := by decide +kernel
set_option maxRecDepth 100000 in
theorem zl_44 : (List.range' 44 2).all zLB = true := by decide +kernel
set_option maxRecDepth 100000 in
theorem zl_46 : (List.range' 46 2).all zLB = true := by decide +kernel
set_option maxRecDepth 100000 in
theorem zl_48 : (List.range' 48 2).all zLB = true := by decide +kernel
set_option maxRecDepth 100000 in
theorem zl_50 : (List.range' 50 2).all zLB = true := by decide +kernel
set_option maxRecDepth 100000 in
theorem zl_52 : (List.range' 52 2).all zLB = true := by decide +kernel
set_option maxRecDepth 100000 in
theorem zl_54 : (List.range' 54 2).all zLB = true := by decide +kernel
set_option maxRecDepth 100000 in
theorem zl_56 : (List.range' 56 2).all zLB = true := by decide +kernel
set_option maxRecDepth 100000 in
theorem zl_58 : (List.range' 58 2).all zLB = true := by decide +kernel
set_option maxRecDepth 100000 in
theorem zl_60 : (List.range' 60 2).all zLB = true := by decide +kernel
set_option maxRecDepth 100000 in
theorem zl_62 : (List.range' 62 2).all zLB = true := by decide +kernel
set_option maxRecDepth 100000 in
theorem zl_64 : (List.range' 64 2).all zLB = true := by decide +kernel
set_option maxRecDepth 100000 in
theorem zl_66 : (List.range' 66 2).all zLB = true := by decide +kernel
set_option maxRecDepth 100000 in
theorem zl_68 : (List.range' 68 2).all zLB = true := by decide +kernel
set_option maxRecDepth 100000 in
theorem zl_70 : (List.range' 70 1).all zLB = true := by decide +kernel
