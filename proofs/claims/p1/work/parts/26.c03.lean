/-- a way, cut by the script's first number behind the call's -/
def zqp (i : Nat) (cs : List Int) : List (Nat × zS) := match zq[i]? with
  | some z => z_pt 2 (-2147483648) 2147483647 cs z
  | none => []
def zqj (i : Nat) (cs : List Int) (j : Nat) : Bool := match (zqp i cs)[j]? with
  | some z => zLw 6 [z]
  | none => true
set_option maxRecDepth 100000 in
theorem zk_69_0 : (List.range' 0 2).all (zqj 69 [-1, 0, 1, 2]) = true := by decide +kernel
set_option maxRecDepth 100000 in
theorem zk_69_2 : (zqj 69 [-1, 0, 1, 2]) 2 = true := by decide +kernel
set_option maxRecDepth 100000 in
theorem zk_69_3 : (List.range' 3 2).all (zqj 69 [-1, 0, 1, 2]) = true := by decide +kernel
