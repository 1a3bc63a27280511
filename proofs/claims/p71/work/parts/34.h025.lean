/-! ===== a heavy contract, a piece of it ===== -/
/-- m.back, in pieces -/
def zj452 : List zJ := (z_starts zn452.1.1 (some (14, [((-2147483648), (-1)), (0, 0), (1, 1), (2, 2), (3, 2147483647)]))).getD []
set_option maxRecDepth 100000 in
theorem zjs452 : (z_starts zn452.1.1 (some (14, [((-2147483648), (-1)), (0, 0), (1, 1), (2, 2), (3, 2147483647)]))).isSome = true := by decide +kernel
set_option maxRecDepth 100000 in
theorem zjl452 : zj452.length = 5 := by decide +kernel
def zpS452 (j : Nat) : Bool := z_pcS zSPd zD (z_callC 14 zu452 (z_runC zSPd 14 zu452 zD zDF zTC 20000 2)) 0 0 2 zDF zTC zT317 20000 [] (z_okS 0 0 0 zT317 zn452 zc452) zn452 zj452 j
