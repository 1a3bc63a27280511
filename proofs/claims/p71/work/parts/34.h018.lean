/-! ===== a heavy contract, a piece of it ===== -/
/-- m.image, in pieces -/
def zj451 : List zJ := (z_starts zn451.1.1 (some (14, [((-2147483648), (-1)), (0, 0), (1, 1), (2, 2), (3, 2147483647)]))).getD []
set_option maxRecDepth 100000 in
theorem zjs451 : (z_starts zn451.1.1 (some (14, [((-2147483648), (-1)), (0, 0), (1, 1), (2, 2), (3, 2147483647)]))).isSome = true := by decide +kernel
set_option maxRecDepth 100000 in
theorem zjl451 : zj451.length = 5 := by decide +kernel
def zpS451 (j : Nat) : Bool := z_pcS zSPd zD (z_callC 14 zu451 (z_runC zSPd 14 zu451 zD zDF zTC 20000 2)) 0 0 2 zDF zTC zT316 20000 [] (z_okS 0 0 0 zT316 zn451 zc451) zn451 zj451 j
