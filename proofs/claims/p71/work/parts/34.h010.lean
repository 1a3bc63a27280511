/-! ===== a heavy contract, a piece of it ===== -/
/-- m.whyNot, in pieces -/
def zj394 : List zJ := (z_starts zn394.1.1 (some (14, [((-2147483648), (-1)), (0, 0), (1, 1), (2, 2), (3, 3), (4, 2147483647)]))).getD []
set_option maxRecDepth 100000 in
theorem zjs394 : (z_starts zn394.1.1 (some (14, [((-2147483648), (-1)), (0, 0), (1, 1), (2, 2), (3, 3), (4, 2147483647)]))).isSome = true := by decide +kernel
set_option maxRecDepth 100000 in
theorem zjl394 : zj394.length = 6 := by decide +kernel
def zpS394 (j : Nat) : Bool := z_pcS zSPd zD (z_callC 14 zu394 (z_runC zSPd 14 zu394 zD zDF zTC 20000 2)) 0 0 4 zDF zTC zT305 20000 [] (z_okS 0 0 0 zT305 zn394 zc394) zn394 zj394 j
