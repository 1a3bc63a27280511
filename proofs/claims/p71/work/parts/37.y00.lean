/-! ===== a heavy contract, pieces of it ===== -/
def zv394 : List (Nat × zCn) := []
abbrev zw394 : zL := (z_callC 14 zv394 (z_runC zSPd 14 zv394 zD zDF zTC 20000 2))
def zj394 : List zJ := (z_starts zn394.1.1 (some (14, [((-2147483648), (-1)), (0, 0), (1, 1), (2, 2), (3, 3), (4, 2147483647)]))).getD []
set_option maxRecDepth 100000 in
theorem zjs394 : (z_starts zn394.1.1 (some (14, [((-2147483648), (-1)), (0, 0), (1, 1), (2, 2), (3, 3), (4, 2147483647)]))).isSome = true := by decide +kernel
set_option maxRecDepth 100000 in
theorem zjl394 : zj394.length = 6 := by decide +kernel
abbrev zoS394 : Nat × zS → Bool := z_okS 0 0 0 zT305 zn394 zc394
abbrev zoF394 : Nat × zS → Bool := z_okF 0 0 0 zn394.1.1.1.length zT305 zn394.2
theorem zoFS394 : ∀ z, zoF394 z = true → zoS394 z = true := fun z h => Bool.or_eq_true_iff.mpr (Or.inl (z_okF_ok h))
set_option maxRecDepth 100000 in
theorem zs394_0_1 : z_RUN zSPd zD zw394 0 0 4 none zDF zTC zT305 zoF394 (z_swj zn394 zj394 0) := z_RUN.one (FU := 20000) (stp := []) (by decide +kernel)
