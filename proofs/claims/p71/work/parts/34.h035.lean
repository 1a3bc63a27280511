/-! ===== a heavy contract, a piece of it ===== -/
theorem zpSa458 : ∀ j, j < 2 → zpS458 j = true := fun j h => by
  match j, h with
  | 0, _ => exact zpS458_0
  | 1, _ => exact zpS458_1
  | n + 2, h => exact absurd h (by omega)
def zhw458_0 : List (Nat × zS) := (z_wl zSPd zD (z_callC 14 zu458 (z_runC zSPd 14 zu458 zD zDF zTC 20000 1)) 0 0 3 none zDF zTC zT318 1 [(zc458_0.1, zc458_0.2.1)]).getD []
set_option maxRecDepth 100000 in
theorem zhs458_0 : (z_wl zSPd zD (z_callC 14 zu458 (z_runC zSPd 14 zu458 zD zDF zTC 20000 1)) 0 0 3 none zDF zTC zT318 1 [(zc458_0.1, zc458_0.2.1)]).isSome = true := by decide +kernel
set_option maxRecDepth 100000 in
theorem zhl458_0 : (z_stg zSPd zD (z_callC 14 zu458 (z_runC zSPd 14 zu458 zD zDF zTC 20000 1)) 0 0 3 none zDF zTC zT318 20000 [23, 23, 23, 23, 0] (some zhw458_0)).length = 1 := by decide +kernel
def zhp458_0 (j : Nat) : Bool := z_pcg zSPd zD (z_callC 14 zu458 (z_runC zSPd 14 zu458 zD zDF zTC 20000 1)) 0 0 3 none zDF zTC zT318 20000 [23, 23, 23, 23] (z_okC 0 0 0 zT318 zn458 zc458 zc458_0) (z_stg zSPd zD (z_callC 14 zu458 (z_runC zSPd 14 zu458 zD zDF zTC 20000 1)) 0 0 3 none zDF zTC zT318 20000 [23, 23, 23, 23, 0] (some zhw458_0)) j
