/-! ===== a heavy contract, a piece of it ===== -/
theorem zpSa321 : ∀ j, j < 1 → zpS321 j = true := fun j h => by
  match j, h with
  | 0, _ => exact zpS321_0
  | n + 1, h => exact absurd h (by omega)
def zhw321_0 : List (Nat × zS) := (z_wl zSPd zD (z_callC 14 zu321 (z_runC zSPd 14 zu321 zD zDF zTC 20000 6)) 0 0 1 none zDF zTC zT217 1 [(zc321_0.1, zc321_0.2.1)]).getD []
set_option maxRecDepth 100000 in
theorem zhs321_0 : (z_wl zSPd zD (z_callC 14 zu321 (z_runC zSPd 14 zu321 zD zDF zTC 20000 6)) 0 0 1 none zDF zTC zT217 1 [(zc321_0.1, zc321_0.2.1)]).isSome = true := by decide +kernel
set_option maxRecDepth 100000 in
theorem zhl321_0 : (z_stg zSPd zD (z_callC 14 zu321 (z_runC zSPd 14 zu321 zD zDF zTC 20000 6)) 0 0 1 none zDF zTC zT217 20000 [13, 13, 120, 36, 148] (some zhw321_0)).length = 4 := by decide +kernel
def zhp321_0 (j : Nat) : Bool := z_pcg zSPd zD (z_callC 14 zu321 (z_runC zSPd 14 zu321 zD zDF zTC 20000 6)) 0 0 1 none zDF zTC zT217 20000 [13, 13] (z_okC 0 0 0 zT217 zn321 zc321 zc321_0) (z_stg zSPd zD (z_callC 14 zu321 (z_runC zSPd 14 zu321 zD zDF zTC 20000 6)) 0 0 1 none zDF zTC zT217 20000 [13, 13, 120, 36, 148] (some zhw321_0)) j
