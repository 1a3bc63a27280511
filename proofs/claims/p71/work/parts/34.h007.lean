/-! ===== a heavy contract, a piece of it ===== -/
theorem zhc321_0 : (z_msB zc321_0.2.1.1 17179869184 zc321_0.2.2 = true ∧ zc321_0.2.2.length = 2) ∧ ∃ w, z_wl zSPd zD (z_callC 14 zu321 (z_runC zSPd 14 zu321 zD zDF zTC 20000 6)) 0 0 1 none zDF zTC zT217 1 [(zc321_0.1, zc321_0.2.1)] = some w ∧ z_RUN zSPd zD (z_callC 14 zu321 (z_runC zSPd 14 zu321 zD zDF zTC 20000 6)) 0 0 1 none zDF zTC zT217 (z_okC 0 0 0 zT217 zn321 zc321 zc321_0) w := by
  refine ⟨⟨by decide +kernel, by decide +kernel⟩, zhw321_0, z_getD zhs321_0, z_RUN.two (FU := 20000) (FU2 := 20000) (stp := [13, 13, 120, 36, 148]) (stp2 := [13, 13]) zhl321_0 (fun j h => ?_)⟩
  show zhp321_0 j = true
  rcases Nat.lt_or_ge j 1 with h1 | h1
  · exact z_rng_all zhp321_0_0 (by omega) (by omega)
  rcases Nat.lt_or_ge j 2 with h1 | h1
  · exact z_rng_all zhp321_0_1 (by omega) (by omega)
  rcases Nat.lt_or_ge j 3 with h1 | h1
  · exact z_rng_all zhp321_0_2 (by omega) (by omega)
  exact z_rng_all zhp321_0_3 (by omega) (by omega)
def zhw321_1 : List (Nat × zS) := (z_wl zSPd zD (z_callC 14 zu321 (z_runC zSPd 14 zu321 zD zDF zTC 20000 6)) 0 0 1 none zDF zTC zT217 1 [(zc321_1.1, zc321_1.2.1)]).getD []
set_option maxRecDepth 100000 in
theorem zhs321_1 : (z_wl zSPd zD (z_callC 14 zu321 (z_runC zSPd 14 zu321 zD zDF zTC 20000 6)) 0 0 1 none zDF zTC zT217 1 [(zc321_1.1, zc321_1.2.1)]).isSome = true := by decide +kernel
set_option maxRecDepth 100000 in
theorem zhl321_1 : (z_stg zSPd zD (z_callC 14 zu321 (z_runC zSPd 14 zu321 zD zDF zTC 20000 6)) 0 0 1 none zDF zTC zT217 20000 [13, 13, 0] (some zhw321_1)).length = 1 := by decide +kernel
def zhp321_1 (j : Nat) : Bool := z_pcg zSPd zD (z_callC 14 zu321 (z_runC zSPd 14 zu321 zD zDF zTC 20000 6)) 0 0 1 none zDF zTC zT217 20000 [13, 13] (z_okC 0 0 0 zT217 zn321 zc321 zc321_1) (z_stg zSPd zD (z_callC 14 zu321 (z_runC zSPd 14 zu321 zD zDF zTC 20000 6)) 0 0 1 none zDF zTC zT217 20000 [13, 13, 0] (some zhw321_1)) j
