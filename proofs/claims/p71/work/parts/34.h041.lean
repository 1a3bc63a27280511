/-! ===== a heavy contract, a piece of it ===== -/
theorem zhc458_2 : (z_msB zc458_2.2.1.1 17179869184 zc458_2.2.2 = true ∧ zc458_2.2.2.length = 2) ∧ ∃ w, z_wl zSPd zD (z_callC 14 zu458 (z_runC zSPd 14 zu458 zD zDF zTC 20000 1)) 0 0 3 none zDF zTC zT318 1 [(zc458_2.1, zc458_2.2.1)] = some w ∧ z_RUN zSPd zD (z_callC 14 zu458 (z_runC zSPd 14 zu458 zD zDF zTC 20000 1)) 0 0 3 none zDF zTC zT318 (z_okC 0 0 0 zT318 zn458 zc458 zc458_2) w := by
  refine ⟨⟨by decide +kernel, by decide +kernel⟩, zhw458_2, z_getD zhs458_2, z_RUN.two (FU := 20000) (FU2 := 20000) (stp := [23, 23, 23, 23, 42]) (stp2 := [23, 23, 23, 23]) zhl458_2 (fun j h => ?_)⟩
  show zhp458_2 j = true
  exact z_rng_all zhp458_2_0 (by omega) (by omega)
def zhw458_3 : List (Nat × zS) := (z_wl zSPd zD (z_callC 14 zu458 (z_runC zSPd 14 zu458 zD zDF zTC 20000 1)) 0 0 3 none zDF zTC zT318 1 [(zc458_3.1, zc458_3.2.1)]).getD []
set_option maxRecDepth 100000 in
theorem zhs458_3 : (z_wl zSPd zD (z_callC 14 zu458 (z_runC zSPd 14 zu458 zD zDF zTC 20000 1)) 0 0 3 none zDF zTC zT318 1 [(zc458_3.1, zc458_3.2.1)]).isSome = true := by decide +kernel
set_option maxRecDepth 100000 in
theorem zhl458_3 : (z_stg zSPd zD (z_callC 14 zu458 (z_runC zSPd 14 zu458 zD zDF zTC 20000 1)) 0 0 3 none zDF zTC zT318 20000 [23, 23, 23, 23, 42] (some zhw458_3)).length = 29 := by decide +kernel
def zhp458_3 (j : Nat) : Bool := z_pcg zSPd zD (z_callC 14 zu458 (z_runC zSPd 14 zu458 zD zDF zTC 20000 1)) 0 0 3 none zDF zTC zT318 20000 [23, 23, 23, 23] (z_okC 0 0 0 zT318 zn458 zc458 zc458_3) (z_stg zSPd zD (z_callC 14 zu458 (z_runC zSPd 14 zu458 zD zDF zTC 20000 1)) 0 0 3 none zDF zTC zT318 20000 [23, 23, 23, 23, 42] (some zhw458_3)) j
