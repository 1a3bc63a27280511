/-! ===== a heavy contract, a piece of it ===== -/
theorem zhc321_1 : (z_msB zc321_1.2.1.1 17179869184 zc321_1.2.2 = true ∧ zc321_1.2.2.length = 2) ∧ ∃ w, z_wl zSPd zD (z_callC 14 zu321 (z_runC zSPd 14 zu321 zD zDF zTC 20000 6)) 0 0 1 none zDF zTC zT217 1 [(zc321_1.1, zc321_1.2.1)] = some w ∧ z_RUN zSPd zD (z_callC 14 zu321 (z_runC zSPd 14 zu321 zD zDF zTC 20000 6)) 0 0 1 none zDF zTC zT217 (z_okC 0 0 0 zT217 zn321 zc321 zc321_1) w := by
  refine ⟨⟨by decide +kernel, by decide +kernel⟩, zhw321_1, z_getD zhs321_1, z_RUN.two (FU := 20000) (FU2 := 20000) (stp := [13, 13, 0]) (stp2 := [13, 13]) zhl321_1 (fun j h => ?_)⟩
  show zhp321_1 j = true
  exact z_rng_all zhp321_1_0 (by omega) (by omega)
theorem zk321 : z_conP zSPd zD (z_callC 14 zu321 (z_runC zSPd 14 zu321 zD zDF zTC 20000 6)) zDF zTC 17179869184 2 0 0 0 1 zT217 zn321 none zc321 := ⟨Nat.le_of_ble_eq_true (by decide +kernel), Nat.le_of_ble_eq_true (by decide +kernel), (z_fa.cons zhc321_0 (z_fa.cons zhc321_1 z_fa.nil)), zj321, z_getD zjs321, z_RUN.st (FU := 20000) (stp := [13, 13]) zjl321 zpSa321⟩
