/-! ===== a heavy contract, a piece of it ===== -/
theorem zhc458_3 : (z_msB zc458_3.2.1.1 17179869184 zc458_3.2.2 = true ∧ zc458_3.2.2.length = 2) ∧ ∃ w, z_wl zSPd zD (z_callC 14 zu458 (z_runC zSPd 14 zu458 zD zDF zTC 20000 1)) 0 0 3 none zDF zTC zT318 1 [(zc458_3.1, zc458_3.2.1)] = some w ∧ z_RUN zSPd zD (z_callC 14 zu458 (z_runC zSPd 14 zu458 zD zDF zTC 20000 1)) 0 0 3 none zDF zTC zT318 (z_okC 0 0 0 zT318 zn458 zc458 zc458_3) w := by
  refine ⟨⟨by decide +kernel, by decide +kernel⟩, zhw458_3, z_getD zhs458_3, z_RUN.two (FU := 20000) (FU2 := 20000) (stp := [23, 23, 23, 23, 42]) (stp2 := [23, 23, 23, 23]) zhl458_3 (fun j h => ?_)⟩
  show zhp458_3 j = true
  exact z_rng_all zhp458_3_0 (by omega) (by omega)
theorem zk458 : z_conP zSPd zD (z_callC 14 zu458 (z_runC zSPd 14 zu458 zD zDF zTC 20000 1)) zDF zTC 17179869184 2 0 0 0 3 zT318 zn458 (some (57, [(0, 0), (1, 7)])) zc458 := ⟨Nat.le_of_ble_eq_true (by decide +kernel), Nat.le_of_ble_eq_true (by decide +kernel), (z_fa.cons zhc458_0 (z_fa.cons zhc458_1 (z_fa.cons zhc458_2 (z_fa.cons zhc458_3 z_fa.nil)))), zj458, z_getD zjs458, z_RUN.st (FU := 20000) (stp := [23, 23, 23, 23]) zjl458 zpSa458⟩
