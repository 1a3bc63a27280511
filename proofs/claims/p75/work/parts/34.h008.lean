/-! ===== a heavy contract, a piece of it ===== -/
set_option maxRecDepth 100000 in
theorem zq394_5_1 : z_RUN zSPd zD zw394 0 0 4 none zDF zTC zT305 zoC394_5 zhw394_5 := z_RUN.one (FU := 20000) (stp := [50, 50, 50, 50, 50, 50, 50, 50]) (by decide +kernel)
theorem zhc394_5 : (z_msB zc394_5.2.1.1 17179869184 zc394_5.2.2 = true ∧ zc394_5.2.2.length = 2) ∧ ∃ w, z_wl zSPd zD zw394 0 0 4 none zDF zTC zT305 1 [(zc394_5.1, zc394_5.2.1)] = some w ∧ z_RUN zSPd zD zw394 0 0 4 none zDF zTC zT305 zoC394_5 w :=
  ⟨⟨by decide +kernel, by decide +kernel⟩, zhw394_5, z_getD zhs394_5, zq394_5_1⟩
noncomputable def zhw394_6 : List (Nat × zS) := (z_wl zSPd zD zw394 0 0 4 none zDF zTC zT305 1 [(zc394_6.1, zc394_6.2.1)]).getD []
set_option maxRecDepth 100000 in
theorem zhs394_6 : (z_wl zSPd zD zw394 0 0 4 none zDF zTC zT305 1 [(zc394_6.1, zc394_6.2.1)]).isSome = true := by decide +kernel
set_option maxRecDepth 100000 in
theorem zq394_6_1 : z_RUN zSPd zD zw394 0 0 4 none zDF zTC zT305 zoC394_6 zhw394_6 := z_RUN.one (FU := 20000) (stp := [50, 50, 50, 50, 50, 50, 50, 50]) (by decide +kernel)
theorem zhc394_6 : (z_msB zc394_6.2.1.1 17179869184 zc394_6.2.2 = true ∧ zc394_6.2.2.length = 2) ∧ ∃ w, z_wl zSPd zD zw394 0 0 4 none zDF zTC zT305 1 [(zc394_6.1, zc394_6.2.1)] = some w ∧ z_RUN zSPd zD zw394 0 0 4 none zDF zTC zT305 zoC394_6 w :=
  ⟨⟨by decide +kernel, by decide +kernel⟩, zhw394_6, z_getD zhs394_6, zq394_6_1⟩
noncomputable def zhw394_7 : List (Nat × zS) := (z_wl zSPd zD zw394 0 0 4 none zDF zTC zT305 1 [(zc394_7.1, zc394_7.2.1)]).getD []
set_option maxRecDepth 100000 in
theorem zhs394_7 : (z_wl zSPd zD zw394 0 0 4 none zDF zTC zT305 1 [(zc394_7.1, zc394_7.2.1)]).isSome = true := by decide +kernel
set_option maxRecDepth 100000 in
theorem zq394_7_1 : z_RUN zSPd zD zw394 0 0 4 none zDF zTC zT305 zoC394_7 zhw394_7 := z_RUN.one (FU := 20000) (stp := [50, 50, 50, 50, 50, 50, 50, 50]) (by decide +kernel)
theorem zhc394_7 : (z_msB zc394_7.2.1.1 17179869184 zc394_7.2.2 = true ∧ zc394_7.2.2.length = 2) ∧ ∃ w, z_wl zSPd zD zw394 0 0 4 none zDF zTC zT305 1 [(zc394_7.1, zc394_7.2.1)] = some w ∧ z_RUN zSPd zD zw394 0 0 4 none zDF zTC zT305 zoC394_7 w :=
  ⟨⟨by decide +kernel, by decide +kernel⟩, zhw394_7, z_getD zhs394_7, zq394_7_1⟩
theorem zpSa394 : ∀ j, j < 6 → z_RUN zSPd zD zw394 0 0 4 none zDF zTC zT305 zoS394 (z_swj zn394 zj394 j) := fun j h => by
  match j, h with
  | 0, _ => exact zs394_0_1
  | 1, _ => exact zs394_1_1
  | 2, _ => exact zs394_2_1
  | 3, _ => exact zs394_3_1
  | 4, _ => exact zs394_4_1
  | 5, _ => exact zs394_5_1
  | n + 6, h => exact absurd h (by omega)
theorem zk394 : z_conP zSPd zD zw394 zDF zTC 17179869184 2 0 0 0 4 zT305 zn394 (some (14, zjl_252)) zc394 := ⟨Nat.le_of_ble_eq_true (by decide +kernel), Nat.le_of_ble_eq_true (by decide +kernel), (z_fa.cons zhc394_0 (z_fa.cons zhc394_1 (z_fa.cons zhc394_2 (z_fa.cons zhc394_3 (z_fa.cons zhc394_4 (z_fa.cons zhc394_5 (z_fa.cons zhc394_6 (z_fa.cons zhc394_7 z_fa.nil)))))))), zj394, z_getD zjs394, z_RUN.st2 zjl394 zpSa394⟩
