/-! ===== a heavy contract, pieces of it ===== -/
def zhw321_1 : List (Nat × zS) := (z_wl zSPd zD zw321 0 0 1 none zDF zTC zT217 1 [(zc321_1.1, zc321_1.2.1)]).getD []
set_option maxRecDepth 100000 in
theorem zhs321_1 : (z_wl zSPd zD zw321 0 0 1 none zDF zTC zT217 1 [(zc321_1.1, zc321_1.2.1)]).isSome = true := by decide +kernel
set_option maxRecDepth 100000 in
theorem zq321_1_1 : z_RUN zSPd zD zw321 0 0 1 none zDF zTC zT217 zoC321_1 zhw321_1 := z_RUN.one (FU := 20000) (stp := [13, 13]) (by decide +kernel)
theorem zhc321_1 : (z_msB zc321_1.2.1.1 17179869184 zc321_1.2.2 = true ∧ zc321_1.2.2.length = 2) ∧ ∃ w, z_wl zSPd zD zw321 0 0 1 none zDF zTC zT217 1 [(zc321_1.1, zc321_1.2.1)] = some w ∧ z_RUN zSPd zD zw321 0 0 1 none zDF zTC zT217 zoC321_1 w :=
  ⟨⟨by decide +kernel, by decide +kernel⟩, zhw321_1, z_getD zhs321_1, zq321_1_1⟩
theorem zpSa321 : ∀ j, j < 1 → z_RUN zSPd zD zw321 0 0 1 none zDF zTC zT217 zoS321 (z_swj zn321 zj321 j) := fun j h => by
  match j, h with
  | 0, _ => exact zs321_0_1
  | n + 1, h => exact absurd h (by omega)
theorem zk321 : z_conP zSPd zD zw321 zDF zTC 17179869184 2 0 0 0 1 zT217 zn321 none zc321 := ⟨Nat.le_of_ble_eq_true (by decide +kernel), Nat.le_of_ble_eq_true (by decide +kernel), (z_fa.cons zhc321_0 (z_fa.cons zhc321_1 z_fa.nil)), zj321, z_getD zjs321, z_RUN.st2 zjl321 zpSa321⟩
