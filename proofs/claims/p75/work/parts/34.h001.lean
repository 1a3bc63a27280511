/-! ===== a heavy contract, a piece of it ===== -/
set_option maxRecDepth 100000 in
theorem zs144_0_1 : z_RUN zSPd zD zw144 0 0 8 none zDF zTC zT163 zoSQ144 (z_swj zn144 zj144 0) := z_RUN.brn (FU := 20000) (stp0 := []) (stp := [31]) (ls := [zs144_0_t1, zs144_0_t3, zs144_0_t5, zs144_0_t7, zs144_0_t9, zs144_0_t11, zs144_0_t13, zs144_0_t15, zs144_0_t17, zs144_0_t19, zs144_0_t21, zs144_0_t23, zs144_0_t25, zs144_0_t27]) (by decide +kernel) (z_fa.cons zs144_0_3 (z_fa.cons zs144_0_5 (z_fa.cons zs144_0_7 (z_fa.cons zs144_0_9 (z_fa.cons zs144_0_11 (z_fa.cons zs144_0_13 (z_fa.cons zs144_0_15 (z_fa.cons zs144_0_17 (z_fa.cons zs144_0_19 (z_fa.cons zs144_0_21 (z_fa.cons zs144_0_23 (z_fa.cons zs144_0_25 (z_fa.cons zs144_0_27 (z_fa.cons zs144_0_29 z_fa.nil))))))))))))))
theorem zpSa144 : ∀ j, j < 1 → z_RUN zSPd zD zw144 0 0 8 none zDF zTC zT163 zoS144 (z_swj zn144 zj144 j) := fun j h => by
  match j, h with
  | 0, _ => exact z_RUN.wk (fun z h => z_okSQ_ok h) zs144_0_1
  | n + 1, h => exact absurd h (by omega)
theorem zk144 : z_conP zSPd zD zw144 zDF zTC 17179869184 2 0 0 0 8 zT163 zn144 none zc144 := ⟨Nat.le_of_ble_eq_true (by decide +kernel), Nat.le_of_ble_eq_true (by decide +kernel), z_fa.nil, zj144, z_getD zjs144, z_RUN.st2 zjl144 zpSa144⟩
