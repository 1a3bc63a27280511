/-! ===== a heavy contract, pieces of it ===== -/
theorem zpSa394 : ∀ j, j < 6 → z_RUN zSPd zD zw394 0 0 4 none zDF zTC zT305 zoS394 (z_swj zn394 zj394 j) := fun j h => by
  match j, h with
  | 0, _ => exact z_RUN.wk zoFS394 zs394_0_1
  | 1, _ => exact z_RUN.wk zoFS394 zs394_1_1
  | 2, _ => exact z_RUN.wk zoFS394 zs394_2_1
  | 3, _ => exact z_RUN.wk zoFS394 zs394_3_1
  | 4, _ => exact z_RUN.wk zoFS394 zs394_4_1
  | 5, _ => exact z_RUN.wk zoFS394 zs394_5_1
  | n + 6, h => exact absurd h (by omega)
theorem zk394 : z_conP zSPd zD zw394 zDF zTC 17179869184 2 0 0 0 4 zT305 zn394 (some (14, [((-2147483648), (-1)), (0, 0), (1, 1), (2, 2), (3, 3), (4, 2147483647)])) zc394 := ⟨Nat.le_of_ble_eq_true (by decide +kernel), Nat.le_of_ble_eq_true (by decide +kernel), z_fa.nil, zj394, z_getD zjs394, z_RUN.st2 zjl394 zpSa394⟩
