/-! ===== a heavy contract, a piece of it ===== -/
theorem zpSa451 : ∀ j, j < 5 → zpS451 j = true := fun j h => by
  match j, h with
  | 0, _ => exact zpS451_0
  | 1, _ => exact zpS451_1
  | 2, _ => exact zpS451_2
  | 3, _ => exact zpS451_3
  | 4, _ => exact zpS451_4
  | n + 5, h => exact absurd h (by omega)
theorem zk451 : z_conP zSPd zD (z_callC 14 zu451 (z_runC zSPd 14 zu451 zD zDF zTC 20000 2)) zDF zTC 17179869184 2 0 0 0 2 zT316 zn451 (some (14, [((-2147483648), (-1)), (0, 0), (1, 1), (2, 2), (3, 2147483647)])) zc451 := ⟨Nat.le_of_ble_eq_true (by decide +kernel), Nat.le_of_ble_eq_true (by decide +kernel), z_fa.nil, zj451, z_getD zjs451, z_RUN.st (FU := 20000) (stp := []) zjl451 zpSa451⟩
