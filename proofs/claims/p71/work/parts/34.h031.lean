/-! ===== a heavy contract, a piece of it ===== -/
theorem zpSa452 : ∀ j, j < 5 → zpS452 j = true := fun j h => by
  match j, h with
  | 0, _ => exact zpS452_0
  | 1, _ => exact zpS452_1
  | 2, _ => exact zpS452_2
  | 3, _ => exact zpS452_3
  | 4, _ => exact zpS452_4
  | n + 5, h => exact absurd h (by omega)
theorem zk452 : z_conP zSPd zD (z_callC 14 zu452 (z_runC zSPd 14 zu452 zD zDF zTC 20000 2)) zDF zTC 17179869184 2 0 0 0 2 zT317 zn452 (some (14, [((-2147483648), (-1)), (0, 0), (1, 1), (2, 2), (3, 2147483647)])) zc452 := ⟨Nat.le_of_ble_eq_true (by decide +kernel), Nat.le_of_ble_eq_true (by decide +kernel), z_fa.nil, zj452, z_getD zjs452, z_RUN.st (FU := 20000) (stp := []) zjl452 zpSa452⟩
