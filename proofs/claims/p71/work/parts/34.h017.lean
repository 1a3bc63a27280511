/-! ===== a heavy contract, a piece of it ===== -/
theorem zpSa394 : ∀ j, j < 6 → zpS394 j = true := fun j h => by
  match j, h with
  | 0, _ => exact zpS394_0
  | 1, _ => exact zpS394_1
  | 2, _ => exact zpS394_2
  | 3, _ => exact zpS394_3
  | 4, _ => exact zpS394_4
  | 5, _ => exact zpS394_5
  | n + 6, h => exact absurd h (by omega)
theorem zk394 : z_conP zSPd zD (z_callC 14 zu394 (z_runC zSPd 14 zu394 zD zDF zTC 20000 2)) zDF zTC 17179869184 2 0 0 0 4 zT305 zn394 (some (14, [((-2147483648), (-1)), (0, 0), (1, 1), (2, 2), (3, 3), (4, 2147483647)])) zc394 := ⟨Nat.le_of_ble_eq_true (by decide +kernel), Nat.le_of_ble_eq_true (by decide +kernel), z_fa.nil, zj394, z_getD zjs394, z_RUN.st (FU := 20000) (stp := []) zjl394 zpSa394⟩
