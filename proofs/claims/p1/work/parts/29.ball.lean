/-! ===== all of them ===== -/
theorem zb_all : ∀ mi, mi < zD.length → zBB mi = true := by
  intro mi hm
  have hl : zD.length = 204 := by decide +kernel
  rw [hl] at hm
  rcases Nat.lt_or_ge mi 12 with h | h
  · exact z_rng_all zb_0 (by omega) (by omega)
  rcases Nat.lt_or_ge mi 24 with h | h
  · exact z_rng_all zb_12 (by omega) (by omega)
  rcases Nat.lt_or_ge mi 36 with h | h
  · exact z_rng_all zb_24 (by omega) (by omega)
  rcases Nat.lt_or_ge mi 48 with h | h
  · exact z_rng_all zb_36 (by omega) (by omega)
  rcases Nat.lt_or_ge mi 60 with h | h
  · exact z_rng_all zb_48 (by omega) (by omega)
  rcases Nat.lt_or_ge mi 72 with h | h
  · exact z_rng_all zb_60 (by omega) (by omega)
  rcases Nat.lt_or_ge mi 84 with h | h
  · exact z_rng_all zb_72 (by omega) (by omega)
  rcases Nat.lt_or_ge mi 96 with h | h
  · exact z_rng_all zb_84 (by omega) (by omega)
  rcases Nat.lt_or_ge mi 108 with h | h
  · exact z_rng_all zb_96 (by omega) (by omega)
  rcases Nat.lt_or_ge mi 120 with h | h
  · exact z_rng_all zb_108 (by omega) (by omega)
  rcases Nat.lt_or_ge mi 132 with h | h
  · exact z_rng_all zb_120 (by omega) (by omega)
  rcases Nat.lt_or_ge mi 144 with h | h
  · exact z_rng_all zb_132 (by omega) (by omega)
  rcases Nat.lt_or_ge mi 156 with h | h
  · exact z_rng_all zb_144 (by omega) (by omega)
  rcases Nat.lt_or_ge mi 168 with h | h
  · exact z_rng_all zb_156 (by omega) (by omega)
  rcases Nat.lt_or_ge mi 180 with h | h
  · exact z_rng_all zb_168 (by omega) (by omega)
  rcases Nat.lt_or_ge mi 192 with h | h
  · exact z_rng_all zb_180 (by omega) (by omega)
  exact z_rng_all zb_192 (by omega) (by omega)
theorem zl_all : ∀ k, k < zTL.length → zLB k = true := by
  intro k hm
  have hl : zTL.length = 71 := by decide +kernel
  rw [hl] at hm
  rcases Nat.lt_or_ge k 2 with h | h
  · exact z_rng_all zl_0 (by omega) (by omega)
  rcases Nat.lt_or_ge k 4 with h | h
  · exact z_rng_all zl_2 (by omega) (by omega)
  rcases Nat.lt_or_ge k 6 with h | h
  · exact z_rng_all zl_4 (by omega) (by omega)
  rcases Nat.lt_or_ge k 8 with h | h
  · exact z_rng_all zl_6 (by omega) (by omega)
  rcases Nat.lt_or_ge k 10 with h | h
  · exact z_rng_all zl_8 (by omega) (by omega)
  rcases Nat.lt_or_ge k 12 with h | h
  · exact z_rng_all zl_10 (by omega) (by omega)
  rcases Nat.lt_or_ge k 14 with h | h
  · exact z_rng_all zl_12 (by omega) (by omega)
  rcases Nat.lt_or_ge k 16 with h | h
  · exact z_rng_all zl_14 (by omega) (by omega)
  rcases Nat.lt_or_ge k 18 with h | h
  · exact z_rng_all zl_16 (by omega) (by omega)
  rcases Nat.lt_or_ge k 20 with h | h
  · exact z_rng_all zl_18 (by omega) (by omega)
  rcases Nat.lt_or_ge k 22 with h | h
  · exact z_rng_all zl_20 (by omega) (by omega)
  rcases Nat.lt_or_ge k 24 with h | h
  · exact z_rng_all zl_22 (by omega) (by omega)
  rcases Nat.lt_or_ge k 26 with h | h
  · exact z_rng_all zl_24 (by omega) (by omega)
  rcases Nat.lt_or_ge k 28 with h | h
  · exact z_rng_all zl_26 (by omega) (by omega)
  rcases Nat.lt_or_ge k 30 with h | h
  · exact z_rng_all zl_28 (by omega) (by omega)
  rcases Nat.lt_or_ge k 32 with h | h
  · exact z_rng_all zl_30 (by omega) (by omega)
  rcases Nat.lt_or_ge k 34 with h | h
  · exact z_rng_all zl_32 (by omega) (by omega)
  rcases Nat.lt_or_ge k 36 with h | h
  · exact z_rng_all zl_34 (by omega) (by omega)
  rcases Nat.lt_or_ge k 38 with h | h
  · exact z_rng_all zl_36 (by omega) (by omega)
  rcases Nat.lt_or_ge k 40 with h | h
  · exact z_rng_all zl_38 (by omega) (by omega)
  rcases Nat.lt_or_ge k 42 with h | h
  · exact z_rng_all zl_40 (by omega) (by omega)
  rcases Nat.lt_or_ge k 44 with h | h
  · exact z_rng_all zl_42 (by omega) (by omega)
  rcases Nat.lt_or_ge k 46 with h | h
  · exact z_rng_all zl_44 (by omega) (by omega)
  rcases Nat.lt_or_ge k 48 with h | h
  · exact z_rng_all zl_46 (by omega) (by omega)
  rcases Nat.lt_or_ge k 50 with h | h
  · exact z_rng_all zl_48 (by omega) (by omega)
  rcases Nat.lt_or_ge k 52 with h | h
  · exact z_rng_all zl_50 (by omega) (by omega)
  rcases Nat.lt_or_ge k 54 with h | h
  · exact z_rng_all zl_52 (by omega) (by omega)
  rcases Nat.lt_or_ge k 56 with h | h
  · exact z_rng_all zl_54 (by omega) (by omega)
  rcases Nat.lt_or_ge k 58 with h | h
  · exact z_rng_all zl_56 (by omega) (by omega)
  rcases Nat.lt_or_ge k 60 with h | h
  · exact z_rng_all zl_58 (by omega) (by omega)
  rcases Nat.lt_or_ge k 62 with h | h
  · exact z_rng_all zl_60 (by omega) (by omega)
  rcases Nat.lt_or_ge k 64 with h | h
  · exact z_rng_all zl_62 (by omega) (by omega)
  rcases Nat.lt_or_ge k 66 with h | h
  · exact z_rng_all zl_64 (by omega) (by omega)
  rcases Nat.lt_or_ge k 68 with h | h
  · exact z_rng_all zl_66 (by omega) (by omega)
  rcases Nat.lt_or_ge k 70 with h | h
  · exact z_rng_all zl_68 (by omega) (by omega)
  exact z_rng_all zl_70 (by omega) (by omega)
