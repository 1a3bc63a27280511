/-! ===== the law's round, all of it ===== -/
theorem zLcP : ∀ k ∈ zCtL, (z_msB k.2.1.1 17179869184 k.2.2 = true ∧ k.2.2.length = 1) ∧ ∃ w, z_wl zSPd zD zcL 600000 7302250 4 (some 14) zDF zTC zTLw 1 [(k.1, k.2.1)] = some w ∧ z_RUNs zSPd zD zcL 600000 7302250 4 (some 14) zDF zTC zTLw (fun z => z_ok1 zTLw z || zCtL.any (fun c' => Nat.beq c'.1 z.1 && z_edge 17 k.2.2 z.2 c')) w := by
  refine z_fa.cons ⟨⟨by decide +kernel, rfl⟩, zwL, z_getD zwLs, z_RUNs.more (FU := 20000) (stp := [18, 344, 407, 430, 443, 466, 499, 522, 555, 578, 591, 604, 627, 660, 683, 706, 729, 752, 775, 798, 821, 834, 847, 860, 873, 896, 909, 922, 955, 968, 991, 1024, 1047, 1070, 1093, 1106, 1119, 1132, 1155, 1178, 1201, 1224, 1247, 1260, 1273, 1286, 1309, 1342, 1365, 1398, 1431, 1464, 1497, 1530, 1553, 1576, 1589, 1612, 1645, 1678, 1731, 1774, 1807, 1840, 1873, 1886, 1899, 1932, 1975, 2008, 2031, 2054, 2077, 2120, 2193, 2256]) (n := 75) zgLl (fun j h => ?_)⟩ z_fa.nil
  show z_RUNs zSPd zD zcL 600000 7302250 4 (some 14) zDF zTC zTLw zoL (z_nth zgL j)
  rcases Nat.lt_or_ge j 1 with h1 | h1
  · exact (z_RUN.one (FU := 20000) (stp := [18]) (show zpL j = true from z_rng_all zpL_0 (by omega) (by omega))).s
  rcases Nat.lt_or_ge j 2 with h1 | h1
  · have e : j = 1 := by omega
    subst e
    exact zt1z
  rcases Nat.lt_or_ge j 3 with h1 | h1
  · have e : j = 2 := by omega
    subst e
    exact (zt2_1).s
  rcases Nat.lt_or_ge j 4 with h1 | h1
  · have e : j = 3 := by omega
    subst e
    exact (zt3_1).s
  rcases Nat.lt_or_ge j 5 with h1 | h1
  · exact (z_RUN.one (FU := 20000) (stp := [18]) (show zpL j = true from z_rng_all zpL_4 (by omega) (by omega))).s
  rcases Nat.lt_or_ge j 6 with h1 | h1
  · exact (z_RUN.one (FU := 20000) (stp := [18]) (show zpL j = true from z_rng_all zpL_5 (by omega) (by omega))).s
  rcases Nat.lt_or_ge j 8 with h1 | h1
  · exact (z_RUN.one (FU := 20000) (stp := [18]) (show zpL j = true from z_rng_all zpL_6 (by omega) (by omega))).s
  rcases Nat.lt_or_ge j 10 with h1 | h1
  · exact (z_RUN.one (FU := 20000) (stp := [18]) (show zpL j = true from z_rng_all zpL_8 (by omega) (by omega))).s
  rcases Nat.lt_or_ge j 13 with h1 | h1
  · exact (z_RUN.one (FU := 20000) (stp := [18]) (show zpL j = true from z_rng_all zpL_10 (by omega) (by omega))).s
  rcases Nat.lt_or_ge j 15 with h1 | h1
  · exact (z_RUN.one (FU := 20000) (stp := [18]) (show zpL j = true from z_rng_all zpL_13 (by omega) (by omega))).s
  rcases Nat.lt_or_ge j 16 with h1 | h1
  · exact (z_RUN.one (FU := 20000) (stp := [18]) (show zpL j = true from z_rng_all zpL_15 (by omega) (by omega))).s
  rcases Nat.lt_or_ge j 17 with h1 | h1
  · exact (z_RUN.one (FU := 20000) (stp := [18]) (show zpL j = true from z_rng_all zpL_16 (by omega) (by omega))).s
  rcases Nat.lt_or_ge j 19 with h1 | h1
  · exact (z_RUN.one (FU := 20000) (stp := [18]) (show zpL j = true from z_rng_all zpL_17 (by omega) (by omega))).s
  rcases Nat.lt_or_ge j 23 with h1 | h1
  · exact (z_RUN.one (FU := 20000) (stp := [18]) (show zpL j = true from z_rng_all zpL_19 (by omega) (by omega))).s
  rcases Nat.lt_or_ge j 25 with h1 | h1
  · exact (z_RUN.one (FU := 20000) (stp := [18]) (show zpL j = true from z_rng_all zpL_23 (by omega) (by omega))).s
  rcases Nat.lt_or_ge j 27 with h1 | h1
  · exact (z_RUN.one (FU := 20000) (stp := [18]) (show zpL j = true from z_rng_all zpL_25 (by omega) (by omega))).s
  rcases Nat.lt_or_ge j 29 with h1 | h1
  · exact (z_RUN.one (FU := 20000) (stp := [18]) (show zpL j = true from z_rng_all zpL_27 (by omega) (by omega))).s
  rcases Nat.lt_or_ge j 33 with h1 | h1
  · exact (z_RUN.one (FU := 20000) (stp := [18]) (show zpL j = true from z_rng_all zpL_29 (by omega) (by omega))).s
  rcases Nat.lt_or_ge j 37 with h1 | h1
  · exact (z_RUN.one (FU := 20000) (stp := [18]) (show zpL j = true from z_rng_all zpL_33 (by omega) (by omega))).s
  rcases Nat.lt_or_ge j 42 with h1 | h1
  · exact (z_RUN.one (FU := 20000) (stp := [18]) (show zpL j = true from z_rng_all zpL_37 (by omega) (by omega))).s
  rcases Nat.lt_or_ge j 45 with h1 | h1
  · exact (z_RUN.one (FU := 20000) (stp := [18]) (show zpL j = true from z_rng_all zpL_42 (by omega) (by omega))).s
  rcases Nat.lt_or_ge j 48 with h1 | h1
  · exact (z_RUN.one (FU := 20000) (stp := [18]) (show zpL j = true from z_rng_all zpL_45 (by omega) (by omega))).s
  rcases Nat.lt_or_ge j 52 with h1 | h1
  · exact (z_RUN.one (FU := 20000) (stp := [18]) (show zpL j = true from z_rng_all zpL_48 (by omega) (by omega))).s
  rcases Nat.lt_or_ge j 57 with h1 | h1
  · exact (z_RUN.one (FU := 20000) (stp := [18]) (show zpL j = true from z_rng_all zpL_52 (by omega) (by omega))).s
  rcases Nat.lt_or_ge j 60 with h1 | h1
  · exact (z_RUN.one (FU := 20000) (stp := [18]) (show zpL j = true from z_rng_all zpL_57 (by omega) (by omega))).s
  rcases Nat.lt_or_ge j 63 with h1 | h1
  · exact (z_RUN.one (FU := 20000) (stp := [18]) (show zpL j = true from z_rng_all zpL_60 (by omega) (by omega))).s
  rcases Nat.lt_or_ge j 67 with h1 | h1
  · exact (z_RUN.one (FU := 20000) (stp := [18]) (show zpL j = true from z_rng_all zpL_63 (by omega) (by omega))).s
  rcases Nat.lt_or_ge j 70 with h1 | h1
  · exact (z_RUN.one (FU := 20000) (stp := [18]) (show zpL j = true from z_rng_all zpL_67 (by omega) (by omega))).s
  rcases Nat.lt_or_ge j 73 with h1 | h1
  · exact (z_RUN.one (FU := 20000) (stp := [18]) (show zpL j = true from z_rng_all zpL_70 (by omega) (by omega))).s
  rcases Nat.lt_or_ge j 74 with h1 | h1
  · exact (z_RUN.one (FU := 20000) (stp := [18]) (show zpL j = true from z_rng_all zpL_73 (by omega) (by omega))).s
  · exact (z_RUN.one (FU := 20000) (stp := [18]) (show zpL j = true from z_rng_all zpL_74 (by omega) (by omega))).s
