/-! ===== the law's round, in pieces ===== -/
noncomputable def zwL : List (Nat × zS) := (z_wl zSPd zD zcL 600000 7302250 4 (some 14) zDF zTC zTLw 1 [(18, zPL)]).getD []
set_option maxRecDepth 100000 in
theorem zwLs : (z_wl zSPd zD zcL 600000 7302250 4 (some 14) zDF zTC zTLw 1 [(18, zPL)]).isSome = true := by decide +kernel
noncomputable def zgL : List (Nat × zS) := z_stg zSPd zD zcL 600000 7302250 4 (some 14) zDF zTC zTLw 20000 [18, 344, 407, 430, 443, 466, 499, 522, 555, 578, 591, 604, 627, 660, 683, 706, 729, 752, 775, 798, 821, 834, 847, 860, 873, 896, 909, 922, 955, 968, 991, 1024, 1047, 1070, 1093, 1106, 1119, 1132, 1155, 1178, 1201, 1224, 1247, 1260, 1273, 1286, 1309, 1342, 1365, 1398, 1431, 1464, 1497, 1530, 1553, 1576, 1589, 1612, 1645, 1678, 1731, 1774, 1807, 1840, 1873, 1886, 1899, 1932, 1975, 2008, 2031, 2054, 2077, 2120, 2193, 2256] (some zwL)
set_option maxRecDepth 100000 in
theorem zgLl : zgL.length = 76 := by decide +kernel
noncomputable abbrev zoL : Nat × zS → Bool := (fun z => z_ok1 zTLw z || zCtL.any (fun c' => Nat.beq c'.1 z.1 && z_edge 17 [(3073, 17)] z.2 c'))
noncomputable def zpL (j : Nat) : Bool := z_exR zSPd zD zcL 600000 7302250 4 (some 14) zDF zTC zTLw 20000 [18] zoL (z_nth zgL j)
