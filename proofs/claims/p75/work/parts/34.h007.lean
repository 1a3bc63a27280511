/-! ===== a heavy contract, a piece of it ===== -/
/-- m.whyNot, in pieces -/
noncomputable def zv394 : List (Nat × zCn) := []
noncomputable abbrev zw394 : zL := (z_callC 14 zv394 (z_runC zSPd 14 zv394 zD zDF zTC 20000 2))
noncomputable def zc394_0 : zCt := (50, ((zjl_689, [(3, 0, 2, 0, 0)]), [(0, (2, 0, 0)), (1, (0, 14, 0)), (3, (0, 0, 0))], [], [zcl287, zcl288, zcl289, zcl259, zcl37, zcl72, zcl290, zcl291, zcl262, zcl263, zcl264, zcl265, zcl292, zcl12, zcl12, zcl12, zcl13, zcl13, zcl14, zcl42, zcl42, zcl267, zcl49], 0, 0), [(99950, 0), (60, 0)])
noncomputable def zc394_1 : zCt := (50, ((zjl_691, [(3, 0, 2, 0, 0)]), [(0, (2, 0, 0)), (1, (0, 14, 0)), (3, (0, 0, 0))], [], [zcl287, zcl288, zcl289, zcl259, zcl37, zcl72, zcl290, zcl291, zcl262, zcl263, zcl264, zcl265, zcl292, zcl12, zcl12, zcl12, zcl13, zcl13, zcl14, zcl42, zcl42, zcl267, zcl49], 0, 0), [(99950, 0), (60, 0)])
noncomputable def zc394_2 : zCt := (50, ((zjl_693, [(3, 0, 2, 0, 0)]), [(0, (2, 0, 0)), (1, (0, 14, 0)), (3, (0, 0, 0))], [], [zcl287, zcl288, zcl289, zcl259, zcl37, zcl72, zcl290, zcl291, zcl262, zcl263, zcl264, zcl265, zcl292, zcl12, zcl12, zcl12, zcl13, zcl13, zcl14, zcl42, zcl42, zcl267, zcl49], 0, 0), [(99950, 0), (60, 0)])
noncomputable def zc394_3 : zCt := (50, ((zjl_695, [(3, 0, 2, 0, 0)]), [(0, (2, 0, 0)), (1, (0, 14, 0)), (3, (0, 0, 0))], [], [zcl287, zcl288, zcl289, zcl259, zcl37, zcl72, zcl290, zcl291, zcl262, zcl263, zcl264, zcl265, zcl292, zcl12, zcl12, zcl12, zcl13, zcl13, zcl14, zcl42, zcl42, zcl267, zcl49], 0, 0), [(99950, 0), (60, 0)])
noncomputable def zc394_4 : zCt := (50, ((zjl_698, [(3, 107, 2, 0, 0)]), [(0, (2, 0, 0)), (1, (0, 14, 0)), (3, (0, 107, 0))], [], [zcl287, zcl288, zcl289, zcl699, zcl37, zcl72, zcl290, zcl291, zcl262, zcl263, zcl264, zcl265, zcl292, zcl12, zcl12, zcl12, zcl13, zcl13, zcl14, zcl42, zcl42, zcl267, zcl49], 0, 0), [(99950, 0), (60, 107)])
noncomputable def zc394_5 : zCt := (50, ((zjl_700, [(3, 107, 2, 0, 0)]), [(0, (2, 0, 0)), (1, (0, 14, 0)), (3, (0, 107, 0))], [], [zcl287, zcl288, zcl289, zcl701, zcl37, zcl72, zcl290, zcl291, zcl262, zcl263, zcl264, zcl265, zcl292, zcl12, zcl12, zcl12, zcl13, zcl13, zcl14, zcl42, zcl42, zcl267, zcl49], 0, 0), [(99950, 0), (60, 107)])
noncomputable def zc394_6 : zCt := (50, ((zjl_702, [(3, 107, 2, 0, 0)]), [(0, (2, 0, 0)), (1, (0, 14, 0)), (3, (0, 107, 0))], [], [zcl287, zcl288, zcl289, zcl703, zcl37, zcl72, zcl290, zcl291, zcl262, zcl263, zcl264, zcl265, zcl292, zcl12, zcl12, zcl12, zcl13, zcl13, zcl14, zcl42, zcl42, zcl267, zcl49], 0, 0), [(99950, 0), (60, 107)])
noncomputable def zc394_7 : zCt := (50, ((zjl_704, [(3, 107, 2, 0, 0)]), [(0, (2, 0, 0)), (1, (0, 14, 0)), (3, (0, 107, 0))], [], [zcl287, zcl288, zcl289, zcl705, zcl37, zcl72, zcl290, zcl291, zcl262, zcl263, zcl264, zcl265, zcl292, zcl12, zcl12, zcl12, zcl13, zcl13, zcl14, zcl42, zcl42, zcl267, zcl49], 0, 0), [(99950, 0), (60, 107)])
noncomputable def zj394 : List zJ := (z_starts zn394.1.1 (some (14, zjl_252))).getD []
set_option maxRecDepth 100000 in
theorem zjs394 : (z_starts zn394.1.1 (some (14, zjl_252))).isSome = true := by decide +kernel
set_option maxRecDepth 100000 in
theorem zjl394 : zj394.length = 6 := by decide +kernel
noncomputable abbrev zoS394 : Nat × zS → Bool := z_okS 0 0 0 zT305 zn394 zc394
noncomputable abbrev zoC394_0 : Nat × zS → Bool := z_okC 0 0 0 zT305 zn394 zc394 zc394_0
noncomputable abbrev zoC394_1 : Nat × zS → Bool := z_okC 0 0 0 zT305 zn394 zc394 zc394_1
noncomputable abbrev zoC394_2 : Nat × zS → Bool := z_okC 0 0 0 zT305 zn394 zc394 zc394_2
noncomputable abbrev zoC394_3 : Nat × zS → Bool := z_okC 0 0 0 zT305 zn394 zc394 zc394_3
noncomputable abbrev zoC394_4 : Nat × zS → Bool := z_okC 0 0 0 zT305 zn394 zc394 zc394_4
noncomputable abbrev zoC394_5 : Nat × zS → Bool := z_okC 0 0 0 zT305 zn394 zc394 zc394_5
noncomputable abbrev zoC394_6 : Nat × zS → Bool := z_okC 0 0 0 zT305 zn394 zc394 zc394_6
noncomputable abbrev zoC394_7 : Nat × zS → Bool := z_okC 0 0 0 zT305 zn394 zc394 zc394_7
set_option maxRecDepth 100000 in
theorem zs394_0_1 : z_RUN zSPd zD zw394 0 0 4 none zDF zTC zT305 zoS394 (z_swj zn394 zj394 0) := z_RUN.one (FU := 20000) (stp := [50, 50, 50, 50, 50, 50, 50, 50]) (by decide +kernel)
set_option maxRecDepth 100000 in
theorem zs394_1_1 : z_RUN zSPd zD zw394 0 0 4 none zDF zTC zT305 zoS394 (z_swj zn394 zj394 1) := z_RUN.one (FU := 20000) (stp := [50, 50, 50, 50, 50, 50, 50, 50]) (by decide +kernel)
set_option maxRecDepth 100000 in
theorem zs394_2_1 : z_RUN zSPd zD zw394 0 0 4 none zDF zTC zT305 zoS394 (z_swj zn394 zj394 2) := z_RUN.one (FU := 20000) (stp := [50, 50, 50, 50, 50, 50, 50, 50]) (by decide +kernel)
set_option maxRecDepth 100000 in
theorem zs394_3_1 : z_RUN zSPd zD zw394 0 0 4 none zDF zTC zT305 zoS394 (z_swj zn394 zj394 3) := z_RUN.one (FU := 20000) (stp := [50, 50, 50, 50, 50, 50, 50, 50]) (by decide +kernel)
set_option maxRecDepth 100000 in
theorem zs394_4_1 : z_RUN zSPd zD zw394 0 0 4 none zDF zTC zT305 zoS394 (z_swj zn394 zj394 4) := z_RUN.one (FU := 20000) (stp := [50, 50, 50, 50, 50, 50, 50, 50]) (by decide +kernel)
set_option maxRecDepth 100000 in
theorem zs394_5_1 : z_RUN zSPd zD zw394 0 0 4 none zDF zTC zT305 zoS394 (z_swj zn394 zj394 5) := z_RUN.one (FU := 20000) (stp := [50, 50, 50, 50, 50, 50, 50, 50]) (by decide +kernel)
noncomputable def zhw394_0 : List (Nat × zS) := (z_wl zSPd zD zw394 0 0 4 none zDF zTC zT305 1 [(zc394_0.1, zc394_0.2.1)]).getD []
set_option maxRecDepth 100000 in
theorem zhs394_0 : (z_wl zSPd zD zw394 0 0 4 none zDF zTC zT305 1 [(zc394_0.1, zc394_0.2.1)]).isSome = true := by decide +kernel
set_option maxRecDepth 100000 in
theorem zq394_0_1 : z_RUN zSPd zD zw394 0 0 4 none zDF zTC zT305 zoC394_0 zhw394_0 := z_RUN.one (FU := 20000) (stp := [50, 50, 50, 50, 50, 50, 50, 50]) (by decide +kernel)
theorem zhc394_0 : (z_msB zc394_0.2.1.1 17179869184 zc394_0.2.2 = true ∧ zc394_0.2.2.length = 2) ∧ ∃ w, z_wl zSPd zD zw394 0 0 4 none zDF zTC zT305 1 [(zc394_0.1, zc394_0.2.1)] = some w ∧ z_RUN zSPd zD zw394 0 0 4 none zDF zTC zT305 zoC394_0 w :=
  ⟨⟨by decide +kernel, by decide +kernel⟩, zhw394_0, z_getD zhs394_0, zq394_0_1⟩
noncomputable def zhw394_1 : List (Nat × zS) := (z_wl zSPd zD zw394 0 0 4 none zDF zTC zT305 1 [(zc394_1.1, zc394_1.2.1)]).getD []
set_option maxRecDepth 100000 in
theorem zhs394_1 : (z_wl zSPd zD zw394 0 0 4 none zDF zTC zT305 1 [(zc394_1.1, zc394_1.2.1)]).isSome = true := by decide +kernel
set_option maxRecDepth 100000 in
theorem zq394_1_1 : z_RUN zSPd zD zw394 0 0 4 none zDF zTC zT305 zoC394_1 zhw394_1 := z_RUN.one (FU := 20000) (stp := [50, 50, 50, 50, 50, 50, 50, 50]) (by decide +kernel)
theorem zhc394_1 : (z_msB zc394_1.2.1.1 17179869184 zc394_1.2.2 = true ∧ zc394_1.2.2.length = 2) ∧ ∃ w, z_wl zSPd zD zw394 0 0 4 none zDF zTC zT305 1 [(zc394_1.1, zc394_1.2.1)] = some w ∧ z_RUN zSPd zD zw394 0 0 4 none zDF zTC zT305 zoC394_1 w :=
  ⟨⟨by decide +kernel, by decide +kernel⟩, zhw394_1, z_getD zhs394_1, zq394_1_1⟩
noncomputable def zhw394_2 : List (Nat × zS) := (z_wl zSPd zD zw394 0 0 4 none zDF zTC zT305 1 [(zc394_2.1, zc394_2.2.1)]).getD []
set_option maxRecDepth 100000 in
theorem zhs394_2 : (z_wl zSPd zD zw394 0 0 4 none zDF zTC zT305 1 [(zc394_2.1, zc394_2.2.1)]).isSome = true := by decide +kernel
set_option maxRecDepth 100000 in
theorem zq394_2_1 : z_RUN zSPd zD zw394 0 0 4 none zDF zTC zT305 zoC394_2 zhw394_2 := z_RUN.one (FU := 20000) (stp := [50, 50, 50, 50, 50, 50, 50, 50]) (by decide +kernel)
theorem zhc394_2 : (z_msB zc394_2.2.1.1 17179869184 zc394_2.2.2 = true ∧ zc394_2.2.2.length = 2) ∧ ∃ w, z_wl zSPd zD zw394 0 0 4 none zDF zTC zT305 1 [(zc394_2.1, zc394_2.2.1)] = some w ∧ z_RUN zSPd zD zw394 0 0 4 none zDF zTC zT305 zoC394_2 w :=
  ⟨⟨by decide +kernel, by decide +kernel⟩, zhw394_2, z_getD zhs394_2, zq394_2_1⟩
noncomputable def zhw394_3 : List (Nat × zS) := (z_wl zSPd zD zw394 0 0 4 none zDF zTC zT305 1 [(zc394_3.1, zc394_3.2.1)]).getD []
set_option maxRecDepth 100000 in
theorem zhs394_3 : (z_wl zSPd zD zw394 0 0 4 none zDF zTC zT305 1 [(zc394_3.1, zc394_3.2.1)]).isSome = true := by decide +kernel
set_option maxRecDepth 100000 in
theorem zq394_3_1 : z_RUN zSPd zD zw394 0 0 4 none zDF zTC zT305 zoC394_3 zhw394_3 := z_RUN.one (FU := 20000) (stp := [50, 50, 50, 50, 50, 50, 50, 50]) (by decide +kernel)
theorem zhc394_3 : (z_msB zc394_3.2.1.1 17179869184 zc394_3.2.2 = true ∧ zc394_3.2.2.length = 2) ∧ ∃ w, z_wl zSPd zD zw394 0 0 4 none zDF zTC zT305 1 [(zc394_3.1, zc394_3.2.1)] = some w ∧ z_RUN zSPd zD zw394 0 0 4 none zDF zTC zT305 zoC394_3 w :=
  ⟨⟨by decide +kernel, by decide +kernel⟩, zhw394_3, z_getD zhs394_3, zq394_3_1⟩
noncomputable def zhw394_4 : List (Nat × zS) := (z_wl zSPd zD zw394 0 0 4 none zDF zTC zT305 1 [(zc394_4.1, zc394_4.2.1)]).getD []
set_option maxRecDepth 100000 in
theorem zhs394_4 : (z_wl zSPd zD zw394 0 0 4 none zDF zTC zT305 1 [(zc394_4.1, zc394_4.2.1)]).isSome = true := by decide +kernel
set_option maxRecDepth 100000 in
theorem zq394_4_1 : z_RUN zSPd zD zw394 0 0 4 none zDF zTC zT305 zoC394_4 zhw394_4 := z_RUN.one (FU := 20000) (stp := [50, 50, 50, 50, 50, 50, 50, 50]) (by decide +kernel)
theorem zhc394_4 : (z_msB zc394_4.2.1.1 17179869184 zc394_4.2.2 = true ∧ zc394_4.2.2.length = 2) ∧ ∃ w, z_wl zSPd zD zw394 0 0 4 none zDF zTC zT305 1 [(zc394_4.1, zc394_4.2.1)] = some w ∧ z_RUN zSPd zD zw394 0 0 4 none zDF zTC zT305 zoC394_4 w :=
  ⟨⟨by decide +kernel, by decide +kernel⟩, zhw394_4, z_getD zhs394_4, zq394_4_1⟩
noncomputable def zhw394_5 : List (Nat × zS) := (z_wl zSPd zD zw394 0 0 4 none zDF zTC zT305 1 [(zc394_5.1, zc394_5.2.1)]).getD []
set_option maxRecDepth 100000 in
theorem zhs394_5 : (z_wl zSPd zD zw394 0 0 4 none zDF zTC zT305 1 [(zc394_5.1, zc394_5.2.1)]).isSome = true := by decide +kernel
