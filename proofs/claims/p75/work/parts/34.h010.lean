/-! ===== a heavy contract, a piece of it ===== -/
set_option maxRecDepth 100000 in
theorem zq449_8_1 : z_RUN zSPd zD zw449 0 0 7 none zDF zTC zT314 zoCQ449_8 zhw449_8 := z_RUN.one (FU := 20000) (stp := [118, 118, 118, 118, 118, 118, 118, 118, 118, 118, 118, 118, 118, 118, 118, 118, 155, 155, 155, 155, 155, 155, 155, 155, 155, 155, 155, 155, 155, 155, 155, 155]) (by decide +kernel)
theorem zhc449_8 : (z_msB zc449_8.2.1.1 17179869184 zc449_8.2.2 = true ∧ zc449_8.2.2.length = 2) ∧ ∃ w, z_wl zSPd zD zw449 0 0 7 none zDF zTC zT314 1 [(zc449_8.1, zc449_8.2.1)] = some w ∧ z_RUN zSPd zD zw449 0 0 7 none zDF zTC zT314 zoC449_8 w :=
  ⟨⟨by decide +kernel, by decide +kernel⟩, zhw449_8, z_getD zhs449_8, z_RUN.wk (fun z h => z_okCQ_ok h) zq449_8_1⟩
noncomputable def zhw449_9 : List (Nat × zS) := (z_wl zSPd zD zw449 0 0 7 none zDF zTC zT314 1 [(zc449_9.1, zc449_9.2.1)]).getD []
set_option maxRecDepth 100000 in
theorem zhs449_9 : (z_wl zSPd zD zw449 0 0 7 none zDF zTC zT314 1 [(zc449_9.1, zc449_9.2.1)]).isSome = true := by decide +kernel
set_option maxRecDepth 100000 in
theorem zq449_9_1 : z_RUN zSPd zD zw449 0 0 7 none zDF zTC zT314 zoCQ449_9 zhw449_9 := z_RUN.one (FU := 20000) (stp := [118, 118, 118, 118, 118, 118, 118, 118, 118, 118, 118, 118, 118, 118, 118, 118, 155, 155, 155, 155, 155, 155, 155, 155, 155, 155, 155, 155, 155, 155, 155, 155]) (by decide +kernel)
theorem zhc449_9 : (z_msB zc449_9.2.1.1 17179869184 zc449_9.2.2 = true ∧ zc449_9.2.2.length = 2) ∧ ∃ w, z_wl zSPd zD zw449 0 0 7 none zDF zTC zT314 1 [(zc449_9.1, zc449_9.2.1)] = some w ∧ z_RUN zSPd zD zw449 0 0 7 none zDF zTC zT314 zoC449_9 w :=
  ⟨⟨by decide +kernel, by decide +kernel⟩, zhw449_9, z_getD zhs449_9, z_RUN.wk (fun z h => z_okCQ_ok h) zq449_9_1⟩
noncomputable def zhw449_10 : List (Nat × zS) := (z_wl zSPd zD zw449 0 0 7 none zDF zTC zT314 1 [(zc449_10.1, zc449_10.2.1)]).getD []
set_option maxRecDepth 100000 in
theorem zhs449_10 : (z_wl zSPd zD zw449 0 0 7 none zDF zTC zT314 1 [(zc449_10.1, zc449_10.2.1)]).isSome = true := by decide +kernel
set_option maxRecDepth 100000 in
theorem zq449_10_1 : z_RUN zSPd zD zw449 0 0 7 none zDF zTC zT314 zoCQ449_10 zhw449_10 := z_RUN.one (FU := 20000) (stp := [118, 118, 118, 118, 118, 118, 118, 118, 118, 118, 118, 118, 118, 118, 118, 118, 155, 155, 155, 155, 155, 155, 155, 155, 155, 155, 155, 155, 155, 155, 155, 155]) (by decide +kernel)
theorem zhc449_10 : (z_msB zc449_10.2.1.1 17179869184 zc449_10.2.2 = true ∧ zc449_10.2.2.length = 2) ∧ ∃ w, z_wl zSPd zD zw449 0 0 7 none zDF zTC zT314 1 [(zc449_10.1, zc449_10.2.1)] = some w ∧ z_RUN zSPd zD zw449 0 0 7 none zDF zTC zT314 zoC449_10 w :=
  ⟨⟨by decide +kernel, by decide +kernel⟩, zhw449_10, z_getD zhs449_10, z_RUN.wk (fun z h => z_okCQ_ok h) zq449_10_1⟩
noncomputable def zhw449_11 : List (Nat × zS) := (z_wl zSPd zD zw449 0 0 7 none zDF zTC zT314 1 [(zc449_11.1, zc449_11.2.1)]).getD []
set_option maxRecDepth 100000 in
theorem zhs449_11 : (z_wl zSPd zD zw449 0 0 7 none zDF zTC zT314 1 [(zc449_11.1, zc449_11.2.1)]).isSome = true := by decide +kernel
set_option maxRecDepth 100000 in
theorem zq449_11_1 : z_RUN zSPd zD zw449 0 0 7 none zDF zTC zT314 zoCQ449_11 zhw449_11 := z_RUN.one (FU := 20000) (stp := [118, 118, 118, 118, 118, 118, 118, 118, 118, 118, 118, 118, 118, 118, 118, 118, 155, 155, 155, 155, 155, 155, 155, 155, 155, 155, 155, 155, 155, 155, 155, 155]) (by decide +kernel)
theorem zhc449_11 : (z_msB zc449_11.2.1.1 17179869184 zc449_11.2.2 = true ∧ zc449_11.2.2.length = 2) ∧ ∃ w, z_wl zSPd zD zw449 0 0 7 none zDF zTC zT314 1 [(zc449_11.1, zc449_11.2.1)] = some w ∧ z_RUN zSPd zD zw449 0 0 7 none zDF zTC zT314 zoC449_11 w :=
  ⟨⟨by decide +kernel, by decide +kernel⟩, zhw449_11, z_getD zhs449_11, z_RUN.wk (fun z h => z_okCQ_ok h) zq449_11_1⟩
noncomputable def zhw449_12 : List (Nat × zS) := (z_wl zSPd zD zw449 0 0 7 none zDF zTC zT314 1 [(zc449_12.1, zc449_12.2.1)]).getD []
set_option maxRecDepth 100000 in
theorem zhs449_12 : (z_wl zSPd zD zw449 0 0 7 none zDF zTC zT314 1 [(zc449_12.1, zc449_12.2.1)]).isSome = true := by decide +kernel
set_option maxRecDepth 100000 in
theorem zq449_12_1 : z_RUN zSPd zD zw449 0 0 7 none zDF zTC zT314 zoCQ449_12 zhw449_12 := z_RUN.one (FU := 20000) (stp := [118, 118, 118, 118, 118, 118, 118, 118, 118, 118, 118, 118, 118, 118, 118, 118, 155, 155, 155, 155, 155, 155, 155, 155, 155, 155, 155, 155, 155, 155, 155, 155]) (by decide +kernel)
theorem zhc449_12 : (z_msB zc449_12.2.1.1 17179869184 zc449_12.2.2 = true ∧ zc449_12.2.2.length = 2) ∧ ∃ w, z_wl zSPd zD zw449 0 0 7 none zDF zTC zT314 1 [(zc449_12.1, zc449_12.2.1)] = some w ∧ z_RUN zSPd zD zw449 0 0 7 none zDF zTC zT314 zoC449_12 w :=
  ⟨⟨by decide +kernel, by decide +kernel⟩, zhw449_12, z_getD zhs449_12, z_RUN.wk (fun z h => z_okCQ_ok h) zq449_12_1⟩
noncomputable def zhw449_13 : List (Nat × zS) := (z_wl zSPd zD zw449 0 0 7 none zDF zTC zT314 1 [(zc449_13.1, zc449_13.2.1)]).getD []
set_option maxRecDepth 100000 in
theorem zhs449_13 : (z_wl zSPd zD zw449 0 0 7 none zDF zTC zT314 1 [(zc449_13.1, zc449_13.2.1)]).isSome = true := by decide +kernel
set_option maxRecDepth 100000 in
theorem zq449_13_1 : z_RUN zSPd zD zw449 0 0 7 none zDF zTC zT314 zoCQ449_13 zhw449_13 := z_RUN.one (FU := 20000) (stp := [118, 118, 118, 118, 118, 118, 118, 118, 118, 118, 118, 118, 118, 118, 118, 118, 155, 155, 155, 155, 155, 155, 155, 155, 155, 155, 155, 155, 155, 155, 155, 155]) (by decide +kernel)
theorem zhc449_13 : (z_msB zc449_13.2.1.1 17179869184 zc449_13.2.2 = true ∧ zc449_13.2.2.length = 2) ∧ ∃ w, z_wl zSPd zD zw449 0 0 7 none zDF zTC zT314 1 [(zc449_13.1, zc449_13.2.1)] = some w ∧ z_RUN zSPd zD zw449 0 0 7 none zDF zTC zT314 zoC449_13 w :=
  ⟨⟨by decide +kernel, by decide +kernel⟩, zhw449_13, z_getD zhs449_13, z_RUN.wk (fun z h => z_okCQ_ok h) zq449_13_1⟩
noncomputable def zhw449_14 : List (Nat × zS) := (z_wl zSPd zD zw449 0 0 7 none zDF zTC zT314 1 [(zc449_14.1, zc449_14.2.1)]).getD []
set_option maxRecDepth 100000 in
theorem zhs449_14 : (z_wl zSPd zD zw449 0 0 7 none zDF zTC zT314 1 [(zc449_14.1, zc449_14.2.1)]).isSome = true := by decide +kernel
set_option maxRecDepth 100000 in
theorem zq449_14_1 : z_RUN zSPd zD zw449 0 0 7 none zDF zTC zT314 zoCQ449_14 zhw449_14 := z_RUN.one (FU := 20000) (stp := [118, 118, 118, 118, 118, 118, 118, 118, 118, 118, 118, 118, 118, 118, 118, 118, 155, 155, 155, 155, 155, 155, 155, 155, 155, 155, 155, 155, 155, 155, 155, 155]) (by decide +kernel)
theorem zhc449_14 : (z_msB zc449_14.2.1.1 17179869184 zc449_14.2.2 = true ∧ zc449_14.2.2.length = 2) ∧ ∃ w, z_wl zSPd zD zw449 0 0 7 none zDF zTC zT314 1 [(zc449_14.1, zc449_14.2.1)] = some w ∧ z_RUN zSPd zD zw449 0 0 7 none zDF zTC zT314 zoC449_14 w :=
  ⟨⟨by decide +kernel, by decide +kernel⟩, zhw449_14, z_getD zhs449_14, z_RUN.wk (fun z h => z_okCQ_ok h) zq449_14_1⟩
noncomputable def zhw449_15 : List (Nat × zS) := (z_wl zSPd zD zw449 0 0 7 none zDF zTC zT314 1 [(zc449_15.1, zc449_15.2.1)]).getD []
set_option maxRecDepth 100000 in
theorem zhs449_15 : (z_wl zSPd zD zw449 0 0 7 none zDF zTC zT314 1 [(zc449_15.1, zc449_15.2.1)]).isSome = true := by decide +kernel
set_option maxRecDepth 100000 in
theorem zq449_15_1 : z_RUN zSPd zD zw449 0 0 7 none zDF zTC zT314 zoCQ449_15 zhw449_15 := z_RUN.one (FU := 20000) (stp := [118, 118, 118, 118, 118, 118, 118, 118, 118, 118, 118, 118, 118, 118, 118, 118, 155, 155, 155, 155, 155, 155, 155, 155, 155, 155, 155, 155, 155, 155, 155, 155]) (by decide +kernel)
theorem zhc449_15 : (z_msB zc449_15.2.1.1 17179869184 zc449_15.2.2 = true ∧ zc449_15.2.2.length = 2) ∧ ∃ w, z_wl zSPd zD zw449 0 0 7 none zDF zTC zT314 1 [(zc449_15.1, zc449_15.2.1)] = some w ∧ z_RUN zSPd zD zw449 0 0 7 none zDF zTC zT314 zoC449_15 w :=
  ⟨⟨by decide +kernel, by decide +kernel⟩, zhw449_15, z_getD zhs449_15, z_RUN.wk (fun z h => z_okCQ_ok h) zq449_15_1⟩
noncomputable def zhw449_16 : List (Nat × zS) := (z_wl zSPd zD zw449 0 0 7 none zDF zTC zT314 1 [(zc449_16.1, zc449_16.2.1)]).getD []
set_option maxRecDepth 100000 in
theorem zhs449_16 : (z_wl zSPd zD zw449 0 0 7 none zDF zTC zT314 1 [(zc449_16.1, zc449_16.2.1)]).isSome = true := by decide +kernel
set_option maxRecDepth 100000 in
theorem zq449_16_1 : z_RUN zSPd zD zw449 0 0 7 none zDF zTC zT314 zoCQ449_16 zhw449_16 := z_RUN.one (FU := 20000) (stp := [118, 118, 118, 118, 118, 118, 118, 118, 118, 118, 118, 118, 118, 118, 118, 118, 155, 155, 155, 155, 155, 155, 155, 155, 155, 155, 155, 155, 155, 155, 155, 155]) (by decide +kernel)
theorem zhc449_16 : (z_msB zc449_16.2.1.1 17179869184 zc449_16.2.2 = true ∧ zc449_16.2.2.length = 2) ∧ ∃ w, z_wl zSPd zD zw449 0 0 7 none zDF zTC zT314 1 [(zc449_16.1, zc449_16.2.1)] = some w ∧ z_RUN zSPd zD zw449 0 0 7 none zDF zTC zT314 zoC449_16 w :=
  ⟨⟨by decide +kernel, by decide +kernel⟩, zhw449_16, z_getD zhs449_16, z_RUN.wk (fun z h => z_okCQ_ok h) zq449_16_1⟩
noncomputable def zhw449_17 : List (Nat × zS) := (z_wl zSPd zD zw449 0 0 7 none zDF zTC zT314 1 [(zc449_17.1, zc449_17.2.1)]).getD []
set_option maxRecDepth 100000 in
theorem zhs449_17 : (z_wl zSPd zD zw449 0 0 7 none zDF zTC zT314 1 [(zc449_17.1, zc449_17.2.1)]).isSome = true := by decide +kernel
set_option maxRecDepth 100000 in
theorem zq449_17_1 : z_RUN zSPd zD zw449 0 0 7 none zDF zTC zT314 zoCQ449_17 zhw449_17 := z_RUN.one (FU := 20000) (stp := [118, 118, 118, 118, 118, 118, 118, 118, 118, 118, 118, 118, 118, 118, 118, 118, 155, 155, 155, 155, 155, 155, 155, 155, 155, 155, 155, 155, 155, 155, 155, 155]) (by decide +kernel)
theorem zhc449_17 : (z_msB zc449_17.2.1.1 17179869184 zc449_17.2.2 = true ∧ zc449_17.2.2.length = 2) ∧ ∃ w, z_wl zSPd zD zw449 0 0 7 none zDF zTC zT314 1 [(zc449_17.1, zc449_17.2.1)] = some w ∧ z_RUN zSPd zD zw449 0 0 7 none zDF zTC zT314 zoC449_17 w :=
  ⟨⟨by decide +kernel, by decide +kernel⟩, zhw449_17, z_getD zhs449_17, z_RUN.wk (fun z h => z_okCQ_ok h) zq449_17_1⟩
noncomputable def zhw449_18 : List (Nat × zS) := (z_wl zSPd zD zw449 0 0 7 none zDF zTC zT314 1 [(zc449_18.1, zc449_18.2.1)]).getD []
set_option maxRecDepth 100000 in
theorem zhs449_18 : (z_wl zSPd zD zw449 0 0 7 none zDF zTC zT314 1 [(zc449_18.1, zc449_18.2.1)]).isSome = true := by decide +kernel
set_option maxRecDepth 100000 in
theorem zq449_18_1 : z_RUN zSPd zD zw449 0 0 7 none zDF zTC zT314 zoCQ449_18 zhw449_18 := z_RUN.one (FU := 20000) (stp := [118, 118, 118, 118, 118, 118, 118, 118, 118, 118, 118, 118, 118, 118, 118, 118, 155, 155, 155, 155, 155, 155, 155, 155, 155, 155, 155, 155, 155, 155, 155, 155]) (by decide +kernel)
theorem zhc449_18 : (z_msB zc449_18.2.1.1 17179869184 zc449_18.2.2 = true ∧ zc449_18.2.2.length = 2) ∧ ∃ w, z_wl zSPd zD zw449 0 0 7 none zDF zTC zT314 1 [(zc449_18.1, zc449_18.2.1)] = some w ∧ z_RUN zSPd zD zw449 0 0 7 none zDF zTC zT314 zoC449_18 w :=
  ⟨⟨by decide +kernel, by decide +kernel⟩, zhw449_18, z_getD zhs449_18, z_RUN.wk (fun z h => z_okCQ_ok h) zq449_18_1⟩
noncomputable def zhw449_19 : List (Nat × zS) := (z_wl zSPd zD zw449 0 0 7 none zDF zTC zT314 1 [(zc449_19.1, zc449_19.2.1)]).getD []
set_option maxRecDepth 100000 in
theorem zhs449_19 : (z_wl zSPd zD zw449 0 0 7 none zDF zTC zT314 1 [(zc449_19.1, zc449_19.2.1)]).isSome = true := by decide +kernel
set_option maxRecDepth 100000 in
theorem zq449_19_1 : z_RUN zSPd zD zw449 0 0 7 none zDF zTC zT314 zoCQ449_19 zhw449_19 := z_RUN.one (FU := 20000) (stp := [118, 118, 118, 118, 118, 118, 118, 118, 118, 118, 118, 118, 118, 118, 118, 118, 155, 155, 155, 155, 155, 155, 155, 155, 155, 155, 155, 155, 155, 155, 155, 155]) (by decide +kernel)
theorem zhc449_19 : (z_msB zc449_19.2.1.1 17179869184 zc449_19.2.2 = true ∧ zc449_19.2.2.length = 2) ∧ ∃ w, z_wl zSPd zD zw449 0 0 7 none zDF zTC zT314 1 [(zc449_19.1, zc449_19.2.1)] = some w ∧ z_RUN zSPd zD zw449 0 0 7 none zDF zTC zT314 zoC449_19 w :=
  ⟨⟨by decide +kernel, by decide +kernel⟩, zhw449_19, z_getD zhs449_19, z_RUN.wk (fun z h => z_okCQ_ok h) zq449_19_1⟩
noncomputable def zhw449_20 : List (Nat × zS) := (z_wl zSPd zD zw449 0 0 7 none zDF zTC zT314 1 [(zc449_20.1, zc449_20.2.1)]).getD []
set_option maxRecDepth 100000 in
theorem zhs449_20 : (z_wl zSPd zD zw449 0 0 7 none zDF zTC zT314 1 [(zc449_20.1, zc449_20.2.1)]).isSome = true := by decide +kernel
set_option maxRecDepth 100000 in
theorem zq449_20_1 : z_RUN zSPd zD zw449 0 0 7 none zDF zTC zT314 zoCQ449_20 zhw449_20 := z_RUN.one (FU := 20000) (stp := [118, 118, 118, 118, 118, 118, 118, 118, 118, 118, 118, 118, 118, 118, 118, 118, 155, 155, 155, 155, 155, 155, 155, 155, 155, 155, 155, 155, 155, 155, 155, 155]) (by decide +kernel)
theorem zhc449_20 : (z_msB zc449_20.2.1.1 17179869184 zc449_20.2.2 = true ∧ zc449_20.2.2.length = 2) ∧ ∃ w, z_wl zSPd zD zw449 0 0 7 none zDF zTC zT314 1 [(zc449_20.1, zc449_20.2.1)] = some w ∧ z_RUN zSPd zD zw449 0 0 7 none zDF zTC zT314 zoC449_20 w :=
  ⟨⟨by decide +kernel, by decide +kernel⟩, zhw449_20, z_getD zhs449_20, z_RUN.wk (fun z h => z_okCQ_ok h) zq449_20_1⟩
noncomputable def zhw449_21 : List (Nat × zS) := (z_wl zSPd zD zw449 0 0 7 none zDF zTC zT314 1 [(zc449_21.1, zc449_21.2.1)]).getD []
set_option maxRecDepth 100000 in
theorem zhs449_21 : (z_wl zSPd zD zw449 0 0 7 none zDF zTC zT314 1 [(zc449_21.1, zc449_21.2.1)]).isSome = true := by decide +kernel
set_option maxRecDepth 100000 in
theorem zq449_21_1 : z_RUN zSPd zD zw449 0 0 7 none zDF zTC zT314 zoCQ449_21 zhw449_21 := z_RUN.one (FU := 20000) (stp := [118, 118, 118, 118, 118, 118, 118, 118, 118, 118, 118, 118, 118, 118, 118, 118, 155, 155, 155, 155, 155, 155, 155, 155, 155, 155, 155, 155, 155, 155, 155, 155]) (by decide +kernel)
theorem zhc449_21 : (z_msB zc449_21.2.1.1 17179869184 zc449_21.2.2 = true ∧ zc449_21.2.2.length = 2) ∧ ∃ w, z_wl zSPd zD zw449 0 0 7 none zDF zTC zT314 1 [(zc449_21.1, zc449_21.2.1)] = some w ∧ z_RUN zSPd zD zw449 0 0 7 none zDF zTC zT314 zoC449_21 w :=
  ⟨⟨by decide +kernel, by decide +kernel⟩, zhw449_21, z_getD zhs449_21, z_RUN.wk (fun z h => z_okCQ_ok h) zq449_21_1⟩
noncomputable def zhw449_22 : List (Nat × zS) := (z_wl zSPd zD zw449 0 0 7 none zDF zTC zT314 1 [(zc449_22.1, zc449_22.2.1)]).getD []
set_option maxRecDepth 100000 in
theorem zhs449_22 : (z_wl zSPd zD zw449 0 0 7 none zDF zTC zT314 1 [(zc449_22.1, zc449_22.2.1)]).isSome = true := by decide +kernel
set_option maxRecDepth 100000 in
theorem zq449_22_1 : z_RUN zSPd zD zw449 0 0 7 none zDF zTC zT314 zoCQ449_22 zhw449_22 := z_RUN.one (FU := 20000) (stp := [118, 118, 118, 118, 118, 118, 118, 118, 118, 118, 118, 118, 118, 118, 118, 118, 155, 155, 155, 155, 155, 155, 155, 155, 155, 155, 155, 155, 155, 155, 155, 155]) (by decide +kernel)
theorem zhc449_22 : (z_msB zc449_22.2.1.1 17179869184 zc449_22.2.2 = true ∧ zc449_22.2.2.length = 2) ∧ ∃ w, z_wl zSPd zD zw449 0 0 7 none zDF zTC zT314 1 [(zc449_22.1, zc449_22.2.1)] = some w ∧ z_RUN zSPd zD zw449 0 0 7 none zDF zTC zT314 zoC449_22 w :=
  ⟨⟨by decide +kernel, by decide +kernel⟩, zhw449_22, z_getD zhs449_22, z_RUN.wk (fun z h => z_okCQ_ok h) zq449_22_1⟩
noncomputable def zhw449_23 : List (Nat × zS) := (z_wl zSPd zD zw449 0 0 7 none zDF zTC zT314 1 [(zc449_23.1, zc449_23.2.1)]).getD []
set_option maxRecDepth 100000 in
theorem zhs449_23 : (z_wl zSPd zD zw449 0 0 7 none zDF zTC zT314 1 [(zc449_23.1, zc449_23.2.1)]).isSome = true := by decide +kernel
set_option maxRecDepth 100000 in
theorem zq449_23_1 : z_RUN zSPd zD zw449 0 0 7 none zDF zTC zT314 zoCQ449_23 zhw449_23 := z_RUN.one (FU := 20000) (stp := [118, 118, 118, 118, 118, 118, 118, 118, 118, 118, 118, 118, 118, 118, 118, 118, 155, 155, 155, 155, 155, 155, 155, 155, 155, 155, 155, 155, 155, 155, 155, 155]) (by decide +kernel)
theorem zhc449_23 : (z_msB zc449_23.2.1.1 17179869184 zc449_23.2.2 = true ∧ zc449_23.2.2.length = 2) ∧ ∃ w, z_wl zSPd zD zw449 0 0 7 none zDF zTC zT314 1 [(zc449_23.1, zc449_23.2.1)] = some w ∧ z_RUN zSPd zD zw449 0 0 7 none zDF zTC zT314 zoC449_23 w :=
  ⟨⟨by decide +kernel, by decide +kernel⟩, zhw449_23, z_getD zhs449_23, z_RUN.wk (fun z h => z_okCQ_ok h) zq449_23_1⟩
noncomputable def zhw449_24 : List (Nat × zS) := (z_wl zSPd zD zw449 0 0 7 none zDF zTC zT314 1 [(zc449_24.1, zc449_24.2.1)]).getD []
set_option maxRecDepth 100000 in
theorem zhs449_24 : (z_wl zSPd zD zw449 0 0 7 none zDF zTC zT314 1 [(zc449_24.1, zc449_24.2.1)]).isSome = true := by decide +kernel
set_option maxRecDepth 100000 in
theorem zq449_24_1 : z_RUN zSPd zD zw449 0 0 7 none zDF zTC zT314 zoCQ449_24 zhw449_24 := z_RUN.one (FU := 20000) (stp := [118, 118, 118, 118, 118, 118, 118, 118, 118, 118, 118, 118, 118, 118, 118, 118, 155, 155, 155, 155, 155, 155, 155, 155, 155, 155, 155, 155, 155, 155, 155, 155]) (by decide +kernel)
theorem zhc449_24 : (z_msB zc449_24.2.1.1 17179869184 zc449_24.2.2 = true ∧ zc449_24.2.2.length = 2) ∧ ∃ w, z_wl zSPd zD zw449 0 0 7 none zDF zTC zT314 1 [(zc449_24.1, zc449_24.2.1)] = some w ∧ z_RUN zSPd zD zw449 0 0 7 none zDF zTC zT314 zoC449_24 w :=
  ⟨⟨by decide +kernel, by decide +kernel⟩, zhw449_24, z_getD zhs449_24, z_RUN.wk (fun z h => z_okCQ_ok h) zq449_24_1⟩
noncomputable def zhw449_25 : List (Nat × zS) := (z_wl zSPd zD zw449 0 0 7 none zDF zTC zT314 1 [(zc449_25.1, zc449_25.2.1)]).getD []
set_option maxRecDepth 100000 in
theorem zhs449_25 : (z_wl zSPd zD zw449 0 0 7 none zDF zTC zT314 1 [(zc449_25.1, zc449_25.2.1)]).isSome = true := by decide +kernel
set_option maxRecDepth 100000 in
theorem zq449_25_1 : z_RUN zSPd zD zw449 0 0 7 none zDF zTC zT314 zoCQ449_25 zhw449_25 := z_RUN.one (FU := 20000) (stp := [118, 118, 118, 118, 118, 118, 118, 118, 118, 118, 118, 118, 118, 118, 118, 118, 155, 155, 155, 155, 155, 155, 155, 155, 155, 155, 155, 155, 155, 155, 155, 155]) (by decide +kernel)
theorem zhc449_25 : (z_msB zc449_25.2.1.1 17179869184 zc449_25.2.2 = true ∧ zc449_25.2.2.length = 2) ∧ ∃ w, z_wl zSPd zD zw449 0 0 7 none zDF zTC zT314 1 [(zc449_25.1, zc449_25.2.1)] = some w ∧ z_RUN zSPd zD zw449 0 0 7 none zDF zTC zT314 zoC449_25 w :=
  ⟨⟨by decide +kernel, by decide +kernel⟩, zhw449_25, z_getD zhs449_25, z_RUN.wk (fun z h => z_okCQ_ok h) zq449_25_1⟩
noncomputable def zhw449_26 : List (Nat × zS) := (z_wl zSPd zD zw449 0 0 7 none zDF zTC zT314 1 [(zc449_26.1, zc449_26.2.1)]).getD []
set_option maxRecDepth 100000 in
theorem zhs449_26 : (z_wl zSPd zD zw449 0 0 7 none zDF zTC zT314 1 [(zc449_26.1, zc449_26.2.1)]).isSome = true := by decide +kernel
set_option maxRecDepth 100000 in
theorem zq449_26_1 : z_RUN zSPd zD zw449 0 0 7 none zDF zTC zT314 zoCQ449_26 zhw449_26 := z_RUN.one (FU := 20000) (stp := [118, 118, 118, 118, 118, 118, 118, 118, 118, 118, 118, 118, 118, 118, 118, 118, 155, 155, 155, 155, 155, 155, 155, 155, 155, 155, 155, 155, 155, 155, 155, 155]) (by decide +kernel)
theorem zhc449_26 : (z_msB zc449_26.2.1.1 17179869184 zc449_26.2.2 = true ∧ zc449_26.2.2.length = 2) ∧ ∃ w, z_wl zSPd zD zw449 0 0 7 none zDF zTC zT314 1 [(zc449_26.1, zc449_26.2.1)] = some w ∧ z_RUN zSPd zD zw449 0 0 7 none zDF zTC zT314 zoC449_26 w :=
  ⟨⟨by decide +kernel, by decide +kernel⟩, zhw449_26, z_getD zhs449_26, z_RUN.wk (fun z h => z_okCQ_ok h) zq449_26_1⟩
noncomputable def zhw449_27 : List (Nat × zS) := (z_wl zSPd zD zw449 0 0 7 none zDF zTC zT314 1 [(zc449_27.1, zc449_27.2.1)]).getD []
set_option maxRecDepth 100000 in
theorem zhs449_27 : (z_wl zSPd zD zw449 0 0 7 none zDF zTC zT314 1 [(zc449_27.1, zc449_27.2.1)]).isSome = true := by decide +kernel
set_option maxRecDepth 100000 in
theorem zq449_27_1 : z_RUN zSPd zD zw449 0 0 7 none zDF zTC zT314 zoCQ449_27 zhw449_27 := z_RUN.one (FU := 20000) (stp := [118, 118, 118, 118, 118, 118, 118, 118, 118, 118, 118, 118, 118, 118, 118, 118, 155, 155, 155, 155, 155, 155, 155, 155, 155, 155, 155, 155, 155, 155, 155, 155]) (by decide +kernel)
theorem zhc449_27 : (z_msB zc449_27.2.1.1 17179869184 zc449_27.2.2 = true ∧ zc449_27.2.2.length = 2) ∧ ∃ w, z_wl zSPd zD zw449 0 0 7 none zDF zTC zT314 1 [(zc449_27.1, zc449_27.2.1)] = some w ∧ z_RUN zSPd zD zw449 0 0 7 none zDF zTC zT314 zoC449_27 w :=
  ⟨⟨by decide +kernel, by decide +kernel⟩, zhw449_27, z_getD zhs449_27, z_RUN.wk (fun z h => z_okCQ_ok h) zq449_27_1⟩
noncomputable def zhw449_28 : List (Nat × zS) := (z_wl zSPd zD zw449 0 0 7 none zDF zTC zT314 1 [(zc449_28.1, zc449_28.2.1)]).getD []
set_option maxRecDepth 100000 in
theorem zhs449_28 : (z_wl zSPd zD zw449 0 0 7 none zDF zTC zT314 1 [(zc449_28.1, zc449_28.2.1)]).isSome = true := by decide +kernel
set_option maxRecDepth 100000 in
theorem zq449_28_1 : z_RUN zSPd zD zw449 0 0 7 none zDF zTC zT314 zoCQ449_28 zhw449_28 := z_RUN.one (FU := 20000) (stp := [118, 118, 118, 118, 118, 118, 118, 118, 118, 118, 118, 118, 118, 118, 118, 118, 155, 155, 155, 155, 155, 155, 155, 155, 155, 155, 155, 155, 155, 155, 155, 155]) (by decide +kernel)
theorem zhc449_28 : (z_msB zc449_28.2.1.1 17179869184 zc449_28.2.2 = true ∧ zc449_28.2.2.length = 2) ∧ ∃ w, z_wl zSPd zD zw449 0 0 7 none zDF zTC zT314 1 [(zc449_28.1, zc449_28.2.1)] = some w ∧ z_RUN zSPd zD zw449 0 0 7 none zDF zTC zT314 zoC449_28 w :=
  ⟨⟨by decide +kernel, by decide +kernel⟩, zhw449_28, z_getD zhs449_28, z_RUN.wk (fun z h => z_okCQ_ok h) zq449_28_1⟩
noncomputable def zhw449_29 : List (Nat × zS) := (z_wl zSPd zD zw449 0 0 7 none zDF zTC zT314 1 [(zc449_29.1, zc449_29.2.1)]).getD []
set_option maxRecDepth 100000 in
theorem zhs449_29 : (z_wl zSPd zD zw449 0 0 7 none zDF zTC zT314 1 [(zc449_29.1, zc449_29.2.1)]).isSome = true := by decide +kernel
set_option maxRecDepth 100000 in
theorem zq449_29_1 : z_RUN zSPd zD zw449 0 0 7 none zDF zTC zT314 zoCQ449_29 zhw449_29 := z_RUN.one (FU := 20000) (stp := [118, 118, 118, 118, 118, 118, 118, 118, 118, 118, 118, 118, 118, 118, 118, 118, 155, 155, 155, 155, 155, 155, 155, 155, 155, 155, 155, 155, 155, 155, 155, 155]) (by decide +kernel)
theorem zhc449_29 : (z_msB zc449_29.2.1.1 17179869184 zc449_29.2.2 = true ∧ zc449_29.2.2.length = 2) ∧ ∃ w, z_wl zSPd zD zw449 0 0 7 none zDF zTC zT314 1 [(zc449_29.1, zc449_29.2.1)] = some w ∧ z_RUN zSPd zD zw449 0 0 7 none zDF zTC zT314 zoC449_29 w :=
  ⟨⟨by decide +kernel, by decide +kernel⟩, zhw449_29, z_getD zhs449_29, z_RUN.wk (fun z h => z_okCQ_ok h) zq449_29_1⟩
noncomputable def zhw449_30 : List (Nat × zS) := (z_wl zSPd zD zw449 0 0 7 none zDF zTC zT314 1 [(zc449_30.1, zc449_30.2.1)]).getD []
set_option maxRecDepth 100000 in
theorem zhs449_30 : (z_wl zSPd zD zw449 0 0 7 none zDF zTC zT314 1 [(zc449_30.1, zc449_30.2.1)]).isSome = true := by decide +kernel
set_option maxRecDepth 100000 in
theorem zq449_30_1 : z_RUN zSPd zD zw449 0 0 7 none zDF zTC zT314 zoCQ449_30 zhw449_30 := z_RUN.one (FU := 20000) (stp := [118, 118, 118, 118, 118, 118, 118, 118, 118, 118, 118, 118, 118, 118, 118, 118, 155, 155, 155, 155, 155, 155, 155, 155, 155, 155, 155, 155, 155, 155, 155, 155]) (by decide +kernel)
theorem zhc449_30 : (z_msB zc449_30.2.1.1 17179869184 zc449_30.2.2 = true ∧ zc449_30.2.2.length = 2) ∧ ∃ w, z_wl zSPd zD zw449 0 0 7 none zDF zTC zT314 1 [(zc449_30.1, zc449_30.2.1)] = some w ∧ z_RUN zSPd zD zw449 0 0 7 none zDF zTC zT314 zoC449_30 w :=
  ⟨⟨by decide +kernel, by decide +kernel⟩, zhw449_30, z_getD zhs449_30, z_RUN.wk (fun z h => z_okCQ_ok h) zq449_30_1⟩
noncomputable def zhw449_31 : List (Nat × zS) := (z_wl zSPd zD zw449 0 0 7 none zDF zTC zT314 1 [(zc449_31.1, zc449_31.2.1)]).getD []
set_option maxRecDepth 100000 in
theorem zhs449_31 : (z_wl zSPd zD zw449 0 0 7 none zDF zTC zT314 1 [(zc449_31.1, zc449_31.2.1)]).isSome = true := by decide +kernel
set_option maxRecDepth 100000 in
theorem zq449_31_1 : z_RUN zSPd zD zw449 0 0 7 none zDF zTC zT314 zoCQ449_31 zhw449_31 := z_RUN.one (FU := 20000) (stp := [118, 118, 118, 118, 118, 118, 118, 118, 118, 118, 118, 118, 118, 118, 118, 118, 155, 155, 155, 155, 155, 155, 155, 155, 155, 155, 155, 155, 155, 155, 155, 155]) (by decide +kernel)
theorem zhc449_31 : (z_msB zc449_31.2.1.1 17179869184 zc449_31.2.2 = true ∧ zc449_31.2.2.length = 2) ∧ ∃ w, z_wl zSPd zD zw449 0 0 7 none zDF zTC zT314 1 [(zc449_31.1, zc449_31.2.1)] = some w ∧ z_RUN zSPd zD zw449 0 0 7 none zDF zTC zT314 zoC449_31 w :=
  ⟨⟨by decide +kernel, by decide +kernel⟩, zhw449_31, z_getD zhs449_31, z_RUN.wk (fun z h => z_okCQ_ok h) zq449_31_1⟩
theorem zpSa449 : ∀ j, j < 1 → z_RUN zSPd zD zw449 0 0 7 none zDF zTC zT314 zoS449 (z_swj zn449 zj449 j) := fun j h => by
  match j, h with
  | 0, _ => exact z_RUN.wk (fun z h => z_okSQ_ok h) zs449_0_1
  | n + 1, h => exact absurd h (by omega)
theorem zk449 : z_conP zSPd zD zw449 zDF zTC 17179869184 2 0 0 0 7 zT314 zn449 none zc449 := ⟨Nat.le_of_ble_eq_true (by decide +kernel), Nat.le_of_ble_eq_true (by decide +kernel), (z_fa.cons zhc449_0 (z_fa.cons zhc449_1 (z_fa.cons zhc449_2 (z_fa.cons zhc449_3 (z_fa.cons zhc449_4 (z_fa.cons zhc449_5 (z_fa.cons zhc449_6 (z_fa.cons zhc449_7 (z_fa.cons zhc449_8 (z_fa.cons zhc449_9 (z_fa.cons zhc449_10 (z_fa.cons zhc449_11 (z_fa.cons zhc449_12 (z_fa.cons zhc449_13 (z_fa.cons zhc449_14 (z_fa.cons zhc449_15 (z_fa.cons zhc449_16 (z_fa.cons zhc449_17 (z_fa.cons zhc449_18 (z_fa.cons zhc449_19 (z_fa.cons zhc449_20 (z_fa.cons zhc449_21 (z_fa.cons zhc449_22 (z_fa.cons zhc449_23 (z_fa.cons zhc449_24 (z_fa.cons zhc449_25 (z_fa.cons zhc449_26 (z_fa.cons zhc449_27 (z_fa.cons zhc449_28 (z_fa.cons zhc449_29 (z_fa.cons zhc449_30 (z_fa.cons zhc449_31 z_fa.nil)))))))))))))))))))))))))))))))), zj449, z_getD zjs449, z_RUN.st2 zjl449 zpSa449⟩
