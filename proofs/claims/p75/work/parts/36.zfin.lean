/-! ===== all of them ===== -/
theorem zb_all : ∀ k, k < zD.length → zBC k = true := by
  intro k hm
  have hl : zD.length = 327 := by decide +kernel
  rw [hl] at hm
  rcases Nat.lt_or_ge k 8 with h | h
  · exact z_rng_all zb_0 (by omega) (by omega)
  rcases Nat.lt_or_ge k 16 with h | h
  · exact z_rng_all zb_8 (by omega) (by omega)
  rcases Nat.lt_or_ge k 24 with h | h
  · exact z_rng_all zb_16 (by omega) (by omega)
  rcases Nat.lt_or_ge k 32 with h | h
  · exact z_rng_all zb_24 (by omega) (by omega)
  rcases Nat.lt_or_ge k 40 with h | h
  · exact z_rng_all zb_32 (by omega) (by omega)
  rcases Nat.lt_or_ge k 48 with h | h
  · exact z_rng_all zb_40 (by omega) (by omega)
  rcases Nat.lt_or_ge k 56 with h | h
  · exact z_rng_all zb_48 (by omega) (by omega)
  rcases Nat.lt_or_ge k 64 with h | h
  · exact z_rng_all zb_56 (by omega) (by omega)
  rcases Nat.lt_or_ge k 72 with h | h
  · exact z_rng_all zb_64 (by omega) (by omega)
  rcases Nat.lt_or_ge k 80 with h | h
  · exact z_rng_all zb_72 (by omega) (by omega)
  rcases Nat.lt_or_ge k 88 with h | h
  · exact z_rng_all zb_80 (by omega) (by omega)
  rcases Nat.lt_or_ge k 96 with h | h
  · exact z_rng_all zb_88 (by omega) (by omega)
  rcases Nat.lt_or_ge k 104 with h | h
  · exact z_rng_all zb_96 (by omega) (by omega)
  rcases Nat.lt_or_ge k 112 with h | h
  · exact z_rng_all zb_104 (by omega) (by omega)
  rcases Nat.lt_or_ge k 120 with h | h
  · exact z_rng_all zb_112 (by omega) (by omega)
  rcases Nat.lt_or_ge k 128 with h | h
  · exact z_rng_all zb_120 (by omega) (by omega)
  rcases Nat.lt_or_ge k 136 with h | h
  · exact z_rng_all zb_128 (by omega) (by omega)
  rcases Nat.lt_or_ge k 144 with h | h
  · exact z_rng_all zb_136 (by omega) (by omega)
  rcases Nat.lt_or_ge k 152 with h | h
  · exact z_rng_all zb_144 (by omega) (by omega)
  rcases Nat.lt_or_ge k 160 with h | h
  · exact z_rng_all zb_152 (by omega) (by omega)
  rcases Nat.lt_or_ge k 168 with h | h
  · exact z_rng_all zb_160 (by omega) (by omega)
  rcases Nat.lt_or_ge k 176 with h | h
  · exact z_rng_all zb_168 (by omega) (by omega)
  rcases Nat.lt_or_ge k 184 with h | h
  · exact z_rng_all zb_176 (by omega) (by omega)
  rcases Nat.lt_or_ge k 192 with h | h
  · exact z_rng_all zb_184 (by omega) (by omega)
  rcases Nat.lt_or_ge k 200 with h | h
  · exact z_rng_all zb_192 (by omega) (by omega)
  rcases Nat.lt_or_ge k 208 with h | h
  · exact z_rng_all zb_200 (by omega) (by omega)
  rcases Nat.lt_or_ge k 216 with h | h
  · exact z_rng_all zb_208 (by omega) (by omega)
  rcases Nat.lt_or_ge k 224 with h | h
  · exact z_rng_all zb_216 (by omega) (by omega)
  rcases Nat.lt_or_ge k 232 with h | h
  · exact z_rng_all zb_224 (by omega) (by omega)
  rcases Nat.lt_or_ge k 240 with h | h
  · exact z_rng_all zb_232 (by omega) (by omega)
  rcases Nat.lt_or_ge k 248 with h | h
  · exact z_rng_all zb_240 (by omega) (by omega)
  rcases Nat.lt_or_ge k 256 with h | h
  · exact z_rng_all zb_248 (by omega) (by omega)
  rcases Nat.lt_or_ge k 264 with h | h
  · exact z_rng_all zb_256 (by omega) (by omega)
  rcases Nat.lt_or_ge k 272 with h | h
  · exact z_rng_all zb_264 (by omega) (by omega)
  rcases Nat.lt_or_ge k 280 with h | h
  · exact z_rng_all zb_272 (by omega) (by omega)
  rcases Nat.lt_or_ge k 288 with h | h
  · exact z_rng_all zb_280 (by omega) (by omega)
  rcases Nat.lt_or_ge k 296 with h | h
  · exact z_rng_all zb_288 (by omega) (by omega)
  rcases Nat.lt_or_ge k 304 with h | h
  · exact z_rng_all zb_296 (by omega) (by omega)
  rcases Nat.lt_or_ge k 312 with h | h
  · exact z_rng_all zb_304 (by omega) (by omega)
  rcases Nat.lt_or_ge k 320 with h | h
  · exact z_rng_all zb_312 (by omega) (by omega)
  exact z_rng_all zb_320 (by omega) (by omega)
theorem zl_all : ∀ k, k < zTLw.length → zLB k = true := by
  intro k hm
  have hl : zTLw.length = 71 := by decide +kernel
  rw [hl] at hm
  rcases Nat.lt_or_ge k 2 with h | h
  · exact z_rng_all zl_0 (by omega) (by omega)
  rcases Nat.lt_or_ge k 4 with h | h
  · exact z_rng_all zl_2 (by omega) (by omega)
  rcases Nat.lt_or_ge k 6 with h | h
  · exact z_rng_all zl_4 (by omega) (by omega)
  rcases Nat.lt_or_ge k 8 with h | h
  · exact z_rng_all zl_6 (by omega) (by omega)
  rcases Nat.lt_or_ge k 10 with h | h
  · exact z_rng_all zl_8 (by omega) (by omega)
  rcases Nat.lt_or_ge k 12 with h | h
  · exact z_rng_all zl_10 (by omega) (by omega)
  rcases Nat.lt_or_ge k 14 with h | h
  · exact z_rng_all zl_12 (by omega) (by omega)
  rcases Nat.lt_or_ge k 16 with h | h
  · exact z_rng_all zl_14 (by omega) (by omega)
  rcases Nat.lt_or_ge k 18 with h | h
  · exact z_rng_all zl_16 (by omega) (by omega)
  rcases Nat.lt_or_ge k 20 with h | h
  · exact z_rng_all zl_18 (by omega) (by omega)
  rcases Nat.lt_or_ge k 22 with h | h
  · exact z_rng_all zl_20 (by omega) (by omega)
  rcases Nat.lt_or_ge k 24 with h | h
  · exact z_rng_all zl_22 (by omega) (by omega)
  rcases Nat.lt_or_ge k 26 with h | h
  · exact z_rng_all zl_24 (by omega) (by omega)
  rcases Nat.lt_or_ge k 28 with h | h
  · exact z_rng_all zl_26 (by omega) (by omega)
  rcases Nat.lt_or_ge k 30 with h | h
  · exact z_rng_all zl_28 (by omega) (by omega)
  rcases Nat.lt_or_ge k 32 with h | h
  · exact z_rng_all zl_30 (by omega) (by omega)
  rcases Nat.lt_or_ge k 34 with h | h
  · exact z_rng_all zl_32 (by omega) (by omega)
  rcases Nat.lt_or_ge k 36 with h | h
  · exact z_rng_all zl_34 (by omega) (by omega)
  rcases Nat.lt_or_ge k 38 with h | h
  · exact z_rng_all zl_36 (by omega) (by omega)
  rcases Nat.lt_or_ge k 40 with h | h
  · exact z_rng_all zl_38 (by omega) (by omega)
  rcases Nat.lt_or_ge k 42 with h | h
  · exact z_rng_all zl_40 (by omega) (by omega)
  rcases Nat.lt_or_ge k 44 with h | h
  · exact z_rng_all zl_42 (by omega) (by omega)
  rcases Nat.lt_or_ge k 46 with h | h
  · exact z_rng_all zl_44 (by omega) (by omega)
  rcases Nat.lt_or_ge k 48 with h | h
  · exact z_rng_all zl_46 (by omega) (by omega)
  rcases Nat.lt_or_ge k 50 with h | h
  · exact z_rng_all zl_48 (by omega) (by omega)
  rcases Nat.lt_or_ge k 52 with h | h
  · exact z_rng_all zl_50 (by omega) (by omega)
  rcases Nat.lt_or_ge k 54 with h | h
  · exact z_rng_all zl_52 (by omega) (by omega)
  rcases Nat.lt_or_ge k 56 with h | h
  · exact z_rng_all zl_54 (by omega) (by omega)
  rcases Nat.lt_or_ge k 58 with h | h
  · exact z_rng_all zl_56 (by omega) (by omega)
  rcases Nat.lt_or_ge k 60 with h | h
  · exact z_rng_all zl_58 (by omega) (by omega)
  rcases Nat.lt_or_ge k 62 with h | h
  · exact z_rng_all zl_60 (by omega) (by omega)
  rcases Nat.lt_or_ge k 64 with h | h
  · exact z_rng_all zl_62 (by omega) (by omega)
  rcases Nat.lt_or_ge k 66 with h | h
  · exact z_rng_all zl_64 (by omega) (by omega)
  rcases Nat.lt_or_ge k 68 with h | h
  · exact z_rng_all zl_66 (by omega) (by omega)
  rcases Nat.lt_or_ge k 70 with h | h
  · exact z_rng_all zl_68 (by omega) (by omega)
  exact z_rng_all zl_70 (by omega) (by omega)
/-! ===== the classes, the arrays, the law's rows ===== -/
theorem z_arrP {s : State} {args : Array Value} {ty : FieldType} (h : (Cond.arrayClass ty).before args s = true) : ∃ cA, ArrOfT s cA ty ∧ s.vm.findClass ("[" ++ ty.toString) = some cA := by
  obtain ⟨cA, kA, comp, h1, h2, h3⟩ := Cond.arrayClass_spec h
  exact ⟨cA, fun n z => ⟨fun k h => (by cases h), kA, h2, comp, h3⟩, h1⟩
theorem z_arrO {s : State} {args : Array Value} {C : String} (h : (Cond.arrayOver (.object C)).before args s = true) : ∃ cA, ArrOfT s cA (.object C) ∧ va_RA s cA (.object C) := by
  obtain ⟨comp, cA, kA, h1, h2, h3, h4, h5⟩ := Cond.arrayOver_spec h
  exact ⟨cA, fun n z => ⟨fun k h => (by cases h), kA, h3, comp, h4⟩, kA, comp, h3, h4, h1, h5⟩

set_option maxRecDepth 100000 in
theorem iX0 : ∀ w ∈ u_ws RX0 TX0 18, w ∈ zTb := by decide +kernel
set_option maxRecDepth 100000 in
theorem dfX0 : ∀ j, j < 18 → defaultValue (tyX0 j) = vp_V (([0, 0, 0, 0, 0, 0, 0, 0, 0, 0, 0, 3, 3, 3, 3, 3, 3, 3] : List Nat).map z_dv) j := by decide +kernel
set_option maxRecDepth 100000 in
theorem inX0 : Cond.instantiable RX0 18 ∈ zTb := by decide +kernel
set_option maxRecDepth 100000 in
theorem iX1 : ∀ w ∈ u_ws RX1 TX1 4, w ∈ zTb := by decide +kernel
set_option maxRecDepth 100000 in
theorem dfX1 : ∀ j, j < 4 → defaultValue (tyX1 j) = vp_V (([3, 0, 0, 0] : List Nat).map z_dv) j := by decide +kernel
set_option maxRecDepth 100000 in
theorem inX1 : Cond.instantiable RX1 4 ∈ zTb := by decide +kernel
set_option maxRecDepth 100000 in
theorem iX2 : ∀ w ∈ u_ws RX2 TX2 5, w ∈ zTb := by decide +kernel
set_option maxRecDepth 100000 in
theorem dfX2 : ∀ j, j < 5 → defaultValue (tyX2 j) = vp_V (([3, 3, 0, 0, 0] : List Nat).map z_dv) j := by decide +kernel
set_option maxRecDepth 100000 in
theorem inX2 : Cond.instantiable RX2 5 ∈ zTb := by decide +kernel
set_option maxRecDepth 100000 in
theorem iX3 : ∀ w ∈ u_ws RX3 TX3 8, w ∈ zTb := by decide +kernel
set_option maxRecDepth 100000 in
theorem dfX3 : ∀ j, j < 8 → defaultValue (tyX3 j) = vp_V (([3, 0, 0, 0, 0, 0, 0, 0] : List Nat).map z_dv) j := by decide +kernel
set_option maxRecDepth 100000 in
theorem inX3 : Cond.instantiable RX3 8 ∈ zTb := by decide +kernel
set_option maxRecDepth 100000 in
theorem iX4 : ∀ w ∈ u_ws RX4 TX4 4, w ∈ zTb := by decide +kernel
set_option maxRecDepth 100000 in
theorem dfX4 : ∀ j, j < 4 → defaultValue (tyX4 j) = vp_V (([3, 0, 0, 0] : List Nat).map z_dv) j := by decide +kernel
set_option maxRecDepth 100000 in
theorem inX4 : Cond.instantiable RX4 4 ∈ zTb := by decide +kernel
set_option maxRecDepth 100000 in
theorem iX5 : ∀ w ∈ u_ws RX5 TX5 12, w ∈ zTb := by decide +kernel
set_option maxRecDepth 100000 in
theorem dfX5 : ∀ j, j < 12 → defaultValue (tyX5 j) = vp_V (([3, 0, 0, 0, 3, 3, 3, 3, 3, 3, 3, 3] : List Nat).map z_dv) j := by decide +kernel
set_option maxRecDepth 100000 in
theorem inX5 : Cond.instantiable RX5 12 ∈ zTb := by decide +kernel
set_option maxRecDepth 100000 in
theorem iX6 : ∀ w ∈ u_ws RX6 TX6 11, w ∈ zTb := by decide +kernel
set_option maxRecDepth 100000 in
theorem dfX6 : ∀ j, j < 11 → defaultValue (tyX6 j) = vp_V (([3, 3, 3, 3, 3, 3, 3, 3, 3, 3, 3] : List Nat).map z_dv) j := by decide +kernel
set_option maxRecDepth 100000 in
theorem inX6 : Cond.instantiable RX6 11 ∈ zTb := by decide +kernel
set_option maxRecDepth 100000 in
theorem iX7 : ∀ w ∈ u_ws RX7 TX7 47, w ∈ zTb := by decide +kernel
set_option maxRecDepth 100000 in
theorem dfX7 : ∀ j, j < 47 → defaultValue (tyX7 j) = vp_V (([0, 3, 3, 3, 3, 3, 0, 0, 0, 0, 0, 1, 0, 0, 0, 0, 3, 3, 3, 3, 3, 3, 3, 0, 0, 0, 0, 0, 3, 3, 3, 3, 3, 3, 0, 0, 0, 0, 3, 3, 3, 0, 0, 0, 0, 0, 3] : List Nat).map z_dv) j := by decide +kernel
set_option maxRecDepth 100000 in
theorem inX7 : Cond.instantiable RX7 47 ∈ zTb := by decide +kernel
set_option maxRecDepth 100000 in
theorem zmw_0 : Cond.native arraycopyName ∈ zTb := by decide +kernel
set_option maxRecDepth 100000 in
theorem zmw_1 : Cond.static arraycopyName ∈ zTb := by decide +kernel
set_option maxRecDepth 100000 in
theorem zmw_2 : Cond.initialized "java/lang/System" ∈ zTb := by decide +kernel
set_option maxRecDepth 100000 in
theorem zmw_3 : Cond.instanceMethod Lib.objectInit ∈ zTb := by decide +kernel
set_option maxRecDepth 100000 in
theorem zmw_4 : Cond.code Lib.objectInit ⟨#[0xb1]⟩ 1 none ∈ zTb := by decide +kernel
set_option maxRecDepth 100000 in
theorem zmw_5 : Cond.arrayClass .int ∈ zTb := by decide +kernel
set_option maxRecDepth 100000 in
theorem zmw_6 : Cond.arrayClass .boolean ∈ zTb := by decide +kernel
set_option maxRecDepth 100000 in
theorem zmw_7 : Cond.arrayClass .byte ∈ zTb := by decide +kernel
set_option maxRecDepth 100000 in
theorem zmw_8 : Cond.arrayClass .long ∈ zTb := by decide +kernel
set_option maxRecDepth 100000 in
theorem zmw_9 : Cond.arrayOver (.object RX4) ∈ zTb := by decide +kernel
set_option maxRecDepth 100000 in
theorem zmw_10 : Cond.arrayOver (.object RX0) ∈ zTb := by decide +kernel
theorem zST : z_ST zTb vwCl zTY zDF := by
  refine ⟨fun ci q h => ?_, fun ci dc h => ?_, ⟨zmw_0, zmw_1, zmw_2⟩, zmw_3, zmw_4⟩
  · match ci, h with
    | 0, h =>
      cases h
      exact ⟨iX0, tyX0_ok, nmX0⟩
    | 1, h =>
      cases h
      exact ⟨iX1, tyX1_ok, nmX1⟩
    | 2, h =>
      cases h
      exact ⟨iX2, tyX2_ok, nmX2⟩
    | 3, h =>
      cases h
      exact ⟨iX3, tyX3_ok, nmX3⟩
    | 4, h =>
      cases h
      exact ⟨iX4, tyX4_ok, nmX4⟩
    | 5, h =>
      cases h
      exact ⟨iX5, tyX5_ok, nmX5⟩
    | 6, h =>
      cases h
      exact ⟨iX6, tyX6_ok, nmX6⟩
    | 7, h =>
      cases h
      exact ⟨iX7, tyX7_ok, nmX7⟩
    | n + 8, h => cases (show (none : Option vw_C) = some q from h)
  · match ci, h with
    | 0, h =>
      cases h
      exact ⟨_, rfl, rfl, dfX0⟩
    | 1, h =>
      cases h
      exact ⟨_, rfl, rfl, dfX1⟩
    | 2, h =>
      cases h
      exact ⟨_, rfl, rfl, dfX2⟩
    | 3, h =>
      cases h
      exact ⟨_, rfl, rfl, dfX3⟩
    | 4, h =>
      cases h
      exact ⟨_, rfl, rfl, dfX4⟩
    | 5, h =>
      cases h
      exact ⟨_, rfl, rfl, dfX5⟩
    | 6, h =>
      cases h
      exact ⟨_, rfl, rfl, dfX6⟩
    | 7, h =>
      cases h
      exact ⟨_, rfl, rfl, dfX7⟩
    | n + 8, h => cases (show (none : Option (List Nat)) = some dc from h)
theorem zTLok : ∀ b ∈ zTLw, ∀ x ∈ b, decode code x.1 = .ok (x.2.1, x.2.2.1) ∧ z_lok zSPd zTb vwCl zTY zTC zY zVK zHN "WaistcoatGreenLaw" false x.2.1 x.2.2.1 x.2.2.2.1 x.2.2.2.2.1 x.2.2.2.2.2.1 x.2.2.2.2.2.2 = true := fun b hb x hx => by
  obtain ⟨k, hk⟩ := List.getElem?_of_mem hb
  have h := zl_all k (List.getElem?_eq_some_iff.mp hk).1
  unfold zLB at h
  rw [hk] at h
  have h2 := z_and (List.all_eq_true.mp h x hx)
  exact ⟨of_decide_eq_true h2.1, h2.2⟩
theorem z_world {s : State} {args : Array Value} (hts : ∀ w ∈ zTb, w.before args s = true) : ∃ (D : va_G) (tys : List (ClassId × FieldType)), va_K D vwCl tys s ∧ z_TYs vwCl zTC tys := by
  obtain ⟨c0, i0, k0⟩ := u_known hts iX0 (hts _ inX0)
  obtain ⟨c1, i1, k1⟩ := u_known hts iX1 (hts _ inX1)
  obtain ⟨c2, i2, k2⟩ := u_known hts iX2 (hts _ inX2)
  obtain ⟨c3, i3, k3⟩ := u_known hts iX3 (hts _ inX3)
  obtain ⟨c4, i4, k4⟩ := u_known hts iX4 (hts _ inX4)
  obtain ⟨c5, i5, k5⟩ := u_known hts iX5 (hts _ inX5)
  obtain ⟨c6, i6, k6⟩ := u_known hts iX6 (hts _ inX6)
  obtain ⟨c7, i7, k7⟩ := u_known hts iX7 (hts _ inX7)
  obtain ⟨a0, p0, n0⟩ := z_arrP (hts _ zmw_5)
  obtain ⟨a1, p1, n1⟩ := z_arrP (hts _ zmw_6)
  obtain ⟨a2, p2, n2⟩ := z_arrP (hts _ zmw_7)
  obtain ⟨a3, p3, n3⟩ := z_arrP (hts _ zmw_8)
  obtain ⟨a4, p4, n4⟩ := z_arrO (hts _ zmw_9)
  obtain ⟨a5, p5, n5⟩ := z_arrO (hts _ zmw_10)
  refine ⟨(fun k => match k with
    | 0 => c0
    | 1 => c1
    | 2 => c2
    | 3 => c3
    | 4 => c4
    | 5 => c5
    | 6 => c6
    | _ => c7, fun k => match k with
    | 0 => i0
    | 1 => i1
    | 2 => i2
    | 3 => i3
    | 4 => i4
    | 5 => i5
    | 6 => i6
    | _ => i7), [(a0, .int), (a1, .boolean), (a2, .byte), (a3, .long), (a4, .object RX4), (a5, .object RX0)], ⟨fun c q h => ?_, fun k q h => ?_⟩, fun t ht => ?_, fun i ci h => ?_, rfl⟩
  · match c, h with
    | 0, h =>
      cases h
      exact k0
    | 1, h =>
      cases h
      exact k1
    | 2, h =>
      cases h
      exact k2
    | 3, h =>
      cases h
      exact k3
    | 4, h =>
      cases h
      exact k4
    | 5, h =>
      cases h
      exact k5
    | 6, h =>
      cases h
      exact k6
    | 7, h =>
      cases h
      exact k7
    | n + 8, h => cases (show (none : Option vw_C) = some q from h)
  · match k, h with
    | 0, h =>
      cases h
      exact ⟨p0, n0⟩
    | 1, h =>
      cases h
      exact ⟨p1, n1⟩
    | 2, h =>
      cases h
      exact ⟨p2, n2⟩
    | 3, h =>
      cases h
      exact ⟨p3, n3⟩
    | 4, h =>
      cases h
      exact ⟨p4, n4⟩
    | 5, h =>
      cases h
      exact ⟨p5, n5⟩
    | n + 6, h => cases (show (none : Option (ClassId × FieldType)) = some q from h)
  · match t, ht with
    | 0, _ => exact ⟨a0, rfl⟩
    | 1, _ => exact ⟨a1, rfl⟩
    | 2, _ => exact ⟨a2, rfl⟩
    | 3, _ => exact ⟨a3, rfl⟩
  · match i, h with
    | 0, h =>
      cases h
      exact ⟨a4, (RX4, TX4, 4), rfl, rfl⟩
    | 1, h =>
      cases h
      exact ⟨a5, (RX0, TX0, 18), rfl, rfl⟩
    | n + 2, h => cases (show (none : Option Nat) = some ci from h)

