/-! ===== the texts at the start ===== -/
noncomputable def zflat : List Cond := flatC (Jvm.Cond.and given_1 narrow_1)
noncomputable def ztm (i : Nat) : Term := match zSPd.1[i]? with
  | some q => .string q.1 q.2.1
  | none => .arg 0
noncomputable abbrev zvl (i : Nat) : Term := .field (ztm i) "java/lang/String" "value" "[B"
set_option maxRecDepth 100000 in
theorem zf0 : ∀ i, i < 13 → zSPd.2.1.getD i 0 < 2 ^ 31 := by decide +kernel
set_option maxRecDepth 100000 in
theorem zf1 : ∀ i, i < 13 → Cond.exactly (ztm i) "java/lang/String" ∈ zflat := by decide +kernel
set_option maxRecDepth 100000 in
theorem zf2 : ∀ i, i < 13 → Cond.eq (.field (ztm i) "java/lang/String" "coder" "B") (.int 0) ∈ zflat := by decide +kernel
set_option maxRecDepth 100000 in
theorem zf3 : ∀ i, i < 13 → Cond.arrayOf (zvl i) .byte ∈ zflat := by decide +kernel
set_option maxRecDepth 100000 in
theorem zf4 : ∀ i, i < 13 → Cond.eq (.length (zvl i)) (.int (Int32.ofNat (zSPd.2.1.getD i 0))) ∈ zflat := by decide +kernel
set_option maxRecDepth 100000 in
theorem zf5_0 : ∀ j, j < 5 → Cond.eq (.elem (zvl 0) (.int (Int32.ofNat j))) (.int ((zSPd.2.2.1.getD 0 []).getD j 0)) ∈ zflat := by decide +kernel
set_option maxRecDepth 100000 in
theorem zf5_1 : ∀ j, j < 8 → Cond.eq (.elem (zvl 1) (.int (Int32.ofNat j))) (.int ((zSPd.2.2.1.getD 1 []).getD j 0)) ∈ zflat := by decide +kernel
set_option maxRecDepth 100000 in
theorem zf5_2 : ∀ j, j < 3 → Cond.eq (.elem (zvl 2) (.int (Int32.ofNat j))) (.int ((zSPd.2.2.1.getD 2 []).getD j 0)) ∈ zflat := by decide +kernel
set_option maxRecDepth 100000 in
theorem zf5_3 : ∀ j, j < 4 → Cond.eq (.elem (zvl 3) (.int (Int32.ofNat j))) (.int ((zSPd.2.2.1.getD 3 []).getD j 0)) ∈ zflat := by decide +kernel
set_option maxRecDepth 100000 in
theorem zf5_4 : ∀ j, j < 4 → Cond.eq (.elem (zvl 4) (.int (Int32.ofNat j))) (.int ((zSPd.2.2.1.getD 4 []).getD j 0)) ∈ zflat := by decide +kernel
set_option maxRecDepth 100000 in
theorem zf5_5 : ∀ j, j < 5 → Cond.eq (.elem (zvl 5) (.int (Int32.ofNat j))) (.int ((zSPd.2.2.1.getD 5 []).getD j 0)) ∈ zflat := by decide +kernel
set_option maxRecDepth 100000 in
theorem zf5_6 : ∀ j, j < 8 → Cond.eq (.elem (zvl 6) (.int (Int32.ofNat j))) (.int ((zSPd.2.2.1.getD 6 []).getD j 0)) ∈ zflat := by decide +kernel
set_option maxRecDepth 100000 in
theorem zf5_7 : ∀ j, j < 4 → Cond.eq (.elem (zvl 7) (.int (Int32.ofNat j))) (.int ((zSPd.2.2.1.getD 7 []).getD j 0)) ∈ zflat := by decide +kernel
set_option maxRecDepth 100000 in
theorem zf5_8 : ∀ j, j < 3 → Cond.eq (.elem (zvl 8) (.int (Int32.ofNat j))) (.int ((zSPd.2.2.1.getD 8 []).getD j 0)) ∈ zflat := by decide +kernel
set_option maxRecDepth 100000 in
theorem zf5_9 : ∀ j, j < 5 → Cond.eq (.elem (zvl 9) (.int (Int32.ofNat j))) (.int ((zSPd.2.2.1.getD 9 []).getD j 0)) ∈ zflat := by decide +kernel
set_option maxRecDepth 100000 in
theorem zf5_10 : ∀ j, j < 4 → Cond.eq (.elem (zvl 10) (.int (Int32.ofNat j))) (.int ((zSPd.2.2.1.getD 10 []).getD j 0)) ∈ zflat := by decide +kernel
set_option maxRecDepth 100000 in
theorem zf5_11 : ∀ j, j < 5 → Cond.eq (.elem (zvl 11) (.int (Int32.ofNat j))) (.int ((zSPd.2.2.1.getD 11 []).getD j 0)) ∈ zflat := by decide +kernel
set_option maxRecDepth 100000 in
theorem zf5_12 : ∀ j, j < 2 → Cond.eq (.elem (zvl 12) (.int (Int32.ofNat j))) (.int ((zSPd.2.2.1.getD 12 []).getD j 0)) ∈ zflat := by decide +kernel
theorem zf5 : ∀ i, i < 13 → ∀ j, j < zSPd.2.1.getD i 0 → Cond.eq (.elem (zvl i) (.int (Int32.ofNat j))) (.int ((zSPd.2.2.1.getD i []).getD j 0)) ∈ zflat := fun i hi => by
  match i, hi with
  | 0, _ => exact zf5_0
  | 1, _ => exact zf5_1
  | 2, _ => exact zf5_2
  | 3, _ => exact zf5_3
  | 4, _ => exact zf5_4
  | 5, _ => exact zf5_5
  | 6, _ => exact zf5_6
  | 7, _ => exact zf5_7
  | 8, _ => exact zf5_8
  | 9, _ => exact zf5_9
  | 10, _ => exact zf5_10
  | 11, _ => exact zf5_11
  | 12, _ => exact zf5_12
  | n + 13, h => omega
set_option maxRecDepth 100000 in
theorem zf6_0 : ∀ j, j < 13 → 0 < j → (Cond.not (Cond.eq (ztm 0) (ztm j)) ∈ zflat ∨ Cond.not (Cond.eq (ztm j) (ztm 0)) ∈ zflat) := by decide +kernel
set_option maxRecDepth 100000 in
theorem zf6_1 : ∀ j, j < 13 → 1 < j → (Cond.not (Cond.eq (ztm 1) (ztm j)) ∈ zflat ∨ Cond.not (Cond.eq (ztm j) (ztm 1)) ∈ zflat) := by decide +kernel
set_option maxRecDepth 100000 in
theorem zf6_2 : ∀ j, j < 13 → 2 < j → (Cond.not (Cond.eq (ztm 2) (ztm j)) ∈ zflat ∨ Cond.not (Cond.eq (ztm j) (ztm 2)) ∈ zflat) := by decide +kernel
set_option maxRecDepth 100000 in
theorem zf6_3 : ∀ j, j < 13 → 3 < j → (Cond.not (Cond.eq (ztm 3) (ztm j)) ∈ zflat ∨ Cond.not (Cond.eq (ztm j) (ztm 3)) ∈ zflat) := by decide +kernel
set_option maxRecDepth 100000 in
theorem zf6_4 : ∀ j, j < 13 → 4 < j → (Cond.not (Cond.eq (ztm 4) (ztm j)) ∈ zflat ∨ Cond.not (Cond.eq (ztm j) (ztm 4)) ∈ zflat) := by decide +kernel
set_option maxRecDepth 100000 in
theorem zf6_5 : ∀ j, j < 13 → 5 < j → (Cond.not (Cond.eq (ztm 5) (ztm j)) ∈ zflat ∨ Cond.not (Cond.eq (ztm j) (ztm 5)) ∈ zflat) := by decide +kernel
set_option maxRecDepth 100000 in
theorem zf6_6 : ∀ j, j < 13 → 6 < j → (Cond.not (Cond.eq (ztm 6) (ztm j)) ∈ zflat ∨ Cond.not (Cond.eq (ztm j) (ztm 6)) ∈ zflat) := by decide +kernel
set_option maxRecDepth 100000 in
theorem zf6_7 : ∀ j, j < 13 → 7 < j → (Cond.not (Cond.eq (ztm 7) (ztm j)) ∈ zflat ∨ Cond.not (Cond.eq (ztm j) (ztm 7)) ∈ zflat) := by decide +kernel
set_option maxRecDepth 100000 in
theorem zf6_8 : ∀ j, j < 13 → 8 < j → (Cond.not (Cond.eq (ztm 8) (ztm j)) ∈ zflat ∨ Cond.not (Cond.eq (ztm j) (ztm 8)) ∈ zflat) := by decide +kernel
set_option maxRecDepth 100000 in
theorem zf6_9 : ∀ j, j < 13 → 9 < j → (Cond.not (Cond.eq (ztm 9) (ztm j)) ∈ zflat ∨ Cond.not (Cond.eq (ztm j) (ztm 9)) ∈ zflat) := by decide +kernel
set_option maxRecDepth 100000 in
theorem zf6_10 : ∀ j, j < 13 → 10 < j → (Cond.not (Cond.eq (ztm 10) (ztm j)) ∈ zflat ∨ Cond.not (Cond.eq (ztm j) (ztm 10)) ∈ zflat) := by decide +kernel
set_option maxRecDepth 100000 in
theorem zf6_11 : ∀ j, j < 13 → 11 < j → (Cond.not (Cond.eq (ztm 11) (ztm j)) ∈ zflat ∨ Cond.not (Cond.eq (ztm j) (ztm 11)) ∈ zflat) := by decide +kernel
theorem zf6l : ∀ i, i < 13 → ∀ j, j < 13 → i < j → (Cond.not (Cond.eq (ztm i) (ztm j)) ∈ zflat ∨ Cond.not (Cond.eq (ztm j) (ztm i)) ∈ zflat) := fun i hi => by
  match i, hi with
  | 0, _ => exact zf6_0
  | 1, _ => exact zf6_1
  | 2, _ => exact zf6_2
  | 3, _ => exact zf6_3
  | 4, _ => exact zf6_4
  | 5, _ => exact zf6_5
  | 6, _ => exact zf6_6
  | 7, _ => exact zf6_7
  | 8, _ => exact zf6_8
  | 9, _ => exact zf6_9
  | 10, _ => exact zf6_10
  | 11, _ => exact zf6_11
  | n + 12, h => intro j h1 h2; omega
theorem zf6 : ∀ i, i < 13 → ∀ j, j < 13 → i ≠ j → (Cond.not (Cond.eq (ztm i) (ztm j)) ∈ zflat ∨ Cond.not (Cond.eq (ztm j) (ztm i)) ∈ zflat) := fun i hi j hj hne => by
  rcases Nat.lt_or_gt_of_ne hne with h | h
  · exact zf6l i hi j hj h
  · exact (zf6l j hj i hi h).symm
set_option maxRecDepth 100000 in
theorem zf7 : ∀ i, i < 13 → (match zSPd.1[i]? with
  | some q => Cond.stringRef q.1 q.2.1 q.2.2 ∈ lw_tbl
  | none => True) := by
  intro i hi
  have h : ∀ i, i < 13 → (match zSPd.1[i]? with
    | some q => decide (Cond.stringRef q.1 q.2.1 q.2.2 ∈ lw_tbl)
    | none => true) = true := by decide +kernel
  have h1 := h i hi
  split
  · rename_i q e
    rw [e] at h1
    exact of_decide_eq_true h1
  · trivial
set_option maxRecDepth 100000 in
theorem zf8 : Cond.laysStatic "java/lang/String" "COMPACT_STRINGS" "Z" ∈ lw_tbl := by decide +kernel
set_option maxRecDepth 100000 in
theorem zf9 : Cond.laysStatic "jdk/internal/util/Preconditions" "SIOOBE_FORMATTER" "Ljava/util/function/BiFunction;" ∈ lw_tbl := by decide +kernel
set_option maxRecDepth 100000 in
theorem zf10 : Cond.eq (.static "java/lang/String" "COMPACT_STRINGS" "Z") (.int 1) ∈ zflat := by decide +kernel
set_option maxRecDepth 100000 in
theorem zf11 : Cond.isRef (.static "jdk/internal/util/Preconditions" "SIOOBE_FORMATTER" "Ljava/util/function/BiFunction;") ∈ zflat := by decide +kernel
theorem zf12 : zSPd.1.length = 13 := by decide +kernel
noncomputable def zbs (ad : Nat → Nat) : List Int := 0 :: (List.range 13).map (fun j => (ad j : Int))
theorem zbs_len (ad : Nat → Nat) : (zbs ad).length = 14 := by unfold zbs; simp
theorem zbs_j (ad : Nat → Nat) {j : Nat} (hj : j < 13) : (zbs ad)[j + 1]? = some (ad j : Int) := by
  show ((List.range 13).map (fun j => (ad j : Int)))[j]? = _
  rw [List.getElem?_map, List.getElem?_range hj]
  rfl
theorem z_SF0 {s : State} {args : Array Value} {A : Nat → Prop} (hgv : (Jvm.Cond.and given_1 narrow_1).before args s = true) (hts : ∀ w ∈ lw_tbl, w.before args s = true) (hA : ∀ a : Nat, a < s.heap.size → ¬ A a) : ∃ ad : Nat → Nat, z_SF zSPd (zbs ad) A s s.heap := by
  have hs : ∀ c ∈ zflat, c.before args s = true := flat_of_before _ hgv
  obtain ⟨adK, adV, hS, had⟩ := vk_Sof (N := 13) (tm := ztm) (len := zSPd.2.1) (byt := zSPd.2.2.1) (A := A) zf0 (fun i hi => hs _ (zf1 i hi)) (fun i hi => hs _ (zf2 i hi)) (fun i hi => hs _ (zf3 i hi)) (fun i hi => hs _ (zf4 i hi)) (fun i hi j hj => hs _ (zf5 i hi j hj)) (fun i j hi hj hne => by
    rcases zf6 i hi j hj hne with h | h
    · exact Or.inl (hs _ h)
    · exact Or.inr (hs _ h)) hA
  refine ⟨adK, adK, adV, fun j hj => zbs_j adK (by rw [zf12] at hj; exact hj), fun j q hj => ?_, ?_, ?_, ?_⟩
  · have hj13 : j < 13 := by
      have := (List.getElem?_eq_some_iff.mp hj).1
      rw [zf12] at this
      exact this
    have h7 := zf7 j hj13
    have h8 := had j hj13
    unfold ztm at h8
    rw [hj] at h7 h8
    exact vk_R.of (hts _ h7) h8
  · rw [zf12]
    exact hS
  · exact va_Zof (hts _ zf8) (hts _ (List.mem_filter.mp zt_i0).1) (va_eqt (hs _ zf10)) hA
  · exact va_Zqof (hts _ zf9) (hts _ (List.mem_filter.mp zt_i3).1) (hs _ zf11) hA
