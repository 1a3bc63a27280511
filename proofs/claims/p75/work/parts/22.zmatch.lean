/-! ===== a state inside a pattern: the pattern's symbols below n0 are the state's own, the others are bound as they come ===== -/
abbrev zB : Type := List (Nat × Int)
noncomputable def z_r2 (n0 : Nat) (ρ : List Int) (σ : zB) : List Int := ρ.take n0 ++ σ.map (fun q => ρ.getD q.1 0 + q.2)
theorem z_r2_mono {n0 : Nat} {ρ : List Int} {σ σ' : zB} (h : σ <+: σ') : z_r2 n0 ρ σ <+: z_r2 n0 ρ σ' := by
  obtain ⟨t, rfl⟩ := h
  exact ⟨t.map (fun q => ρ.getD q.1 0 + q.2), by unfold z_r2; rw [List.map_append, List.append_assoc]⟩
theorem z_r2_lo {n0 : Nat} {ρ : List Int} {σ : zB} {x : Nat} {w : Int} (hx : x < n0) (h : ρ[x]? = some w) : (z_r2 n0 ρ σ)[x]? = some w := by
  unfold z_r2
  have hl := (List.getElem?_eq_some_iff.mp h).1
  rw [List.getElem?_append_left (by rw [List.length_take]; omega), List.getElem?_take, if_pos hx]
  exact h
theorem z_r2_lo' {n0 : Nat} {ρ : List Int} {σ : zB} {x : Nat} (hn : n0 ≤ ρ.length) (hx : x < n0) : (z_r2 n0 ρ σ)[x]? = ρ[x]? := by
  unfold z_r2
  rw [List.getElem?_append_left (by rw [List.length_take]; omega), List.getElem?_take, if_pos hx]
theorem z_r2_hi {n0 : Nat} {ρ : List Int} {σ : zB} {k y : Nat} {d w : Int} (hn : n0 ≤ ρ.length) (hk : σ[k]? = some (y, d)) (hy : ρ[y]? = some w) : (z_r2 n0 ρ σ)[n0 + k]? = some (w + d) := by
  unfold z_r2
  have e : (ρ.take n0).length = n0 := by rw [List.length_take]; omega
  rw [List.getElem?_append_right (by omega), e, show n0 + k - n0 = k by omega, List.getElem?_map, hk]
  show some (ρ.getD y 0 + d) = _
  rw [List.getD_eq_getElem?_getD, hy]
  rfl
noncomputable def z_mv (J : zJ) (n0 : Nat) (σ : zB) (a b : zV) : Option zB := match Nat.ble a.1 1, Nat.ble n0 a.2.1 with
  | true, true => match Nat.beq a.1 b.1 && z_ieq a.2.2 0 with
    | true => match Nat.beq a.2.1 (n0 + z_lnn σ) with
      | true => some (z_snc σ (b.2.1, b.2.2))
      | false => match z_nx σ (a.2.1 - n0) with
        | some (y, d) => match Nat.beq y b.2.1 && z_ieq d b.2.2 with
          | true => some σ
          | false => none
        | none => none
    | false => none
  | true, false => match z_eqV a b with
    | true => some σ
    | false => match Nat.beq a.1 b.1 && Nat.beq a.2.1 0, z_b J b.2.1 b.2.2 with
      | true, some (l, h) => match z_ieq l a.2.2 && z_ieq h a.2.2 with
        | true => some σ
        | false => none
      | _, _ => none
  | false, _ => match z_eqV a b && (Nat.ble a.1 3 || Nat.ble (a.2.1 + 1) n0) with
    | true => some σ
    | false => none
theorem z_nv_of {ρ ρ' : List Int} {ad : List Nat} {t x x' : Nat} {c c' : Int} {v : Value} (ht : t ≤ 1) (h : z_m ρ ad (t, x, c) v) (hz : ∀ z, z_v ρ x c z → z_v ρ' x' c' z) : z_m ρ' ad (t, x', c') v := by
  rcases (show t = 0 ∨ t = 1 by omega) with rfl | rfl
  · obtain ⟨i, rfl, h1⟩ := h
    exact ⟨i, rfl, hz _ h1⟩
  · obtain ⟨i, rfl, h1⟩ := h
    exact ⟨i, rfl, hz _ h1⟩
theorem z_mv_ok {J : zJ} {n0 : Nat} {σ σ' : zB} {a b : zV} {ρ : List Int} {ad : List Nat} {v : Value} (hJ : z_iv J ρ) (hn : n0 ≤ ρ.length) (h0 : ρ[0]? = some 0) (hn0 : 0 < n0) (hm : z_m ρ ad b v) (h : z_mv J n0 σ a b = some σ') : σ <+: σ' ∧ z_m (z_r2 n0 ρ σ') ad a v := by
  obtain ⟨t, x, c⟩ := a
  obtain ⟨t2, y, d⟩ := b
  unfold z_mv at h
  rw [z_lnn_eq, z_snc_eq, z_nx_eq] at h
  dsimp only at h
  split at h
  · rename_i e1 e2
    have e1 := Nat.le_of_ble_eq_true e1
    have e2 := Nat.le_of_ble_eq_true e2
    split at h
    · rename_i e3
      have e4 := z_beq (z_and e3).1
      have e5 := z_ieq_ok (z_and e3).2
      subst e4
      subst e5
      split at h
      · rename_i e6
        have e6 := z_beq e6
        subst e6
        cases h
        refine ⟨⟨_, rfl⟩, z_nv_of e1 hm (fun z hz => ?_)⟩
        obtain ⟨w, g1, g2⟩ := hz
        refine ⟨w + d, z_r2_hi hn (k := σ.length) (by rw [List.getElem?_append_right (Nat.le_refl _), Nat.sub_self]; rfl) g1, by omega⟩
      · split at h
        · rename_i y' d' eσ
          split at h
          · rename_i e7
            have e8 := z_beq (z_and e7).1
            have e9 := z_ieq_ok (z_and e7).2
            subst e8
            subst e9
            cases h
            refine ⟨List.prefix_refl _, z_nv_of e1 hm (fun z hz => ?_)⟩
            obtain ⟨w, g1, g2⟩ := hz
            have g3 := z_r2_hi hn eσ g1
            rw [show n0 + (x - n0) = x by omega] at g3
            exact ⟨_, g3, by omega⟩
          · cases h
        · cases h
    · cases h
  · rename_i e1 e2
    have e1 := Nat.le_of_ble_eq_true e1
    have e2 : x < n0 := by
      rcases Nat.lt_or_ge x n0 with q | q
      · exact q
      · rw [Nat.ble_eq_true_of_le q] at e2
        cases e2
    split at h
    · rename_i e3
      have e3 := z_eqV_ok _ _ e3
      cases e3
      cases h
      refine ⟨List.prefix_refl _, z_nv_of e1 hm (fun z hz => ?_)⟩
      obtain ⟨w, g1, g2⟩ := hz
      exact ⟨w, z_r2_lo e2 g1, g2⟩
    · split at h
      · rename_i l u e3 eb
        have e4 := z_beq (z_and e3).1
        have e5 := z_beq (z_and e3).2
        subst e4
        subst e5
        split at h
        · rename_i e6
          have e7 := z_ieq_ok (z_and e6).1
          have e8 := z_ieq_ok (z_and e6).2
          cases h
          refine ⟨List.prefix_refl _, z_nv_of e1 hm (fun z hz => ?_)⟩
          have hb := z_b_ok hJ hz eb
          exact ⟨0, z_r2_lo e2 h0, by omega⟩
        · cases h
      · cases h
  · rename_i e1
    split at h
    · rename_i e3
      have e4 := z_eqV_ok _ _ (z_and e3).1
      have e5 := (z_and e3).2
      cases e4
      cases h
      refine ⟨List.prefix_refl _, ?_⟩
      have e6 : ¬ t ≤ 1 := fun q => by
        rw [Nat.ble_eq_true_of_le q] at e1
        cases e1
      rcases Nat.lt_or_ge 3 t with e7 | e7
      · rcases Bool.or_eq_true_iff.mp e5 with e5 | e5
        · have := Nat.le_of_ble_eq_true e5
          omega
        · have e5 := Nat.le_of_ble_eq_true e5
          obtain ⟨t', rfl⟩ : ∃ t', t = t' + 4 := ⟨t - 4, by omega⟩
          obtain ⟨q, g1, g2⟩ := hm
          exact ⟨q, z_r2_lo (by omega) g1, g2⟩
      · rcases (show t = 2 ∨ t = 3 by omega) with rfl | rfl
        · exact hm
        · exact hm
    · cases h
theorem z_mv_num {J : zJ} {n0 : Nat} {σ σ' : zB} {a b : zV} {ρ : List Int} (hJ : z_iv J ρ) (hn : n0 ≤ ρ.length) (h0 : ρ[0]? = some 0) (hn0 : 0 < n0) (ha : a.1 ≤ 1) (h : z_mv J n0 σ a b = some σ') : σ <+: σ' ∧ ∀ z, z_v ρ b.2.1 b.2.2 z → z_v (z_r2 n0 ρ σ') a.2.1 a.2.2 z := by
  obtain ⟨t, x, c⟩ := a
  obtain ⟨t2, y, d⟩ := b
  unfold z_mv at h
  rw [z_lnn_eq, z_snc_eq, z_nx_eq] at h
  dsimp only at h ha ⊢
  split at h
  · rename_i e1 e2
    have e2 := Nat.le_of_ble_eq_true e2
    split at h
    · rename_i e3
      have e5 := z_ieq_ok (z_and e3).2
      subst e5
      split at h
      · rename_i e6
        have e6 := z_beq e6
        subst e6
        cases h
        refine ⟨⟨_, rfl⟩, fun z hz => ?_⟩
        obtain ⟨w, g1, g2⟩ := hz
        refine ⟨w + d, z_r2_hi hn (k := σ.length) (by rw [List.getElem?_append_right (Nat.le_refl _), Nat.sub_self]; rfl) g1, by omega⟩
      · split at h
        · rename_i y' d' eσ
          split at h
          · rename_i e7
            have e8 := z_beq (z_and e7).1
            have e9 := z_ieq_ok (z_and e7).2
            subst e8
            subst e9
            cases h
            refine ⟨List.prefix_refl _, fun z hz => ?_⟩
            obtain ⟨w, g1, g2⟩ := hz
            have g3 := z_r2_hi hn eσ g1
            rw [show n0 + (x - n0) = x by omega] at g3
            exact ⟨_, g3, by omega⟩
          · cases h
        · cases h
    · cases h
  · rename_i e1 e2
    have e2 : x < n0 := by
      rcases Nat.lt_or_ge x n0 with q | q
      · exact q
      · rw [Nat.ble_eq_true_of_le q] at e2
        cases e2
    split at h
    · rename_i e3
      have e3 := z_eqV_ok _ _ e3
      cases e3
      cases h
      refine ⟨List.prefix_refl _, fun z hz => ?_⟩
      obtain ⟨w, g1, g2⟩ := hz
      exact ⟨w, z_r2_lo e2 g1, g2⟩
    · split at h
      · rename_i l u e3 eb
        have e5 := z_beq (z_and e3).2
        subst e5
        split at h
        · rename_i e6
          have e7 := z_ieq_ok (z_and e6).1
          have e8 := z_ieq_ok (z_and e6).2
          cases h
          refine ⟨List.prefix_refl _, fun z hz => ?_⟩
          have hb := z_b_ok hJ hz eb
          exact ⟨0, z_r2_lo e2 h0, by omega⟩
        · cases h
      · cases h
  · rename_i e1
    rw [Nat.ble_eq_true_of_le ha] at e1
    cases e1
/-- numbers side by side -/
noncomputable def z_mln (J : zJ) (n0 : Nat) : zB → List zV → List zV → Option zB
  | σ, [], [] => some σ
  | σ, a :: as, b :: bs => match Nat.ble a.1 1, z_mv J n0 σ a b with
    | true, some σ' => z_mln J n0 σ' as bs
    | _, _ => none
  | _, _, _ => none
theorem z_mln_ok {J : zJ} {n0 : Nat} {ρ : List Int} (hJ : z_iv J ρ) (hn : n0 ≤ ρ.length) (h0 : ρ[0]? = some 0) (hn0 : 0 < n0) : ∀ {as bs : List zV} {σ σ' : zB}, z_mln J n0 σ as bs = some σ' → σ <+: σ' ∧ ∀ (j : Nat) (b : zV) (z : Int), bs[j]? = some b → z_v ρ b.2.1 b.2.2 z → ∃ a, as[j]? = some a ∧ z_v (z_r2 n0 ρ σ') a.2.1 a.2.2 z
  | [], [], σ, σ', h => by
    unfold z_mln at h
    cases h
    exact ⟨List.prefix_refl _, fun j b z hb => by simp at hb⟩
  | a :: as, b :: bs, σ, σ', h => by
    unfold z_mln at h
    split at h
    · rename_i σ1 ea e1
      have ea := Nat.le_of_ble_eq_true ea
      obtain ⟨g1, g2⟩ := z_mv_num hJ hn h0 hn0 ea e1
      obtain ⟨g3, g4⟩ := z_mln_ok hJ hn h0 hn0 h
      refine ⟨g1.trans g3, fun j b' z hb hz => ?_⟩
      cases j with
      | zero =>
        rw [List.getElem?_cons_zero] at hb
        cases hb
        exact ⟨a, by rw [List.getElem?_cons_zero], (g2 z hz).mono (z_r2_mono g3)⟩
      | succ j =>
        rw [List.getElem?_cons_succ] at hb
        obtain ⟨a', k1, k2⟩ := g4 j b' z hb hz
        exact ⟨a', by rw [List.getElem?_cons_succ]; exact k1, k2⟩
    · cases h
  | [], _ :: _, σ, σ', h => by
    unfold z_mln at h
    cases h
  | _ :: _, [], σ, σ', h => by
    unfold z_mln at h
    cases h
noncomputable def z_ml (J : zJ) (n0 : Nat) : zB → List zV → List zV → Option zB
  | σ, [], [] => some σ
  | σ, a :: as, b :: bs => match z_mv J n0 σ a b with
    | some σ' => z_ml J n0 σ' as bs
    | none => none
  | _, _, _ => none
theorem z_ml_ok {J : zJ} {n0 : Nat} {ρ : List Int} {ad : List Nat} (hJ : z_iv J ρ) (hn : n0 ≤ ρ.length) (h0 : ρ[0]? = some 0) (hn0 : 0 < n0) : ∀ {as bs : List zV} {vs : List Value} {σ σ' : zB}, z_F (z_m ρ ad) bs vs → z_ml J n0 σ as bs = some σ' → σ <+: σ' ∧ z_F (z_m (z_r2 n0 ρ σ') ad) as vs
  | [], [], [], σ, σ', _, h => by
    unfold z_ml at h
    cases h
    exact ⟨List.prefix_refl _, trivial⟩
  | a :: as, b :: bs, v :: vs, σ, σ', hF, h => by
    unfold z_ml at h
    split at h
    · rename_i σ1 e1
      obtain ⟨g1, g2⟩ := z_mv_ok hJ hn h0 hn0 hF.1 e1
      obtain ⟨g3, g4⟩ := z_ml_ok hJ hn h0 hn0 hF.2 h
      exact ⟨g1.trans g3, g2.mono (z_r2_mono g3) (List.prefix_refl _), g4⟩
    · cases h
  | [], [], _ :: _, σ, σ', hF, h => hF.elim
  | [], _ :: _, _, σ, σ', hF, h => by
    unfold z_ml at h
    cases h
  | _ :: _, [], _, σ, σ', hF, h => by
    unfold z_ml at h
    cases h
  | _ :: _, _ :: _, [], σ, σ', hF, h => hF.elim
/-- all of an array's places in bounds -/
noncomputable def z_mb (J : zJ) (l h : Int) (es : List zV) : Bool := es.all (fun a => match z_b J a.2.1 a.2.2 with
  | some (x, y) => z_ile l x && z_ile y h
  | none => false)
/-- a pattern's symbol at the state -/
noncomputable def z_vp (n0 : Nat) (σ : zB) (x : Nat) : Option (Nat × Int) := match Nat.ble n0 x with
  | true => z_nx σ (x - n0)
  | false => some (x, 0)
/-- a band of a pattern holds of a state's array -/
noncomputable def z_bandI (J : zJ) (n0 : Nat) (σ : zB) (l' h' : Int) (b : zBd) : Bool := match z_vp n0 σ b.2.1 with
  | some (y, d) => match z_b J y (d + b.2.2.1) with
    | some (_, hy) => (z_ile b.2.2.2.2.1 l' && z_ile h' b.2.2.2.2.2) || z_ile hy (Int.ofNat b.1)
    | none => false
  | none => false
noncomputable def z_bandD (J : zJ) (n0 : Nat) (σ : zB) (bs' : List zBd) (b : zBd) : Bool := match z_vp n0 σ b.2.1 with
  | some (y, d) => match z_b J y (d + b.2.2.1) with
    | some _ => bs'.any (fun b' => Nat.beq b.1 b'.1 && (Nat.beq b.2.2.2.1 b'.2.2.2.1 && (z_ile b.2.2.2.2.1 b'.2.2.2.2.1 && (z_ile b'.2.2.2.2.2 b.2.2.2.2.2 && z_imp J y (d + b.2.2.1) b'.2.1 b'.2.2.1 0))))
    | none => false
  | none => false
noncomputable def z_bandL (J : zJ) (n0 : Nat) (σ : zB) (es : List zV) (b : zBd) : Bool := match z_vp n0 σ b.2.1 with
  | some (y, d) => match z_b J y (d + b.2.2.1) with
    | some (_, hy) => (List.range es.length).all (fun j => match Nat.ble b.1 j && (Nat.beq (j % b.2.2.2.1) (b.1 % b.2.2.2.1) && z_ile (Int.ofNat j + 1) hy), es[j]? with
      | true, some a => (match z_b J a.2.1 a.2.2 with
        | some (x, z) => z_ile b.2.2.2.2.1 x && z_ile z b.2.2.2.2.2
        | none => false)
      | true, none => false
      | false, _ => true)
    | none => false
  | none => false
noncomputable def z_mk (J : zJ) (n0 : Nat) (σ : zB) (n : Nat) (K K' : zK) : Option zB := match K, K' with
  | .inl (l, h), .inl (l', h') => match z_ile l l' && z_ile h' h with
    | true => some σ
    | false => none
  | .inl (l, h), .inr (.inl g) => match z_mb J l h g with
    | true => some σ
    | false => none
  | .inl (l, h), .inr (.inr (l', h', _)) => match z_ile l l' && z_ile h' h with
    | true => some σ
    | false => none
  | .inr (.inl f), .inr (.inl g) => z_mln J n0 σ f g
  | .inr (.inl f), .inl (l', h') => match z_ieq l' h' && Nat.beq f.length n with
    | true => z_mln J n0 σ f (f.map (fun a => (a.1, 0, l')))
    | false => none
  | .inr (.inr (l, h, bs)), .inl (l', h') => match (z_ile l l' && z_ile h' h) && bs.all (z_bandI J n0 σ l' h') with
    | true => some σ
    | false => none
  | .inr (.inr (l, h, bs)), .inr (.inr (l', h', bs')) => match (z_ile l l' && z_ile h' h) && bs.all (z_bandD J n0 σ bs') with
    | true => some σ
    | false => none
  | .inr (.inr (l, h, bs)), .inr (.inl g) => match z_mb J l h g && bs.all (z_bandL J n0 σ g) with
    | true => some σ
    | false => none
  | _, _ => none
noncomputable def z_mc (J : zJ) (n0 : Nat) (σ : zB) (a b : zC) : Option zB := match a, b with
  | .inl (c, f), .inl (d, g) => match Nat.beq c d with
    | true => z_ml J n0 σ f g
    | false => none
  | .inr (.inl (t, n, K)), .inr (.inl (t', n', K')) => match Nat.beq t t' && Nat.beq n n' with
    | true => z_mk J n0 σ n K K'
    | false => none
  | .inr (.inr (t, f)), .inr (.inr (d, g)) => match Nat.beq t d with
    | true => z_ml J n0 σ f g
    | false => none
  | _, _ => none
theorem z_vp_b {J : zJ} {n0 : Nat} {σ : zB} {x y : Nat} {d c lo hi : Int} {ρ : List Int} (hJ : z_iv J ρ) (hn : n0 ≤ ρ.length) (h : z_vp n0 σ x = some (y, d)) (hb : z_b J y (d + c) = some (lo, hi)) : ∃ w, ρ[y]? = some w ∧ (z_r2 n0 ρ σ)[x]? = some (w + d) ∧ lo ≤ w + d + c ∧ w + d + c ≤ hi := by
  have hw : ∃ w, ρ[y]? = some w := by
    have eb : z_b0 J.1 y (d + c) = some (lo, hi) := hb
    unfold z_b0 at eb
    rw [z_nx_eq] at eb
    split at eb
    · rename_i l u ey
      obtain ⟨w, g1, -⟩ := hJ.1.get ey
      exact ⟨w, g1⟩
    · cases eb
  obtain ⟨w, hw⟩ := hw
  have hbb := z_b_ok hJ (⟨w, hw, rfl⟩ : z_v ρ y (d + c) (w + (d + c))) hb
  refine ⟨w, hw, ?_, by omega, by omega⟩
  unfold z_vp at h
  rw [z_nx_eq] at h
  split at h
  · rename_i e
    have e := Nat.le_of_ble_eq_true e
    have := z_r2_hi hn h hw
    rw [show n0 + (x - n0) = x by omega] at this
    exact this
  · rename_i e
    have e2 : x < n0 := by
      rcases Nat.lt_or_ge x n0 with q | q
      · exact q
      · rw [Nat.ble_eq_true_of_le q] at e
        cases e
    cases h
    rw [z_r2_lo e2 hw]
    congr 1
    omega
theorem z_mb_ok {J : zJ} {ρ : List Int} {l h z : Int} {es : List zV} {j : Nat} (hJ : z_iv J ρ) (h1 : z_mb J l h es = true) (hz : z_kz ρ (.inr (.inl es)) j z) : l ≤ z ∧ z ≤ h := by
  obtain ⟨a, g1, g2⟩ := hz
  have hb := List.all_eq_true.mp h1 a (List.mem_of_getElem? g1)
  split at hb
  · rename_i x y eb
    have b1 := z_b_ok hJ g2 eb
    have b2 := z_ile_ok (z_and hb).1
    have b3 := z_ile_ok (z_and hb).2
    omega
  · cases hb
theorem z_mk_ok {J : zJ} {n0 n : Nat} {σ σ' : zB} {K K' : zK} {ρ : List Int} (hJ : z_iv J ρ) (hn : n0 ≤ ρ.length) (h0 : ρ[0]? = some 0) (hn0 : 0 < n0) (h : z_mk J n0 σ n K K' = some σ') : σ <+: σ' ∧ ∀ (j : Nat) (z : Int), j < n → z_kz ρ K' j z → z_kz (z_r2 n0 ρ σ') K j z := by
  unfold z_mk at h
  split at h
  · split at h
    · rename_i et
      have e1 := z_ile_ok (z_and et).1
      have e2 := z_ile_ok (z_and et).2
      cases h
      exact ⟨List.prefix_refl _, fun j z hj hz => ⟨Int.le_trans e1 hz.1, Int.le_trans hz.2 e2⟩⟩
    · cases h
  · split at h
    · rename_i et
      cases h
      exact ⟨List.prefix_refl _, fun j z hj hz => z_mb_ok hJ et hz⟩
    · cases h
  · split at h
    · rename_i et
      have e1 := z_ile_ok (z_and et).1
      have e2 := z_ile_ok (z_and et).2
      cases h
      exact ⟨List.prefix_refl _, fun j z hj hz => ⟨Int.le_trans e1 hz.1.1, Int.le_trans hz.1.2 e2⟩⟩
    · cases h
  · obtain ⟨g1, g2⟩ := z_mln_ok hJ hn h0 hn0 h
    refine ⟨g1, fun j z hj hz => ?_⟩
    obtain ⟨b, k1, k2⟩ := hz
    exact g2 j b z k1 k2
  · rename_i f l' h'
    split at h
    · rename_i et
      have e1 := z_ieq_ok (z_and et).1
      have e2 := z_beq (z_and et).2
      obtain ⟨g1, g2⟩ := z_mln_ok hJ hn h0 hn0 h
      refine ⟨g1, fun j z hj hz => ?_⟩
      have hz : l' ≤ z ∧ z ≤ h' := hz
      have ej : f[j]? = some f[j] := List.getElem?_eq_getElem (by omega)
      have ez : z = l' := by omega
      refine g2 j (f[j].1, 0, l') z (by rw [List.getElem?_map, ej]; rfl) ?_
      rw [ez]
      exact z_v.of0 h0 l'
    · cases h
  · rename_i l u bs l' u'
    split at h
    · rename_i et
      have e1 := z_ile_ok (z_and (z_and et).1).1
      have e2 := z_ile_ok (z_and (z_and et).1).2
      have e3 := (z_and et).2
      cases h
      refine ⟨List.prefix_refl _, fun j z hj hz => ⟨⟨Int.le_trans e1 hz.1, Int.le_trans hz.2 e2⟩, fun b hb => ?_⟩⟩
      have hz : l' ≤ z ∧ z ≤ u' := hz
      have g := List.all_eq_true.mp e3 b hb
      unfold z_bandI at g
      split at g
      · rename_i y d ev
        split at g
        · rename_i ly hy eb
          obtain ⟨w, p1, p2, p3, p4⟩ := z_vp_b hJ hn ev eb
          refine ⟨⟨_, p2⟩, fun hib => ?_⟩
          rcases Bool.or_eq_true_iff.mp g with g | g
          · have q1 := z_ile_ok (z_and g).1
            have q2 := z_ile_ok (z_and g).2
            omega
          · have q1 := z_ile_ok g
            obtain ⟨b1, b2, w2, b3, b4⟩ := hib
            rw [p2] at b3
            cases b3
            have e9 : Int.ofNat b.1 = (b.1 : Int) := rfl
            omega
        · cases g
      · cases g
    · cases h
  · rename_i l u bs l' u' bs'
    split at h
    · rename_i et
      have e1 := z_ile_ok (z_and (z_and et).1).1
      have e2 := z_ile_ok (z_and (z_and et).1).2
      have e3 := (z_and et).2
      cases h
      refine ⟨List.prefix_refl _, fun j z hj hz => ⟨⟨Int.le_trans e1 hz.1.1, Int.le_trans hz.1.2 e2⟩, fun b hb => ?_⟩⟩
      have g := List.all_eq_true.mp e3 b hb
      unfold z_bandD at g
      split at g
      · rename_i y d ev
        split at g
        · rename_i lh eb
          obtain ⟨ly, hy⟩ := lh
          obtain ⟨w, p1, p2, p3, p4⟩ := z_vp_b hJ hn ev eb
          refine ⟨⟨_, p2⟩, fun hib => ?_⟩
          obtain ⟨b', hb', g⟩ := List.any_eq_true.mp g
          have q1 := z_beq (z_and g).1
          have q2 := z_beq (z_and (z_and g).2).1
          have q3 := z_ile_ok (z_and (z_and (z_and g).2).2).1
          have q4 := z_ile_ok (z_and (z_and (z_and (z_and g).2).2).2).1
          have q5 := (z_and (z_and (z_and (z_and g).2).2).2).2
          obtain ⟨⟨w', hw'⟩, hz2⟩ := hz.2 b' hb'
          have q6 := z_imp_ok hJ (⟨w, p1, rfl⟩ : z_v ρ y (d + b.2.2.1) (w + (d + b.2.2.1))) (⟨w', hw', rfl⟩ : z_v ρ b'.2.1 b'.2.2.1 (w' + b'.2.2.1)) q5
          obtain ⟨b1, b2, w2, b3, b4⟩ := hib
          rw [p2] at b3
          cases b3
          have := hz2 ⟨by omega, by rw [← q2, ← q1]; exact b2, w', hw', by omega⟩
          omega
        · cases g
      · cases g
    · cases h
  · rename_i l u bs g0
    split at h
    · rename_i et
      have e1 := (z_and et).1
      have e3 := (z_and et).2
      cases h
      refine ⟨List.prefix_refl _, fun j z hj hz => ⟨z_mb_ok hJ e1 hz, fun b hb => ?_⟩⟩
      have g := List.all_eq_true.mp e3 b hb
      unfold z_bandL at g
      split at g
      · rename_i y d ev
        split at g
        · rename_i ly hy eb
          obtain ⟨w, p1, p2, p3, p4⟩ := z_vp_b hJ hn ev eb
          refine ⟨⟨_, p2⟩, fun hib => ?_⟩
          obtain ⟨b1, b2, w2, b3, b4⟩ := hib
          rw [p2] at b3
          cases b3
          obtain ⟨a, k1, k2⟩ := hz
          have k3 := List.all_eq_true.mp g j (List.mem_range.mpr (List.getElem?_eq_some_iff.mp k1).1)
          have t1 : (Nat.ble b.1 j && (Nat.beq (j % b.2.2.2.1) (b.1 % b.2.2.2.1) && z_ile (Int.ofNat j + 1) hy)) = true := by
            have c1 : Nat.ble b.1 j = true := Nat.ble_eq_true_of_le b1
            have c2 : Nat.beq (j % b.2.2.2.1) (b.1 % b.2.2.2.1) = true := by rw [b2]; exact Nat.beq_refl _
            have c3 : z_ile (Int.ofNat j + 1) hy = true := by
              cases hc : z_ile (Int.ofNat j + 1) hy with
              | true => rfl
              | false =>
                have := z_ile_no hc
                have e9 : Int.ofNat j = (j : Int) := rfl
                omega
            rw [c1, c2, c3]
            rfl
          rw [t1, k1] at k3
          dsimp only at k3
          split at k3
          · rename_i x1 z1 eb1
            have b5 := z_b_ok hJ k2 eb1
            have b6 := z_ile_ok (z_and k3).1
            have b7 := z_ile_ok (z_and k3).2
            omega
          · cases k3
        · cases g
      · cases g
    · cases h
  · cases h
theorem z_F.mk {α β : Type} {R : α → β → Prop} : ∀ {l : List α} {k : List β}, l.length = k.length → (∀ (i : Nat) (a : α) (b : β), l[i]? = some a → k[i]? = some b → R a b) → z_F R l k
  | [], [], _, _ => trivial
  | a :: l, b :: k, h, hR => ⟨hR 0 a b rfl rfl, z_F.mk (Nat.succ.inj h) (fun i x y h1 h2 => hR (i + 1) x y (by rw [List.getElem?_cons_succ]; exact h1) (by rw [List.getElem?_cons_succ]; exact h2))⟩
  | [], _ :: _, h, _ => by cases h
  | _ :: _, [], h, _ => by cases h
theorem z_elF {ρ : List Int} {ad : List Nat} {es : List zV} {F : Nat → Value} (h : ∀ (j : Nat) (a : zV), es[j]? = some a → z_m ρ ad a (F j)) : z_F (z_m ρ ad) es ((List.range es.length).map F) := by
  refine z_F.mk (by rw [List.length_map, List.length_range]) (fun i a b h1 h2 => ?_)
  have hl := (List.getElem?_eq_some_iff.mp h1).1
  rw [List.getElem?_map, List.getElem?_range hl] at h2
  cases h2
  exact h i a h1
theorem z_elB {ρ : List Int} {ad : List Nat} {es : List zV} {n : Nat} {F : Nat → Value} (h : z_F (z_m ρ ad) es ((List.range n).map F)) : es.length = n ∧ ∀ (j : Nat) (a : zV), es[j]? = some a → z_m ρ ad a (F j) := by
  have e := h.len
  rw [List.length_map, List.length_range] at e
  refine ⟨e, fun j a ha => ?_⟩
  obtain ⟨b, h1, h2⟩ := h.get ha
  have hl := (List.getElem?_eq_some_iff.mp ha).1
  rw [List.getElem?_map, List.getElem?_range (by omega)] at h1
  cases h1
  exact h2
theorem z_mc_ok {tys : List (ClassId × FieldType)} {J : zJ} {n0 : Nat} {σ σ' : zB} {a b : zC} {ρ : List Int} {ad : List Nat} {e : va_E} (hJ : z_iv J ρ) (hn : n0 ≤ ρ.length) (h0 : ρ[0]? = some 0) (hn0 : 0 < n0) (hc : z_c tys ρ ad b e) (h : z_mc J n0 σ a b = some σ') : σ <+: σ' ∧ z_c tys (z_r2 n0 ρ σ') ad a e := by
  unfold z_mc at h
  split at h
  · rename_i c f d g
    split at h
    · rename_i e1
      have e1 := z_beq e1
      subst e1
      obtain ⟨vs, rfl, hF⟩ := hc
      obtain ⟨g1, g2⟩ := z_ml_ok hJ hn h0 hn0 hF h
      exact ⟨g1, vs, rfl, g2⟩
    · cases h
  · rename_i t n K t' n' K'
    split at h
    · rename_i e1
      have e2 := z_beq (z_and e1).1
      have e3 := z_beq (z_and e1).2
      subst e2
      subst e3
      obtain ⟨g1, g2⟩ := z_mk_ok hJ hn h0 hn0 h
      refine ⟨g1, ?_⟩
      obtain ⟨cA, ty, ht, ⟨h1, F, h2, h3⟩ | ⟨h1, F, h2, h3⟩⟩ := hc
      · exact ⟨cA, ty, ht, Or.inl ⟨h1, F, h2, fun j hj => g2 j _ hj (h3 j hj)⟩⟩
      · exact ⟨cA, ty, ht, Or.inr ⟨h1, F, h2, fun j hj => g2 j _ hj (h3 j hj)⟩⟩
    · cases h
  · rename_i t f d g
    split at h
    · rename_i e1
      have e1 := z_beq e1
      subst e1
      obtain ⟨cA, ty, ht, h1, F, h2, h3⟩ := hc
      obtain ⟨g1, g2⟩ := z_ml_ok hJ hn h0 hn0 (z_elF (F := fun j => va_rf (F j)) h3) h
      obtain ⟨g3, g4⟩ := z_elB g2
      exact ⟨g1, cA, ty, ht, h1, F, by rw [h2, g3], g4⟩
    · cases h
  · cases h
noncomputable def z_mh (J : zJ) (n0 : Nat) : zB → List zC → List zC → Option zB
  | σ, [], [] => some σ
  | σ, a :: as, b :: bs => match z_mc J n0 σ a b with
    | some σ' => z_mh J n0 σ' as bs
    | none => none
  | _, _, _ => none
theorem z_mh_ok {tys : List (ClassId × FieldType)} {J : zJ} {n0 : Nat} {ρ : List Int} {ad : List Nat} (hJ : z_iv J ρ) (hn : n0 ≤ ρ.length) (h0 : ρ[0]? = some 0) (hn0 : 0 < n0) : ∀ {as bs : List zC} {ws : va_W} {σ σ' : zB}, z_F (z_H tys ρ ad) bs ws → z_mh J n0 σ as bs = some σ' → σ <+: σ' ∧ z_F (z_H tys (z_r2 n0 ρ σ') ad) as ws
  | [], [], [], σ, σ', _, h => by
    unfold z_mh at h
    cases h
    exact ⟨List.prefix_refl _, trivial⟩
  | a :: as, b :: bs, v :: vs, σ, σ', hF, h => by
    unfold z_mh at h
    split at h
    · rename_i σ1 e1
      obtain ⟨g1, g2⟩ := z_mc_ok hJ hn h0 hn0 hF.1 e1
      obtain ⟨g3, g4⟩ := z_mh_ok hJ hn h0 hn0 hF.2 h
      exact ⟨g1.trans g3, z_c.mono (z_r2_mono g3) (List.prefix_refl _) g2, g4⟩
    · cases h
  | [], [], _ :: _, σ, σ', hF, h => hF.elim
  | [], _ :: _, _, σ, σ', hF, h => by
    unfold z_mh at h
    cases h
  | _ :: _, [], _, σ, σ', hF, h => by
    unfold z_mh at h
    cases h
  | _ :: _, _ :: _, [], σ, σ', hF, h => hF.elim
/-- locals: those that the pattern names -/
noncomputable def z_mo (J : zJ) (n0 : Nat) (lo : List (Nat × zV)) : zB → List (Nat × zV) → Option zB
  | σ, [] => some σ
  | σ, (i, a) :: as => match z_lk lo i with
    | some b => match z_mv J n0 σ a b with
      | some σ' => z_mo J n0 lo σ' as
      | none => none
    | none => none
theorem z_mo_ok {J : zJ} {n0 nL : Nat} {ρ : List Int} {ad : List Nat} {lo : List (Nat × zV)} {lv : List (Nat × Value)} {ls : Array Slot} (hJ : z_iv J ρ) (hn : n0 ≤ ρ.length) (h0 : ρ[0]? = some 0) (hn0 : 0 < n0) (hF : z_F (z_Lo ρ ad) lo lv) (hl : lv_has ls nL lv) : ∀ {as : List (Nat × zV)} {σ σ' : zB}, z_mo J n0 lo σ as = some σ' → σ <+: σ' ∧ ∃ lv', z_F (z_Lo (z_r2 n0 ρ σ') ad) as lv' ∧ lv_has ls nL lv'
  | [], σ, σ', h => by
    unfold z_mo at h
    cases h
    exact ⟨List.prefix_refl _, [], trivial, hl.1, hl.2.1, fun q hq => by cases hq⟩
  | (i, a) :: as, σ, σ', h => by
    unfold z_mo at h
    split at h
    · rename_i b eb
      split at h
      · rename_i σ1 e1
        obtain ⟨kk, v, h1, h2⟩ := z_lk_ok hF eb
        obtain ⟨g1, g2⟩ := z_mv_ok hJ hn h0 hn0 h2 e1
        obtain ⟨g3, lv', g4, g5⟩ := z_mo_ok hJ hn h0 hn0 hF hl h
        refine ⟨g1.trans g3, (i, v) :: lv', ⟨⟨rfl, g2.mono (z_r2_mono g3) (List.prefix_refl _)⟩, g4⟩, g5.1, g5.2.1, fun q hq => ?_⟩
        rcases List.mem_cons.mp hq with rfl | hq
        · exact lv_at hl kk h1
        · exact g5.2.2 q hq
      · cases h
    · cases h
/-- bounds: of the symbols that stay, of those that are bound -/
noncomputable def z_fx : Nat → List zI → List zI → Bool
  | 0, _, _ => true
  | n + 1, p :: ps, b :: bs => (z_ile (p.2 + 1) p.1 || (z_ile b.1 b.2 && (z_ile p.1 b.1 && z_ile b.2 p.2))) && z_fx n ps bs
  | _, _, _ => false
theorem z_fx_ok : ∀ {n : Nat} {ps bs : List zI} {ρ : List Int}, z_F z_in bs ρ → z_fx n ps bs = true → z_F z_in (ps.take n) (ρ.take n)
  | 0, ps, bs, ρ, _, _ => trivial
  | n + 1, p :: ps, b :: bs, w :: ρ, hF, h => by
    have h1 := z_and h
    refine ⟨?_, z_fx_ok hF.2 h1.2⟩
    have h2 := hF.1
    unfold z_in at h2 ⊢
    rcases Bool.or_eq_true_iff.mp h1.1 with q | q
    · have := z_ile_ok q
      exact Or.inl (by omega)
    · have q1 := z_ile_ok (z_and q).1
      have q2 := z_ile_ok (z_and (z_and q).2).1
      have q3 := z_ile_ok (z_and (z_and q).2).2
      exact Or.inr (by omega)
  | n + 1, p :: ps, b :: bs, [], hF, h => hF.elim
  | n + 1, [], bs, ρ, hF, h => by
    unfold z_fx at h
    cases h
  | n + 1, p :: ps, [], ρ, hF, h => by
    unfold z_fx at h
    cases h
noncomputable def z_bd (J : zJ) : List zI → zB → Bool
  | [], [] => true
  | p :: ps, (y, d) :: σ => (match z_b J y d with
    | some (l, h) => z_ile p.1 l && z_ile h p.2
    | none => false) && z_bd J ps σ
  | _, _ => false
theorem z_bd_ok {J : zJ} {ρ : List Int} (hJ : z_iv J ρ) : ∀ {ps : List zI} {σ : zB}, (∀ q ∈ σ, ∃ w, ρ[q.1]? = some w) → z_bd J ps σ = true → z_F z_in ps (σ.map (fun q => ρ.getD q.1 0 + q.2))
  | [], [], _, _ => trivial
  | p :: ps, (y, d) :: σ, hq, h => by
    have h1 := z_and h
    refine ⟨?_, z_bd_ok hJ (fun q hm => hq q (List.mem_cons_of_mem _ hm)) h1.2⟩
    obtain ⟨w, hw⟩ := hq (y, d) List.mem_cons_self
    have h2 := h1.1
    split at h2
    · rename_i l u eb
      have b1 := z_b_ok hJ (⟨w, hw, rfl⟩ : z_v ρ y d (w + d)) eb
      have b2 := z_ile_ok (z_and h2).1
      have b3 := z_ile_ok (z_and h2).2
      dsimp only
      rw [List.getD_eq_getElem?_getD, show ρ[y]? = some w from hw]
      show z_in p (w + d)
      exact Or.inr (by omega)
    · cases h2
  | [], _ :: _, _, h => by
    unfold z_bd at h
    cases h
  | _ :: _, [], _, h => by
    unfold z_bd at h
    cases h
theorem z_bd_in {J : zJ} {ρ : List Int} (hJ : z_iv J ρ) : ∀ {ps : List zI} {σ : zB}, z_bd J ps σ = true → ∀ q ∈ σ, ∃ w, ρ[q.1]? = some w
  | [], [], _ => fun q hq => by cases hq
  | p :: ps, (y, d) :: σ, h => by
    have h1 := z_and h
    intro q hq
    rcases List.mem_cons.mp hq with rfl | hq
    · have h2 := h1.1
      split at h2
      · rename_i l u eb
        have eb : z_b0 J.1 y d = some (l, u) := eb
        unfold z_b0 at eb
        rw [z_nx_eq] at eb
        split at eb
        · rename_i lo hi ey
          obtain ⟨w, g1, -⟩ := hJ.1.get ey
          exact ⟨w, g1⟩
        · cases eb
      · cases h2
    · exact z_bd_in hJ h1.2 q hq
  | [], _ :: _, h => by
    unfold z_bd at h
    cases h
  | _ :: _, [], h => by
    unfold z_bd at h
    cases h
/-! relations -/
theorem z_vp_ok {n0 : Nat} {σ : zB} {x y : Nat} {d : Int} {ρ : List Int} (hn : n0 ≤ ρ.length) (hq : ∀ q ∈ σ, ∃ w, ρ[q.1]? = some w) (h : z_vp n0 σ x = some (y, d)) : ∃ w, ρ[y]? = some w ∧ (z_r2 n0 ρ σ)[x]? = some (w + d) := by
  unfold z_vp at h
  rw [z_nx_eq] at h
  split at h
  · rename_i e
    have e := Nat.le_of_ble_eq_true e
    obtain ⟨w, hw⟩ := hq _ (List.mem_of_getElem? h)
    have := z_r2_hi hn h hw
    rw [show n0 + (x - n0) = x by omega] at this
    exact ⟨w, hw, this⟩
  · rename_i e
    have e2 : x < n0 := by
      rcases Nat.lt_or_ge x n0 with q | q
      · exact q
      · rw [Nat.ble_eq_true_of_le q] at e
        cases e
    cases h
    have hw : ρ[x]? = some ρ[x] := List.getElem?_eq_getElem (by omega)
    exact ⟨_, hw, by rw [z_r2_lo e2 hw]; congr 1; omega⟩
noncomputable def z_r4 (rs : List zR) (l w m : Nat) (k : Int) : Bool := rs.any (fun r => match r with
  | (4, l', w', m', k') => z_ieq k' k && (Nat.beq l' l && (Nat.beq w' w && Nat.beq m' m))
  | _ => false)
/-- sums of two against a third -/
noncomputable def z_o8 (J : zJ) (x y z : Nat) (k : Int) : Bool := (Nat.beq y 0 && z_imp J x 0 z 0 k) || J.2.any (fun r => match r with
  | (8, a, b, c, k') => Nat.beq a x && (Nat.beq b y && (Nat.beq c z && z_ile k' k))
  | (1, t, a, b, k') => Nat.beq a x && (Nat.beq b y && z_imp J t 0 z 0 (k + k'))
  | _ => false)
noncomputable def z_o9 (J : zJ) (x y z : Nat) (k : Int) : Bool := J.2.any (fun r => match r with
  | (9, a, b, c, k') => Nat.beq a x && (Nat.beq b y && (Nat.beq c z && z_ile k k'))
  | (1, t, a, b, k') => Nat.beq a x && (Nat.beq b y && z_imp J z (k + k') t 0 0)
  | _ => false)
theorem z_o8_ok {J : zJ} {ρ : List Int} {x y z : Nat} {k u v w : Int} (hJ : z_iv J ρ) (h0 : ρ[0]? = some 0) (hx : ρ[x]? = some u) (hy : ρ[y]? = some v) (hz : ρ[z]? = some w) (h : z_o8 J x y z k = true) : u + v ≤ w + k := by
  unfold z_o8 at h
  rcases Bool.or_eq_true_iff.mp h with h | h
  · have e := z_beq (z_and h).1
    subst e
    rw [h0] at hy
    cases hy
    have := z_imp_ok hJ (⟨u, hx, rfl⟩ : z_v ρ x 0 (u + 0)) (⟨w, hz, rfl⟩ : z_v ρ z 0 (w + 0)) (z_and h).2
    omega
  · obtain ⟨r, h1, h2⟩ := List.any_eq_true.mp h
    have h3 := hJ.2 r h1
    split at h2
    · rename_i a b c k'
      have f1 := z_beq (z_and h2).1
      have f2 := z_beq (z_and (z_and h2).2).1
      have f3 := z_beq (z_and (z_and (z_and h2).2).2).1
      have f4 := z_ile_ok (z_and (z_and (z_and h2).2).2).2
      subst f1
      subst f2
      subst f3
      obtain ⟨u', v', w', p1, p2, p3, p4⟩ := h3
      rw [hx] at p1
      cases p1
      rw [hy] at p2
      cases p2
      rw [hz] at p3
      cases p3
      omega
    · rename_i t a b k'
      have f1 := z_beq (z_and h2).1
      have f2 := z_beq (z_and (z_and h2).2).1
      have f3 := (z_and (z_and h2).2).2
      subst f1
      subst f2
      obtain ⟨t', u', v', p1, p2, p3, p4⟩ := h3
      rw [hx] at p2
      cases p2
      rw [hy] at p3
      cases p3
      have := z_imp_ok hJ (⟨t', p1, rfl⟩ : z_v ρ t 0 (t' + 0)) (⟨w, hz, rfl⟩ : z_v ρ z 0 (w + 0)) f3
      omega
    · cases h2
theorem z_o9_ok {J : zJ} {ρ : List Int} {x y z : Nat} {k u v w : Int} (hJ : z_iv J ρ) (hx : ρ[x]? = some u) (hy : ρ[y]? = some v) (hz : ρ[z]? = some w) (h : z_o9 J x y z k = true) : w + k ≤ u + v := by
  unfold z_o9 at h
  obtain ⟨r, h1, h2⟩ := List.any_eq_true.mp h
  have h3 := hJ.2 r h1
  split at h2
  · rename_i a b c k'
    have f1 := z_beq (z_and h2).1
    have f2 := z_beq (z_and (z_and h2).2).1
    have f3 := z_beq (z_and (z_and (z_and h2).2).2).1
    have f4 := z_ile_ok (z_and (z_and (z_and h2).2).2).2
    subst f1
    subst f2
    subst f3
    obtain ⟨u', v', w', p1, p2, p3, p4⟩ := h3
    rw [hx] at p1
    cases p1
    rw [hy] at p2
    cases p2
    rw [hz] at p3
    cases p3
    omega
  · rename_i t a b k'
    have f1 := z_beq (z_and h2).1
    have f2 := z_beq (z_and (z_and h2).2).1
    have f3 := (z_and (z_and h2).2).2
    subst f1
    subst f2
    obtain ⟨t', u', v', p1, p2, p3, p4⟩ := h3
    rw [hx] at p2
    cases p2
    rw [hy] at p3
    cases p3
    have := z_imp_ok hJ (⟨w, hz, rfl⟩ : z_v ρ z (k + k') (w + (k + k'))) (⟨t', p1, rfl⟩ : z_v ρ t 0 (t' + 0)) f3
    omega
  · cases h2
noncomputable def z_rl (J : zJ) (n0 : Nat) (σ : zB) (r : zR) : Bool := match r with
  | (0, a, b, _, k) => match z_vp n0 σ a, z_vp n0 σ b with
    | some (x, c), some (y, d) => z_imp J x c y d k
    | _, _ => false
  | (3, a, m, r, _) => match z_vp n0 σ a with
    | some (x, c) => (match z_cg J x c m with
      | some q => z_ieq q (Int.ofNat r)
      | none => false)
    | none => false
  | (4, l, w, m, k) => match z_vp n0 σ l, z_vp n0 σ w, z_vp n0 σ m with
    | some (xl, cl), some (xw, cw), some (xm, cm) => (match z_b J xl (cl + k) with
      | some (_, h) => z_ile h 0
      | none => false) || (z_imp J xw cw xm cm (-1) || ((z_ieq cl 0 && (z_ieq cw 0 && z_ieq cm 0)) && z_r4 J.2 xl xw xm k))
    | _, _, _ => false
  | (5, a, b, _, k) => match z_vp n0 σ a, z_vp n0 σ b with
    | some (x, c), some (y, d) => z_o5 J x y (k - c - d)
    | _, _ => false
  | (6, a, b, _, k) => match z_vp n0 σ a, z_vp n0 σ b with
    | some (x, c), some (y, d) => z_o6 J x y (k - c - d)
    | _, _ => false
  | (8, a, b, c, k) => match z_vp n0 σ a, z_vp n0 σ b, z_vp n0 σ c with
    | some (xa, ca), some (xb, cb), some (xc, cc) => z_o8 J xa xb xc (k + cc - ca - cb)
    | _, _, _ => false
  | (9, a, b, c, k) => match z_vp n0 σ a, z_vp n0 σ b, z_vp n0 σ c with
    | some (xa, ca), some (xb, cb), some (xc, cc) => z_o9 J xa xb xc (k + cc - ca - cb)
    | _, _, _ => false
  | _ => false
theorem z_rl_ok {J : zJ} {n0 : Nat} {σ : zB} {r : zR} {ρ : List Int} (hJ : z_iv J ρ) (hn : n0 ≤ ρ.length) (h0 : ρ[0]? = some 0) (hq : ∀ q ∈ σ, ∃ w, ρ[q.1]? = some w) (h : z_rl J n0 σ r = true) : z_rh (z_r2 n0 ρ σ) r := by
  unfold z_rl at h
  split at h
  · split at h
    · rename_i x c y d e2 e3
      obtain ⟨w, g1, g2⟩ := z_vp_ok hn hq e2
      obtain ⟨w', g3, g4⟩ := z_vp_ok hn hq e3
      have := z_imp_ok hJ (⟨w, g1, rfl⟩ : z_v ρ x c (w + c)) (⟨w', g3, rfl⟩ : z_v ρ y d (w' + d)) h
      exact ⟨_, _, g2, g4, this⟩
    · cases h
  · split at h
    · rename_i x c e2
      obtain ⟨w, g1, g2⟩ := z_vp_ok hn hq e2
      split at h
      · rename_i q eq
        have := z_cg_ok hJ h0 (⟨w, g1, rfl⟩ : z_v ρ x c (w + c)) eq
        exact ⟨_, g2, this.trans (z_ieq_ok h)⟩
      · cases h
    · cases h
  · split at h
    · rename_i xl cl xw cw xm cm e1 e2 e3
      obtain ⟨u, g1, g2⟩ := z_vp_ok hn hq e1
      obtain ⟨v, g3, g4⟩ := z_vp_ok hn hq e2
      obtain ⟨t, g5, g6⟩ := z_vp_ok hn hq e3
      refine ⟨_, _, _, g2, g4, g6, fun hu => ?_⟩
      rcases Bool.or_eq_true_iff.mp h with q | q
      · split at q
        · rename_i lo hi eb
          have := z_b_ok hJ (⟨u, g1, rfl⟩ : z_v ρ xl _ (u + _)) eb
          have := z_ile_ok q
          omega
        · cases q
      · rcases Bool.or_eq_true_iff.mp q with q | q
        · have := z_imp_ok hJ (⟨v, g3, rfl⟩ : z_v ρ xw cw (v + cw)) (⟨t, g5, rfl⟩ : z_v ρ xm cm (t + cm)) q
          omega
        · have q1 := z_ieq_ok (z_and (z_and q).1).1
          have q2 := z_ieq_ok (z_and (z_and (z_and q).1).2).1
          have q3 := z_ieq_ok (z_and (z_and (z_and q).1).2).2
          obtain ⟨r, h1, h2⟩ := List.any_eq_true.mp (z_and q).2
          have h3 := hJ.2 r h1
          split at h2
          · rename_i l' w' m' k'
            have f0 := z_ieq_ok (z_and h2).1
            have h2 := (z_and h2).2
            have f1 := z_beq (z_and h2).1
            have f2 := z_beq (z_and (z_and h2).2).1
            have f3 := z_beq (z_and (z_and h2).2).2
            subst f0
            subst f1
            subst f2
            subst f3
            obtain ⟨u', v', t', p1, p2, p3, p4⟩ := h3
            rw [g1] at p1
            cases p1
            rw [g3] at p2
            cases p2
            rw [g5] at p3
            cases p3
            have := p4 (by omega)
            omega
          · cases h2
    · cases h
  · split at h
    · rename_i x c y d e2 e3
      obtain ⟨w, g1, g2⟩ := z_vp_ok hn hq e2
      obtain ⟨w', g3, g4⟩ := z_vp_ok hn hq e3
      have := z_o5_ok hJ g1 g3 h
      exact ⟨_, _, g2, g4, by omega⟩
    · cases h
  · split at h
    · rename_i x c y d e2 e3
      obtain ⟨w, g1, g2⟩ := z_vp_ok hn hq e2
      obtain ⟨w', g3, g4⟩ := z_vp_ok hn hq e3
      have := z_o6_ok hJ g1 g3 h
      exact ⟨_, _, g2, g4, by omega⟩
    · cases h
  · split at h
    · rename_i xa ca xb cb xc cc e1 e2 e3
      obtain ⟨u, g1, g2⟩ := z_vp_ok hn hq e1
      obtain ⟨v, g3, g4⟩ := z_vp_ok hn hq e2
      obtain ⟨w, g5, g6⟩ := z_vp_ok hn hq e3
      have := z_o8_ok hJ h0 g1 g3 g5 h
      exact ⟨_, _, _, g2, g4, g6, by omega⟩
    · cases h
  · split at h
    · rename_i xa ca xb cb xc cc e1 e2 e3
      obtain ⟨u, g1, g2⟩ := z_vp_ok hn hq e1
      obtain ⟨v, g3, g4⟩ := z_vp_ok hn hq e2
      obtain ⟨w, g5, g6⟩ := z_vp_ok hn hq e3
      have := z_o9_ok hJ g1 g3 g5 h
      exact ⟨_, _, _, g2, g4, g6, by omega⟩
    · cases h
  · cases h
noncomputable def z_mS (n0 : Nat) (P S : zS) : Option zB := match z_mo S.1 n0 S.2.1 [] P.2.1 with
  | some σ1 => match z_ml S.1 n0 σ1 P.2.2.1 S.2.2.1 with
    | some σ2 => match z_mh S.1 n0 σ2 P.2.2.2.1 S.2.2.2.1 with
      | some σ => match z_fx n0 P.1.1 S.1.1 && (z_bd S.1 (P.1.1.drop n0) σ && (P.1.2.all (z_rl S.1 n0 σ) && (Nat.ble S.2.2.2.2.1 P.2.2.2.2.1 && Nat.ble S.2.2.2.2.2 P.2.2.2.2.2))) with
        | true => some σ
        | false => none
      | none => none
    | none => none
  | none => none
theorem z_mS_ok {D : va_G} {cl : List vw_C} {tys : List (ClassId × FieldType)} {A : Nat → Prop} {H0 : Heap} {nL : Nat} {ρ0 : List Int} {ad0 : List Nat} {n0 : Nat} {P S : zS} {σ : zB} {ρ : List Int} {ws : va_W} {lv : List (Nat × Value)} {st : List Value} {H : Heap} {locs : List Loc} {ls : Array Slot}
    (hg : z_g D cl tys A H0 nL ρ0 ad0 S ρ ws lv st H locs ls) (hl0 : ρ0.length ≤ n0) (hn : n0 ≤ ρ.length) (hn0 : 0 < n0) (h : z_mS n0 P S = some σ) :
    (∃ lv', z_g D cl tys A H0 nL ρ0 ad0 P (z_r2 n0 ρ σ) ws lv' st H locs ls) ∧ S.2.2.2.2.1 ≤ P.2.2.2.2.1 ∧ S.2.2.2.2.2 ≤ P.2.2.2.2.2 ∧ ∀ q ∈ σ, ∃ w, ρ[q.1]? = some w := by
  obtain ⟨J, lo, sk, hp, nc, ns⟩ := S
  obtain ⟨JP, loP, skP, hpP, ncP, nsP⟩ := P
  unfold z_mS at h
  dsimp only at h
  split at h
  · rename_i σ1 e1
    split at h
    · rename_i σ2 e2
      split at h
      · rename_i σ3 e3
        split at h
        · rename_i e4
          cases h
          have hJ := hg.xiv
          have h0 := hg.zero
          have f1 := (z_and e4).1
          have f2 := (z_and (z_and e4).2).1
          have f3 := (z_and (z_and (z_and e4).2).2).1
          have f4 := Nat.le_of_ble_eq_true (z_and (z_and (z_and (z_and e4).2).2).2).1
          have f5 := Nat.le_of_ble_eq_true (z_and (z_and (z_and (z_and e4).2).2).2).2
          have hq := z_bd_in hJ f2
          obtain ⟨a1, lv', a2, a3⟩ := z_mo_ok hJ hn h0 hn0 hg.xlo hg.xL e1
          obtain ⟨b1, b2⟩ := z_ml_ok hJ hn h0 hn0 hg.xsk e2
          obtain ⟨c1, c2⟩ := z_mh_ok hJ hn h0 hn0 hg.xhp e3
          refine ⟨⟨lv', ⟨?_, hg.1.2.1, ?_⟩, ⟨?_, ?_⟩, ?_, ?_, c2, hg.xP, hg.xD, hg.xS, a3⟩, f4, f5, hq⟩
          · refine List.IsPrefix.trans ?_ (List.prefix_append _ _)
            exact List.prefix_take_iff.mpr ⟨hg.1.1, hl0⟩
          · exact z_r2_lo hn0 h0
          · have k1 := z_fx_ok hJ.1 f1
            have k2 := z_bd_ok hJ hq f2
            have k3 := z_F.app (l2 := JP.1.drop n0) k2 k1
            rw [List.take_append_drop] at k3
            exact k3
          · intro r hr
            exact z_rl_ok hJ hn h0 hq (List.all_eq_true.mp f3 r hr)
          · exact a2.mono (fun _ _ q => ⟨q.1, q.2.mono (z_r2_mono (b1.trans c1)) (List.prefix_refl _)⟩)
          · exact b2.mono (fun _ _ q => q.mono (z_r2_mono c1) (List.prefix_refl _))
        · cases h
      · cases h
    · cases h
  · cases h
