/-! ===== a contract at a call: its symbols are bound, its ends come over ===== -/
theorem z_F.drop {α β : Type} {R : α → β → Prop} : ∀ {l : List α} {k : List β} (n : Nat), z_F R l k → z_F R (l.drop n) (k.drop n)
  | l, k, 0, h => h
  | [], [], n + 1, h => trivial
  | a :: l, b :: k, n + 1, h => z_F.drop n h.2
  | [], _ :: _, n + 1, h => h.elim
  | _ :: _, [], n + 1, h => h.elim
/-- a symbol of the contract (n1 of them at its start), at the call (m0 symbols) -/
noncomputable def z_tx (nb n1 m0 : Nat) (σ : zB) (x : Nat) : Option (Nat × Int) := match Nat.ble n1 x with
  | true => some (m0 + (x - n1), 0)
  | false => match Nat.ble nb x with
    | true => z_nx σ (x - nb)
    | false => some (x, 0)
noncomputable def z_tw (nb n1 m0 : Nat) (σ : zB) (a : zV) : Option zV := match Nat.ble a.1 1 with
  | true => match z_tx nb n1 m0 σ a.2.1 with
    | some (y, d) => some (a.1, y, a.2.2 + d)
    | none => none
  | false => match Nat.ble a.1 3 with
    | true => some a
    | false => none
noncomputable def z_tl (nb n1 m0 : Nat) (σ : zB) : List zV → Option (List zV)
  | [] => some []
  | a :: as => match z_tw nb n1 m0 σ a, z_tl nb n1 m0 σ as with
    | some b, some bs => some (b :: bs)
    | _, _ => none
noncomputable def z_tn (nb n1 m0 : Nat) (σ : zB) : List zV → Option (List zV)
  | [] => some []
  | a :: as => match z_tx nb n1 m0 σ a.2.1, z_tn nb n1 m0 σ as with
    | some (y, d), some bs => some ((a.1, y, a.2.2 + d) :: bs)
    | _, _ => none
noncomputable def z_tb (nb n1 m0 : Nat) (σ : zB) : List zBd → Option (List zBd)
  | [] => some []
  | b :: bs => match z_tx nb n1 m0 σ b.2.1, z_tb nb n1 m0 σ bs with
    | some (y, d), some cs => some ((b.1, y, b.2.2.1 + d, b.2.2.2) :: cs)
    | _, _ => none
noncomputable def z_tk (nb n1 m0 : Nat) (σ : zB) (K : zK) : Option zK := match K with
  | .inl x => some (.inl x)
  | .inr (.inl es) => match z_tn nb n1 m0 σ es with
    | some es' => some (.inr (.inl es'))
    | none => none
  | .inr (.inr (l, h, bs)) => match z_tb nb n1 m0 σ bs with
    | some bs' => some (.inr (.inr (l, h, bs')))
    | none => none
noncomputable def z_tc (nb n1 m0 : Nat) (σ : zB) (a : zC) : Option zC := match a with
  | .inl (c, f) => match z_tl nb n1 m0 σ f with
    | some g => some (.inl (c, g))
    | none => none
  | .inr (.inl (t, n, K)) => match z_tk nb n1 m0 σ K with
    | some K' => some (.inr (.inl (t, n, K')))
    | none => none
  | .inr (.inr (t, f)) => match z_tl nb n1 m0 σ f with
    | some g => some (.inr (.inr (t, g)))
    | none => none
noncomputable def z_th (nb n1 m0 : Nat) (σ : zB) : List zC → Option (List zC)
  | [] => some []
  | a :: as => match z_tc nb n1 m0 σ a, z_th nb n1 m0 σ as with
    | some b, some bs => some (b :: bs)
    | _, _ => none
/-- what ties the two: every symbol of the contract's end has its value at the call -/
noncomputable def z_tie (nb n1 m0 : Nat) (σ : zB) (u ρ' : List Int) : Prop := ∀ (x : Nat) (w : Int) (y : Nat) (d : Int), u[x]? = some w → z_tx nb n1 m0 σ x = some (y, d) → ∃ w', ρ'[y]? = some w' ∧ w = w' + d
theorem z_tw_ok {nb n1 m0 : Nat} {σ : zB} {u ρ' : List Int} {ad : List Nat} {a b : zV} {v : Value} (ht : z_tie nb n1 m0 σ u ρ') (hm : z_m u ad a v) (h : z_tw nb n1 m0 σ a = some b) : z_m ρ' ad b v := by
  obtain ⟨t, x, c⟩ := a
  unfold z_tw at h
  dsimp only at h
  split at h
  · rename_i e1
    have e1 := Nat.le_of_ble_eq_true e1
    split at h
    · rename_i y d ex
      cases h
      refine z_nv_of e1 hm (fun z hz => ?_)
      obtain ⟨w, g1, g2⟩ := hz
      obtain ⟨w', g3, g4⟩ := ht x w y d g1 ex
      exact ⟨w', g3, by omega⟩
    · cases h
  · rename_i e1
    split at h
    · rename_i e2
      have e2 : t ≤ 3 := Nat.le_of_ble_eq_true e2
      cases h
      have e3 : ¬ t ≤ 1 := fun q => by
        rw [Nat.ble_eq_true_of_le q] at e1
        cases e1
      rcases (show t = 2 ∨ t = 3 by omega) with rfl | rfl
      · exact hm
      · exact hm
    · cases h
theorem z_tl_ok {nb n1 m0 : Nat} {σ : zB} {u ρ' : List Int} {ad : List Nat} (ht : z_tie nb n1 m0 σ u ρ') : ∀ {as bs : List zV} {vs : List Value}, z_F (z_m u ad) as vs → z_tl nb n1 m0 σ as = some bs → z_F (z_m ρ' ad) bs vs
  | [], bs, [], _, h => by
    unfold z_tl at h
    cases h
    trivial
  | a :: as, bs, v :: vs, hF, h => by
    unfold z_tl at h
    split at h
    · rename_i b bs' e1 e2
      cases h
      exact ⟨z_tw_ok ht hF.1 e1, z_tl_ok ht hF.2 e2⟩
    · cases h
  | [], bs, _ :: _, hF, h => hF.elim
  | _ :: _, bs, [], hF, h => hF.elim
theorem z_tl_len {nb n1 m0 : Nat} {σ : zB} : ∀ {as bs : List zV}, z_tl nb n1 m0 σ as = some bs → bs.length = as.length
  | [], bs, h => by
    unfold z_tl at h
    cases h
    rfl
  | a :: as, bs, h => by
    unfold z_tl at h
    split at h
    · rename_i b bs' e1 e2
      cases h
      rw [List.length_cons, List.length_cons, z_tl_len e2]
    · cases h
theorem z_tn_ok {nb n1 m0 : Nat} {σ : zB} {u ρ' : List Int} (ht : z_tie nb n1 m0 σ u ρ') : ∀ {as bs : List zV}, z_tn nb n1 m0 σ as = some bs → ∀ (j : Nat) (a : zV) (z : Int), as[j]? = some a → z_v u a.2.1 a.2.2 z → ∃ b, bs[j]? = some b ∧ z_v ρ' b.2.1 b.2.2 z
  | [], bs, h, j, a, z, ha, _ => by simp at ha
  | a :: as, bs, h, j, a', z, ha, hz => by
    unfold z_tn at h
    split at h
    · rename_i y d bs' e1 e2
      cases h
      cases j with
      | zero =>
        rw [List.getElem?_cons_zero] at ha
        cases ha
        obtain ⟨w, g1, g2⟩ := hz
        obtain ⟨w', g3, g4⟩ := ht _ w y d g1 e1
        exact ⟨_, by rw [List.getElem?_cons_zero], w', g3, by dsimp only; omega⟩
      | succ j =>
        rw [List.getElem?_cons_succ] at ha
        obtain ⟨b, k1, k2⟩ := z_tn_ok ht e2 j a' z ha hz
        exact ⟨b, by rw [List.getElem?_cons_succ]; exact k1, k2⟩
    · cases h
theorem z_tb_ok {nb n1 m0 : Nat} {σ : zB} {u ρ' : List Int} (ht : z_tie nb n1 m0 σ u ρ') : ∀ {bs cs : List zBd}, z_tb nb n1 m0 σ bs = some cs → ∀ c ∈ cs, ∃ b ∈ bs, ∃ y d, z_tx nb n1 m0 σ b.2.1 = some (y, d) ∧ c = (b.1, y, b.2.2.1 + d, b.2.2.2)
  | [], cs, h, c, hc => by
    unfold z_tb at h
    cases h
    cases hc
  | b :: bs, cs, h, c, hc => by
    unfold z_tb at h
    split at h
    · rename_i y d cs' e1 e2
      cases h
      rcases List.mem_cons.mp hc with rfl | hc
      · exact ⟨b, List.mem_cons_self, y, d, e1, rfl⟩
      · obtain ⟨b', k1, k2⟩ := z_tb_ok ht e2 c hc
        exact ⟨b', List.mem_cons_of_mem _ k1, k2⟩
    · cases h
theorem z_tk_ok {nb n1 m0 : Nat} {σ : zB} {u ρ' : List Int} {K K' : zK} {j : Nat} {z : Int} (ht : z_tie nb n1 m0 σ u ρ') (hz : z_kz u K j z) (h : z_tk nb n1 m0 σ K = some K') : z_kz ρ' K' j z := by
  unfold z_tk at h
  split at h
  · cases h
    exact hz
  · split at h
    · rename_i es' e1
      cases h
      obtain ⟨a, k1, k2⟩ := hz
      exact z_tn_ok ht e1 j a z k1 k2
    · cases h
  · split at h
    · rename_i bs' e1
      cases h
      refine ⟨hz.1, fun c hc => ?_⟩
      obtain ⟨b, hb, y, d, k1, rfl⟩ := z_tb_ok ht e1 c hc
      obtain ⟨⟨w, hw⟩, h2⟩ := hz.2 b hb
      obtain ⟨w', g3, g4⟩ := ht _ w y d hw k1
      refine ⟨⟨w', g3⟩, fun hib => h2 ?_⟩
      obtain ⟨b1, b2, w2, b3, b4⟩ := hib
      have b3 : ρ'[y]? = some w2 := b3
      rw [g3] at b3
      cases b3
      have b4 : (j : Int) < w' + (b.2.2.1 + d) := b4
      exact ⟨b1, b2, w, hw, by omega⟩
    · cases h
theorem z_tc_ok {tys : List (ClassId × FieldType)} {nb n1 m0 : Nat} {σ : zB} {u ρ' : List Int} {ad : List Nat} {a b : zC} {e : va_E} (ht : z_tie nb n1 m0 σ u ρ') (hc : z_c tys u ad a e) (h : z_tc nb n1 m0 σ a = some b) : z_c tys ρ' ad b e := by
  unfold z_tc at h
  split at h
  · rename_i c f
    split at h
    · rename_i g eg
      cases h
      obtain ⟨vs, rfl, hF⟩ := hc
      exact ⟨vs, rfl, z_tl_ok ht hF eg⟩
    · cases h
  · rename_i t n K
    split at h
    · rename_i K' eK
      cases h
      obtain ⟨cA, ty, hty, ⟨h1, F, h2, h3⟩ | ⟨h1, F, h2, h3⟩⟩ := hc
      · exact ⟨cA, ty, hty, Or.inl ⟨h1, F, h2, fun j hj => z_tk_ok ht (h3 j hj) eK⟩⟩
      · exact ⟨cA, ty, hty, Or.inr ⟨h1, F, h2, fun j hj => z_tk_ok ht (h3 j hj) eK⟩⟩
    · cases h
  · rename_i t f
    split at h
    · rename_i g eg
      cases h
      obtain ⟨cA, ty, hty, h1, F, h2, h3⟩ := hc
      have k := z_tl_ok ht (z_elF (F := fun j => va_rf (F j)) h3) eg
      obtain ⟨g3, g4⟩ := z_elB k
      exact ⟨cA, ty, hty, h1, F, by rw [h2, g3], g4⟩
    · cases h
theorem z_th_ok {tys : List (ClassId × FieldType)} {nb n1 m0 : Nat} {σ : zB} {u ρ' : List Int} {ad : List Nat} (ht : z_tie nb n1 m0 σ u ρ') : ∀ {as bs : List zC} {ws : va_W}, z_F (z_H tys u ad) as ws → z_th nb n1 m0 σ as = some bs → z_F (z_H tys ρ' ad) bs ws
  | [], bs, [], _, h => by
    unfold z_th at h
    cases h
    trivial
  | a :: as, bs, v :: vs, hF, h => by
    unfold z_th at h
    split at h
    · rename_i b bs' e1 e2
      cases h
      exact ⟨z_tc_ok ht hF.1 e1, z_th_ok ht hF.2 e2⟩
    · cases h
  | [], bs, _ :: _, hF, h => hF.elim
  | _ :: _, bs, [], hF, h => hF.elim
/-- relations come over, and those that follow from them -/
noncomputable def z_cmp (y y' : Nat) (k : Int) : List zR → List zR
  | [] => []
  | (0, p, q, _, k') :: rs => match Nat.beq q y with
    | true => (0, p, y', 0, k' + k) :: z_cmp y y' k rs
    | false => z_cmp y y' k rs
  | _ :: rs => z_cmp y y' k rs
theorem z_cmp_ok {ρ : List Int} {y y' : Nat} {k : Int} (hy : ∃ u v, ρ[y]? = some u ∧ ρ[y']? = some v ∧ u ≤ v + k) : ∀ {R : List zR}, (∀ r ∈ R, z_rh ρ r) → ∀ r ∈ z_cmp y y' k R, z_rh ρ r
  | [], _, r, h => by cases h
  | (0, p, q, c0, k') :: rs, hr, r, h => by
    have ih := z_cmp_ok hy (R := rs) (fun r hm => hr r (List.mem_cons_of_mem _ hm)) r
    have h : r ∈ (match Nat.beq q y with
      | true => (0, p, y', 0, k' + k) :: z_cmp y y' k rs
      | false => z_cmp y y' k rs) := h
    split at h
    · rename_i e
      have e := z_beq e
      subst e
      rcases List.mem_cons.mp h with rfl | h
      · obtain ⟨u, v, g1, g2, g3⟩ := hy
        obtain ⟨w, t, g4, g5, g6⟩ := hr _ List.mem_cons_self
        rw [g1] at g5
        cases g5
        exact ⟨w, v, g4, g2, by omega⟩
      · exact ih h
    · exact ih h
  | (n + 1, _, _, _, _) :: rs, hr, r, h => z_cmp_ok hy (R := rs) (fun r hm => hr r (List.mem_cons_of_mem _ hm)) r h
noncomputable def z_tr (nb n1 m0 : Nat) (σ : zB) (R : List zR) : List zR → List zR
  | [] => []
  | (0, a, b, _, k) :: rs => match z_tx nb n1 m0 σ a, z_tx nb n1 m0 σ b with
    | some (y, d), some (y', d') => (0, y, y', 0, k + d' - d) :: (z_cmp y y' (k + d' - d) R ++ z_tr nb n1 m0 σ R rs)
    | _, _ => z_tr nb n1 m0 σ R rs
  | (4, l, w, m, x) :: rs => match z_tx nb n1 m0 σ l, z_tx nb n1 m0 σ w, z_tx nb n1 m0 σ m with
    | some (y1, d1), some (y2, d2), some (y3, d3) => match z_ieq d1 0 && (z_ieq d2 0 && z_ieq d3 0) with
      | true => (4, y1, y2, y3, x) :: z_tr nb n1 m0 σ R rs
      | false => z_tr nb n1 m0 σ R rs
    | _, _, _ => z_tr nb n1 m0 σ R rs
  | (8, a, b, c, k) :: rs => match z_tx nb n1 m0 σ a, z_tx nb n1 m0 σ b, z_tx nb n1 m0 σ c with
    | some (y1, d1), some (y2, d2), some (y3, d3) => (8, y1, y2, y3, k + d3 - d1 - d2) :: z_tr nb n1 m0 σ R rs
    | _, _, _ => z_tr nb n1 m0 σ R rs
  | (9, a, b, c, k) :: rs => match z_tx nb n1 m0 σ a, z_tx nb n1 m0 σ b, z_tx nb n1 m0 σ c with
    | some (y1, d1), some (y2, d2), some (y3, d3) => (9, y1, y2, y3, k + d3 - d1 - d2) :: z_tr nb n1 m0 σ R rs
    | _, _, _ => z_tr nb n1 m0 σ R rs
  | _ :: rs => z_tr nb n1 m0 σ R rs
theorem z_tr_ok {nb n1 m0 : Nat} {σ : zB} {u ρ' : List Int} {R : List zR} (ht : z_tie nb n1 m0 σ u ρ') (hR : ∀ r ∈ R, z_rh ρ' r) : ∀ {rs : List zR}, (∀ r ∈ rs, z_rh u r) → ∀ r ∈ z_tr nb n1 m0 σ R rs, z_rh ρ' r
  | [], _, r, h => by cases h
  | (0, a, b, x, k) :: rs, hr, r, h => by
    have ih := z_tr_ok ht hR (rs := rs) (fun r hm => hr r (List.mem_cons_of_mem _ hm)) r
    have h : r ∈ (match z_tx nb n1 m0 σ a, z_tx nb n1 m0 σ b with
      | some (y, d), some (y', d') => (0, y, y', 0, k + d' - d) :: (z_cmp y y' (k + d' - d) R ++ z_tr nb n1 m0 σ R rs)
      | _, _ => z_tr nb n1 m0 σ R rs) := h
    split at h
    · rename_i y d y' d' e1 e2
      obtain ⟨w, w', g1, g2, g3⟩ := hr _ List.mem_cons_self
      obtain ⟨v, k1, k2⟩ := ht a w y d g1 e1
      obtain ⟨v', k3, k4⟩ := ht b w' y' d' g2 e2
      have new : ∃ u v, ρ'[y]? = some u ∧ ρ'[y']? = some v ∧ u ≤ v + (k + d' - d) := ⟨v, v', k1, k3, by omega⟩
      rcases List.mem_cons.mp h with rfl | h
      · exact new
      · rcases List.mem_append.mp h with h | h
        · exact z_cmp_ok new hR r h
        · exact ih h
    · exact ih h
  | (4, l, w, m, x) :: rs, hr, r, h => by
    have ih := z_tr_ok ht hR (rs := rs) (fun r hm => hr r (List.mem_cons_of_mem _ hm)) r
    have h : r ∈ (match z_tx nb n1 m0 σ l, z_tx nb n1 m0 σ w, z_tx nb n1 m0 σ m with
      | some (y1, d1), some (y2, d2), some (y3, d3) => (match z_ieq d1 0 && (z_ieq d2 0 && z_ieq d3 0) with
        | true => (4, y1, y2, y3, x) :: z_tr nb n1 m0 σ R rs
        | false => z_tr nb n1 m0 σ R rs)
      | _, _, _ => z_tr nb n1 m0 σ R rs) := h
    split at h
    · rename_i y1 d1 y2 d2 y3 d3 e1 e2 e3
      split at h
      · rename_i ed
        have q1 := z_ieq_ok (z_and ed).1
        have q2 := z_ieq_ok (z_and (z_and ed).2).1
        have q3 := z_ieq_ok (z_and (z_and ed).2).2
        rcases List.mem_cons.mp h with rfl | h
        · obtain ⟨a, b, c, g1, g2, g3, g4⟩ := hr _ List.mem_cons_self
          obtain ⟨v1, k1, k2⟩ := ht l a y1 d1 g1 e1
          obtain ⟨v2, k3, k4⟩ := ht w b y2 d2 g2 e2
          obtain ⟨v3, k5, k6⟩ := ht m c y3 d3 g3 e3
          exact ⟨v1, v2, v3, k1, k3, k5, fun q => by have := g4 (by omega); omega⟩
        · exact ih h
      · exact ih h
    · exact ih h
  | (1, _, _, _, _) :: rs, hr, r, h => z_tr_ok ht hR (rs := rs) (fun r hm => hr r (List.mem_cons_of_mem _ hm)) r h
  | (2, _, _, _, _) :: rs, hr, r, h => z_tr_ok ht hR (rs := rs) (fun r hm => hr r (List.mem_cons_of_mem _ hm)) r h
  | (3, _, _, _, _) :: rs, hr, r, h => z_tr_ok ht hR (rs := rs) (fun r hm => hr r (List.mem_cons_of_mem _ hm)) r h
  | (5, _, _, _, _) :: rs, hr, r, h => z_tr_ok ht hR (rs := rs) (fun r hm => hr r (List.mem_cons_of_mem _ hm)) r h
  | (6, _, _, _, _) :: rs, hr, r, h => z_tr_ok ht hR (rs := rs) (fun r hm => hr r (List.mem_cons_of_mem _ hm)) r h
  | (7, _, _, _, _) :: rs, hr, r, h => z_tr_ok ht hR (rs := rs) (fun r hm => hr r (List.mem_cons_of_mem _ hm)) r h
  | (8, a, b, c, k) :: rs, hr, r, h => by
    have ih := z_tr_ok ht hR (rs := rs) (fun r hm => hr r (List.mem_cons_of_mem _ hm)) r
    have h : r ∈ (match z_tx nb n1 m0 σ a, z_tx nb n1 m0 σ b, z_tx nb n1 m0 σ c with
      | some (y1, d1), some (y2, d2), some (y3, d3) => (8, y1, y2, y3, k + d3 - d1 - d2) :: z_tr nb n1 m0 σ R rs
      | _, _, _ => z_tr nb n1 m0 σ R rs) := h
    split at h
    · rename_i y1 d1 y2 d2 y3 d3 e1 e2 e3
      rcases List.mem_cons.mp h with rfl | h
      · obtain ⟨u1, u2, u3, g1, g2, g3, g4⟩ := hr _ List.mem_cons_self
        obtain ⟨v1, k1, k2⟩ := ht a u1 y1 d1 g1 e1
        obtain ⟨v2, k3, k4⟩ := ht b u2 y2 d2 g2 e2
        obtain ⟨v3, k5, k6⟩ := ht c u3 y3 d3 g3 e3
        exact ⟨v1, v2, v3, k1, k3, k5, by omega⟩
      · exact ih h
    · exact ih h
  | (9, a, b, c, k) :: rs, hr, r, h => by
    have ih := z_tr_ok ht hR (rs := rs) (fun r hm => hr r (List.mem_cons_of_mem _ hm)) r
    have h : r ∈ (match z_tx nb n1 m0 σ a, z_tx nb n1 m0 σ b, z_tx nb n1 m0 σ c with
      | some (y1, d1), some (y2, d2), some (y3, d3) => (9, y1, y2, y3, k + d3 - d1 - d2) :: z_tr nb n1 m0 σ R rs
      | _, _, _ => z_tr nb n1 m0 σ R rs) := h
    split at h
    · rename_i y1 d1 y2 d2 y3 d3 e1 e2 e3
      rcases List.mem_cons.mp h with rfl | h
      · obtain ⟨u1, u2, u3, g1, g2, g3, g4⟩ := hr _ List.mem_cons_self
        obtain ⟨v1, k1, k2⟩ := ht a u1 y1 d1 g1 e1
        obtain ⟨v2, k3, k4⟩ := ht b u2 y2 d2 g2 e2
        obtain ⟨v3, k5, k6⟩ := ht c u3 y3 d3 g3 e3
        exact ⟨v1, v2, v3, k1, k3, k5, by omega⟩
      · exact ih h
    · exact ih h
  | (n + 10, _, _, _, _) :: rs, hr, r, h => z_tr_ok ht hR (rs := rs) (fun r hm => hr r (List.mem_cons_of_mem _ hm)) r h
noncomputable def z_eqN (a b : zI) : Bool := z_ieq a.1 b.1 && z_ieq a.2 b.2
/-- bounds that the end tells of the start's symbols -/
noncomputable def z_rfn : List zI → List zI → zB → zJ → Option zJ
  | p :: ps, q :: qs, (y, d) :: σ, J => match z_eqN p q with
    | true => z_rfn ps qs σ J
    | false => match z_ile q.1 q.2 with
      | true => match z_cut J y (q.1 - d) (q.2 - d) with
        | some J' => z_rfn ps qs σ J'
        | none => none
      | false => z_rfn ps qs σ J
  | _, _, _, J => some J
theorem z_rfn_ok {ρ : List Int} : ∀ {ps qs : List zI} {σ : zB} {J : zJ} {us : List Int}, z_iv J ρ → z_F z_in qs us → (∀ (k : Nat) (y : Nat) (d w : Int), σ[k]? = some (y, d) → us[k]? = some w → ∃ w', ρ[y]? = some w' ∧ w = w' + d) → ∃ J', z_rfn ps qs σ J = some J' ∧ z_iv J' ρ
  | p :: ps, q :: qs, (y, d) :: σ, J, u :: us, hJ, hF, hu => by
    have hu' := fun k y d w h1 h2 => hu (k + 1) y d w (by rw [List.getElem?_cons_succ]; exact h1) (by rw [List.getElem?_cons_succ]; exact h2)
    unfold z_rfn
    split
    · exact z_rfn_ok hJ hF.2 hu'
    · split
      · rename_i e
        have e := z_ile_ok e
        obtain ⟨w', g1, g2⟩ := hu 0 y d u rfl rfl
        have hb := hF.1
        unfold z_in at hb
        obtain ⟨J', k1, k2⟩ := z_cut_ok (lo := q.1 - d) (hi := q.2 - d) hJ g1 (by omega) (by omega)
        rw [k1]
        exact z_rfn_ok k2 hF.2 hu'
      · exact z_rfn_ok hJ hF.2 hu'
  | [], qs, σ, J, us, hJ, _, _ => ⟨J, by unfold z_rfn; rfl, hJ⟩
  | _ :: _, [], σ, J, us, hJ, _, _ => ⟨J, by unfold z_rfn; rfl, hJ⟩
  | _ :: _, _ :: _, [], J, us, hJ, _, _ => ⟨J, by unfold z_rfn; rfl, hJ⟩
  | _ :: _, _ :: _, _ :: _, J, [], hJ, hF, _ => hF.elim
/-- what cannot be: an end that says so is dropped -/
noncomputable def z_le (J : zJ) (R : List zR) : Nat → Nat → Nat → Int → Bool
  | 0, x, y, k => Nat.beq x y && z_ile 0 k
  | f + 1, x, y, k => (Nat.beq x y && z_ile 0 k) || R.any (fun r => match r with
    | (0, a, b, _, k1) => Nat.beq a x && z_le J R f b y (k - k1)
    | (8, a, b, c, k1) => Nat.beq a x && (match z_b J b 0 with
      | some (lb, _) => z_le J R f c y (k - k1 + lb)
      | none => false)
    | _ => false)
theorem z_le_ok {J : zJ} {R : List zR} {ρ : List Int} (hJ : z_iv J ρ) (hR : ∀ r ∈ R, z_rh ρ r) : ∀ (f x y : Nat) (k u v : Int), z_le J R f x y k = true → ρ[x]? = some u → ρ[y]? = some v → u ≤ v + k
  | 0, x, y, k, u, v, h, hx, hy => by
    have e := z_beq (z_and h).1
    have e2 := z_ile_ok (z_and h).2
    subst e
    rw [hx] at hy
    cases hy
    omega
  | f + 1, x, y, k, u, v, h, hx, hy => by
    unfold z_le at h
    rcases Bool.or_eq_true_iff.mp h with h | h
    · have e := z_beq (z_and h).1
      have e2 := z_ile_ok (z_and h).2
      subst e
      rw [hx] at hy
      cases hy
      omega
    · obtain ⟨r, h1, h2⟩ := List.any_eq_true.mp h
      have h3 := hR r h1
      split at h2
      · rename_i a b c k1
        have f1 := z_beq (z_and h2).1
        subst f1
        obtain ⟨u', v', p1, p2, p3⟩ := h3
        rw [hx] at p1
        cases p1
        have := z_le_ok hJ hR f b y (k - k1) v' v (z_and h2).2 p2 hy
        omega
      · rename_i a b c k1
        have f1 := z_beq (z_and h2).1
        have h4 := (z_and h2).2
        subst f1
        obtain ⟨u', v', w', p1, p2, p3, p4⟩ := h3
        rw [hx] at p1
        cases p1
        split at h4
        · rename_i lb hb eb
          have b1 := z_b_ok hJ (⟨v', p2, by omega⟩ : z_v ρ b 0 v') eb
          have := z_le_ok hJ hR f c y (k - k1 + lb) w' v h4 p3 hy
          omega
        · cases h4
      · cases h2
noncomputable def z_bad1 (J : zJ) (r : zR) : Bool := match r with
  | (0, a, b, _, k) => z_le J J.2 3 b a (-k - 1)
  | (8, a, b, c, k) => J.2.any (fun q => match q with
    | (9, a', b', c', k') => Nat.beq a' a && (Nat.beq b' b && (Nat.beq c' c && z_ile (k + 1) k'))
    | _ => false)
  | (9, a, b, c, k) => J.2.any (fun q => match q with
    | (8, a', b', c', k') => Nat.beq a' a && (Nat.beq b' b && (Nat.beq c' c && z_ile (k' + 1) k))
    | _ => false)
  | _ => false
theorem z_bad1_no {J : zJ} {ρ : List Int} {r : zR} (hJ : z_iv J ρ) (hr : z_rh ρ r) (h : z_bad1 J r = true) : False := by
  unfold z_bad1 at h
  split at h
  · obtain ⟨u, v, p1, p2, p3⟩ := hr
    have := z_le_ok hJ hJ.2 3 _ _ _ _ _ h p2 p1
    omega
  · obtain ⟨u, v, w, p1, p2, p3, p4⟩ := hr
    obtain ⟨q, h1, h2⟩ := List.any_eq_true.mp h
    have h3 := hJ.2 q h1
    split at h2
    · have f1 := z_beq (z_and h2).1
      have f2 := z_beq (z_and (z_and h2).2).1
      have f3 := z_beq (z_and (z_and (z_and h2).2).2).1
      have f4 := z_ile_ok (z_and (z_and (z_and h2).2).2).2
      subst f1
      subst f2
      subst f3
      obtain ⟨u', v', w', q1, q2, q3, q4⟩ := h3
      rw [p1] at q1
      cases q1
      rw [p2] at q2
      cases q2
      rw [p3] at q3
      cases q3
      omega
    · cases h2
  · obtain ⟨u, v, w, p1, p2, p3, p4⟩ := hr
    obtain ⟨q, h1, h2⟩ := List.any_eq_true.mp h
    have h3 := hJ.2 q h1
    split at h2
    · have f1 := z_beq (z_and h2).1
      have f2 := z_beq (z_and (z_and h2).2).1
      have f3 := z_beq (z_and (z_and (z_and h2).2).2).1
      have f4 := z_ile_ok (z_and (z_and (z_and h2).2).2).2
      subst f1
      subst f2
      subst f3
      obtain ⟨u', v', w', q1, q2, q3, q4⟩ := h3
      rw [p1] at q1
      cases q1
      rw [p2] at q2
      cases q2
      rw [p3] at q3
      cases q3
      omega
    · cases h2
  · cases h
noncomputable def z_tXs (nb n1 m0 : Nat) (J0 J : zJ) (σ : zB) : List zX → Option (List zX)
  | [] => some []
  | E :: es => match z_rfn (J0.1.drop nb) (E.1.1.drop nb) σ J with
    | none => z_tXs nb n1 m0 J0 J σ es
    | some J' => match (z_tr nb n1 m0 σ J'.2 E.1.2).any (z_bad1 (J'.1 ++ E.1.1.drop n1, z_tr nb n1 m0 σ J'.2 E.1.2 ++ J'.2)) with
      | true => z_tXs nb n1 m0 J0 J σ es
      | false => match z_tl nb n1 m0 σ E.2.1, z_th nb n1 m0 σ E.2.2, z_tXs nb n1 m0 J0 J σ es with
        | some rv, some hp, some es' => some (((J'.1 ++ E.1.1.drop n1, z_tr nb n1 m0 σ J'.2 E.1.2 ++ J'.2), rv, hp) :: es')
        | _, _, _ => none
noncomputable def z_use (nb : Nat) (cn : zCn) (J : zJ) (as : List zV) (hp : List zC) : Option (List zX) := match z_ml J nb [] cn.1.2.1 as with
  | some σ1 => match z_mh J nb σ1 cn.1.2.2 hp with
    | some σ => match z_fx nb cn.1.1.1 J.1 && (z_bd J (cn.1.1.1.drop nb) σ && cn.1.1.2.all (z_rl J nb σ)) with
      | true => z_tXs nb cn.1.1.1.length J.1.length cn.1.1 J σ cn.2
      | false => none
    | none => none
  | none => none
theorem z_tXs_ok {tys : List (ClassId × FieldType)} {J0 J : zJ} {σ : zB} {ρ u : List Int} {ws : va_W} {rv : List Value} {nb n1 : Nat} (hJ : z_iv J ρ) (hnb : nb ≤ ρ.length) (hsl : n1 = nb + σ.length) (hu0 : z_r2 nb ρ σ <+: u) (hq : ∀ q ∈ σ, ∃ w, ρ[q.1]? = some w) :
    ∀ {es es' : List zX}, z_tXs nb n1 J.1.length J0 J σ es = some es' → ∀ E ∈ es, z_iv E.1 u → z_F (z_m u (z_ad ws)) E.2.1 rv → z_F (z_H tys u (z_ad ws)) E.2.2 ws → ∃ E' ∈ es', z_iv E'.1 (ρ ++ u.drop n1) ∧ z_F (z_m (ρ ++ u.drop n1) (z_ad ws)) E'.2.1 rv ∧ z_F (z_H tys (ρ ++ u.drop n1) (z_ad ws)) E'.2.2 ws
  | [], es', h, E, hE, _, _, _ => by cases hE
  | F :: es, es', h, E, hE, h1, h2, h3 => by
    have hlen : J.1.length = ρ.length := z_F.len hJ.1
    have tie : z_tie nb n1 J.1.length σ u (ρ ++ u.drop n1) := by
      intro x w y d hx ht
      unfold z_tx at ht
      rw [z_nx_eq] at ht
      split at ht
      · rename_i e
        have e := Nat.le_of_ble_eq_true e
        cases ht
        refine ⟨w, ?_, by omega⟩
        rw [hlen, List.getElem?_append_right (by omega), List.getElem?_drop, show n1 + (ρ.length + (x - n1) - ρ.length) = x by omega]
        exact hx
      · rename_i e
        have e2 : x < n1 := by
          rcases Nat.lt_or_ge x n1 with q | q
          · exact q
          · rw [Nat.ble_eq_true_of_le q] at e
            cases e
        split at ht
        · rename_i e3
          have e3 := Nat.le_of_ble_eq_true e3
          obtain ⟨w', hw'⟩ := hq _ (List.mem_of_getElem? ht)
          have g := z_pre hu0 (z_r2_hi hnb ht hw')
          rw [show nb + (x - nb) = x by omega, hx] at g
          cases g
          exact ⟨w', z_pre (z_app_pre _ _) hw', rfl⟩
        · rename_i e3
          have e4 : x < nb := by
            rcases Nat.lt_or_ge x nb with q | q
            · exact q
            · rw [Nat.ble_eq_true_of_le q] at e3
              cases e3
          cases ht
          have hw : ρ[x]? = some ρ[x] := List.getElem?_eq_getElem (by omega)
          have g := z_pre hu0 (z_r2_lo (σ := σ) e4 hw)
          rw [hx] at g
          refine ⟨ρ[x], z_pre (z_app_pre _ _) hw, ?_⟩
          have := Option.some.inj g
          omega
    have tail : (∃ es2, z_tXs nb n1 J.1.length J0 J σ es = some es2 ∧ ∀ X ∈ es2, X ∈ es') → E ∈ es → ∃ E' ∈ es', z_iv E'.1 (ρ ++ u.drop n1) ∧ z_F (z_m (ρ ++ u.drop n1) (z_ad ws)) E'.2.1 rv ∧ z_F (z_H tys (ρ ++ u.drop n1) (z_ad ws)) E'.2.2 ws := fun hx hm => by
      obtain ⟨es2, g1, g2⟩ := hx
      obtain ⟨E', k1, k2⟩ := z_tXs_ok hJ hnb hsl hu0 hq g1 E hm h1 h2 h3
      exact ⟨E', g2 E' k1, k2⟩
    have hrf : ∀ G : zX, z_iv G.1 u → ∃ J', z_rfn (J0.1.drop nb) (G.1.1.drop nb) σ J = some J' ∧ z_iv J' ρ := fun G hG => by
      refine z_rfn_ok hJ (z_F.drop nb hG.1) (fun k y d w g1 g2 => ?_)
      obtain ⟨w', hw'⟩ := hq _ (List.mem_of_getElem? g1)
      have g := z_pre hu0 (z_r2_hi hnb g1 hw')
      rw [List.getElem?_drop, g] at g2
      cases g2
      exact ⟨w', hw', rfl⟩
    unfold z_tXs at h
    split at h
    · rename_i er
      rcases List.mem_cons.mp hE with rfl | hm
      · obtain ⟨J', g1, -⟩ := hrf E h1
        rw [er] at g1
        cases g1
      · exact tail ⟨es', h, fun X hX => hX⟩ hm
    · rename_i J' er
      have hiv : ∀ G : zX, G = F → z_iv G.1 u → z_iv (J'.1 ++ G.1.1.drop n1, z_tr nb n1 J.1.length σ J'.2 G.1.2 ++ J'.2) (ρ ++ u.drop n1) := fun G eG hG => by
        subst eG
        obtain ⟨J2, g1, g2⟩ := hrf G hG
        rw [er] at g1
        cases g1
        refine ⟨z_F.app (z_F.drop n1 hG.1) g2.1, fun r hr => ?_⟩
        rcases List.mem_append.mp hr with hr | hr
        · exact z_tr_ok tie (fun r hr => (g2.2 r hr).mono (z_app_pre _ _)) hG.2 r hr
        · exact (g2.2 r hr).mono (z_app_pre _ _)
      split at h
      · rename_i eb
        rcases List.mem_cons.mp hE with rfl | hm
        · obtain ⟨r, hr1, hr2⟩ := List.any_eq_true.mp eb
          have hv := hiv E rfl h1
          exact (z_bad1_no hv (hv.2 r (List.mem_append_left _ hr1)) hr2).elim
        · exact tail ⟨es', h, fun X hX => hX⟩ hm
      · split at h
        · rename_i rv' hp' es2 e1 e2 e3
          cases h
          rcases List.mem_cons.mp hE with rfl | hm
          · exact ⟨_, List.mem_cons_self, hiv E rfl h1, z_tl_ok tie h2 e1, z_th_ok tie h3 e2⟩
          · exact tail ⟨es2, e3, fun X hX => List.mem_cons_of_mem _ hX⟩ hm
        · cases h
theorem z_use_ok {SP : zSP} {bs : List Int} {l : Launch} {D : va_G} {cl : List vw_C} {tys : List (ClassId × FieldType)} {tbl : List Cond} {y : MethodName} {cc : ByteArray} {nL : Nat} {ret : Option FieldType} {d rk mc ms : Nat} {cn : zCn} {J : zJ} {as : List zV} {hp : List zC} {es : List zX} (hb1 : 0 < bs.length) (hM : z_MET SP bs l D cl tys tbl y cc nL ret d rk mc ms cn.1.1 cn.1.2.1 cn.1.2.2 cn.2) (h : z_use bs.length cn J as hp = some es) : z_MET SP bs l D cl tys tbl y cc nL ret d rk mc ms J as hp es := by
  intro ρ ws av sz eb e0 e1 e2 e3
  have hl1 : bs.length ≤ ρ.length := eb.length_le
  unfold z_use at h
  split at h
  · rename_i σ1 s1
    split at h
    · rename_i σ s2
      split at h
      · rename_i et
        have f1 := (z_and et).1
        have f2 := (z_and (z_and et).2).1
        have f3 := (z_and (z_and et).2).2
        have hq := z_bd_in e1 f2
        obtain ⟨a1, a2⟩ := z_ml_ok e1 hl1 e0 hb1 e2 s1
        obtain ⟨b1, b2⟩ := z_mh_ok e1 hl1 e0 hb1 e3 s2
        have hiv : z_iv cn.1.1 (z_r2 bs.length ρ σ) := by
          have k1 := z_fx_ok e1.1 f1
          have k2 := z_bd_ok e1 hq f2
          have k3 := z_F.app (l2 := cn.1.1.1.drop bs.length) k2 k1
          rw [List.take_append_drop] at k3
          exact ⟨k3, fun r hr => z_rl_ok e1 hl1 e0 hq (List.all_eq_true.mp f3 r hr)⟩
        have hn1 : cn.1.1.1.length = bs.length + σ.length := by
          rw [z_F.len hiv.1]
          unfold z_r2
          rw [List.length_append, List.length_take, List.length_map]
          omega
        have hbr : bs <+: z_r2 bs.length ρ σ := by
          refine List.IsPrefix.trans ?_ (List.prefix_append _ _)
          exact List.prefix_take_iff.mpr ⟨eb, Nat.le_refl _⟩
        have hMet := hM (z_r2 bs.length ρ σ) ws av sz hbr (z_r2_lo hb1 e0) hiv (a2.mono (fun _ _ q => q.mono (z_r2_mono b1) (List.prefix_refl _))) b2
        have conv : ∀ (rv : List Value) (u : List Int × va_W), z_po tys (z_r2 bs.length ρ σ) ws cn.2 rv u → z_po tys ρ ws es rv (ρ ++ u.1.drop cn.1.1.1.length, u.2) := by
          intro rv u hpo
          obtain ⟨E, hE, g1, g2, g3, g4, g5⟩ := hpo
          obtain ⟨E', k1, k2, k3, k4⟩ := z_tXs_ok (ws := u.2) (rv := rv) (tys := tys) e1 hl1 hn1 g1 hq h E hE g3 g4 g5
          exact ⟨E', k1, z_app_pre _ _, g2, k2, k3, k4⟩
        refine z_Met_imp hMet (fun a s o t hQ => ?_)
        unfold z_Qc at hQ ⊢
        split at hQ
        · obtain ⟨⟨r, u, h1, h2, h3⟩, h4⟩ := hQ
          exact ⟨⟨r, _, h1, conv _ u h2, h3⟩, h4⟩
        · obtain ⟨⟨u, h1, h2, h3⟩, h4⟩ := hQ
          exact ⟨⟨_, h1, conv _ u h2, h3⟩, h4⟩
        · rename_i n2 n3
          obtain ⟨⟨r, u, h1, h2, h3⟩, h4⟩ := hQ
          exact ⟨⟨r, _, h1, conv _ u h2, h3⟩, h4⟩
      · cases h
    · cases h
  · cases h
