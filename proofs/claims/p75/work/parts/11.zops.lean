/-! ===== numbers: bounds, results, what a branch tells ===== -/
noncomputable def z_b0 (I : List zI) (x : Nat) (c : Int) : Option zI := match z_nx I x with
  | some (lo, hi) => match z_ile lo hi with
    | true => some (lo + c, hi + c)
    | false => none
  | none => none
theorem z_b0_ok {I : List zI} {ρ : List Int} {x : Nat} {c z lo hi : Int} (h : z_F z_in I ρ) (hv : z_v ρ x c z) (hb : z_b0 I x c = some (lo, hi)) : lo ≤ z ∧ z ≤ hi := by
  obtain ⟨w, h1, h2⟩ := hv
  obtain ⟨b, h3, h4⟩ := z_F.get' h h1
  unfold z_b0 at hb
  rw [z_nx_eq, h3] at hb
  obtain ⟨l, u⟩ := b
  unfold z_in at h4
  dsimp only at hb h4
  split at hb
  · rename_i e
    have e := z_ile_ok e
    cases hb
    omega
  · cases hb
noncomputable def z_b (J : zJ) (x : Nat) (c : Int) : Option zI := z_b0 J.1 x c
theorem z_b_ok {J : zJ} {ρ : List Int} {x : Nat} {c z lo hi : Int} (h : z_iv J ρ) (hv : z_v ρ x c z) (hb : z_b J x c = some (lo, hi)) : lo ≤ z ∧ z ≤ hi := z_b0_ok h.1 hv hb
noncomputable def z_lim (t : Nat) : zI := match t with
  | 0 => (-2147483648, 2147483647)
  | _ => (-9223372036854775808, 9223372036854775807)
noncomputable def z_fit (t : Nat) (lo hi : Int) : Bool := z_ile (z_lim t).1 lo && z_ile hi (z_lim t).2
noncomputable def z_new (t : Nat) (lo hi : Int) (J : zJ) : zV × zJ := match z_ieq lo hi with
  | true => ((t, 0, lo), J)
  | false => ((t, J.1.length, 0), (J.1 ++ [(lo, hi)], J.2))
/-- a new symbol, and a relation of it -/
noncomputable def z_newr (t : Nat) (lo hi : Int) (r : zR) (J : zJ) : zV × zJ := match z_ieq lo hi with
  | true => ((t, 0, lo), J)
  | false => ((t, J.1.length, 0), (J.1 ++ [(lo, hi)], r :: J.2))
noncomputable def z_top (t : Nat) (J : zJ) : zV × zJ := ((t, J.1.length, 0), (J.1 ++ [z_lim t], J.2))
noncomputable def z_num (t : Nat) (lo hi : Int) (ivs : zJ) : zV × zJ := match z_fit t lo hi with
  | true => z_new t lo hi ivs
  | false => z_top t ivs
/-- a result: its value is z, under symbols that may be more -/
noncomputable def z_R (t : Nat) (ρ : List Int) (out : zV × zJ) (z : Int) : Prop := out.1.1 = t ∧ ∃ ρ', ρ <+: ρ' ∧ z_iv out.2 ρ' ∧ z_v ρ' out.1.2.1 out.1.2.2 z
theorem z_new_ok {t : Nat} {lo hi z : Int} {ivs : zJ} {ρ : List Int} (h : z_iv ivs ρ) (h0 : ρ[0]? = some 0) (h1 : lo ≤ z) (h2 : z ≤ hi) : z_R t ρ (z_new t lo hi ivs) z := by
  unfold z_new
  split
  · rename_i e
    have e := z_ieq_ok e
    have e2 : z = lo := by omega
    exact ⟨rfl, ρ, List.prefix_refl _, h, by rw [e2]; exact z_v.of0 h0 lo⟩
  · exact ⟨rfl, ρ ++ [z], z_app_pre _ _, h.app (b := (lo, hi)) h1 h2, h.last z⟩
theorem z_newr_ok {t : Nat} {lo hi z : Int} {r : zR} {ivs : zJ} {ρ : List Int} (h : z_iv ivs ρ) (h0 : ρ[0]? = some 0) (h1 : lo ≤ z) (h2 : z ≤ hi) (hr : z_rh (ρ ++ [z]) r) : z_R t ρ (z_newr t lo hi r ivs) z := by
  unfold z_newr
  split
  · rename_i e
    have e := z_ieq_ok e
    have e2 : z = lo := by omega
    exact ⟨rfl, ρ, List.prefix_refl _, h, by rw [e2]; exact z_v.of0 h0 lo⟩
  · exact ⟨rfl, ρ ++ [z], z_app_pre _ _, (h.app (b := (lo, hi)) h1 h2).rel hr, h.last z⟩
theorem z_top_ok {t : Nat} {z : Int} {ivs : zJ} {ρ : List Int} (h : z_iv ivs ρ) (h1 : (z_lim t).1 ≤ z) (h2 : z ≤ (z_lim t).2) : z_R t ρ (z_top t ivs) z := ⟨rfl, ρ ++ [z], z_app_pre _ _, h.app h1 h2, h.last z⟩
theorem z_num_ok {t : Nat} {lo hi z : Int} {ivs : zJ} {ρ : List Int} (h : z_iv ivs ρ) (h0 : ρ[0]? = some 0) (h1 : (z_lim t).1 ≤ z) (h2 : z ≤ (z_lim t).2) (h3 : z_fit t lo hi = true → lo ≤ z ∧ z ≤ hi) : z_R t ρ (z_num t lo hi ivs) z := by
  unfold z_num
  split
  · rename_i e
    exact z_new_ok h h0 (h3 e).1 (h3 e).2
  · exact z_top_ok h h1 h2
theorem z_fit_ok {t : Nat} {lo hi : Int} (h : z_fit t lo hi = true) : (z_lim t).1 ≤ lo ∧ hi ≤ (z_lim t).2 := ⟨z_ile_ok (z_and h).1, z_ile_ok (z_and h).2⟩
/-- a value that is a symbol and a number already -/
theorem z_R.same {t : Nat} {ρ : List Int} {ivs : zJ} {x : Nat} {c z : Int} (h : z_iv ivs ρ) (hv : z_v ρ x c z) : z_R t ρ ((t, x, c), ivs) z := ⟨rfl, ρ, List.prefix_refl _, h, hv⟩
theorem z_v.add {ρ : List Int} {x : Nat} {c z : Int} (h : z_v ρ x c z) (d : Int) : z_v ρ x (c + d) (z + d) := by
  obtain ⟨w, h1, h2⟩ := h
  exact ⟨w, h1, by omega⟩
/-- what relations say of a sum of two symbols -/
noncomputable def z_fr (rs : List zR) (y b : Nat) : Option Int := match rs with
  | [] => none
  | (0, p, q, _, k) :: rs => match Nat.beq p y && Nat.beq q b with
    | true => some k
    | false => z_fr rs y b
  | _ :: rs => z_fr rs y b
theorem z_fr_ok {ρ : List Int} {y b : Nat} {k : Int} : ∀ {rs : List zR}, (∀ r ∈ rs, z_rh ρ r) → z_fr rs y b = some k → ∃ u v, ρ[y]? = some u ∧ ρ[b]? = some v ∧ u ≤ v + k
  | [], _, h => by
    unfold z_fr at h
    cases h
  | (0, p, q, x, k1) :: rs, hr, h => by
    have h : (match Nat.beq p y && Nat.beq q b with
      | true => some k1
      | false => z_fr rs y b) = some k := h
    split at h
    · rename_i e
      have e1 := z_beq (z_and e).1
      have e2 := z_beq (z_and e).2
      cases h
      subst e1
      subst e2
      exact hr _ List.mem_cons_self
    · exact z_fr_ok (rs := rs) (fun r hm => hr r (List.mem_cons_of_mem _ hm)) h
  | (n + 1, p, q, x, k1) :: rs, hr, h => z_fr_ok (rs := rs) (fun r hm => hr r (List.mem_cons_of_mem _ hm)) h
noncomputable def z_ub (J : zJ) (rs : List zR) (x y : Nat) : Option Int := match rs with
  | [] => none
  | (1, s, a, b, k) :: rs => match Nat.beq a x, z_fr J.2 y b, z_b J s 0 with
    | true, some k2, some (_, hs) => some (hs - k + k2)
    | _, _, _ => z_ub J rs x y
  | (5, a, b, _, k) :: rs => match Nat.beq a x, z_fr J.2 y b with
    | true, some k2 => some (k + k2)
    | _, _ => z_ub J rs x y
  | _ :: rs => z_ub J rs x y
theorem z_ub_ok {J : zJ} {ρ : List Int} {x y : Nat} {m u v : Int} (hJ : z_iv J ρ) (hx : ρ[x]? = some u) (hy : ρ[y]? = some v) : ∀ {rs : List zR}, (∀ r ∈ rs, z_rh ρ r) → z_ub J rs x y = some m → u + v ≤ m
  | [], _, h => by
    unfold z_ub at h
    cases h
  | (0, _, _, _, _) :: rs, hr, h => z_ub_ok hJ hx hy (rs := rs) (fun r hm => hr r (List.mem_cons_of_mem _ hm)) h
  | (1, s, a, b, k) :: rs, hr, h => by
    have h : (match Nat.beq a x, z_fr J.2 y b, z_b J s 0 with
      | true, some k2, some (_, hs) => some (hs - k + k2)
      | _, _, _ => z_ub J rs x y) = some m := h
    split at h
    · rename_i k2 ls hs ea ek eb
      have hm := Option.some.inj h
      have ea := z_beq ea
      subst ea
      obtain ⟨us, ua, ub, g1, g2, g3, g4⟩ := hr _ List.mem_cons_self
      obtain ⟨u2, v2, g5, g6, g7⟩ := z_fr_ok hJ.2 ek
      have g8 := z_b_ok hJ (⟨us, g1, by omega⟩ : z_v ρ s 0 us) eb
      rw [hx] at g2
      cases g2
      rw [hy] at g5
      cases g5
      rw [g3] at g6
      cases g6
      omega
    · exact z_ub_ok hJ hx hy (rs := rs) (fun r hm => hr r (List.mem_cons_of_mem _ hm)) h
  | (2, _, _, _, _) :: rs, hr, h => z_ub_ok hJ hx hy (rs := rs) (fun r hm => hr r (List.mem_cons_of_mem _ hm)) h
  | (3, _, _, _, _) :: rs, hr, h => z_ub_ok hJ hx hy (rs := rs) (fun r hm => hr r (List.mem_cons_of_mem _ hm)) h
  | (4, _, _, _, _) :: rs, hr, h => z_ub_ok hJ hx hy (rs := rs) (fun r hm => hr r (List.mem_cons_of_mem _ hm)) h
  | (5, a, b, c0, k) :: rs, hr, h => by
    have h : (match Nat.beq a x, z_fr J.2 y b with
      | true, some k2 => some (k + k2)
      | _, _ => z_ub J rs x y) = some m := h
    split at h
    · rename_i k2 ea ek
      have hm := Option.some.inj h
      have ea := z_beq ea
      subst ea
      obtain ⟨ua, ub, g1, g2, g3⟩ := hr _ List.mem_cons_self
      obtain ⟨u2, v2, g5, g6, g7⟩ := z_fr_ok hJ.2 ek
      rw [hx] at g1
      cases g1
      rw [hy] at g5
      cases g5
      rw [g2] at g6
      cases g6
      omega
    · exact z_ub_ok hJ hx hy (rs := rs) (fun r hm => hr r (List.mem_cons_of_mem _ hm)) h
  | (n + 6, _, _, _, _) :: rs, hr, h => z_ub_ok hJ hx hy (rs := rs) (fun r hm => hr r (List.mem_cons_of_mem _ hm)) h
noncomputable def z_hi (J : zJ) (x y : Nat) (h cd : Int) : Int := match z_ub J J.2 x y with
  | some m => z_min h (m + cd)
  | none => match z_ub J J.2 y x with
    | some m => z_min h (m + cd)
    | none => h
theorem z_hi_ok {J : zJ} {ρ : List Int} {x y : Nat} {h cd u v : Int} (hJ : z_iv J ρ) (hx : ρ[x]? = some u) (hy : ρ[y]? = some v) (hh : u + v + cd ≤ h) : u + v + cd ≤ z_hi J x y h cd := by
  unfold z_hi
  split
  · rename_i m e
    have := z_ub_ok hJ hx hy hJ.2 e
    exact z_min_le hh (by omega)
  · split
    · rename_i m e
      have := z_ub_ok hJ hy hx hJ.2 e
      exact z_min_le hh (by omega)
    · exact hh
theorem z_at_len {ρ : List Int} (z : Int) : (ρ ++ [z])[ρ.length]? = some z := by
  rw [List.getElem?_append_right (Nat.le_refl _), Nat.sub_self]
  rfl
noncomputable def z_add (t : Nat) (ivs : zJ) (x : Nat) (c : Int) (y : Nat) (d : Int) : Option (zV × zJ) := match z_b ivs x c, z_b ivs y d with
  | some (l1, h1), some (l2, h2) => match z_fit t (l1 + l2) (h1 + h2) with
    | true => match Nat.beq y 0, Nat.beq x 0 with
      | true, _ => some ((t, x, c + d), ivs)
      | false, true => some ((t, y, d + c), ivs)
      | false, false => some (z_newr t (l1 + l2) (z_hi ivs x y (h1 + h2) (c + d)) (1, ivs.1.length, x, y, c + d) ivs)
    | false => some (z_top t ivs)
  | _, _ => none
theorem z_add_ok {t : Nat} {ivs : zJ} {ρ : List Int} {x y : Nat} {c d z1 z2 r : Int} {out : zV × zJ} (h : z_iv ivs ρ) (h0 : ρ[0]? = some 0) (hv1 : z_v ρ x c z1) (hv2 : z_v ρ y d z2) (hr : (z_lim t).1 ≤ z1 + z2 → z1 + z2 ≤ (z_lim t).2 → r = z1 + z2) (hl : (z_lim t).1 ≤ r ∧ r ≤ (z_lim t).2) (e : z_add t ivs x c y d = some out) : z_R t ρ out r := by
  unfold z_add at e
  split at e
  · rename_i l1 h1 l2 h2 e1 e2
    have b1 := z_b_ok h hv1 e1
    have b2 := z_b_ok h hv2 e2
    split at e
    · rename_i ef
      have f := z_fit_ok ef
      have er : r = z1 + z2 := hr (by omega) (by omega)
      split at e
      · rename_i ey
        have ey := z_beq ey
        subst ey
        cases e
        have := z_v.const h0 hv2
        subst this
        rw [er]
        exact z_R.same h (hv1.add _)
      · rename_i ex
        have ex := z_beq ex
        subst ex
        cases e
        have := z_v.const h0 hv1
        subst this
        rw [er, Int.add_comm z1 z2]
        exact z_R.same h (hv2.add _)
      · cases e
        obtain ⟨wx, p1, p2⟩ := hv1
        obtain ⟨wy, p3, p4⟩ := hv2
        have hh := z_hi_ok (cd := c + d) (h := h1 + h2) h p1 p3 (by omega)
        refine z_newr_ok h h0 (by omega) (by omega) ⟨r, wx, wy, ?_, z_pre (z_app_pre _ _) p1, z_pre (z_app_pre _ _) p3, by omega⟩
        rw [z_F.len h.1]
        exact z_at_len r
    · cases e
      exact z_top_ok h hl.1 hl.2
  · cases e
noncomputable def z_sub (t : Nat) (ivs : zJ) (x : Nat) (c : Int) (y : Nat) (d : Int) : Option (zV × zJ) := match z_b ivs x c, z_b ivs y d with
  | some (l1, h1), some (l2, h2) => match z_fit t (l1 - h2) (h1 - l2) with
    | true => match Nat.beq y 0 with
      | true => some ((t, x, c + (0 - d)), ivs)
      | false => some (z_newr t (l1 - h2) (h1 - l2) (2, ivs.1.length, x, y, c - d) ivs)
    | false => some (z_top t ivs)
  | _, _ => none
theorem z_sub_ok {t : Nat} {ivs : zJ} {ρ : List Int} {x y : Nat} {c d z1 z2 r : Int} {out : zV × zJ} (h : z_iv ivs ρ) (h0 : ρ[0]? = some 0) (hv1 : z_v ρ x c z1) (hv2 : z_v ρ y d z2) (hr : (z_lim t).1 ≤ z1 - z2 → z1 - z2 ≤ (z_lim t).2 → r = z1 - z2) (hl : (z_lim t).1 ≤ r ∧ r ≤ (z_lim t).2) (e : z_sub t ivs x c y d = some out) : z_R t ρ out r := by
  unfold z_sub at e
  split at e
  · rename_i l1 h1 l2 h2 e1 e2
    have b1 := z_b_ok h hv1 e1
    have b2 := z_b_ok h hv2 e2
    split at e
    · rename_i ef
      have f := z_fit_ok ef
      have er : r = z1 - z2 := hr (by omega) (by omega)
      split at e
      · rename_i ey
        have ey := z_beq ey
        subst ey
        cases e
        have := z_v.const h0 hv2
        subst this
        rw [er, show z1 - z2 = z1 + (0 - z2) by omega]
        exact z_R.same h (hv1.add _)
      · cases e
        obtain ⟨wx, p1, p2⟩ := hv1
        obtain ⟨wy, p3, p4⟩ := hv2
        refine z_newr_ok h h0 (by omega) (by omega) ⟨r, wx, wy, ?_, z_pre (z_app_pre _ _) p1, z_pre (z_app_pre _ _) p3, by omega⟩
        rw [z_F.len h.1]
        exact z_at_len r
    · cases e
      exact z_top_ok h hl.1 hl.2
  · cases e
theorem z_mul1 {l h z w : Int} (h1 : l ≤ z) (h2 : z ≤ h) : (l * w ≤ z * w ∨ h * w ≤ z * w) ∧ (z * w ≤ l * w ∨ z * w ≤ h * w) := by
  by_cases hw : 0 ≤ w
  · exact ⟨Or.inl (Int.mul_le_mul_of_nonneg_right h1 hw), Or.inr (Int.mul_le_mul_of_nonneg_right h2 hw)⟩
  · have hw : w ≤ 0 := by omega
    exact ⟨Or.inr (Int.mul_le_mul_of_nonpos_right h2 hw), Or.inl (Int.mul_le_mul_of_nonpos_right h1 hw)⟩
theorem z_mul2 {l1 h1 l2 h2 z1 z2 : Int} (a1 : l1 ≤ z1) (a2 : z1 ≤ h1) (b1 : l2 ≤ z2) (b2 : z2 ≤ h2) :
    z_min (z_min (l1 * l2) (l1 * h2)) (z_min (h1 * l2) (h1 * h2)) ≤ z1 * z2 ∧ z1 * z2 ≤ z_max (z_max (l1 * l2) (l1 * h2)) (z_max (h1 * l2) (h1 * h2)) := by
  have p1 := z_mul1 (w := z2) a1 a2
  have q1 := z_mul1 (w := l1) b1 b2
  have q2 := z_mul1 (w := h1) b1 b2
  rw [Int.mul_comm l2 l1, Int.mul_comm z2 l1, Int.mul_comm h2 l1] at q1
  rw [Int.mul_comm l2 h1, Int.mul_comm z2 h1, Int.mul_comm h2 h1] at q2
  have m1 := z_min_l (z_min (l1 * l2) (l1 * h2)) (z_min (h1 * l2) (h1 * h2))
  have m2 := z_min_r (z_min (l1 * l2) (l1 * h2)) (z_min (h1 * l2) (h1 * h2))
  have m3 := z_min_l (l1 * l2) (l1 * h2)
  have m4 := z_min_r (l1 * l2) (l1 * h2)
  have m5 := z_min_l (h1 * l2) (h1 * h2)
  have m6 := z_min_r (h1 * l2) (h1 * h2)
  have n1 := z_max_l (z_max (l1 * l2) (l1 * h2)) (z_max (h1 * l2) (h1 * h2))
  have n2 := z_max_r (z_max (l1 * l2) (l1 * h2)) (z_max (h1 * l2) (h1 * h2))
  have n3 := z_max_l (l1 * l2) (l1 * h2)
  have n4 := z_max_r (l1 * l2) (l1 * h2)
  have n5 := z_max_l (h1 * l2) (h1 * h2)
  have n6 := z_max_r (h1 * l2) (h1 * h2)
  refine ⟨?_, ?_⟩
  · rcases p1.1 with a | a
    · rcases q1.1 with b | b <;> omega
    · rcases q2.1 with b | b <;> omega
  · rcases p1.2 with a | a
    · rcases q1.2 with b | b <;> omega
    · rcases q2.2 with b | b <;> omega
noncomputable def z_num3 (t : Nat) (lo hi : Int) (m : Nat) (ivs : zJ) : zV × zJ := match Nat.ble 2 m with
  | true => z_newr t lo hi (3, ivs.1.length, m, 0, 0) ivs
  | false => z_new t lo hi ivs
noncomputable def z_mul (t : Nat) (ivs : zJ) (x : Nat) (c : Int) (y : Nat) (d : Int) : Option (zV × zJ) := match z_b ivs x c, z_b ivs y d with
  | some (l1, h1), some (l2, h2) => match z_fit t (z_min (z_min (l1 * l2) (l1 * h2)) (z_min (h1 * l2) (h1 * h2))) (z_max (z_max (l1 * l2) (l1 * h2)) (z_max (h1 * l2) (h1 * h2))) with
    | true => match Nat.beq y 0 && z_ieq d 1, Nat.beq x 0 && z_ieq c 1 with
      | true, _ => some ((t, x, c), ivs)
      | false, true => some ((t, y, d), ivs)
      | false, false => some (z_num3 t (z_min (z_min (l1 * l2) (l1 * h2)) (z_min (h1 * l2) (h1 * h2))) (z_max (z_max (l1 * l2) (l1 * h2)) (z_max (h1 * l2) (h1 * h2))) (match Nat.beq y 0, Nat.beq x 0 with
        | true, _ => d.toNat
        | false, true => c.toNat
        | false, false => 0) ivs)
    | false => some (z_top t ivs)
  | _, _ => none
theorem z_num3_ok {t : Nat} {lo hi z : Int} {m : Nat} {ivs : zJ} {ρ : List Int} (h : z_iv ivs ρ) (h0 : ρ[0]? = some 0) (h1 : lo ≤ z) (h2 : z ≤ hi) (hm : 2 ≤ m → z % Int.ofNat m = 0) : z_R t ρ (z_num3 t lo hi m ivs) z := by
  unfold z_num3
  split
  · rename_i e
    have e := Nat.le_of_ble_eq_true e
    refine z_newr_ok h h0 h1 h2 ⟨z, ?_, hm e⟩
    rw [z_F.len h.1]
    exact z_at_len z
  · exact z_new_ok h h0 h1 h2
theorem z_mul_ok {t : Nat} {ivs : zJ} {ρ : List Int} {x y : Nat} {c d z1 z2 r : Int} {out : zV × zJ} (h : z_iv ivs ρ) (h0 : ρ[0]? = some 0) (hv1 : z_v ρ x c z1) (hv2 : z_v ρ y d z2) (hr : (z_lim t).1 ≤ z1 * z2 → z1 * z2 ≤ (z_lim t).2 → r = z1 * z2) (hl : (z_lim t).1 ≤ r ∧ r ≤ (z_lim t).2) (e : z_mul t ivs x c y d = some out) : z_R t ρ out r := by
  unfold z_mul at e
  split at e
  · rename_i l1 h1 l2 h2 e1 e2
    have b1 := z_b_ok h hv1 e1
    have b2 := z_b_ok h hv2 e2
    have m := z_mul2 b1.1 b1.2 b2.1 b2.2
    split at e
    · rename_i ef
      have f := z_fit_ok ef
      have er : r = z1 * z2 := hr (by omega) (by omega)
      split at e
      · rename_i et
        have ey := z_beq (z_and et).1
        have ed := z_ieq_ok (z_and et).2
        subst ey
        subst ed
        cases e
        have := z_v.const h0 hv2
        subst this
        rw [er, Int.mul_one]
        exact z_R.same h hv1
      · rename_i et
        have ey := z_beq (z_and et).1
        have ed := z_ieq_ok (z_and et).2
        subst ey
        subst ed
        cases e
        have := z_v.const h0 hv1
        subst this
        rw [er, Int.one_mul]
        exact z_R.same h hv2
      · cases e
        rw [er]
        refine z_num3_ok h h0 m.1 m.2 (fun hm => ?_)
        split at hm
        · rename_i ey
          have ey := z_beq ey
          subst ey
          have := z_v.const h0 hv2
          subst this
          have ec : Int.ofNat z2.toNat = z2 := by
            show ((z2.toNat : Nat) : Int) = z2
            omega
          rw [ec]
          exact Int.mul_emod_left z1 z2
        · rename_i ex
          have ex := z_beq ex
          subst ex
          have := z_v.const h0 hv1
          subst this
          have ec : Int.ofNat z1.toNat = z1 := by
            show ((z1.toNat : Nat) : Int) = z1
            omega
          rw [ec]
          exact Int.mul_emod_right z1 z2
        · omega
    · cases e
      exact z_top_ok h hl.1 hl.2
  · cases e
/-! what a branch tells -/
noncomputable def z_cut0 (I : List zI) (x : Nat) (lo hi : Int) : Option (List zI) := match z_nx I x with
  | some (l, h) => match z_ile l h with
    | true => match z_ile (z_max l lo) (z_min h hi) with
      | true => some (z_stx I (z_max l lo, z_min h hi) x)
      | false => none
    | false => some I
  | none => none
theorem z_set_same {ρ : List Int} {x : Nat} {w : Int} (hw : ρ[x]? = some w) : ρ.set x w = ρ := by
  apply List.ext_getElem?
  intro i
  by_cases hi : x = i
  · subst hi
    rw [List.getElem?_set_self (List.getElem?_eq_some_iff.mp hw).1, hw]
  · rw [List.getElem?_set_ne hi]
theorem z_cut0_ok {I : List zI} {ρ : List Int} {x : Nat} {lo hi w : Int} (h : z_F z_in I ρ) (hw : ρ[x]? = some w) (h1 : lo ≤ w) (h2 : w ≤ hi) : ∃ i, z_cut0 I x lo hi = some i ∧ z_F z_in i ρ := by
  obtain ⟨⟨l, u⟩, h3, h4⟩ := z_F.get' h hw
  unfold z_in at h4
  dsimp only at h4
  unfold z_cut0
  rw [z_nx_eq, h3]
  dsimp only
  split
  · rename_i e0
    have e0 := z_ile_ok e0
    have h4 : l ≤ w ∧ w ≤ u := by omega
    have a1 : z_max l lo ≤ w := z_max_ge h4.1 h1
    have a2 : w ≤ z_min u hi := z_min_le h4.2 h2
    split
    · refine ⟨_, rfl, ?_⟩
      rw [z_stx_eq]
      have k := z_F.set (R := z_in) (a := (z_max l lo, z_min u hi)) (b := w) (Or.inr ⟨a1, a2⟩) h x
      rw [z_set_same hw] at k
      exact k
    · rename_i e
      have := z_ile_no e
      omega
  · exact ⟨I, rfl, h⟩
/-- what a symbol's new bounds say of others -/
noncomputable def z_prop1 (I : List zI) (x : Nat) (r : zR) : Option (List zI) := match r with
  | (0, a, b, _, k) => match Nat.beq a x, Nat.beq b x, z_b0 I a 0, z_b0 I b 0 with
    | true, _, some (la, _), some (_, hb) => z_cut0 I b (la - k) hb
    | false, true, some (la, _), some (_, hb) => z_cut0 I a la (hb + k)
    | _, _, _, _ => some I
  | (1, a, b, c, k) => match Nat.beq a x, z_b0 I a 0, z_b0 I b 0, z_b0 I c 0 with
    | true, some (la, ha), some (lb, hb), some (lc, hc) => match z_cut0 I b (la - hc - k) (ha - lc - k) with
      | some i => z_cut0 i c (la - hb - k) (ha - lb - k)
      | none => none
    | _, _, _, _ => some I
  | (2, a, b, c, k) => match Nat.beq a x, z_b0 I a 0, z_b0 I b 0, z_b0 I c 0 with
    | true, some (la, ha), some (lb, hb), some (lc, hc) => match z_cut0 I b (la + lc - k) (ha + hc - k) with
      | some i => z_cut0 i c (lb - ha + k) (hb - la + k)
      | none => none
    | _, _, _, _ => some I
  | (3, a, m, r, _) => match Nat.beq a x, z_b0 I a 0 with
    | true, some (la, ha) => z_cut0 I a la (ha - (ha - Int.ofNat r) % Int.ofNat m)
    | _, _ => some I
  | (4, l, w, m, k) => match Nat.beq l x || (Nat.beq w x || Nat.beq m x), z_b0 I l 0, z_b0 I w 0, z_b0 I m 0 with
    | true, some (ll, _), some (lw, _), some (_, hm) => match z_ile 1 (ll + k) with
      | true => match z_cut0 I w lw (hm - 1) with
        | some i => z_cut0 i m (lw + 1) hm
        | none => none
      | false => some I
    | _, _, _, _ => some I
  | (5, a, b, _, k) => match Nat.beq a x, Nat.beq b x, z_b0 I a 0, z_b0 I b 0 with
    | true, _, some (la, _), some (lb, _) => z_cut0 I b lb (k - la)
    | false, true, some (la, _), some (lb, _) => z_cut0 I a la (k - lb)
    | _, _, _, _ => some I
  | _ => some I
theorem z_mod_le {h u : Int} {m r : Nat} (h1 : u ≤ h) (h2 : u % Int.ofNat m = Int.ofNat r) : u ≤ h - (h - Int.ofNat r) % Int.ofNat m := by
  have e : (h - Int.ofNat r) % Int.ofNat m = (h - u) % Int.ofNat m := by
    rw [← h2, Int.sub_emod h (u % Int.ofNat m), Int.emod_emod, ← Int.sub_emod]
  have e2 : (h - u) % Int.ofNat m ≤ h - u := by
    rw [Int.emod_def]
    have h3 : 0 ≤ Int.ofNat m * ((h - u) / Int.ofNat m) := Int.mul_nonneg (Int.natCast_nonneg m) (Int.ediv_nonneg (by omega) (Int.natCast_nonneg m))
    omega
  rw [e]
  omega
theorem z_prop1_ok {I : List zI} {ρ : List Int} {x : Nat} {r : zR} (h : z_F z_in I ρ) (hr : z_rh ρ r) : ∃ i, z_prop1 I x r = some i ∧ z_F z_in i ρ := by
  unfold z_prop1
  split
  · rename_i a b c k
    obtain ⟨u, v, g1, g2, g4⟩ := hr
    split
    · rename_i la ha lb hb ea eb e1 e2
      have ba := z_b0_ok h (⟨u, g1, by omega⟩ : z_v ρ a 0 u) e1
      have bb := z_b0_ok h (⟨v, g2, by omega⟩ : z_v ρ b 0 v) e2
      exact z_cut0_ok h g2 (by omega) (by omega)
    · rename_i la ha lb hb ea eb e1 e2
      have ba := z_b0_ok h (⟨u, g1, by omega⟩ : z_v ρ a 0 u) e1
      have bb := z_b0_ok h (⟨v, g2, by omega⟩ : z_v ρ b 0 v) e2
      exact z_cut0_ok h g1 (by omega) (by omega)
    · exact ⟨I, rfl, h⟩
  · rename_i a b c k
    obtain ⟨u, v, w, g1, g2, g3, g4⟩ := hr
    split
    · rename_i la ha lb hb lc hc e0 ea eb ec
      have ba := z_b0_ok h (⟨u, g1, by omega⟩ : z_v ρ a 0 u) ea
      have bb := z_b0_ok h (⟨v, g2, by omega⟩ : z_v ρ b 0 v) eb
      have bc := z_b0_ok h (⟨w, g3, by omega⟩ : z_v ρ c 0 w) ec
      obtain ⟨i, k1, k2⟩ := z_cut0_ok (lo := la - hc - k) (hi := ha - lc - k) h g2 (by omega) (by omega)
      obtain ⟨i2, k3, k4⟩ := z_cut0_ok (lo := la - hb - k) (hi := ha - lb - k) k2 g3 (by omega) (by omega)
      rw [k1]
      exact ⟨i2, k3, k4⟩
    · exact ⟨I, rfl, h⟩
  · rename_i a b c k
    obtain ⟨u, v, w, g1, g2, g3, g4⟩ := hr
    split
    · rename_i la ha lb hb lc hc e0 ea eb ec
      have ba := z_b0_ok h (⟨u, g1, by omega⟩ : z_v ρ a 0 u) ea
      have bb := z_b0_ok h (⟨v, g2, by omega⟩ : z_v ρ b 0 v) eb
      have bc := z_b0_ok h (⟨w, g3, by omega⟩ : z_v ρ c 0 w) ec
      obtain ⟨i, k1, k2⟩ := z_cut0_ok (lo := la + lc - k) (hi := ha + hc - k) h g2 (by omega) (by omega)
      obtain ⟨i2, k3, k4⟩ := z_cut0_ok (lo := lb - ha + k) (hi := hb - la + k) k2 g3 (by omega) (by omega)
      rw [k1]
      exact ⟨i2, k3, k4⟩
    · exact ⟨I, rfl, h⟩
  · rename_i a m r k
    obtain ⟨u, g1, g2⟩ := hr
    split
    · rename_i la ha e0 ea
      have ba := z_b0_ok h (⟨u, g1, by omega⟩ : z_v ρ a 0 u) ea
      exact z_cut0_ok h g1 (by omega) (z_mod_le (by omega) g2)
    · exact ⟨I, rfl, h⟩
  · rename_i l w m k
    obtain ⟨u, v, t, g1, g2, g3, g4⟩ := hr
    split
    · rename_i ll hl lw hw lm hm e0 el ew em
      have bl := z_b0_ok h (⟨u, g1, by omega⟩ : z_v ρ l 0 u) el
      have bw := z_b0_ok h (⟨v, g2, by omega⟩ : z_v ρ w 0 v) ew
      have bm := z_b0_ok h (⟨t, g3, by omega⟩ : z_v ρ m 0 t) em
      split
      · rename_i e1
        have e1 := z_ile_ok e1
        have g5 := g4 (by omega)
        obtain ⟨i, k1, k2⟩ := z_cut0_ok (lo := lw) (hi := hm - 1) h g2 (by omega) (by omega)
        obtain ⟨i2, k3, k4⟩ := z_cut0_ok (lo := lw + 1) (hi := hm) k2 g3 (by omega) (by omega)
        rw [k1]
        exact ⟨i2, k3, k4⟩
      · exact ⟨I, rfl, h⟩
    · exact ⟨I, rfl, h⟩
  · rename_i a b c k
    obtain ⟨u, v, g1, g2, g4⟩ := hr
    split
    · rename_i la ha lb hb ea eb e1 e2
      have ba := z_b0_ok h (⟨u, g1, by omega⟩ : z_v ρ a 0 u) e1
      have bb := z_b0_ok h (⟨v, g2, by omega⟩ : z_v ρ b 0 v) e2
      exact z_cut0_ok h g2 (by omega) (by omega)
    · rename_i la ha lb hb ea eb e1 e2
      have ba := z_b0_ok h (⟨u, g1, by omega⟩ : z_v ρ a 0 u) e1
      have bb := z_b0_ok h (⟨v, g2, by omega⟩ : z_v ρ b 0 v) e2
      exact z_cut0_ok h g1 (by omega) (by omega)
    · exact ⟨I, rfl, h⟩
  · exact ⟨I, rfl, h⟩
noncomputable def z_props (x : Nat) : List zR → List zI → Option (List zI)
  | [], I => some I
  | r :: rs, I => match z_prop1 I x r with
    | some i => z_props x rs i
    | none => none
theorem z_props_ok {ρ : List Int} {x : Nat} : ∀ {rs : List zR} {I : List zI}, z_F z_in I ρ → (∀ r ∈ rs, z_rh ρ r) → ∃ i, z_props x rs I = some i ∧ z_F z_in i ρ
  | [], I, h, _ => ⟨I, rfl, h⟩
  | r :: rs, I, h, hr => by
    obtain ⟨i, k1, k2⟩ := z_prop1_ok (x := x) h (hr r List.mem_cons_self)
    obtain ⟨i2, k3, k4⟩ := z_props_ok (x := x) k2 (fun q hq => hr q (List.mem_cons_of_mem _ hq))
    refine ⟨i2, ?_, k4⟩
    unfold z_props
    rw [k1]
    exact k3
noncomputable def z_cut (J : zJ) (x : Nat) (lo hi : Int) : Option zJ := match z_cut0 J.1 x lo hi with
  | some i => match z_props x J.2 i with
    | some i2 => some (i2, J.2)
    | none => none
  | none => none
theorem z_cut_ok {J : zJ} {ρ : List Int} {x : Nat} {lo hi w : Int} (h : z_iv J ρ) (hw : ρ[x]? = some w) (h1 : lo ≤ w) (h2 : w ≤ hi) : ∃ i, z_cut J x lo hi = some i ∧ z_iv i ρ := by
  obtain ⟨i, k1, k2⟩ := z_cut0_ok h.1 hw h1 h2
  obtain ⟨i2, k3, k4⟩ := z_props_ok (x := x) k2 h.2
  unfold z_cut
  rw [k1]
  dsimp only
  rw [k3]
  exact ⟨_, rfl, k4, h.2⟩
/-- a relation that is there: x <= y + k -/
noncomputable def z_ir (rs : List zR) (x y : Nat) (k : Int) : Bool := rs.any (fun r => match r with
  | (0, p, q, _, k') => Nat.beq p x && (Nat.beq q y && z_ile k' k)
  | _ => false)
theorem z_ir_ok {ρ : List Int} {rs : List zR} {x y : Nat} {k : Int} (hr : ∀ r ∈ rs, z_rh ρ r) (h : z_ir rs x y k = true) : ∃ u v, ρ[x]? = some u ∧ ρ[y]? = some v ∧ u ≤ v + k := by
  obtain ⟨r, h1, h2⟩ := List.any_eq_true.mp h
  have h3 := hr r h1
  split at h2
  · rename_i p q c0 k'
    have e1 := z_beq (z_and h2).1
    have e2 := z_beq (z_and (z_and h2).2).1
    have e3 := z_ile_ok (z_and (z_and h2).2).2
    subst e1
    subst e2
    obtain ⟨u, v, g1, g2, g3⟩ := h3
    exact ⟨u, v, g1, g2, by omega⟩
  · cases h2
/-- w_x + c ≤ w_y + d + k -/
noncomputable def z_sle (ivs : zJ) (x : Nat) (c : Int) (y : Nat) (d k : Int) : List zJ := match Nat.beq x y with
  | true => match z_ile c (d + k) with
    | true => [ivs]
    | false => []
  | false => match z_b ivs x 0, z_b ivs y 0 with
    | some (lx, _), some (_, hy) => match z_cut ivs x lx (hy + d + k - c) with
      | none => []
      | some i1 => match z_cut i1 y (lx + c - d - k) hy with
        | none => []
        | some i2 => match Nat.beq x 0 || Nat.beq y 0 with
          | true => [i2]
          | false => match z_ir i2.2 y x (c - d - k - 1) with
            | true => []
            | false => [(i2.1, (0, x, y, 0, d + k - c) :: i2.2)]
    | _, _ => [ivs]
theorem z_sle_ok {ivs : zJ} {ρ : List Int} {x y : Nat} {c d k X Y : Int} (h : z_iv ivs ρ) (hx : z_v ρ x c X) (hy : z_v ρ y d Y) (hle : X ≤ Y + k) : ∃ i ∈ z_sle ivs x c y d k, z_iv i ρ := by
  obtain ⟨wx, h1, h2⟩ := hx
  obtain ⟨wy, h3, h4⟩ := hy
  unfold z_sle
  split
  · rename_i e
    have e := z_beq e
    subst e
    rw [h1] at h3
    cases h3
    split
    · exact ⟨ivs, List.mem_singleton.mpr rfl, h⟩
    · rename_i e
      have := z_ile_no e
      omega
  · split
    · rename_i lx hx ly hy e1 e2
      have g2 := z_b_ok h (⟨wx, h1, by omega⟩ : z_v ρ x 0 wx) e1
      have g4 := z_b_ok h (⟨wy, h3, by omega⟩ : z_v ρ y 0 wy) e2
      obtain ⟨i1, k1, k2⟩ := z_cut_ok (lo := lx) (hi := hy + d + k - c) h h1 (by omega) (by omega)
      obtain ⟨i2, k3, k4⟩ := z_cut_ok (lo := lx + c - d - k) (hi := hy) k2 h3 (by omega) (by omega)
      rw [k1]
      dsimp only
      rw [k3]
      dsimp only
      split
      · exact ⟨i2, List.mem_singleton.mpr rfl, k4⟩
      · split
        · rename_i ei
          obtain ⟨u, v, q1, q2, q3⟩ := z_ir_ok k4.2 ei
          rw [h3] at q1
          cases q1
          rw [h1] at q2
          cases q2
          omega
        · exact ⟨_, List.mem_singleton.mpr rfl, k4.rel ⟨wx, wy, h1, h3, by omega⟩⟩
    · exact ⟨ivs, List.mem_singleton.mpr rfl, h⟩
/-- x + c <= y + d + k, by bounds or by a relation -/
noncomputable def z_imp (J : zJ) (x : Nat) (c : Int) (y : Nat) (d k : Int) : Bool := match Nat.beq x y with
  | true => z_ile c (d + k)
  | false => (match z_b J x c, z_b J y d with
    | some (_, h), some (l, _) => z_ile h (l + k)
    | _, _ => false) || z_ir J.2 x y (d + k - c)
theorem z_imp_ok {J : zJ} {ρ : List Int} {x y : Nat} {c d k X Y : Int} (hJ : z_iv J ρ) (hx : z_v ρ x c X) (hy : z_v ρ y d Y) (h : z_imp J x c y d k = true) : X ≤ Y + k := by
  unfold z_imp at h
  split at h
  · rename_i e
    have e := z_beq e
    subst e
    have h := z_ile_ok h
    obtain ⟨w, h1, h2⟩ := hx
    obtain ⟨w', h3, h4⟩ := hy
    rw [h1] at h3
    cases h3
    omega
  · rcases Bool.or_eq_true_iff.mp h with q | q
    · split at q
      · rename_i l1 u1 l2 u2 e1 e2
        have q := z_ile_ok q
        have b1 := z_b_ok hJ hx e1
        have b2 := z_b_ok hJ hy e2
        omega
      · cases q
    · obtain ⟨u, v, g1, g2, g3⟩ := z_ir_ok hJ.2 q
      obtain ⟨w, h1, h2⟩ := hx
      obtain ⟨w', h3, h4⟩ := hy
      rw [h1] at g1
      cases g1
      rw [h3] at g2
      cases g2
      omega
/-- a sum's bound: x + y <= k -/
noncomputable def z_or5 (rs : List zR) (x y : Nat) (k : Int) : Bool := rs.any (fun r => match r with
  | (5, p, q, _, k') => (Nat.beq p x && Nat.beq q y || Nat.beq p y && Nat.beq q x) && z_ile k' k
  | _ => false)
noncomputable def z_or6 (rs : List zR) (x y : Nat) (k : Int) : Bool := rs.any (fun r => match r with
  | (6, p, q, _, k') => (Nat.beq p x && Nat.beq q y || Nat.beq p y && Nat.beq q x) && z_ile k k'
  | _ => false)
/-- the upper bound of a sum of two symbols, by sums that are known -/
noncomputable def z_su (J : zJ) (x y : Nat) : List zR → Int → Int
  | [], h => h
  | (1, s, a, b, k) :: rs, h => match Nat.beq a x && Nat.beq b y || Nat.beq a y && Nat.beq b x, z_b J s 0 with
    | true, some (_, hs) => z_su J x y rs (z_min h (hs - k))
    | _, _ => z_su J x y rs h
  | _ :: rs, h => z_su J x y rs h
theorem z_swap {p q x y : Nat} (h : (Nat.beq p x && Nat.beq q y || Nat.beq p y && Nat.beq q x) = true) : (p = x ∧ q = y) ∨ (p = y ∧ q = x) := by
  rcases Bool.or_eq_true_iff.mp h with h | h
  · exact Or.inl ⟨z_beq (z_and h).1, z_beq (z_and h).2⟩
  · exact Or.inr ⟨z_beq (z_and h).1, z_beq (z_and h).2⟩
theorem z_su_ok {J : zJ} {ρ : List Int} {x y : Nat} {u v : Int} (hJ : z_iv J ρ) (hx : ρ[x]? = some u) (hy : ρ[y]? = some v) : ∀ {rs : List zR} {h : Int}, (∀ r ∈ rs, z_rh ρ r) → u + v ≤ h → u + v ≤ z_su J x y rs h
  | [], h, _, hh => hh
  | (1, s, a, b, k) :: rs, h, hr, hh => by
    have ih := fun (h' : Int) => z_su_ok (h := h') hJ hx hy (rs := rs) (fun r hm => hr r (List.mem_cons_of_mem _ hm))
    show u + v ≤ (match Nat.beq a x && Nat.beq b y || Nat.beq a y && Nat.beq b x, z_b J s 0 with
      | true, some (_, hs) => z_su J x y rs (z_min h (hs - k))
      | _, _ => z_su J x y rs h)
    split
    · rename_i ls hs e1 e2
      obtain ⟨us, ua, ub, g1, g2, g3, g4⟩ := hr _ List.mem_cons_self
      have g8 := z_b_ok hJ (⟨us, g1, by omega⟩ : z_v ρ s 0 us) e2
      refine ih _ (z_min_le hh ?_)
      rcases z_swap e1 with ⟨rfl, rfl⟩ | ⟨rfl, rfl⟩
      · rw [hx] at g2
        cases g2
        rw [hy] at g3
        cases g3
        omega
      · rw [hy] at g2
        cases g2
        rw [hx] at g3
        cases g3
        omega
    · exact ih _ hh
  | (0, _, _, _, _) :: rs, h, hr, hh => z_su_ok hJ hx hy (rs := rs) (fun r hm => hr r (List.mem_cons_of_mem _ hm)) hh
  | (n + 2, _, _, _, _) :: rs, h, hr, hh => z_su_ok hJ hx hy (rs := rs) (fun r hm => hr r (List.mem_cons_of_mem _ hm)) hh
noncomputable def z_o5 (J : zJ) (x y : Nat) (k : Int) : Bool := (match z_b J x 0, z_b J y 0 with
  | some (_, h1), some (_, h2) => z_ile (z_su J x y J.2 (h1 + h2)) k
  | _, _ => false) || z_or5 J.2 x y k
noncomputable def z_o6 (J : zJ) (x y : Nat) (k : Int) : Bool := (match z_b J x 0, z_b J y 0 with
  | some (l1, _), some (l2, _) => z_ile k (l1 + l2)
  | _, _ => false) || z_or6 J.2 x y k
theorem z_o5_ok {J : zJ} {ρ : List Int} {x y : Nat} {k u v : Int} (hJ : z_iv J ρ) (hx : ρ[x]? = some u) (hy : ρ[y]? = some v) (h : z_o5 J x y k = true) : u + v ≤ k := by
  rcases Bool.or_eq_true_iff.mp h with q | q
  · split at q
    · rename_i l1 u1 l2 u2 e1 e2
      have q := z_ile_ok q
      have b1 := z_b_ok hJ (⟨u, hx, by omega⟩ : z_v ρ x 0 u) e1
      have b2 := z_b_ok hJ (⟨v, hy, by omega⟩ : z_v ρ y 0 v) e2
      have := z_su_ok (h := u1 + u2) hJ hx hy hJ.2 (by omega)
      omega
    · cases q
  · obtain ⟨r, h1, h2⟩ := List.any_eq_true.mp q
    have h3 := hJ.2 r h1
    split at h2
    · rename_i p q c0 k'
      have e3 := z_ile_ok (z_and h2).2
      obtain ⟨a, b, g1, g2, g3⟩ := h3
      rcases z_swap (z_and h2).1 with ⟨rfl, rfl⟩ | ⟨rfl, rfl⟩
      · rw [hx] at g1
        cases g1
        rw [hy] at g2
        cases g2
        omega
      · rw [hy] at g1
        cases g1
        rw [hx] at g2
        cases g2
        omega
    · cases h2
theorem z_o6_ok {J : zJ} {ρ : List Int} {x y : Nat} {k u v : Int} (hJ : z_iv J ρ) (hx : ρ[x]? = some u) (hy : ρ[y]? = some v) (h : z_o6 J x y k = true) : k ≤ u + v := by
  rcases Bool.or_eq_true_iff.mp h with q | q
  · split at q
    · rename_i l1 u1 l2 u2 e1 e2
      have q := z_ile_ok q
      have b1 := z_b_ok hJ (⟨u, hx, by omega⟩ : z_v ρ x 0 u) e1
      have b2 := z_b_ok hJ (⟨v, hy, by omega⟩ : z_v ρ y 0 v) e2
      omega
    · cases q
  · obtain ⟨r, h1, h2⟩ := List.any_eq_true.mp q
    have h3 := hJ.2 r h1
    split at h2
    · rename_i p q c0 k'
      have e3 := z_ile_ok (z_and h2).2
      obtain ⟨a, b, g1, g2, g3⟩ := h3
      rcases z_swap (z_and h2).1 with ⟨rfl, rfl⟩ | ⟨rfl, rfl⟩
      · rw [hx] at g1
        cases g1
        rw [hy] at g2
        cases g2
        omega
      · rw [hy] at g1
        cases g1
        rw [hx] at g2
        cases g2
        omega
    · cases h2
/-- the rest of a symbol and what is added, by a number, where it is known -/
noncomputable def z_cgr (x : Nat) (c : Int) (m : Nat) : List zR → Option Int
  | [] => none
  | (3, a, M, r, _) :: rs => match Nat.beq a x && Nat.beq M m with
    | true => some ((Int.ofNat r + c) % Int.ofNat m)
    | false => z_cgr x c m rs
  | _ :: rs => z_cgr x c m rs
noncomputable def z_cg (J : zJ) (x : Nat) (c : Int) (m : Nat) : Option Int := match Nat.beq x 0 with
  | true => some (c % Int.ofNat m)
  | false => z_cgr x c m J.2
theorem z_cgr_ok {ρ : List Int} {x m : Nat} {c r u : Int} (hx : ρ[x]? = some u) : ∀ {rs : List zR}, (∀ r ∈ rs, z_rh ρ r) → z_cgr x c m rs = some r → (u + c) % Int.ofNat m = r
  | [], _, h => by cases h
  | (3, a, M, r0, k0) :: rs, hr, h => by
    have h : (match Nat.beq a x && Nat.beq M m with
      | true => some ((Int.ofNat r0 + c) % Int.ofNat m)
      | false => z_cgr x c m rs) = some r := h
    split at h
    · rename_i e
      have e1 := z_beq (z_and e).1
      have e2 := z_beq (z_and e).2
      cases h
      subst e1
      subst e2
      obtain ⟨w, g1, g2⟩ := hr _ List.mem_cons_self
      rw [hx] at g1
      cases g1
      rw [← g2, Int.emod_add_emod]
    · exact z_cgr_ok hx (rs := rs) (fun r hm => hr r (List.mem_cons_of_mem _ hm)) h
  | (0, _, _, _, _) :: rs, hr, h => z_cgr_ok hx (rs := rs) (fun r hm => hr r (List.mem_cons_of_mem _ hm)) h
  | (1, _, _, _, _) :: rs, hr, h => z_cgr_ok hx (rs := rs) (fun r hm => hr r (List.mem_cons_of_mem _ hm)) h
  | (2, _, _, _, _) :: rs, hr, h => z_cgr_ok hx (rs := rs) (fun r hm => hr r (List.mem_cons_of_mem _ hm)) h
  | (n + 4, _, _, _, _) :: rs, hr, h => z_cgr_ok hx (rs := rs) (fun r hm => hr r (List.mem_cons_of_mem _ hm)) h
theorem z_cg_ok {J : zJ} {ρ : List Int} {x m : Nat} {c r X : Int} (hJ : z_iv J ρ) (h0 : ρ[0]? = some 0) (hx : z_v ρ x c X) (h : z_cg J x c m = some r) : X % Int.ofNat m = r := by
  unfold z_cg at h
  split at h
  · rename_i e
    have e := z_beq e
    subst e
    have := z_v.const h0 hx
    subst this
    exact Option.some.inj h
  · obtain ⟨w, h1, h2⟩ := hx
    rw [h2]
    exact z_cgr_ok h1 hJ.2 h
noncomputable def z_hd (cd : Jvm.ClassFile.Cond) (X Y : Int) : Prop := match cd with
  | .eq => X = Y
  | .ne => X ≠ Y
  | .lt => X < Y
  | .ge => Y ≤ X
  | .gt => Y < X
  | .le => X ≤ Y
noncomputable def z_neg (cd : Jvm.ClassFile.Cond) : Jvm.ClassFile.Cond := match cd with
  | .eq => .ne
  | .ne => .eq
  | .lt => .ge
  | .ge => .lt
  | .gt => .le
  | .le => .gt
theorem z_hd_or (cd : Jvm.ClassFile.Cond) (X Y : Int) : z_hd cd X Y ∨ z_hd (z_neg cd) X Y := by
  cases cd <;> simp only [z_hd, z_neg] <;> omega
noncomputable def z_asm (both : Bool) (cd : Jvm.ClassFile.Cond) (ivs : zJ) (x : Nat) (c : Int) (y : Nat) (d : Int) : List zJ := match cd with
  | .le => z_sle ivs x c y d 0
  | .lt => z_sle ivs x c y d (-1)
  | .ge => z_sle ivs y d x c 0
  | .gt => z_sle ivs y d x c (-1)
  | .eq => (z_sle ivs x c y d 0).flatMap (fun i => z_sle i y d x c 0)
  | .ne => match z_sle ivs x c y d (-1), z_sle ivs y d x c (-1) with
    | [], b => b
    | a, [] => a
    | a, b => match both with
      | true => a ++ b
      | false => [ivs]
theorem z_asm_ok {both : Bool} {cd : Jvm.ClassFile.Cond} {ivs : zJ} {ρ : List Int} {x y : Nat} {c d X Y : Int} (h : z_iv ivs ρ) (hx : z_v ρ x c X) (hy : z_v ρ y d Y) (hc : z_hd cd X Y) : ∃ i ∈ z_asm both cd ivs x c y d, z_iv i ρ := by
  cases cd with
  | le => exact z_sle_ok h hx hy (by have : X ≤ Y := hc; omega)
  | lt => exact z_sle_ok h hx hy (by have : X < Y := hc; omega)
  | ge => exact z_sle_ok h hy hx (by have : Y ≤ X := hc; omega)
  | gt => exact z_sle_ok h hy hx (by have : Y < X := hc; omega)
  | eq =>
    have e : X = Y := hc
    obtain ⟨i, h1, h2⟩ := z_sle_ok (k := 0) h hx hy (by omega)
    obtain ⟨j, h3, h4⟩ := z_sle_ok (k := 0) h2 hy hx (by omega)
    exact ⟨j, List.mem_flatMap.mpr ⟨i, h1, h3⟩, h4⟩
  | ne =>
    have e : X ≠ Y := hc
    unfold z_asm
    dsimp only
    rcases Int.lt_or_gt_of_ne e with q | q
    · obtain ⟨i, h1, h2⟩ := z_sle_ok (k := -1) h hx hy (by omega)
      split
      · rename_i e1
        rw [e1] at h1
        cases h1
      · exact ⟨i, h1, h2⟩
      · split
        · exact ⟨i, List.mem_append_left _ h1, h2⟩
        · exact ⟨ivs, List.mem_singleton.mpr rfl, h⟩
    · obtain ⟨i, h1, h2⟩ := z_sle_ok (k := -1) h hy hx (by omega)
      split
      · exact ⟨i, h1, h2⟩
      · rename_i e1 _
        rw [e1] at h1
        cases h1
      · split
        · exact ⟨i, List.mem_append_right _ h1, h2⟩
        · exact ⟨ivs, List.mem_singleton.mpr rfl, h⟩
