/-! ===== quotients and rests, by a divisor above 0 ===== -/
theorem z_td_pos {a b : Int} (ha : 0 ≤ a) (hb : 0 < b) : 0 ≤ a.tdiv b ∧ a.tdiv b ≤ a := by
  rw [Int.tdiv_eq_ediv_of_nonneg ha]
  exact ⟨Int.ediv_nonneg ha (by omega), Int.ediv_le_self b ha⟩
theorem z_td_neg {a b : Int} (ha : a ≤ 0) (hb : 0 < b) : a ≤ a.tdiv b ∧ a.tdiv b ≤ 0 := by
  have e : a.tdiv b = -((-a).tdiv b) := by rw [Int.neg_tdiv, Int.neg_neg]
  have := z_td_pos (a := -a) (b := b) (by omega) hb
  omega
theorem z_td_rng {a b l h : Int} (hl : l ≤ a) (hh : a ≤ h) (hb : 0 < b) : z_min l 0 ≤ a.tdiv b ∧ a.tdiv b ≤ z_max 0 h := by
  have m1 := z_min_l l 0
  have m2 := z_min_r l 0
  have m3 := z_max_l 0 h
  have m4 := z_max_r 0 h
  rcases Int.le_total 0 a with ha | ha
  · have := z_td_pos ha hb
    omega
  · have := z_td_neg ha hb
    omega
theorem z_tm_eq (a b : Int) : a.tdiv b * b = a - a.tmod b := by
  have := Int.tmod_def a b
  rw [Int.mul_comm]
  omega
theorem z_tm_rng {a b : Int} (hb : 0 < b) : (0 ≤ a → 0 ≤ a.tmod b ∧ a.tmod b ≤ a) ∧ (a ≤ 0 → a ≤ a.tmod b ∧ a.tmod b ≤ 0) ∧ a.tmod b < b ∧ -b < a.tmod b := by
  have e := z_tm_eq a b
  refine ⟨fun ha => ?_, fun ha => ?_, Int.tmod_lt_of_pos a hb, ?_⟩
  · have h1 := Int.mul_nonneg (z_td_pos ha hb).1 (by omega : 0 ≤ b)
    have h2 := Int.tmod_nonneg b ha
    omega
  · have h1 := Int.mul_nonneg (by have := (z_td_neg ha hb).2; omega : 0 ≤ -(a.tdiv b)) (by omega : 0 ≤ b)
    rw [Int.neg_mul] at h1
    have h2 := Int.tmod_nonneg b (by omega : 0 ≤ -a)
    rw [Int.neg_tmod] at h2
    omega
  · rcases Int.le_total 0 a with ha | ha
    · have h2 := Int.tmod_nonneg b ha
      omega
    · have h2 := Int.tmod_lt_of_pos (-a) hb
      rw [Int.neg_tmod] at h2
      omega
theorem z_i32div {x y : Int32} (hy : 0 < y.toInt) : (x / y).toInt = x.toInt.tdiv y.toInt := by
  have hr := z_rng x
  have ht := z_td_rng hr.1 hr.2 hy
  have a1 : z_min (z_lim 0).1 0 = (z_lim 0).1 := by decide
  have a2 : z_max 0 (z_lim 0).2 = (z_lim 0).2 := by decide
  rw [a1, a2] at ht
  rw [Int32.toInt_div, z_bm ht.1 ht.2]
theorem z_i64div {x y : Int64} (hy : 0 < y.toInt) : (x / y).toInt = x.toInt.tdiv y.toInt := by
  have hr := z_rngL x
  have ht := z_td_rng hr.1 hr.2 hy
  have a1 : z_min (z_lim 1).1 0 = (z_lim 1).1 := by decide
  have a2 : z_max 0 (z_lim 1).2 = (z_lim 1).2 := by decide
  rw [a1, a2] at ht
  rw [Int64.toInt_div, z_bmL ht.1 ht.2]
theorem z_tm_lim {l h a b : Int} (hl : l ≤ a) (hh : a ≤ h) (h0 : l ≤ 0) (h1 : 0 ≤ h) (hb : 0 < b) : (l ≤ a.tmod b ∧ a.tmod b ≤ h) ∧ l ≤ a - a.tmod b ∧ a - a.tmod b ≤ h := by
  have t := z_tm_rng (a := a) hb
  rcases Int.le_total 0 a with ha | ha
  · have := t.1 ha
    omega
  · have := t.2.1 ha
    omega
theorem z_i32rem {x y : Int32} (hy : 0 < y.toInt) : (x - x / y * y).toInt = x.toInt.tmod y.toInt := by
  have hr := z_rng x
  have t := z_tm_lim hr.1 hr.2 (by decide) (by decide) hy
  rw [Int32.toInt_sub, Int32.toInt_mul, z_i32div hy, z_tm_eq, z_bm t.2.1 t.2.2]
  have e : x.toInt - (x.toInt - x.toInt.tmod y.toInt) = x.toInt.tmod y.toInt := by omega
  rw [e, z_bm t.1.1 t.1.2]
theorem z_i64rem {x y : Int64} (hy : 0 < y.toInt) : (x - x / y * y).toInt = x.toInt.tmod y.toInt := by
  have hr := z_rngL x
  have t := z_tm_lim hr.1 hr.2 (by decide) (by decide) hy
  rw [Int64.toInt_sub, Int64.toInt_mul, z_i64div hy, z_tm_eq, z_bmL t.2.1 t.2.2]
  have e : x.toInt - (x.toInt - x.toInt.tmod y.toInt) = x.toInt.tmod y.toInt := by omega
  rw [e, z_bmL t.1.1 t.1.2]
theorem z_i32ne {y : Int32} (h : 0 < y.toInt) : ¬ y = 0 := fun e => by
  rw [e] at h
  exact absurd h (by decide)
theorem z_i64ne {y : Int64} (h : 0 < y.toInt) : ¬ y = 0 := fun e => by
  rw [e] at h
  exact absurd h (by decide)
noncomputable def z_quo (t : Nat) (J : zJ) (x : Nat) (c : Int) (y : Nat) (d : Int) : Option (zV × zJ) := match z_b J x c, z_b J y d with
  | some (l1, h1), some (l2, h2) => match z_ile 1 l2 with
    | true => match z_ieq l2 h2 && z_ile 0 l1 with
      | true => some (z_new t (l1 / l2) (h1 / l2) J)
      | false => some (z_new t (z_min l1 0) (z_max 0 h1) J)
    | false => none
  | _, _ => none
theorem z_quo_ok {t : Nat} {J : zJ} {ρ : List Int} {x y : Nat} {c d X Y : Int} {out : zV × zJ} (h : z_iv J ρ) (h0 : ρ[0]? = some 0) (hx : z_v ρ x c X) (hy : z_v ρ y d Y) (e : z_quo t J x c y d = some out) : 0 < Y ∧ z_R t ρ out (X.tdiv Y) := by
  unfold z_quo at e
  split at e
  · rename_i l1 h1 l2 h2 e1 e2
    have b1 := z_b_ok h hx e1
    have b2 := z_b_ok h hy e2
    split at e
    · rename_i ep
      have ep := z_ile_ok ep
      have hY : 0 < Y := by omega
      refine ⟨hY, ?_⟩
      split at e
      · rename_i eq
        have q1 := z_ieq_ok (z_and eq).1
        have q2 := z_ile_ok (z_and eq).2
        cases e
        have eY : Y = l2 := by omega
        subst eY
        rw [Int.tdiv_eq_ediv_of_nonneg (by omega)]
        exact z_new_ok h h0 (Int.ediv_le_ediv hY b1.1) (Int.ediv_le_ediv hY b1.2)
      · cases e
        have r := z_td_rng b1.1 b1.2 hY
        exact z_new_ok h h0 r.1 r.2
    · cases e
  · cases e
noncomputable def z_newr2 (t : Nat) (lo hi : Int) (r1 r2 : zR) (J : zJ) : zV × zJ := match z_ieq lo hi with
  | true => ((t, 0, lo), J)
  | false => ((t, J.1.length, 0), (J.1 ++ [(lo, hi)], r1 :: r2 :: J.2))
/-- the greatest that a rest can be, beside 0: by the divisor; by the number itself, where the divisor is no greater -/
noncomputable def z_half (J : zJ) (x : Nat) (c : Int) (y : Nat) (d l1 h1 l2 h2 : Int) : Bool := match z_ile 1 l1, z_ile h1 (-1), z_ile 1 l2, z_ile h2 (-1) with
  | true, _, true, _ => z_imp J y d x c 0
  | true, _, false, true => z_o6 J x y (0 - c - d)
  | false, true, true, _ => z_o5 J x y (0 - c - d)
  | false, true, false, true => z_imp J x c y d 0
  | _, _, _, _ => false
noncomputable def z_abs (l h : Int) : Int := z_max h (0 - l)
noncomputable def z_remM (J : zJ) (x : Nat) (c : Int) (y : Nat) (d l1 h1 l2 h2 : Int) : Int := match z_half J x c y d l1 h1 l2 h2 with
  | true => z_min (z_abs l2 h2 - 1) ((z_abs l1 h1 - 1) / 2)
  | false => z_abs l2 h2 - 1
noncomputable def z_rem (t : Nat) (J : zJ) (x : Nat) (c : Int) (y : Nat) (d : Int) : Option (zV × zJ) := match z_b J x c, z_b J y d with
  | some (l1, h1), some (l2, h2) => match z_ile 1 l2, z_ile h2 (-1) with
    | true, _ => some (z_newr2 t (match z_ile 0 l1 with
        | true => 0
        | false => z_max l1 (0 - z_remM J x c y d l1 h1 l2 h2)) (match z_ile h1 0 with
        | true => 0
        | false => z_min h1 (z_remM J x c y d l1 h1 l2 h2)) (0, J.1.length, y, 0, d - 1) (6, J.1.length, y, 0, 1 - d) J)
    | false, true => some (z_newr2 t (match z_ile 0 l1 with
        | true => 0
        | false => z_max l1 (0 - z_remM J x c y d l1 h1 l2 h2)) (match z_ile h1 0 with
        | true => 0
        | false => z_min h1 (z_remM J x c y d l1 h1 l2 h2)) (0, y, J.1.length, 0, -1 - d) (5, J.1.length, y, 0, -1 - d) J)
    | false, false => none
  | _, _ => none
theorem z_newr2_ok {t : Nat} {lo hi z : Int} {r1 r2 : zR} {ivs : zJ} {ρ : List Int} (h : z_iv ivs ρ) (h0 : ρ[0]? = some 0) (h1 : lo ≤ z) (h2 : z ≤ hi) (hr1 : z_rh (ρ ++ [z]) r1) (hr2 : z_rh (ρ ++ [z]) r2) : z_R t ρ (z_newr2 t lo hi r1 r2 ivs) z := by
  unfold z_newr2
  split
  · rename_i e
    have e := z_ieq_ok e
    have e2 : z = lo := by omega
    exact ⟨rfl, ρ, List.prefix_refl _, h, by rw [e2]; exact z_v.of0 h0 lo⟩
  · exact ⟨rfl, ρ ++ [z], z_app_pre _ _, ((h.app (b := (lo, hi)) h1 h2).rel hr2).rel hr1, h.last z⟩
theorem z_tm_gen {X Y : Int} (hY : Y ≠ 0) : (0 ≤ X → 0 ≤ X.tmod Y ∧ X.tmod Y ≤ X) ∧ (X ≤ 0 → X ≤ X.tmod Y ∧ X.tmod Y ≤ 0) ∧ (0 < Y → X.tmod Y < Y ∧ -Y < X.tmod Y) ∧ (Y < 0 → X.tmod Y < -Y ∧ Y < X.tmod Y) := by
  rcases (show 0 < Y ∨ Y < 0 by omega) with h | h
  · have t := z_tm_rng (a := X) h
    exact ⟨t.1, t.2.1, fun _ => ⟨t.2.2.1, t.2.2.2⟩, fun q => by omega⟩
  · have t := z_tm_rng (a := X) (b := -Y) (by omega)
    rw [Int.tmod_neg] at t
    exact ⟨t.1, t.2.1, fun q => by omega, fun _ => ⟨t.2.2.1, by have := t.2.2.2; omega⟩⟩
theorem z_tm_sub {X Y : Int} (hY : 0 < Y) (h : Y ≤ X) : X.tmod Y ≤ X - Y := by
  rw [Int.tmod_eq_emod_of_nonneg (by omega)]
  have e : X % Y = (X - Y) % Y := by
    have e1 : X - Y = X + Y * (-1) := by omega
    rw [e1, Int.add_mul_emod_self_left]
  rw [e, Int.emod_def]
  have h3 : 0 ≤ Y * ((X - Y) / Y) := Int.mul_nonneg (by omega) (Int.ediv_nonneg (by omega) (by omega))
  omega
/-- where the divisor is no greater than the number, the rest is below its half -/
theorem z_tm_half {X Y A : Int} (hA1 : X ≤ A) (hA2 : -X ≤ A) (h : (1 ≤ X ∧ 1 ≤ Y ∧ Y ≤ X) ∨ (1 ≤ X ∧ Y ≤ -1 ∧ 0 ≤ X + Y) ∨ (X ≤ -1 ∧ 1 ≤ Y ∧ X + Y ≤ 0) ∨ (X ≤ -1 ∧ Y ≤ -1 ∧ X ≤ Y)) : X.tmod Y ≤ (A - 1) / 2 ∧ -((A - 1) / 2) ≤ X.tmod Y := by
  have key : ∀ {P R : Int}, 1 ≤ P → 1 ≤ R → R ≤ P → P ≤ A → P.tmod R ≤ (A - 1) / 2 ∧ 0 ≤ P.tmod R := fun {P R} h1 h2 h3 h4 => by
    have g1 := z_tm_sub (X := P) (Y := R) (by omega) h3
    have g2 := z_tm_rng (a := P) (b := R) (by omega)
    have g3 := g2.1 (by omega)
    omega
  rcases h with ⟨h1, h2, h3⟩ | ⟨h1, h2, h3⟩ | ⟨h1, h2, h3⟩ | ⟨h1, h2, h3⟩
  · have := key h1 h2 h3 hA1
    omega
  · have := key (P := X) (R := -Y) h1 (by omega) (by omega) hA1
    rw [Int.tmod_neg] at this
    omega
  · have := key (P := -X) (R := Y) (by omega) h2 (by omega) hA2
    rw [Int.neg_tmod] at this
    omega
  · have := key (P := -X) (R := -Y) (by omega) (by omega) (by omega) hA2
    rw [Int.tmod_neg, Int.neg_tmod] at this
    omega
theorem z_abs_ok {l h X : Int} (h1 : l ≤ X) (h2 : X ≤ h) : X ≤ z_abs l h ∧ -X ≤ z_abs l h := by
  unfold z_abs
  have m1 := z_max_l h (0 - l)
  have m2 := z_max_r h (0 - l)
  omega
theorem z_half_ok {J : zJ} {ρ : List Int} {x y : Nat} {c d X Y l1 h1 l2 h2 : Int} (hJ : z_iv J ρ) (hx : z_v ρ x c X) (hy : z_v ρ y d Y) (a1 : l1 ≤ X) (a2 : X ≤ h1) (b1 : l2 ≤ Y) (b2 : Y ≤ h2) (h : z_half J x c y d l1 h1 l2 h2 = true) : (1 ≤ X ∧ 1 ≤ Y ∧ Y ≤ X) ∨ (1 ≤ X ∧ Y ≤ -1 ∧ 0 ≤ X + Y) ∨ (X ≤ -1 ∧ 1 ≤ Y ∧ X + Y ≤ 0) ∨ (X ≤ -1 ∧ Y ≤ -1 ∧ X ≤ Y) := by
  unfold z_half at h
  split at h
  · rename_i e1 e2
    have e1 := z_ile_ok e1
    have e2 := z_ile_ok e2
    have := z_imp_ok hJ hy hx h
    exact Or.inl ⟨by omega, by omega, by omega⟩
  · rename_i e1 e2 e3
    have e1 := z_ile_ok e1
    have e3 := z_ile_ok e3
    obtain ⟨wx, p1, p2⟩ := hx
    obtain ⟨wy, p3, p4⟩ := hy
    have := z_o6_ok hJ p1 p3 h
    exact Or.inr (Or.inl ⟨by omega, by omega, by omega⟩)
  · rename_i e1 e2 e3
    have e2 := z_ile_ok e2
    have e3 := z_ile_ok e3
    obtain ⟨wx, p1, p2⟩ := hx
    obtain ⟨wy, p3, p4⟩ := hy
    have := z_o5_ok hJ p1 p3 h
    exact Or.inr (Or.inr (Or.inl ⟨by omega, by omega, by omega⟩))
  · rename_i e1 e2 e3 e4
    have e2 := z_ile_ok e2
    have e4 := z_ile_ok e4
    have := z_imp_ok hJ hx hy h
    exact Or.inr (Or.inr (Or.inr ⟨by omega, by omega, by omega⟩))
  · cases h
theorem z_remM_ok {J : zJ} {ρ : List Int} {x y : Nat} {c d X Y l1 h1 l2 h2 : Int} (hJ : z_iv J ρ) (hx : z_v ρ x c X) (hy : z_v ρ y d Y) (a1 : l1 ≤ X) (a2 : X ≤ h1) (b1 : l2 ≤ Y) (b2 : Y ≤ h2) (hY : Y ≠ 0) : X.tmod Y ≤ z_remM J x c y d l1 h1 l2 h2 ∧ -(z_remM J x c y d l1 h1 l2 h2) ≤ X.tmod Y := by
  have t := z_tm_gen (X := X) hY
  have aY := z_abs_ok b1 b2
  have aX := z_abs_ok a1 a2
  have base : X.tmod Y ≤ z_abs l2 h2 - 1 ∧ -(z_abs l2 h2 - 1) ≤ X.tmod Y := by
    rcases (show 0 < Y ∨ Y < 0 by omega) with q | q
    · have := t.2.2.1 q
      omega
    · have := t.2.2.2 q
      omega
  unfold z_remM
  split
  · rename_i e
    have hh := z_tm_half aX.1 aX.2 (z_half_ok hJ hx hy a1 a2 b1 b2 e)
    have m1 := z_min_le (a := z_abs l2 h2 - 1) (b := (z_abs l1 h1 - 1) / 2) base.1 hh.1
    refine ⟨m1, ?_⟩
    have m2 := z_min_le (a := z_abs l2 h2 - 1) (b := (z_abs l1 h1 - 1) / 2) (z := -(X.tmod Y)) (by omega) (by omega)
    omega
  · exact base
theorem z_rem_ok {t : Nat} {J : zJ} {ρ : List Int} {x y : Nat} {c d X Y : Int} {out : zV × zJ} (h : z_iv J ρ) (h0 : ρ[0]? = some 0) (hx : z_v ρ x c X) (hy : z_v ρ y d Y) (e : z_rem t J x c y d = some out) : Y ≠ 0 ∧ z_R t ρ out (X.tmod Y) := by
  unfold z_rem at e
  split at e
  · rename_i l1 h1 l2 h2 e1 e2
    have b1 := z_b_ok h hx e1
    have b2 := z_b_ok h hy e2
    have lo_ok : Y ≠ 0 → (match z_ile 0 l1 with
        | true => 0
        | false => z_max l1 (0 - z_remM J x c y d l1 h1 l2 h2)) ≤ X.tmod Y := fun hY => by
      have g := z_tm_gen (X := X) hY
      have r := z_remM_ok h hx hy b1.1 b1.2 b2.1 b2.2 hY
      split
      · rename_i q
        have q := z_ile_ok q
        exact (g.1 (by omega)).1
      · rename_i q0
        have q0 := z_ile_no q0
        refine z_max_ge ?_ (by omega)
        rcases Int.le_total 0 X with q | q
        · have := g.1 q
          omega
        · have := g.2.1 q
          omega
    have hi_ok : Y ≠ 0 → X.tmod Y ≤ (match z_ile h1 0 with
        | true => 0
        | false => z_min h1 (z_remM J x c y d l1 h1 l2 h2)) := fun hY => by
      have g := z_tm_gen (X := X) hY
      have r := z_remM_ok h hx hy b1.1 b1.2 b2.1 b2.2 hY
      split
      · rename_i q
        have q := z_ile_ok q
        exact (g.2.1 (by omega)).2
      · rename_i q0
        have q0 := z_ile_no q0
        refine z_min_le ?_ r.1
        rcases Int.le_total 0 X with q | q
        · have := g.1 q
          omega
        · have := g.2.1 q
          omega
    obtain ⟨wy, p3, p4⟩ := id hy
    have at_n : ∀ z : Int, (ρ ++ [z])[J.1.length]? = some z := fun z => by
      rw [z_F.len h.1]
      exact z_at_len z
    split at e
    · rename_i q
      have q := z_ile_ok q
      have hY : Y ≠ 0 := by omega
      have g := (z_tm_gen (X := X) hY).2.2.1 (by omega)
      cases e
      exact ⟨hY, z_newr2_ok h h0 (lo_ok hY) (hi_ok hY) ⟨X.tmod Y, wy, at_n _, z_pre (z_app_pre _ _) p3, by omega⟩ ⟨X.tmod Y, wy, at_n _, z_pre (z_app_pre _ _) p3, by omega⟩⟩
    · rename_i q0 q
      have q := z_ile_ok q
      have hY : Y ≠ 0 := by omega
      have g := (z_tm_gen (X := X) hY).2.2.2 (by omega)
      cases e
      exact ⟨hY, z_newr2_ok h h0 (lo_ok hY) (hi_ok hY) ⟨wy, X.tmod Y, z_pre (z_app_pre _ _) p3, at_n _, by omega⟩ ⟨X.tmod Y, wy, at_n _, z_pre (z_app_pre _ _) p3, by omega⟩⟩
    · cases e
  · cases e
theorem z_i32remG {x y : Int32} (hy : y.toInt ≠ 0) : (x - x / y * y).toInt = x.toInt.tmod y.toInt := by
  have hr := z_rng x
  have t := z_tm_gen (X := x.toInt) hy
  have t2 : (z_lim 0).1 ≤ x.toInt.tmod y.toInt ∧ x.toInt.tmod y.toInt ≤ (z_lim 0).2 := by
    have a1 : (z_lim 0).1 = -2147483648 := rfl
    have a2 : (z_lim 0).2 = 2147483647 := rfl
    rcases Int.le_total 0 x.toInt with ha | ha
    · have := t.1 ha
      omega
    · have := t.2.1 ha
      omega
  rw [Int32.toInt_sub, Int32.toInt_mul, Int32.toInt_div, Int.bmod_mul_bmod, Int.sub_bmod_bmod, z_tm_eq]
  have e : x.toInt - (x.toInt - x.toInt.tmod y.toInt) = x.toInt.tmod y.toInt := by omega
  rw [e, z_bm t2.1 t2.2]
theorem z_i64remG {x y : Int64} (hy : y.toInt ≠ 0) : (x - x / y * y).toInt = x.toInt.tmod y.toInt := by
  have hr := z_rngL x
  have t := z_tm_gen (X := x.toInt) hy
  have t2 : (z_lim 1).1 ≤ x.toInt.tmod y.toInt ∧ x.toInt.tmod y.toInt ≤ (z_lim 1).2 := by
    have a1 : (z_lim 1).1 = -9223372036854775808 := rfl
    have a2 : (z_lim 1).2 = 9223372036854775807 := rfl
    rcases Int.le_total 0 x.toInt with ha | ha
    · have := t.1 ha
      omega
    · have := t.2.1 ha
      omega
  rw [Int64.toInt_sub, Int64.toInt_mul, Int64.toInt_div, Int.bmod_mul_bmod, Int.sub_bmod_bmod, z_tm_eq]
  have e : x.toInt - (x.toInt - x.toInt.tmod y.toInt) = x.toInt.tmod y.toInt := by omega
  rw [e, z_bmL t2.1 t2.2]
theorem z_i32neG {y : Int32} (h : y.toInt ≠ 0) : ¬ y = 0 := fun e => h (by rw [e]; rfl)
theorem z_i64neG {y : Int64} (h : y.toInt ≠ 0) : ¬ y = 0 := fun e => h (by rw [e]; rfl)
/-! ===== bits: numbers that are not below 0 ===== -/
theorem z_i32nat {x : Int32} (h : 0 ≤ x.toInt) : x.toInt = (x.toBitVec.toNat : Int) ∧ x.toBitVec.toNat < 2147483648 := by
  have e := BitVec.toInt_eq_toNat_cond x.toBitVec
  rw [Int32.toInt_toBitVec] at e
  have := x.toBitVec.isLt
  split at e <;> omega
theorem z_natI32 {x : Int32} (h : x.toBitVec.toNat < 2147483648) : x.toInt = (x.toBitVec.toNat : Int) := by
  have e := BitVec.toInt_eq_toNat_cond x.toBitVec
  rw [Int32.toInt_toBitVec] at e
  have := x.toBitVec.isLt
  split at e <;> omega
theorem z_i32and {x y : Int32} (h : 0 ≤ y.toInt) : 0 ≤ (x &&& y).toInt ∧ (x &&& y).toInt ≤ y.toInt := by
  have hy := z_i32nat h
  have e : (x &&& y).toBitVec.toNat = x.toBitVec.toNat &&& y.toBitVec.toNat := by rw [Int32.toBitVec_and, BitVec.toNat_and]
  have l : x.toBitVec.toNat &&& y.toBitVec.toNat ≤ y.toBitVec.toNat := Nat.and_le_right
  have := z_natI32 (x := x &&& y) (by omega)
  omega
theorem z_i32or {x y : Int32} {k : Nat} (hx : 0 ≤ x.toInt) (hy : 0 ≤ y.toInt) (hk : k ≤ 31) (h1 : x.toInt + 1 ≤ Int.ofNat (2 ^ k)) (h2 : y.toInt + 1 ≤ Int.ofNat (2 ^ k)) : 0 ≤ (x ||| y).toInt ∧ (x ||| y).toInt ≤ Int.ofNat (2 ^ k) - 1 := by
  have ex := z_i32nat hx
  have ey := z_i32nat hy
  have e : (x ||| y).toBitVec.toNat = x.toBitVec.toNat ||| y.toBitVec.toNat := by rw [Int32.toBitVec_or, BitVec.toNat_or]
  have hp : 2 ^ k ≤ 2 ^ 31 := Nat.pow_le_pow_right (by decide) hk
  have ep : Int.ofNat (2 ^ k) = ((2 ^ k : Nat) : Int) := rfl
  rw [ep] at h1 h2 ⊢
  generalize hq : 2 ^ k = q at *
  have g : x.toBitVec.toNat ||| y.toBitVec.toNat < 2 ^ k := Nat.or_lt_two_pow (by omega) (by omega)
  have := z_natI32 (x := x ||| y) (by omega)
  omega
theorem z_shk : ∀ k : Fin 32, ((Int32.ofInt (k.val : Int) &&& 31).toBitVec.smod 32).toNat = k.val := by decide
theorem z_shy {y : Int32} (hy : 0 ≤ y.toInt) (h31 : y.toInt ≤ 31) : ((y &&& 31).toBitVec.smod 32).toNat = y.toInt.toNat := by
  have h := z_shk ⟨y.toInt.toNat, by omega⟩
  have e : ((y.toInt.toNat : Nat) : Int) = y.toInt := by omega
  dsimp only at h
  rw [e, Int32.ofInt_toInt] at h
  exact h
theorem z_i32shl {x y : Int32} (hx : 0 ≤ x.toInt) (hy : 0 ≤ y.toInt) (h31 : y.toInt ≤ 31) (hf : x.toInt * Int.ofNat (2 ^ y.toInt.toNat) ≤ 2147483647) : (x <<< (y &&& 31)).toInt = x.toInt * Int.ofNat (2 ^ y.toInt.toNat) := by
  have ex := z_i32nat hx
  have e : (x <<< (y &&& 31)).toBitVec.toNat = x.toBitVec.toNat * 2 ^ y.toInt.toNat % 2 ^ 32 := by
    rw [Int32.toBitVec_shiftLeft, BitVec.shiftLeft_eq', BitVec.toNat_shiftLeft, z_shy hy h31, Nat.shiftLeft_eq]
  have ep : x.toInt * Int.ofNat (2 ^ y.toInt.toNat) = ((x.toBitVec.toNat * 2 ^ y.toInt.toNat : Nat) : Int) := by
    rw [ex.1, Int.natCast_mul]
    rfl
  rw [ep] at hf ⊢
  generalize x.toBitVec.toNat * 2 ^ y.toInt.toNat = q at *
  have e2 : q % 2 ^ 32 = q := Nat.mod_eq_of_lt (by omega)
  rw [e2] at e
  have := z_natI32 (x := x <<< (y &&& 31)) (by omega)
  omega
theorem z_i32shr {x y : Int32} (hy : 0 ≤ y.toInt) (h31 : y.toInt ≤ 31) : (x >>> (y &&& 31)).toInt = x.toInt / Int.ofNat (2 ^ y.toInt.toNat) := by
  rw [← Int32.toInt_toBitVec, Int32.toBitVec_shiftRight, BitVec.sshiftRight_eq', BitVec.toInt_sshiftRight, z_shy hy h31, Int.shiftRight_eq_div_pow, Int32.toInt_toBitVec]
  rfl
/-! ===== bounds of results from bounds ===== -/
noncomputable def z_nn (a : zI) (z : Int) : Prop := a.1 ≤ z ∧ z ≤ a.2
noncomputable def z_bb (t : Nat) (F : zI → zI → Option zI) (f : Int → Int → Int) (J : zJ) (x : Nat) (c : Int) (y : Nat) (d : Int) : Option (zV × zJ) := match z_b J x c, z_b J y d with
  | some a, some b => match z_ieq a.1 a.2 && z_ieq b.1 b.2 with
    | true => some ((t, 0, f a.1 b.1), J)
    | false => match F a b with
      | some o => some (z_new t o.1 o.2 J)
      | none => some (z_top t J)
  | _, _ => none
theorem z_bb_ok {F : zI → zI → Option zI} {g : Int32 → Int32 → Int32} {J : zJ} {ρ : List Int} {x y : Nat} {c d : Int} {X Y : Int32} {out : zV × zJ} (hF : ∀ a b o, F a b = some o → z_nn a X.toInt → z_nn b Y.toInt → z_nn o (g X Y).toInt) (h : z_iv J ρ) (h0 : ρ[0]? = some 0) (hx : z_v ρ x c X.toInt) (hy : z_v ρ y d Y.toInt) (e : z_bb 0 F (fun a b => (g (Int32.ofInt a) (Int32.ofInt b)).toInt) J x c y d = some out) : z_R 0 ρ out (g X Y).toInt := by
  unfold z_bb at e
  split at e
  · rename_i a b e1 e2
    have b1 := z_b_ok (lo := a.1) (hi := a.2) h hx e1
    have b2 := z_b_ok (lo := b.1) (hi := b.2) h hy e2
    split at e
    · rename_i et
      have q1 := z_ieq_ok (z_and et).1
      have q2 := z_ieq_ok (z_and et).2
      cases e
      have f1 : a.1 = X.toInt := by omega
      have f2 : b.1 = Y.toInt := by omega
      dsimp only
      rw [f1, f2, Int32.ofInt_toInt, Int32.ofInt_toInt]
      exact z_R.same h (z_v.of0 h0 _)
    · split at e
      · rename_i o eo
        cases e
        have r := hF a b o eo b1 b2
        exact z_new_ok h h0 r.1 r.2
      · cases e
        exact z_top_ok h (z_rng _).1 (z_rng _).2
  · cases e
noncomputable def z_fand (a b : zI) : Option zI := match z_ile 0 a.1, z_ile 0 b.1 with
  | true, true => some (0, z_min a.2 b.2)
  | true, false => some (0, a.2)
  | false, true => some (0, b.2)
  | false, false => none
theorem z_fand_ok {X Y : Int32} (a b o : zI) (e : z_fand a b = some o) (hx : z_nn a X.toInt) (hy : z_nn b Y.toInt) : z_nn o (X &&& Y).toInt := by
  unfold z_nn at hx hy ⊢
  have l : 0 ≤ X.toInt → 0 ≤ (X &&& Y).toInt ∧ (X &&& Y).toInt ≤ X.toInt := fun h => by
    rw [Int32.and_comm]
    exact z_i32and h
  have r : 0 ≤ Y.toInt → 0 ≤ (X &&& Y).toInt ∧ (X &&& Y).toInt ≤ Y.toInt := fun h => z_i32and h
  unfold z_fand at e
  split at e
  · rename_i e1 e2
    have e1 := z_ile_ok e1
    have e2 := z_ile_ok e2
    cases e
    have l := l (by omega)
    have r := r (by omega)
    exact ⟨l.1, z_min_le (by omega) (by omega)⟩
  · rename_i e1 e2
    have e1 := z_ile_ok e1
    cases e
    have l := l (by omega)
    exact ⟨l.1, by dsimp only; omega⟩
  · rename_i e1 e2
    have e2 := z_ile_ok e2
    cases e
    have r := r (by omega)
    exact ⟨r.1, by dsimp only; omega⟩
  · cases e
noncomputable def z_kb (h : Int) : Nat → Nat → Nat
  | 0, k => k
  | n + 1, k => match z_ile (h + 1) (Int.ofNat (2 ^ k)) with
    | true => k
    | false => z_kb h n (k + 1)
noncomputable def z_fior (a b : zI) : Option zI := match z_kb (z_max a.2 b.2) 32 0 with
  | k => match (z_ile 0 a.1 && z_ile 0 b.1) && (Nat.ble k 31 && (z_ile (a.2 + 1) (Int.ofNat (2 ^ k)) && z_ile (b.2 + 1) (Int.ofNat (2 ^ k)))) with
    | true => some (0, Int.ofNat (2 ^ k) - 1)
    | false => none
theorem z_fior_ok {X Y : Int32} (a b o : zI) (e : z_fior a b = some o) (hx : z_nn a X.toInt) (hy : z_nn b Y.toInt) : z_nn o (X ||| Y).toInt := by
  unfold z_nn at hx hy ⊢
  unfold z_fior at e
  dsimp only at e
  generalize z_kb (z_max a.2 b.2) 32 0 = k at e
  split at e
  · rename_i et
    have e1 := z_ile_ok (z_and (z_and et).1).1
    have e2 := z_ile_ok (z_and (z_and et).1).2
    have e3 := Nat.le_of_ble_eq_true (z_and (z_and et).2).1
    have e4 := z_ile_ok (z_and (z_and (z_and et).2).2).1
    have e5 := z_ile_ok (z_and (z_and (z_and et).2).2).2
    cases e
    exact z_i32or (by omega) (by omega) e3 (by omega) (by omega)
  · cases e
noncomputable def z_fshl (a b : zI) : Option zI := match (z_ile 0 a.1 && z_ile 0 b.1) && (z_ile b.2 31 && z_ile (a.2 * Int.ofNat (2 ^ b.2.toNat)) 2147483647) with
  | true => some (a.1 * Int.ofNat (2 ^ b.1.toNat), a.2 * Int.ofNat (2 ^ b.2.toNat))
  | false => none
theorem z_pw {m n : Nat} (h : m ≤ n) : Int.ofNat (2 ^ m) ≤ Int.ofNat (2 ^ n) := Int.ofNat_le.mpr (Nat.pow_le_pow_right (by decide) h)
theorem z_pw0 (m : Nat) : 0 ≤ Int.ofNat (2 ^ m) := Int.natCast_nonneg _
theorem z_fshl_ok {X Y : Int32} (a b o : zI) (e : z_fshl a b = some o) (hx : z_nn a X.toInt) (hy : z_nn b Y.toInt) : z_nn o (X <<< (Y &&& 31)).toInt := by
  unfold z_nn at hx hy ⊢
  unfold z_fshl at e
  split at e
  · rename_i et
    have e1 := z_ile_ok (z_and (z_and et).1).1
    have e2 := z_ile_ok (z_and (z_and et).1).2
    have e3 := z_ile_ok (z_and (z_and et).2).1
    have e4 := z_ile_ok (z_and (z_and et).2).2
    cases e
    have u : X.toInt * Int.ofNat (2 ^ Y.toInt.toNat) ≤ a.2 * Int.ofNat (2 ^ b.2.toNat) := Int.mul_le_mul hx.2 (z_pw (by omega)) (z_pw0 _) (by omega)
    have w : a.1 * Int.ofNat (2 ^ b.1.toNat) ≤ X.toInt * Int.ofNat (2 ^ Y.toInt.toNat) := Int.mul_le_mul hx.1 (z_pw (by omega)) (z_pw0 _) (by omega)
    rw [z_i32shl (by omega) (by omega) (by omega) (by omega)]
    exact ⟨w, u⟩
  · cases e
noncomputable def z_fshr (a b : zI) : Option zI := match z_ile 0 b.1 && z_ile b.2 31 with
  | true => match z_ieq b.1 b.2, z_ile 0 a.1 with
    | true, _ => some (a.1 / Int.ofNat (2 ^ b.1.toNat), a.2 / Int.ofNat (2 ^ b.1.toNat))
    | false, true => some (0, a.2)
    | false, false => none
  | false => none
theorem z_pw1 (m : Nat) : 0 < Int.ofNat (2 ^ m) := Int.ofNat_lt.mpr (Nat.two_pow_pos m)
theorem z_fshr_ok {X Y : Int32} (a b o : zI) (e : z_fshr a b = some o) (hx : z_nn a X.toInt) (hy : z_nn b Y.toInt) : z_nn o (X >>> (Y &&& 31)).toInt := by
  unfold z_nn at hx hy ⊢
  unfold z_fshr at e
  split at e
  · rename_i et
    have e1 := z_ile_ok (z_and et).1
    have e2 := z_ile_ok (z_and et).2
    rw [z_i32shr (by omega) (by omega)]
    split at e
    · rename_i eq
      have eq := z_ieq_ok eq
      cases e
      have eY : Y.toInt = b.1 := by omega
      rw [eY]
      exact ⟨Int.ediv_le_ediv (z_pw1 _) hx.1, Int.ediv_le_ediv (z_pw1 _) hx.2⟩
    · rename_i ea
      have ea := z_ile_ok ea
      cases e
      have h0 : 0 ≤ X.toInt := by omega
      have h1 := Int.ediv_le_self (Int.ofNat (2 ^ Y.toInt.toNat)) h0
      exact ⟨Int.ediv_nonneg h0 (z_pw0 _), by dsimp only; omega⟩
    · cases e
  · cases e
