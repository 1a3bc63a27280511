/-! ===== quotients and rests, by a divisor above 0 ===== -/
theorem z_td_pos {a b : Int} (ha : 0 ≤ a) (hb : 0 < b) : 0 ≤ a.tdiv b ∧ a.tdiv b ≤ a := by
  rw [Int.tdiv_eq_ediv_of_nonneg ha]
  exact ⟨Int.ediv_nonneg ha (by omega), Int.ediv_le_self b ha⟩
theorem z_td_neg {a b : Int} (ha : a ≤ 0) (hb : 0 < b) : a ≤ a.tdiv b ∧ a.tdiv b ≤ 0 := by
  have e : a.tdiv b = -((-a).tdiv b) := by rw [Int.neg_tdiv, Int.neg_neg]
  have := z_td_pos (a := -a) (b := b) (by omega) hb
  omega
theorem z_td_rng {a b l h : Int} (hl : l ≤ a) (hh : a ≤ h) (hb : 0 < b) : z_min l 0 ≤ a.tdiv b ∧ a.tdiv b ≤ z_max 0 h := by
  have m1 := z_min_l l 0
  have m2 := z_min_r l 0
  have m3 := z_max_l 0 h
  have m4 := z_max_r 0 h
  rcases Int.le_total 0 a with ha | ha
  · have := z_td_pos ha hb
    omega
  · have := z_td_neg ha hb
    omega
theorem z_tm_eq (a b : Int) : a.tdiv b * b = a - a.tmod b := by
  have := Int.tmod_def a b
  rw [Int.mul_comm]
  omega
theorem z_tm_rng {a b : Int} (hb : 0 < b) : (0 ≤ a → 0 ≤ a.tmod b ∧ a.tmod b ≤ a) ∧ (a ≤ 0 → a ≤ a.tmod b ∧ a.tmod b ≤ 0) ∧ a.tmod b < b ∧ -b < a.tmod b := by
  have e := z_tm_eq a b
  refine ⟨fun ha => ?_, fun ha => ?_, Int.tmod_lt_of_pos a hb, ?_⟩
  · have h1 := Int.mul_nonneg (z_td_pos ha hb).1 (by omega : 0 ≤ b)
    have h2 := Int.tmod_nonneg b ha
    omega
  · have h1 := Int.mul_nonneg (by have := (z_td_neg ha hb).2; omega : 0 ≤ -(a.tdiv b)) (by omega : 0 ≤ b)
    rw [Int.neg_mul] at h1
    have h2 := Int.tmod_nonneg b (by omega : 0 ≤ -a)
    rw [Int.neg_tmod] at h2
    omega
  · rcases Int.le_total 0 a with ha | ha
    · have h2 := Int.tmod_nonneg b ha
      omega
    · have h2 := Int.tmod_lt_of_pos (-a) hb
      rw [Int.neg_tmod] at h2
      omega
theorem z_i32div {x y : Int32} (hy : 0 < y.toInt) : (x / y).toInt = x.toInt.tdiv y.toInt := by
  have hr := z_rng x
  have ht := z_td_rng hr.1 hr.2 hy
  have a1 : z_min (z_lim 0).1 0 = (z_lim 0).1 := by decide
  have a2 : z_max 0 (z_lim 0).2 = (z_lim 0).2 := by decide
  rw [a1, a2] at ht
  rw [Int32.toInt_div, z_bm ht.1 ht.2]
theorem z_i64div {x y : Int64} (hy : 0 < y.toInt) : (x / y).toInt = x.toInt.tdiv y.toInt := by
  have hr := z_rngL x
  have ht := z_td_rng hr.1 hr.2 hy
  have a1 : z_min (z_lim 1).1 0 = (z_lim 1).1 := by decide
  have a2 : z_max 0 (z_lim 1).2 = (z_lim 1).2 := by decide
  rw [a1, a2] at ht
  rw [Int64.toInt_div, z_bmL ht.1 ht.2]
theorem z_tm_lim {l h a b : Int} (hl : l ≤ a) (hh : a ≤ h) (h0 : l ≤ 0) (h1 : 0 ≤ h) (hb : 0 < b) : (l ≤ a.tmod b ∧ a.tmod b ≤ h) ∧ l ≤ a - a.tmod b ∧ a - a.tmod b ≤ h := by
  have t := z_tm_rng (a := a) hb
  rcases Int.le_total 0 a with ha | ha
  · have := t.1 ha
    omega
  · have := t.2.1 ha
    omega
theorem z_i32rem {x y : Int32} (hy : 0 < y.toInt) : (x - x / y * y).toInt = x.toInt.tmod y.toInt := by
  have hr := z_rng x
  have t := z_tm_lim hr.1 hr.2 (by decide) (by decide) hy
  rw [Int32.toInt_sub, Int32.toInt_mul, z_i32div hy, z_tm_eq, z_bm t.2.1 t.2.2]
  have e : x.toInt - (x.toInt - x.toInt.tmod y.toInt) = x.toInt.tmod y.toInt := by omega
  rw [e, z_bm t.1.1 t.1.2]
theorem z_i64rem {x y : Int64} (hy : 0 < y.toInt) : (x - x / y * y).toInt = x.toInt.tmod y.toInt := by
  have hr := z_rngL x
  have t := z_tm_lim hr.1 hr.2 (by decide) (by decide) hy
  rw [Int64.toInt_sub, Int64.toInt_mul, z_i64div hy, z_tm_eq, z_bmL t.2.1 t.2.2]
  have e : x.toInt - (x.toInt - x.toInt.tmod y.toInt) = x.toInt.tmod y.toInt := by omega
  rw [e, z_bmL t.1.1 t.1.2]
theorem z_i32ne {y : Int32} (h : 0 < y.toInt) : ¬ y = 0 := fun e => by
  rw [e] at h
  exact absurd h (by decide)
theorem z_i64ne {y : Int64} (h : 0 < y.toInt) : ¬ y = 0 := fun e => by
  rw [e] at h
  exact absurd h (by decide)
def z_quo (t : Nat) (J : zJ) (x : Nat) (c : Int) (y : Nat) (d : Int) : Option (zV × zJ) := match z_b J x c, z_b J y d with
  | some (l1, h1), some (l2, h2) => match z_ile 1 l2 with
    | true => match z_ieq l2 h2 && z_ile 0 l1 with
      | true => some (z_new t (l1 / l2) (h1 / l2) J)
      | false => some (z_new t (z_min l1 0) (z_max 0 h1) J)
    | false => none
  | _, _ => none
theorem z_quo_ok {t : Nat} {J : zJ} {ρ : List Int} {x y : Nat} {c d X Y : Int} {out : zV × zJ} (h : z_iv J ρ) (h0 : ρ[0]? = some 0) (hx : z_v ρ x c X) (hy : z_v ρ y d Y) (e : z_quo t J x c y d = some out) : 0 < Y ∧ z_R t ρ out (X.tdiv Y) := by
  unfold z_quo at e
  split at e
  · rename_i l1 h1 l2 h2 e1 e2
    have b1 := z_b_ok h hx e1
    have b2 := z_b_ok h hy e2
    split at e
    · rename_i ep
      have ep := z_ile_ok ep
      have hY : 0 < Y := by omega
      refine ⟨hY, ?_⟩
      split at e
      · rename_i eq
        have q1 := z_ieq_ok (z_and eq).1
        have q2 := z_ile_ok (z_and eq).2
        cases e
        have eY : Y = l2 := by omega
        subst eY
        rw [Int.tdiv_eq_ediv_of_nonneg (by omega)]
        exact z_new_ok h h0 (Int.ediv_le_ediv hY b1.1) (Int.ediv_le_ediv hY b1.2)
      · cases e
        have r := z_td_rng b1.1 b1.2 hY
        exact z_new_ok h h0 r.1 r.2
    · cases e
  · cases e
def z_rem (t : Nat) (J : zJ) (x : Nat) (c : Int) (y : Nat) (d : Int) : Option (zV × zJ) := match z_b J x c, z_b J y d with
  | some (l1, h1), some (l2, h2) => match z_ile 1 l2 with
    | true => match z_ile 0 l1 with
      | true => some (z_newr t 0 (z_min h1 (h2 - 1)) (0, J.1.length, y, 0, d - 1) J)
      | false => some (z_newr t (1 - h2) (h2 - 1) (0, J.1.length, y, 0, d - 1) J)
    | false => none
  | _, _ => none
theorem z_rem_ok {t : Nat} {J : zJ} {ρ : List Int} {x y : Nat} {c d X Y : Int} {out : zV × zJ} (h : z_iv J ρ) (h0 : ρ[0]? = some 0) (hx : z_v ρ x c X) (hy : z_v ρ y d Y) (e : z_rem t J x c y d = some out) : 0 < Y ∧ z_R t ρ out (X.tmod Y) := by
  unfold z_rem at e
  split at e
  · rename_i l1 h1 l2 h2 e1 e2
    have b1 := z_b_ok h hx e1
    have b2 := z_b_ok h hy e2
    split at e
    · rename_i ep
      have ep := z_ile_ok ep
      have hY : 0 < Y := by omega
      refine ⟨hY, ?_⟩
      have tm := z_tm_rng (a := X) hY
      have hr : z_rh (ρ ++ [X.tmod Y]) (0, J.1.length, y, 0, d - 1) := by
        obtain ⟨wy, p3, p4⟩ := hy
        refine ⟨X.tmod Y, wy, ?_, z_pre (z_app_pre _ _) p3, by omega⟩
        rw [z_F.len h.1]
        exact z_at_len _
      split at e
      · rename_i eq
        have q2 := z_ile_ok eq
        cases e
        have q3 := tm.1 (by omega)
        exact z_newr_ok h h0 q3.1 (z_min_le (by omega) (by omega)) hr
      · cases e
        exact z_newr_ok h h0 (by omega) (by omega) hr
    · cases e
  · cases e
/-! ===== bits: numbers that are not below 0 ===== -/
theorem z_i32nat {x : Int32} (h : 0 ≤ x.toInt) : x.toInt = (x.toBitVec.toNat : Int) ∧ x.toBitVec.toNat < 2147483648 := by
  have e := BitVec.toInt_eq_toNat_cond x.toBitVec
  rw [Int32.toInt_toBitVec] at e
  have := x.toBitVec.isLt
  split at e <;> omega
theorem z_natI32 {x : Int32} (h : x.toBitVec.toNat < 2147483648) : x.toInt = (x.toBitVec.toNat : Int) := by
  have e := BitVec.toInt_eq_toNat_cond x.toBitVec
  rw [Int32.toInt_toBitVec] at e
  have := x.toBitVec.isLt
  split at e <;> omega
theorem z_i32and {x y : Int32} (h : 0 ≤ y.toInt) : 0 ≤ (x &&& y).toInt ∧ (x &&& y).toInt ≤ y.toInt := by
  have hy := z_i32nat h
  have e : (x &&& y).toBitVec.toNat = x.toBitVec.toNat &&& y.toBitVec.toNat := by rw [Int32.toBitVec_and, BitVec.toNat_and]
  have l : x.toBitVec.toNat &&& y.toBitVec.toNat ≤ y.toBitVec.toNat := Nat.and_le_right
  have := z_natI32 (x := x &&& y) (by omega)
  omega
theorem z_i32or {x y : Int32} {k : Nat} (hx : 0 ≤ x.toInt) (hy : 0 ≤ y.toInt) (hk : k ≤ 31) (h1 : x.toInt + 1 ≤ Int.ofNat (2 ^ k)) (h2 : y.toInt + 1 ≤ Int.ofNat (2 ^ k)) : 0 ≤ (x ||| y).toInt ∧ (x ||| y).toInt ≤ Int.ofNat (2 ^ k) - 1 := by
  have ex := z_i32nat hx
  have ey := z_i32nat hy
  have e : (x ||| y).toBitVec.toNat = x.toBitVec.toNat ||| y.toBitVec.toNat := by rw [Int32.toBitVec_or, BitVec.toNat_or]
  have hp : 2 ^ k ≤ 2 ^ 31 := Nat.pow_le_pow_right (by decide) hk
  have ep : Int.ofNat (2 ^ k) = ((2 ^ k : Nat) : Int) := rfl
  rw [ep] at h1 h2 ⊢
  generalize hq : 2 ^ k = q at *
  have g : x.toBitVec.toNat ||| y.toBitVec.toNat < 2 ^ k := Nat.or_lt_two_pow (by omega) (by omega)
  have := z_natI32 (x := x ||| y) (by omega)
  omega
theorem z_shk : ∀ k : Fin 32, ((Int32.ofInt (k.val : Int) &&& 31).toBitVec.smod 32).toNat = k.val := by decide
theorem z_shy {y : Int32} (hy : 0 ≤ y.toInt) (h31 : y.toInt ≤ 31) : ((y &&& 31).toBitVec.smod 32).toNat = y.toInt.toNat := by
  have h := z_shk ⟨y.toInt.toNat, by omega⟩
  have e : ((y.toInt.toNat : Nat) : Int) = y.toInt := by omega
  dsimp only at h
  rw [e, Int32.ofInt_toInt] at h
  exact h
theorem z_i32shl {x y : Int32} (hx : 0 ≤ x.toInt) (hy : 0 ≤ y.toInt) (h31 : y.toInt ≤ 31) (hf : x.toInt * Int.ofNat (2 ^ y.toInt.toNat) ≤ 2147483647) : (x <<< (y &&& 31)).toInt = x.toInt * Int.ofNat (2 ^ y.toInt.toNat) := by
  have ex := z_i32nat hx
  have e : (x <<< (y &&& 31)).toBitVec.toNat = x.toBitVec.toNat * 2 ^ y.toInt.toNat % 2 ^ 32 := by
    rw [Int32.toBitVec_shiftLeft, BitVec.shiftLeft_eq', BitVec.toNat_shiftLeft, z_shy hy h31, Nat.shiftLeft_eq]
  have ep : x.toInt * Int.ofNat (2 ^ y.toInt.toNat) = ((x.toBitVec.toNat * 2 ^ y.toInt.toNat : Nat) : Int) := by
    rw [ex.1, Int.natCast_mul]
    rfl
  rw [ep] at hf ⊢
  generalize x.toBitVec.toNat * 2 ^ y.toInt.toNat = q at *
  have e2 : q % 2 ^ 32 = q := Nat.mod_eq_of_lt (by omega)
  rw [e2] at e
  have := z_natI32 (x := x <<< (y &&& 31)) (by omega)
  omega
theorem z_i32shr {x y : Int32} (hy : 0 ≤ y.toInt) (h31 : y.toInt ≤ 31) : (x >>> (y &&& 31)).toInt = x.toInt / Int.ofNat (2 ^ y.toInt.toNat) := by
  rw [← Int32.toInt_toBitVec, Int32.toBitVec_shiftRight, BitVec.sshiftRight_eq', BitVec.toInt_sshiftRight, z_shy hy h31, Int.shiftRight_eq_div_pow, Int32.toInt_toBitVec]
  rfl
/-! ===== bounds of results from bounds ===== -/
def z_nn (a : zI) (z : Int) : Prop := a.1 ≤ z ∧ z ≤ a.2
def z_bb (t : Nat) (F : zI → zI → Option zI) (f : Int → Int → Int) (J : zJ) (x : Nat) (c : Int) (y : Nat) (d : Int) : Option (zV × zJ) := match Nat.beq x 0 && Nat.beq y 0 with
  | true => some ((t, 0, f c d), J)
  | false => match z_b J x c, z_b J y d with
    | some a, some b => match F a b with
      | some o => some (z_new t o.1 o.2 J)
      | none => some (z_top t J)
    | _, _ => none
theorem z_bb_ok {F : zI → zI → Option zI} {g : Int32 → Int32 → Int32} {J : zJ} {ρ : List Int} {x y : Nat} {c d : Int} {X Y : Int32} {out : zV × zJ} (hF : ∀ a b o, F a b = some o → z_nn a X.toInt → z_nn b Y.toInt → z_nn o (g X Y).toInt) (h : z_iv J ρ) (h0 : ρ[0]? = some 0) (hx : z_v ρ x c X.toInt) (hy : z_v ρ y d Y.toInt) (e : z_bb 0 F (fun a b => (g (Int32.ofInt a) (Int32.ofInt b)).toInt) J x c y d = some out) : z_R 0 ρ out (g X Y).toInt := by
  unfold z_bb at e
  split at e
  · rename_i et
    have e1 := z_beq (z_and et).1
    have e2 := z_beq (z_and et).2
    subst e1
    subst e2
    cases e
    have f1 := z_v.const h0 hx
    have f2 := z_v.const h0 hy
    subst f1
    subst f2
    dsimp only
    rw [Int32.ofInt_toInt, Int32.ofInt_toInt]
    exact z_R.same h (z_v.of0 h0 _)
  · split at e
    · rename_i a b e1 e2
      have b1 := z_b_ok (lo := a.1) (hi := a.2) h hx e1
      have b2 := z_b_ok (lo := b.1) (hi := b.2) h hy e2
      split at e
      · rename_i o eo
        cases e
        have r := hF a b o eo b1 b2
        exact z_new_ok h h0 r.1 r.2
      · cases e
        exact z_top_ok h (z_rng _).1 (z_rng _).2
    · cases e
def z_fand (a b : zI) : Option zI := match z_ile 0 a.1, z_ile 0 b.1 with
  | true, true => some (0, z_min a.2 b.2)
  | true, false => some (0, a.2)
  | false, true => some (0, b.2)
  | false, false => none
theorem z_fand_ok {X Y : Int32} (a b o : zI) (e : z_fand a b = some o) (hx : z_nn a X.toInt) (hy : z_nn b Y.toInt) : z_nn o (X &&& Y).toInt := by
  unfold z_nn at hx hy ⊢
  have l : 0 ≤ X.toInt → 0 ≤ (X &&& Y).toInt ∧ (X &&& Y).toInt ≤ X.toInt := fun h => by
    rw [Int32.and_comm]
    exact z_i32and h
  have r : 0 ≤ Y.toInt → 0 ≤ (X &&& Y).toInt ∧ (X &&& Y).toInt ≤ Y.toInt := fun h => z_i32and h
  unfold z_fand at e
  split at e
  · rename_i e1 e2
    have e1 := z_ile_ok e1
    have e2 := z_ile_ok e2
    cases e
    have l := l (by omega)
    have r := r (by omega)
    exact ⟨l.1, z_min_le (by omega) (by omega)⟩
  · rename_i e1 e2
    have e1 := z_ile_ok e1
    cases e
    have l := l (by omega)
    exact ⟨l.1, by dsimp only; omega⟩
  · rename_i e1 e2
    have e2 := z_ile_ok e2
    cases e
    have r := r (by omega)
    exact ⟨r.1, by dsimp only; omega⟩
  · cases e
def z_kb (h : Int) : Nat → Nat → Nat
  | 0, k => k
  | n + 1, k => match z_ile (h + 1) (Int.ofNat (2 ^ k)) with
    | true => k
    | false => z_kb h n (k + 1)
def z_fior (a b : zI) : Option zI := match z_kb (z_max a.2 b.2) 32 0 with
  | k => match (z_ile 0 a.1 && z_ile 0 b.1) && (Nat.ble k 31 && (z_ile (a.2 + 1) (Int.ofNat (2 ^ k)) && z_ile (b.2 + 1) (Int.ofNat (2 ^ k)))) with
    | true => some (0, Int.ofNat (2 ^ k) - 1)
    | false => none
theorem z_fior_ok {X Y : Int32} (a b o : zI) (e : z_fior a b = some o) (hx : z_nn a X.toInt) (hy : z_nn b Y.toInt) : z_nn o (X ||| Y).toInt := by
  unfold z_nn at hx hy ⊢
  unfold z_fior at e
  dsimp only at e
  generalize z_kb (z_max a.2 b.2) 32 0 = k at e
  split at e
  · rename_i et
    have e1 := z_ile_ok (z_and (z_and et).1).1
    have e2 := z_ile_ok (z_and (z_and et).1).2
    have e3 := Nat.le_of_ble_eq_true (z_and (z_and et).2).1
    have e4 := z_ile_ok (z_and (z_and (z_and et).2).2).1
    have e5 := z_ile_ok (z_and (z_and (z_and et).2).2).2
    cases e
    exact z_i32or (by omega) (by omega) e3 (by omega) (by omega)
  · cases e
def z_fshl (a b : zI) : Option zI := match (z_ile 0 a.1 && z_ile 0 b.1) && (z_ile b.2 31 && z_ile (a.2 * Int.ofNat (2 ^ b.2.toNat)) 2147483647) with
  | true => some (a.1 * Int.ofNat (2 ^ b.1.toNat), a.2 * Int.ofNat (2 ^ b.2.toNat))
  | false => none
theorem z_pw {m n : Nat} (h : m ≤ n) : Int.ofNat (2 ^ m) ≤ Int.ofNat (2 ^ n) := Int.ofNat_le.mpr (Nat.pow_le_pow_right (by decide) h)
theorem z_pw0 (m : Nat) : 0 ≤ Int.ofNat (2 ^ m) := Int.natCast_nonneg _
theorem z_fshl_ok {X Y : Int32} (a b o : zI) (e : z_fshl a b = some o) (hx : z_nn a X.toInt) (hy : z_nn b Y.toInt) : z_nn o (X <<< (Y &&& 31)).toInt := by
  unfold z_nn at hx hy ⊢
  unfold z_fshl at e
  split at e
  · rename_i et
    have e1 := z_ile_ok (z_and (z_and et).1).1
    have e2 := z_ile_ok (z_and (z_and et).1).2
    have e3 := z_ile_ok (z_and (z_and et).2).1
    have e4 := z_ile_ok (z_and (z_and et).2).2
    cases e
    have u : X.toInt * Int.ofNat (2 ^ Y.toInt.toNat) ≤ a.2 * Int.ofNat (2 ^ b.2.toNat) := Int.mul_le_mul hx.2 (z_pw (by omega)) (z_pw0 _) (by omega)
    have w : a.1 * Int.ofNat (2 ^ b.1.toNat) ≤ X.toInt * Int.ofNat (2 ^ Y.toInt.toNat) := Int.mul_le_mul hx.1 (z_pw (by omega)) (z_pw0 _) (by omega)
    rw [z_i32shl (by omega) (by omega) (by omega) (by omega)]
    exact ⟨w, u⟩
  · cases e
def z_fshr (a b : zI) : Option zI := match z_ile 0 b.1 && z_ile b.2 31 with
  | true => match z_ieq b.1 b.2, z_ile 0 a.1 with
    | true, _ => some (a.1 / Int.ofNat (2 ^ b.1.toNat), a.2 / Int.ofNat (2 ^ b.1.toNat))
    | false, true => some (0, a.2)
    | false, false => none
  | false => none
theorem z_pw1 (m : Nat) : 0 < Int.ofNat (2 ^ m) := Int.ofNat_lt.mpr (Nat.two_pow_pos m)
theorem z_fshr_ok {X Y : Int32} (a b o : zI) (e : z_fshr a b = some o) (hx : z_nn a X.toInt) (hy : z_nn b Y.toInt) : z_nn o (X >>> (Y &&& 31)).toInt := by
  unfold z_nn at hx hy ⊢
  unfold z_fshr at e
  split at e
  · rename_i et
    have e1 := z_ile_ok (z_and et).1
    have e2 := z_ile_ok (z_and et).2
    rw [z_i32shr (by omega) (by omega)]
    split at e
    · rename_i eq
      have eq := z_ieq_ok eq
      cases e
      have eY : Y.toInt = b.1 := by omega
      rw [eY]
      exact ⟨Int.ediv_le_ediv (z_pw1 _) hx.1, Int.ediv_le_ediv (z_pw1 _) hx.2⟩
    · rename_i ea
      have ea := z_ile_ok ea
      cases e
      have h0 : 0 ≤ X.toInt := by omega
      have h1 := Int.ediv_le_self (Int.ofNat (2 ^ Y.toInt.toNat)) h0
      exact ⟨Int.ediv_nonneg h0 (z_pw0 _), by dsimp only; omega⟩
    · cases e
  · cases e
