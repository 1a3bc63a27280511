/-! ===== the checker's steps: plain instructions ===== -/
noncomputable def z_K (p : Program) (l : Launch) (e : Env) (R : Room) (s : State) (m : MethodId) (args : Array Value) (below : List Frame) (meth : Method) (c : Code) (Q : State → Prop) (D : va_G) (cl : List vw_C) (tys : List (ClassId × FieldType)) (A : Nat → Prop) (H0 : Heap) (nL : Nat) (ρ0 : List Int) (ad0 : List Nat) (pc : Nat) (S : zS) : Prop :=
  ∀ (ρ : List Int) (ws : va_W) (lv : List (Nat × Value)) (st : List Value) (H : Heap) (locs : List Loc) (ls : Array Slot), z_g D cl tys A H0 nL ρ0 ad0 S ρ ws lv st H locs ls → W p l e R s m args below meth c H locs S.2.2.2.2.1 S.2.2.2.2.2 Q (F0 m pc ls st)
abbrev zQ : Type := Option (List (Nat × zS))
theorem z_F.c1 {α β : Type} {R : α → β → Prop} {a : α} {l : List α} : ∀ {k : List β}, z_F R (a :: l) k → ∃ b k', k = b :: k' ∧ R a b ∧ z_F R l k'
  | [], h => h.elim
  | b :: k', h => ⟨b, k', rfl, h.1, h.2⟩
theorem z_F.c2 {α β : Type} {R : α → β → Prop} {a a2 : α} {l : List α} : ∀ {k : List β}, z_F R (a :: a2 :: l) k → ∃ b b2 k', k = b :: b2 :: k' ∧ R a b ∧ R a2 b2 ∧ z_F R l k'
  | [], h => h.elim
  | [_], h => h.2.elim
  | b :: b2 :: k', h => ⟨b, b2, k', rfl, h.1, h.2.1, h.2.2⟩
theorem z_F.c3 {α β : Type} {R : α → β → Prop} {a a2 a3 : α} {l : List α} : ∀ {k : List β}, z_F R (a :: a2 :: a3 :: l) k → ∃ b b2 b3 k', k = b :: b2 :: b3 :: k' ∧ R a b ∧ R a2 b2 ∧ R a3 b3 ∧ z_F R l k'
  | [], h => h.elim
  | [_], h => h.2.elim
  | [_, _], h => h.2.2.elim
  | b :: b2 :: b3 :: k', h => ⟨b, b2, b3, k', rfl, h.1, h.2.1, h.2.2.1, h.2.2.2⟩
noncomputable def z_lk (lo : List (Nat × zV)) (i : Nat) : Option zV := match lo with
  | [] => none
  | (j, a) :: lo => match Nat.beq j i with
    | true => some a
    | false => z_lk lo i
theorem z_lk_ok {ρ : List Int} {ad : List Nat} {i : Nat} {a : zV} : ∀ {lo : List (Nat × zV)} {lv : List (Nat × Value)}, z_F (z_Lo ρ ad) lo lv → z_lk lo i = some a → ∃ (k : Nat) (v : Value), lv[k]? = some (i, v) ∧ z_m ρ ad a v
  | [], _, _, h => by cases h
  | (j, b) :: lo, [], hF, _ => hF.elim
  | (j, b) :: lo, q :: lv, hF, h => by
    unfold z_lk at h
    split at h
    · rename_i e
      have e := z_beq e
      subst e
      cases h
      obtain ⟨⟨h1, h2⟩, -⟩ := hF
      obtain ⟨q1, q2⟩ := q
      dsimp only at h1 h2
      subst h1
      exact ⟨0, q2, rfl, h2⟩
    · obtain ⟨k, v, h1, h2⟩ := z_lk_ok hF.2 h
      exact ⟨k + 1, v, by rw [List.getElem?_cons_succ]; exact h1, h2⟩
noncomputable def z_st1 (lo : List (Nat × zV)) (i : Nat) (a : zV) : List (Nat × zV) := (i, a) :: lo.filter (fun q => !(q.1 == i) && !(q.1 + 1 == i && q.2.1 == 1))
noncomputable def z_st2 (lo : List (Nat × zV)) (i : Nat) (a : zV) : List (Nat × zV) := (i, a) :: lo.filter (fun q => !(q.1 == i) && (!(q.1 == i + 1) && !(q.1 + 1 == i && q.2.1 == 1)))
theorem z_st1_ok {ρ : List Int} {ad : List Nat} {i : Nat} {a : zV} {v : Value} {lo : List (Nat × zV)} {lv : List (Nat × Value)} (hF : z_F (z_Lo ρ ad) lo lv) (hv : z_m ρ ad a v) : z_F (z_Lo ρ ad) (z_st1 lo i a) ((i, v) :: lv.filter (fun q => !(q.1 == i) && !(q.1 + 1 == i && q.2.category == 2))) := by
  refine ⟨⟨rfl, hv⟩, z_F.filter (fun x y h => ?_) hF⟩
  obtain ⟨h1, h2⟩ := h
  rw [h1, z_m.cat h2]
theorem z_st2_ok {ρ : List Int} {ad : List Nat} {i : Nat} {a : zV} {v : Value} {lo : List (Nat × zV)} {lv : List (Nat × Value)} (hF : z_F (z_Lo ρ ad) lo lv) (hv : z_m ρ ad a v) : z_F (z_Lo ρ ad) (z_st2 lo i a) ((i, v) :: lv.filter (fun q => !(q.1 == i) && (!(q.1 == i + 1) && !(q.1 + 1 == i && q.2.category == 2)))) := by
  refine ⟨⟨rfl, hv⟩, z_F.filter (fun x y h => ?_) hF⟩
  obtain ⟨h1, h2⟩ := h
  rw [h1, z_m.cat h2]
section ZA
variable {p : Program} {l : Launch} {e : Env} {R : Room} {s : State} {m : MethodId} {args : Array Value} {below : List Frame} {meth : Method} {c : Code} {Q : State → Prop} {D : va_G} {cl : List vw_C} {tys : List (ClassId × FieldType)} {A : Nat → Prop} {H0 : Heap} {nL : Nat} {ρ0 : List Int} {ad0 : List Nat}
variable {cc : ByteArray} {pc : Nat} {ivs : zJ} {lo : List (Nat × zV)} {sk : List zV} {hp : List zC} {nc ns : Nat} {q : List (Nat × zS)}
variable {ρ : List Int} {ws : va_W} {lv : List (Nat × Value)} {st st' : List Value} {H : Heap} {locs : List Loc} {ls : Array Slot} {sk' : List zV}
theorem z_g.stk (h : z_g D cl tys A H0 nL ρ0 ad0 (ivs, lo, sk, hp, nc, ns) ρ ws lv st H locs ls) (hs : z_F (z_m ρ (z_ad ws)) sk' st') : z_g D cl tys A H0 nL ρ0 ad0 (ivs, lo, sk', hp, nc, ns) ρ ws lv st' H locs ls := by
  obtain ⟨a, b1, b3, b4, b5, b6⟩ := h
  exact ⟨a, b1, b3, hs, b5, b6⟩
theorem z_g.zero {S : zS} (h : z_g D cl tys A H0 nL ρ0 ad0 S ρ ws lv st H locs ls) : ρ[0]? = some 0 := h.1.2.2
theorem z_g.xiv (h : z_g D cl tys A H0 nL ρ0 ad0 (ivs, lo, sk, hp, nc, ns) ρ ws lv st H locs ls) : z_iv ivs ρ := h.2.1
theorem z_g.xlo (h : z_g D cl tys A H0 nL ρ0 ad0 (ivs, lo, sk, hp, nc, ns) ρ ws lv st H locs ls) : z_F (z_Lo ρ (z_ad ws)) lo lv := h.2.2.1
theorem z_g.xsk (h : z_g D cl tys A H0 nL ρ0 ad0 (ivs, lo, sk, hp, nc, ns) ρ ws lv st H locs ls) : z_F (z_m ρ (z_ad ws)) sk st := h.2.2.2.1
theorem z_g.xhp (h : z_g D cl tys A H0 nL ρ0 ad0 (ivs, lo, sk, hp, nc, ns) ρ ws lv st H locs ls) : z_F (z_H tys ρ (z_ad ws)) hp ws := h.2.2.2.2.1
theorem z_g.xP {S : zS} (h : z_g D cl tys A H0 nL ρ0 ad0 S ρ ws lv st H locs ls) : va_P D cl ws H := h.2.2.2.2.2.1
theorem z_g.xD {S : zS} (h : z_g D cl tys A H0 nL ρ0 ad0 S ρ ws lv st H locs ls) : va_D A ws := h.2.2.2.2.2.2.1
theorem z_g.xS {S : zS} (h : z_g D cl tys A H0 nL ρ0 ad0 S ρ ws lv st H locs ls) : va_S A H0 H locs := h.2.2.2.2.2.2.2.1
theorem z_g.xL {S : zS} (h : z_g D cl tys A H0 nL ρ0 ad0 S ρ ws lv st H locs ls) : lv_has ls nL lv := h.2.2.2.2.2.2.2.2
theorem z_g.loc {lo' : List (Nat × zV)} {lv' : List (Nat × Value)} {ls' : Array Slot} (h : z_g D cl tys A H0 nL ρ0 ad0 (ivs, lo, sk, hp, nc, ns) ρ ws lv st H locs ls) (hs : z_F (z_Lo ρ (z_ad ws)) lo' lv') (hl : lv_has ls' nL lv') : z_g D cl tys A H0 nL ρ0 ad0 (ivs, lo', sk, hp, nc, ns) ρ ws lv' st H locs ls' := by
  obtain ⟨a, b1, b3, b4, b5, b6, b7, b8, b9⟩ := h
  exact ⟨a, b1, hs, b4, b5, b6, b7, b8, hl⟩
/-- constants -/
noncomputable def z_psh (a : zV) (pc : Nat) (ivs : zJ) (lo : List (Nat × zV)) (sk : List zV) (hp : List zC) (nc ns : Nat) : zQ := some [(pc, (ivs, lo, a :: sk, hp, nc, ns))]
theorem zs_psh {a : zV} {n : Nat} {v : Value} (hv : ∀ ρ : List Int, ρ[0]? = some 0 → ∀ ad, z_m ρ ad a v) (row : ∀ (H : Heap) (locs : List Loc) (ls : Array Slot) (rest : List Value), W p l e R s m args below meth c H locs nc ns Q (F0 m n ls (v :: rest)) → W p l e R s m args below meth c H locs nc ns Q (F0 m pc ls rest))
    (h : z_psh a n ivs lo sk hp nc ns = some q) (k : ∀ z ∈ q, z_K p l e R s m args below meth c Q D cl tys A H0 nL ρ0 ad0 z.1 z.2) : z_K p l e R s m args below meth c Q D cl tys A H0 nL ρ0 ad0 pc (ivs, lo, sk, hp, nc, ns) := by
  cases h
  intro ρ ws lv st H locs ls hg
  exact row H locs ls st (k _ (List.mem_singleton.mpr rfl) ρ ws lv (v :: st) H locs ls (hg.stk ⟨hv ρ hg.zero _, hg.xsk⟩))
/-- a local's value -/
noncomputable def z_ld (t : Nat) (i : Nat) (pc : Nat) (ivs : zJ) (lo : List (Nat × zV)) (sk : List zV) (hp : List zC) (nc ns : Nat) : zQ := match z_lk lo i with
  | some a => match Nat.beq a.1 t with
    | true => some [(pc, (ivs, lo, a :: sk, hp, nc, ns))]
    | false => none
  | none => none
theorem zs_ld {t i n : Nat} (row : ∀ (H : Heap) (locs : List Loc) (ls : Array Slot) (rest : List Value) (v : Value), (∃ ρ ad x y, z_m ρ ad (t, x, y) v) → ls[i]? = some (.val v) → W p l e R s m args below meth c H locs nc ns Q (F0 m n ls (v :: rest)) → W p l e R s m args below meth c H locs nc ns Q (F0 m pc ls rest))
    (h : z_ld t i n ivs lo sk hp nc ns = some q) (k : ∀ z ∈ q, z_K p l e R s m args below meth c Q D cl tys A H0 nL ρ0 ad0 z.1 z.2) : z_K p l e R s m args below meth c Q D cl tys A H0 nL ρ0 ad0 pc (ivs, lo, sk, hp, nc, ns) := by
  unfold z_ld at h
  split at h
  · rename_i a ea
    split at h
    · rename_i et
      have et := z_beq et
      cases h
      intro ρ ws lv st H locs ls hg
      obtain ⟨kk, v, h1, h2⟩ := z_lk_ok hg.xlo ea
      refine row H locs ls st v ?_ (lv_at hg.xL kk h1) (k _ (List.mem_singleton.mpr rfl) ρ ws lv (v :: st) H locs ls (hg.stk ⟨h2, hg.xsk⟩))
      subst et
      exact ⟨ρ, _, a.2.1, a.2.2, h2⟩
    · cases h
  · cases h
/-- a store of one word -/
noncomputable def z_sto (t : Nat) (nL : Nat) (i : Nat) (pc : Nat) (ivs : zJ) (lo : List (Nat × zV)) (sk : List zV) (hp : List zC) (nc ns : Nat) : zQ := match sk with
  | a :: sk => match Nat.beq a.1 t && Nat.ble (i + 1) nL with
    | true => some [(pc, (ivs, z_st1 lo i a, sk, hp, nc, ns))]
    | false => none
  | [] => none
theorem zs_sto {t i n : Nat} (row : ∀ (H : Heap) (locs : List Loc) (ls : Array Slot) (rest : List Value) (v : Value) (lv : List (Nat × Value)), (∃ ρ ad x y, z_m ρ ad (t, x, y) v) → lv_has ls nL lv → i < nL → (∀ ls' : Array Slot, lv_has ls' nL ((i, v) :: lv.filter (fun q => !(q.1 == i) && !(q.1 + 1 == i && q.2.category == 2))) → W p l e R s m args below meth c H locs nc ns Q (F0 m n ls' rest)) → W p l e R s m args below meth c H locs nc ns Q (F0 m pc ls (v :: rest)))
    (h : z_sto t nL i n ivs lo sk hp nc ns = some q) (k : ∀ z ∈ q, z_K p l e R s m args below meth c Q D cl tys A H0 nL ρ0 ad0 z.1 z.2) : z_K p l e R s m args below meth c Q D cl tys A H0 nL ρ0 ad0 pc (ivs, lo, sk, hp, nc, ns) := by
  unfold z_sto at h
  split at h
  · rename_i a sk
    split at h
    · rename_i et
      have e1 := z_beq (z_and et).1
      have e2 := Nat.le_of_ble_eq_true (z_and et).2
      cases h
      intro ρ ws lv st H locs ls hg
      obtain ⟨v, st, rfl, hv, hs⟩ := hg.xsk.c1
      refine row H locs ls st v lv ?_ hg.xL e2 (fun ls' hl => k _ (List.mem_singleton.mpr rfl) ρ ws _ st H locs ls' ((hg.stk hs).loc (z_st1_ok hg.xlo hv) hl))
      subst e1
      exact ⟨ρ, _, a.2.1, a.2.2, hv⟩
    · cases h
  · cases h
/-- a store of a long -/
noncomputable def z_sto2 (nL : Nat) (i : Nat) (pc : Nat) (ivs : zJ) (lo : List (Nat × zV)) (sk : List zV) (hp : List zC) (nc ns : Nat) : zQ := match sk with
  | a :: sk => match Nat.beq a.1 1 && Nat.ble (i + 2) nL with
    | true => some [(pc, (ivs, z_st2 lo i a, sk, hp, nc, ns))]
    | false => none
  | [] => none
theorem zs_sto2 {i n : Nat} (row : ∀ (H : Heap) (locs : List Loc) (ls : Array Slot) (rest : List Value) (v : Int64) (lv : List (Nat × Value)), lv_has ls nL lv → i + 1 < nL → (∀ ls' : Array Slot, lv_has ls' nL ((i, .long v) :: lv.filter (fun q => !(q.1 == i) && (!(q.1 == i + 1) && !(q.1 + 1 == i && q.2.category == 2)))) → W p l e R s m args below meth c H locs nc ns Q (F0 m n ls' rest)) → W p l e R s m args below meth c H locs nc ns Q (F0 m pc ls (.long v :: rest)))
    (h : z_sto2 nL i n ivs lo sk hp nc ns = some q) (k : ∀ z ∈ q, z_K p l e R s m args below meth c Q D cl tys A H0 nL ρ0 ad0 z.1 z.2) : z_K p l e R s m args below meth c Q D cl tys A H0 nL ρ0 ad0 pc (ivs, lo, sk, hp, nc, ns) := by
  unfold z_sto2 at h
  split at h
  · rename_i a sk
    obtain ⟨t, x, y⟩ := a
    split at h
    · rename_i et
      have e1 : t = 1 := z_beq (z_and et).1
      have e2 := Nat.le_of_ble_eq_true (z_and et).2
      subst e1
      cases h
      intro ρ ws lv st H locs ls hg
      obtain ⟨v, st, rfl, hv, hs⟩ := hg.xsk.c1
      obtain ⟨i64, rfl, -⟩ := id hv
      exact row H locs ls st i64 lv hg.xL (by omega) (fun ls' hl => k _ (List.mem_singleton.mpr rfl) ρ ws _ st H locs ls' ((hg.stk hs).loc (z_st2_ok hg.xlo hv) hl))
    · cases h
  · cases h
/-- iinc -/
noncomputable def z_inc (nL : Nat) (i : Nat) (n : Int) (pc : Nat) (ivs : zJ) (lo : List (Nat × zV)) (sk : List zV) (hp : List zC) (nc ns : Nat) : zQ := match z_lk lo i with
  | some (0, x, c) => match Nat.ble (i + 1) nL with
    | true => match z_add 0 ivs x c 0 n with
      | some (r, ivs') => some [(pc, (ivs', z_st1 lo i r, sk, hp, nc, ns))]
      | none => none
    | false => none
  | _ => none
theorem z_m.ofR {ρ : List Int} {ad : List Nat} {out : zV × zJ} {i : Int32} {ρ' : List Int} (h1 : out.1.1 = 0) (h2 : z_v ρ' out.1.2.1 out.1.2.2 i.toInt) : z_m ρ' ad out.1 (.int i) := by
  obtain ⟨⟨t, x, y⟩, o⟩ := out
  dsimp only at h1 h2
  subst h1
  exact ⟨i, rfl, h2⟩
theorem z_m.ofRL {ρ : List Int} {ad : List Nat} {out : zV × zJ} {i : Int64} {ρ' : List Int} (h1 : out.1.1 = 1) (h2 : z_v ρ' out.1.2.1 out.1.2.2 i.toInt) : z_m ρ' ad out.1 (.long i) := by
  obtain ⟨⟨t, x, y⟩, o⟩ := out
  dsimp only at h1 h2
  subst h1
  exact ⟨i, rfl, h2⟩
theorem z_rng (x : Int32) : (z_lim 0).1 ≤ x.toInt ∧ x.toInt ≤ (z_lim 0).2 := by
  have h1 := Int32.le_toInt x
  have h2 := Int32.toInt_lt x
  show (-2147483648 : Int) ≤ _ ∧ _ ≤ (2147483647 : Int)
  omega
theorem z_rngL (x : Int64) : (z_lim 1).1 ≤ x.toInt ∧ x.toInt ≤ (z_lim 1).2 := by
  have h1 := Int64.le_toInt x
  have h2 := Int64.toInt_lt x
  show (-9223372036854775808 : Int) ≤ _ ∧ _ ≤ (9223372036854775807 : Int)
  omega
theorem z_bm {z : Int} (h1 : (z_lim 0).1 ≤ z) (h2 : z ≤ (z_lim 0).2) : z.bmod (2 ^ 32) = z := by
  have h1 : (-2147483648 : Int) ≤ z := h1
  have h2 : z ≤ (2147483647 : Int) := h2
  rw [Int.bmod_eq_of_le (by omega) (by omega)]
theorem z_bmL {z : Int} (h1 : (z_lim 1).1 ≤ z) (h2 : z ≤ (z_lim 1).2) : z.bmod (2 ^ 64) = z := by
  have h1 : (-9223372036854775808 : Int) ≤ z := h1
  have h2 : z ≤ (9223372036854775807 : Int) := h2
  rw [Int.bmod_eq_of_le (by omega) (by omega)]
theorem zs_inc {i n : Nat} {d : Int} (hd : (z_lim 0).1 ≤ d ∧ d ≤ (z_lim 0).2) (row : ∀ (H : Heap) (locs : List Loc) (ls : Array Slot) (rest : List Value) (x : Int32) (kk : Nat) (lv : List (Nat × Value)), lv_has ls nL lv → lv[kk]? = some (i, .int x) → i < nL → (∀ ls' : Array Slot, lv_has ls' nL ((i, .int (x + Int32.ofInt d)) :: lv.filter (fun q => !(q.1 == i) && !(q.1 + 1 == i && q.2.category == 2))) → W p l e R s m args below meth c H locs nc ns Q (F0 m n ls' rest)) → W p l e R s m args below meth c H locs nc ns Q (F0 m pc ls rest))
    (h : z_inc nL i d n ivs lo sk hp nc ns = some q) (k : ∀ z ∈ q, z_K p l e R s m args below meth c Q D cl tys A H0 nL ρ0 ad0 z.1 z.2) : z_K p l e R s m args below meth c Q D cl tys A H0 nL ρ0 ad0 pc (ivs, lo, sk, hp, nc, ns) := by
  unfold z_inc at h
  split at h
  · rename_i x y ea
    split at h
    · rename_i et
      have e2 := Nat.le_of_ble_eq_true et
      split at h
      · rename_i r ivs' er
        cases h
        intro ρ ws lv st H locs ls hg
        obtain ⟨kk, v, h1, h2⟩ := z_lk_ok hg.xlo ea
        obtain ⟨i32, rfl, hv⟩ := h2
        have ed : (Int32.ofInt d).toInt = d := by rw [Int32.toInt_ofInt, z_bm hd.1 hd.2]
        obtain ⟨r1, ρ', g1, g2, g3⟩ := z_add_ok (r := (i32 + Int32.ofInt d).toInt) hg.xiv hg.zero hv (z_v.of0 hg.zero d) (fun a b => by rw [Int32.toInt_add, ed, z_bm a b]) (z_rng _) er
        have hg' := hg.more g1 g2
        exact row H locs ls st i32 kk lv hg.xL h1 e2 (fun ls' hl => k _ (List.mem_singleton.mpr rfl) ρ' ws _ st H locs ls' (hg'.loc (z_st1_ok hg'.xlo (z_m.ofR (ρ := ρ) (out := (r, ivs')) r1 g3)) hl))
      · cases h
    · cases h
  · cases h
/-- two ints, one int -/
noncomputable def z_bin (t : Nat) (op : zJ → Nat → Int → Nat → Int → Option (zV × zJ)) (pc : Nat) (ivs : zJ) (lo : List (Nat × zV)) (sk : List zV) (hp : List zC) (nc ns : Nat) : zQ := match sk with
  | (t2, y, d) :: (t1, x, c) :: sk => match Nat.beq t1 t && Nat.beq t2 t with
    | true => match op ivs x c y d with
      | some (r, ivs') => some [(pc, (ivs', lo, r :: sk, hp, nc, ns))]
      | none => none
    | false => none
  | _ => none
theorem zs_bin {n : Nat} {op : zJ → Nat → Int → Nat → Int → Option (zV × zJ)} {f : Int32 → Int32 → Int32} {G : Int32 → Prop}
    (hop : ∀ (ivs : zJ) (ρ : List Int) (x : Nat) (c : Int) (y : Nat) (d : Int) (X Y : Int32) (out : zV × zJ), z_iv ivs ρ → ρ[0]? = some 0 → z_v ρ x c X.toInt → z_v ρ y d Y.toInt → op ivs x c y d = some out → G Y ∧ z_R 0 ρ out (f X Y).toInt)
    (row : ∀ (H : Heap) (locs : List Loc) (ls : Array Slot) (rest : List Value) (x y : Int32), G y → W p l e R s m args below meth c H locs nc ns Q (F0 m n ls (.int (f x y) :: rest)) → W p l e R s m args below meth c H locs nc ns Q (F0 m pc ls (.int y :: .int x :: rest)))
    (h : z_bin 0 op n ivs lo sk hp nc ns = some q) (k : ∀ z ∈ q, z_K p l e R s m args below meth c Q D cl tys A H0 nL ρ0 ad0 z.1 z.2) : z_K p l e R s m args below meth c Q D cl tys A H0 nL ρ0 ad0 pc (ivs, lo, sk, hp, nc, ns) := by
  unfold z_bin at h
  split at h
  · rename_i t2 y d t1 x c0 sk
    split at h
    · rename_i et
      have e1 := z_beq (z_and et).1
      have e2 := z_beq (z_and et).2
      subst e1
      subst e2
      split at h
      · rename_i r ivs' er
        cases h
        intro ρ ws lv st H locs ls hg
        obtain ⟨v2, v1, st, rfl, hv2, hv1, hs⟩ := hg.xsk.c2
        obtain ⟨Y, rfl, hY⟩ := hv2
        obtain ⟨X, rfl, hX⟩ := hv1
        obtain ⟨hG, r1, ρ', g1, g2, g3⟩ := hop ivs ρ x c0 y d X Y _ hg.xiv hg.zero hX hY er
        have hg' := (hg.stk hs).more g1 g2
        exact row H locs ls st X Y hG (k _ (List.mem_singleton.mpr rfl) ρ' ws lv _ H locs ls (hg'.stk ⟨z_m.ofR (ρ := ρ) (out := (r, ivs')) r1 g3, hg'.xsk⟩))
      · cases h
    · cases h
  · cases h
/-- two longs, one long -/
theorem zs_binL {n : Nat} {op : zJ → Nat → Int → Nat → Int → Option (zV × zJ)} {f : Int64 → Int64 → Int64} {G : Int64 → Prop}
    (hop : ∀ (ivs : zJ) (ρ : List Int) (x : Nat) (c : Int) (y : Nat) (d : Int) (X Y : Int64) (out : zV × zJ), z_iv ivs ρ → ρ[0]? = some 0 → z_v ρ x c X.toInt → z_v ρ y d Y.toInt → op ivs x c y d = some out → G Y ∧ z_R 1 ρ out (f X Y).toInt)
    (row : ∀ (H : Heap) (locs : List Loc) (ls : Array Slot) (rest : List Value) (x y : Int64), G y → W p l e R s m args below meth c H locs nc ns Q (F0 m n ls (.long (f x y) :: rest)) → W p l e R s m args below meth c H locs nc ns Q (F0 m pc ls (.long y :: .long x :: rest)))
    (h : z_bin 1 op n ivs lo sk hp nc ns = some q) (k : ∀ z ∈ q, z_K p l e R s m args below meth c Q D cl tys A H0 nL ρ0 ad0 z.1 z.2) : z_K p l e R s m args below meth c Q D cl tys A H0 nL ρ0 ad0 pc (ivs, lo, sk, hp, nc, ns) := by
  unfold z_bin at h
  split at h
  · rename_i t2 y d t1 x c0 sk
    split at h
    · rename_i et
      have e1 := z_beq (z_and et).1
      have e2 := z_beq (z_and et).2
      subst e1
      subst e2
      split at h
      · rename_i r ivs' er
        cases h
        intro ρ ws lv st H locs ls hg
        obtain ⟨v2, v1, st, rfl, hv2, hv1, hs⟩ := hg.xsk.c2
        obtain ⟨Y, rfl, hY⟩ := hv2
        obtain ⟨X, rfl, hX⟩ := hv1
        obtain ⟨hG, r1, ρ', g1, g2, g3⟩ := hop ivs ρ x c0 y d X Y _ hg.xiv hg.zero hX hY er
        have hg' := (hg.stk hs).more g1 g2
        exact row H locs ls st X Y hG (k _ (List.mem_singleton.mpr rfl) ρ' ws lv _ H locs ls (hg'.stk ⟨z_m.ofRL (ρ := ρ) (out := (r, ivs')) r1 g3, hg'.xsk⟩))
      · cases h
    · cases h
  · cases h
/-- one number, one number -/
noncomputable def z_un (t t' : Nat) (op : zJ → Nat → Int → Option (zV × zJ)) (pc : Nat) (ivs : zJ) (lo : List (Nat × zV)) (sk : List zV) (hp : List zC) (nc ns : Nat) : zQ := match sk with
  | (t1, x, c) :: sk => match Nat.beq t1 t with
    | true => match op ivs x c with
      | some (r, ivs') => match Nat.beq r.1 t' with
        | true => some [(pc, (ivs', lo, r :: sk, hp, nc, ns))]
        | false => none
      | none => none
    | false => none
  | _ => none
/-- what a number is, of its kind -/
noncomputable def z_nv (t : Nat) (v : Value) (z : Int) : Prop := match t with
  | 0 => ∃ i : Int32, v = .int i ∧ i.toInt = z
  | 1 => ∃ i : Int64, v = .long i ∧ i.toInt = z
  | _ => False
theorem z_m.nv {ρ : List Int} {ad : List Nat} {t x : Nat} {c z : Int} {v : Value} (h : z_nv t v z) (hv : z_v ρ x c z) : z_m ρ ad (t, x, c) v := by
  unfold z_nv at h
  split at h
  · obtain ⟨i, rfl, rfl⟩ := h
    exact ⟨i, rfl, hv⟩
  · obtain ⟨i, rfl, rfl⟩ := h
    exact ⟨i, rfl, hv⟩
  · exact h.elim
theorem z_m.num {ρ : List Int} {ad : List Nat} {t x : Nat} {c : Int} {v : Value} (ht : t < 2) (h : z_m ρ ad (t, x, c) v) : ∃ z, z_nv t v z ∧ z_v ρ x c z := by
  match t, ht, h with
  | 0, _, h =>
    obtain ⟨i, rfl, hv⟩ := h
    exact ⟨_, ⟨i, rfl, rfl⟩, hv⟩
  | 1, _, h =>
    obtain ⟨i, rfl, hv⟩ := h
    exact ⟨_, ⟨i, rfl, rfl⟩, hv⟩
theorem zs_un {n t t' : Nat} {op : zJ → Nat → Int → Option (zV × zJ)} (ht : t < 2)
    (hop : ∀ (ivs : zJ) (ρ : List Int) (x : Nat) (cx : Int) (v : Value) (z : Int) (out : zV × zJ), z_iv ivs ρ → ρ[0]? = some 0 → z_v ρ x cx z → z_nv t v z → op ivs x cx = some out → ∃ (v' : Value) (z' : Int), z_nv t' v' z' ∧ z_R out.1.1 ρ out z' ∧
      ∀ (H : Heap) (locs : List Loc) (ls : Array Slot) (rest : List Value), W p l e R s m args below meth c H locs nc ns Q (F0 m n ls (v' :: rest)) → W p l e R s m args below meth c H locs nc ns Q (F0 m pc ls (v :: rest)))
    (h : z_un t t' op n ivs lo sk hp nc ns = some q) (k : ∀ z ∈ q, z_K p l e R s m args below meth c Q D cl tys A H0 nL ρ0 ad0 z.1 z.2) : z_K p l e R s m args below meth c Q D cl tys A H0 nL ρ0 ad0 pc (ivs, lo, sk, hp, nc, ns) := by
  unfold z_un at h
  split at h
  · rename_i t1 x c1 sk
    split at h
    · rename_i et
      have e1 := z_beq et
      subst e1
      split at h
      · rename_i r ivs' er
        split at h
        · rename_i er1
          have er1 := z_beq er1
          cases h
          intro ρ ws lv st H locs ls hg
          obtain ⟨v1, st, rfl, hv1, hs⟩ := hg.xsk.c1
          obtain ⟨z, hz1, hz2⟩ := hv1.num ht
          obtain ⟨v', z', hn, ⟨-, ρ', g1, g2, g3⟩, row⟩ := hop ivs ρ x c1 v1 z _ hg.xiv hg.zero hz2 hz1 er
          have hg' := (hg.stk hs).more g1 g2
          refine row H locs ls st (k _ (List.mem_singleton.mpr rfl) ρ' ws lv _ H locs ls (hg'.stk ⟨?_, hg'.xsk⟩))
          obtain ⟨r1, r2, r3⟩ := r
          dsimp only at er1 g3
          subst er1
          exact z_m.nv hn g3
        · cases h
      · cases h
    · cases h
  · cases h
/-- branches on two ints -/
noncomputable def z_go (ps : List zJ) (pc : Nat) (lo : List (Nat × zV)) (sk : List zV) (hp : List zC) (nc ns : Nat) : List (Nat × zS) := ps.map (fun i => (pc, (i, lo, sk, hp, nc, ns)))
noncomputable def z_br2 (t : Nat) (both : Bool) (cd : Jvm.ClassFile.Cond) (tgt nx : Nat) (ivs : zJ) (lo : List (Nat × zV)) (sk : List zV) (hp : List zC) (nc ns : Nat) : zQ := match sk with
  | (t2, y, d) :: (t1, x, c) :: sk => match Nat.beq t1 t && Nat.beq t2 t with
    | true => some (z_go (z_asm both cd ivs x c y d) tgt lo sk hp nc ns ++ z_go (z_asm both (z_neg cd) ivs x c y d) nx lo sk hp nc ns)
    | false => none
  | _ => none
noncomputable def z_br1 (cd : Jvm.ClassFile.Cond) (tgt nx : Nat) (ivs : zJ) (lo : List (Nat × zV)) (sk : List zV) (hp : List zC) (nc ns : Nat) : zQ := match sk with
  | (t1, x, c) :: sk => match Nat.beq t1 0 with
    | true => some (z_go (z_asm true cd ivs x c 0 0) tgt lo sk hp nc ns ++ z_go (z_asm true (z_neg cd) ivs x c 0 0) nx lo sk hp nc ns)
    | false => none
  | _ => none
/-- what two ways give -/
theorem z_two {both : Bool} {cd : Jvm.ClassFile.Cond} {tgt nx x y : Nat} {c0 d X Y : Int} {w : List Value} (hg : z_g D cl tys A H0 nL ρ0 ad0 (ivs, lo, sk, hp, nc, ns) ρ ws lv w H locs ls) (hX : z_v ρ x c0 X) (hY : z_v ρ y d Y)
    (k : ∀ z ∈ z_go (z_asm both cd ivs x c0 y d) tgt lo sk hp nc ns ++ z_go (z_asm both (z_neg cd) ivs x c0 y d) nx lo sk hp nc ns, z_K p l e R s m args below meth c Q D cl tys A H0 nL ρ0 ad0 z.1 z.2) :
    (z_hd cd X Y → W p l e R s m args below meth c H locs nc ns Q (F0 m tgt ls w)) ∧ (z_hd (z_neg cd) X Y → W p l e R s m args below meth c H locs nc ns Q (F0 m nx ls w)) := by
  refine ⟨fun h => ?_, fun h => ?_⟩
  · obtain ⟨i, h1, h2⟩ := z_asm_ok (both := both) hg.xiv hX hY h
    exact k (tgt, (i, lo, sk, hp, nc, ns)) (List.mem_append_left _ (List.mem_map.mpr ⟨i, h1, rfl⟩)) ρ ws lv w H locs ls (hg.more (List.prefix_refl _) h2)
  · obtain ⟨i, h1, h2⟩ := z_asm_ok (both := both) hg.xiv hX hY h
    exact k (nx, (i, lo, sk, hp, nc, ns)) (List.mem_append_right _ (List.mem_map.mpr ⟨i, h1, rfl⟩)) ρ ws lv w H locs ls (hg.more (List.prefix_refl _) h2)
theorem zs_br2 {cd : Jvm.ClassFile.Cond} {tgt nx : Nat}
    (row : ∀ (H : Heap) (locs : List Loc) (ls : Array Slot) (rest : List Value) (x y : Int32), (z_hd cd x.toInt y.toInt → W p l e R s m args below meth c H locs nc ns Q (F0 m tgt ls rest)) → (z_hd (z_neg cd) x.toInt y.toInt → W p l e R s m args below meth c H locs nc ns Q (F0 m nx ls rest)) → W p l e R s m args below meth c H locs nc ns Q (F0 m pc ls (.int y :: .int x :: rest)))
    (h : z_br2 0 true cd tgt nx ivs lo sk hp nc ns = some q) (k : ∀ z ∈ q, z_K p l e R s m args below meth c Q D cl tys A H0 nL ρ0 ad0 z.1 z.2) : z_K p l e R s m args below meth c Q D cl tys A H0 nL ρ0 ad0 pc (ivs, lo, sk, hp, nc, ns) := by
  unfold z_br2 at h
  split at h
  · rename_i t2 y d t1 x c0 sk
    split at h
    · rename_i et
      have e1 := z_beq (z_and et).1
      have e2 := z_beq (z_and et).2
      subst e1
      subst e2
      cases h
      intro ρ ws lv st H locs ls hg
      obtain ⟨v2, v1, st, rfl, hv2, hv1, hs⟩ := hg.xsk.c2
      obtain ⟨Y, rfl, hY⟩ := hv2
      obtain ⟨X, rfl, hX⟩ := hv1
      have t := z_two (hg.stk hs) hX hY k
      exact row H locs ls st X Y t.1 t.2
    · cases h
  · cases h
theorem zs_br2L {cd : Jvm.ClassFile.Cond} {tgt nx : Nat}
    (row : ∀ (H : Heap) (locs : List Loc) (ls : Array Slot) (rest : List Value) (x y : Int64), (z_hd cd x.toInt y.toInt → W p l e R s m args below meth c H locs nc ns Q (F0 m tgt ls rest)) → (z_hd (z_neg cd) x.toInt y.toInt → W p l e R s m args below meth c H locs nc ns Q (F0 m nx ls rest)) → W p l e R s m args below meth c H locs nc ns Q (F0 m pc ls (.long y :: .long x :: rest)))
    (h : z_br2 1 true cd tgt nx ivs lo sk hp nc ns = some q) (k : ∀ z ∈ q, z_K p l e R s m args below meth c Q D cl tys A H0 nL ρ0 ad0 z.1 z.2) : z_K p l e R s m args below meth c Q D cl tys A H0 nL ρ0 ad0 pc (ivs, lo, sk, hp, nc, ns) := by
  unfold z_br2 at h
  split at h
  · rename_i t2 y d t1 x c0 sk
    split at h
    · rename_i et
      have e1 := z_beq (z_and et).1
      have e2 := z_beq (z_and et).2
      subst e1
      subst e2
      cases h
      intro ρ ws lv st H locs ls hg
      obtain ⟨v2, v1, st, rfl, hv2, hv1, hs⟩ := hg.xsk.c2
      obtain ⟨Y, rfl, hY⟩ := hv2
      obtain ⟨X, rfl, hX⟩ := hv1
      have t := z_two (hg.stk hs) hX hY k
      exact row H locs ls st X Y t.1 t.2
    · cases h
  · cases h
theorem zs_br1 {cd : Jvm.ClassFile.Cond} {tgt nx : Nat}
    (row : ∀ (H : Heap) (locs : List Loc) (ls : Array Slot) (rest : List Value) (x : Int32), (z_hd cd x.toInt 0 → W p l e R s m args below meth c H locs nc ns Q (F0 m tgt ls rest)) → (z_hd (z_neg cd) x.toInt 0 → W p l e R s m args below meth c H locs nc ns Q (F0 m nx ls rest)) → W p l e R s m args below meth c H locs nc ns Q (F0 m pc ls (.int x :: rest)))
    (h : z_br1 cd tgt nx ivs lo sk hp nc ns = some q) (k : ∀ z ∈ q, z_K p l e R s m args below meth c Q D cl tys A H0 nL ρ0 ad0 z.1 z.2) : z_K p l e R s m args below meth c Q D cl tys A H0 nL ρ0 ad0 pc (ivs, lo, sk, hp, nc, ns) := by
  unfold z_br1 at h
  split at h
  · rename_i t1 x c0 sk
    split at h
    · rename_i et
      have e1 := z_beq et
      subst e1
      cases h
      intro ρ ws lv st H locs ls hg
      obtain ⟨v1, st, rfl, hv1, hs⟩ := hg.xsk.c1
      obtain ⟨X, rfl, hX⟩ := hv1
      have t := z_two (hg.stk hs) hX (z_v.of0 hg.zero 0) k
      exact row H locs ls st X t.1 t.2
    · cases h
  · cases h
end ZA
