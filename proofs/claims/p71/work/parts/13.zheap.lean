/-! ===== fields, arrays, new cells ===== -/
theorem z_ad_get {ws : va_W} {j a : Nat} {e : va_E} (h : ws[j]? = some (a, e)) : (z_ad ws)[j]? = some a := by
  unfold z_ad
  rw [List.getElem?_map, h]
  rfl
theorem z_ad_set {ws : va_W} {j a : Nat} {e e' : va_E} (h : ws[j]? = some (a, e)) : z_ad (ws.set j (a, e')) = z_ad ws := by
  unfold z_ad
  apply List.ext_getElem?
  intro i
  rw [List.getElem?_map, List.getElem?_map]
  by_cases hi : j = i
  · subst hi
    rw [List.getElem?_set_self (List.getElem?_eq_some_iff.mp h).1, h]
    rfl
  · rw [List.getElem?_set_ne hi]
theorem z_ad_app (ws ws2 : va_W) : z_ad (ws ++ ws2) = z_ad ws ++ z_ad ws2 := List.map_append ..
theorem z_cell {tys : List (ClassId × FieldType)} {ρ : List Int} {ws : va_W} {hp : List zC} {j : Nat} {o : Int} {v : Value} {cell : zC} (hH : z_F (z_H tys ρ (z_ad ws)) hp ws) (hm : z_m ρ (z_ad ws) (2, j, o) v) (hc : hp[j]? = some cell) :
    ∃ (a : Nat) (e : va_E), ws[j]? = some (a, e) ∧ v = .ref a ∧ z_c tys ρ (z_ad ws) cell e := by
  obtain ⟨⟨a, e⟩, h1, h2⟩ := hH.get hc
  obtain ⟨q, h3, h4⟩ := hm
  rw [z_ad_get h1] at h3
  cases h3
  exact ⟨a, e, h1, h4, h2⟩
def z_tyok (ty : Nat) (ivs : zJ) (a : zV) : Bool := match ty with
  | 0 => Nat.beq a.1 0
  | 1 => Nat.beq a.1 0 && (match z_b ivs a.2.1 a.2.2 with
    | some (l, h) => z_ile 0 l && z_ile h 1
    | none => false)
  | 2 => Nat.beq a.1 1
  | _ => Nat.beq a.1 2
def z_tv (ty : Nat) (v : Value) : Prop := match ty with
  | 0 => ∃ i : Int32, v = .int i
  | 1 => v = .int 0 ∨ v = .int 1
  | 2 => ∃ i : Int64, v = .long i
  | _ => ∃ a : Nat, v = .ref a
theorem z_01 {x : Int32} (h1 : 0 ≤ x.toInt) (h2 : x.toInt ≤ 1) : x = 0 ∨ x = 1 := by
  rcases (show x.toInt = 0 ∨ x.toInt = 1 by omega) with h | h
  · exact Or.inl (Int32.toInt_inj.mp (by rw [h]; rfl))
  · exact Or.inr (Int32.toInt_inj.mp (by rw [h]; rfl))
theorem z_tyok_ok {ty : Nat} {ivs : zJ} {ρ : List Int} {ad : List Nat} {a : zV} {v : Value} (hiv : z_iv ivs ρ) (hm : z_m ρ ad a v) (h : z_tyok ty ivs a = true) : z_tv ty v := by
  obtain ⟨t, x, y⟩ := a
  unfold z_tyok at h
  unfold z_tv
  split at h
  · have e : t = 0 := z_beq h
    subst e
    obtain ⟨i, rfl, -⟩ := hm
    exact ⟨i, rfl⟩
  · have e : t = 0 := z_beq (z_and h).1
    subst e
    obtain ⟨i, rfl, hv⟩ := hm
    have h2 := (z_and h).2
    split at h2
    · rename_i l u eb
      have b := z_b_ok hiv hv eb
      have b1 := z_ile_ok (z_and h2).1
      have b2 := z_ile_ok (z_and h2).2
      rcases z_01 (x := i) (by omega) (by omega) with e | e
      · exact Or.inl (by rw [e])
      · exact Or.inr (by rw [e])
    · cases h2
  · have e : t = 1 := z_beq h
    subst e
    obtain ⟨i, rfl, -⟩ := hm
    exact ⟨i, rfl⟩
  · have e : t = 2 := z_beq h
    subst e
    obtain ⟨q, -, rfl⟩ := hm
    exact ⟨q, rfl⟩
section ZB
variable {p : Program} {l : Launch} {e : Env} {R : Room} {s : State} {m : MethodId} {args : Array Value} {below : List Frame} {meth : Method} {c : Code} {Q : State → Prop} {D : va_G} {cl : List vw_C} {tys : List (ClassId × FieldType)} {A : Nat → Prop} {H0 : Heap} {nL : Nat} {ρ0 : List Int} {ad0 : List Nat}
variable {cc : ByteArray} {pc : Nat} {ivs : zJ} {lo : List (Nat × zV)} {sk : List zV} {hp : List zC} {nc ns : Nat} {q : List (Nat × zS)}
variable {ρ : List Int} {ws : va_W} {lv : List (Nat × Value)} {st st' : List Value} {H : Heap} {locs : List Loc} {ls : Array Slot} {sk' : List zV}
/-- a cell of the world has changed -/
theorem z_g.set {H1 : Heap} {locs1 : List Loc} {j a : Nat} {e0 e1 : va_E} {cell : zC} (h : z_g D cl tys A H0 nL ρ0 ad0 (ivs, lo, sk, hp, nc, ns) ρ ws lv st H locs ls) (hj : ws[j]? = some (a, e0)) (hc : z_c tys ρ (z_ad ws) cell e1) (hP : va_P D cl (ws.set j (a, e1)) H1) (hD : va_D A (ws.set j (a, e1))) (hS : va_S A H0 H1 locs1) :
    z_g D cl tys A H0 nL ρ0 ad0 (ivs, lo, sk, hp.set j cell, nc, ns) ρ (ws.set j (a, e1)) lv st H1 locs1 ls := by
  obtain ⟨⟨a1, a3, a4⟩, b1, b3, b4, b5, b6, b7, b8, b9⟩ := h
  have ead := z_ad_set (e' := e1) hj
  refine ⟨⟨a1, by rw [ead]; exact a3, a4⟩, b1, by rw [ead]; exact b3, by rw [ead]; exact b4, ?_, hP, hD, hS, b9⟩
  rw [ead]
  exact z_F.set (a := cell) (b := (a, e1)) hc b5 j
def z_gf (ci k : Nat) (pc : Nat) (ivs : zJ) (lo : List (Nat × zV)) (sk : List zV) (hp : List zC) (nc ns : Nat) : zQ := match sk with
  | (2, j, _) :: sk => match hp[j]? with
    | some (.inl (ci', fs)) => match Nat.beq ci' ci with
      | true => match fs[k]? with
        | some a => some [(pc, (ivs, lo, a :: sk, hp, nc, ns))]
        | none => none
      | false => none
    | _ => none
  | _ => none
theorem zs_gf {ci k n : Nat} (row : ∀ (ws : va_W) (H : Heap) (locs : List Loc) (ls : Array Slot) (rest : List Value) (a q0 : Nat) (vs : List Value) (v : Value), va_P D cl ws H → ws[q0]? = some (a, .inr (ci, vs)) → vs[k]? = some v → W p l e R s m args below meth c H locs nc ns Q (F0 m n ls (v :: rest)) → W p l e R s m args below meth c H locs nc ns Q (F0 m pc ls (.ref a :: rest)))
    (h : z_gf ci k n ivs lo sk hp nc ns = some q) (kk : ∀ z ∈ q, z_K p l e R s m args below meth c Q D cl tys A H0 nL ρ0 ad0 z.1 z.2) : z_K p l e R s m args below meth c Q D cl tys A H0 nL ρ0 ad0 pc (ivs, lo, sk, hp, nc, ns) := by
  unfold z_gf at h
  split at h
  · rename_i j o sk
    split at h
    · rename_i ci' fs ec
      split at h
      · rename_i ei
        have ei := z_beq ei
        subst ei
        split at h
        · rename_i a ea
          cases h
          intro ρ ws lv st H locs ls hg
          obtain ⟨v1, st, rfl, hv1, hs⟩ := hg.xsk.c1
          obtain ⟨ad, e1, h1, rfl, h2⟩ := z_cell hg.xhp hv1 ec
          obtain ⟨vs, rfl, hF⟩ := h2
          obtain ⟨v, h3, h4⟩ := hF.get ea
          exact row ws H locs ls st ad j vs v hg.xP h1 h3 (kk _ (List.mem_singleton.mpr rfl) ρ ws lv _ H locs ls (hg.stk ⟨h4, hs⟩))
        · cases h
      · cases h
    · cases h
  · cases h
def z_pf (ci k ty : Nat) (pc : Nat) (ivs : zJ) (lo : List (Nat × zV)) (sk : List zV) (hp : List zC) (nc ns : Nat) : zQ := match sk with
  | a :: (2, j, _) :: sk => match hp[j]? with
    | some (.inl (ci', fs)) => match Nat.beq ci' ci && (Nat.ble (k + 1) fs.length && z_tyok ty ivs a) with
      | true => some [(pc, (ivs, lo, sk, hp.set j (.inl (ci, fs.set k a)), nc, ns))]
      | false => none
    | _ => none
  | _ => none
theorem zs_pf {ci k ty n : Nat} (row : ∀ (ws : va_W) (H : Heap) (locs : List Loc) (ls : Array Slot) (rest : List Value) (a q0 : Nat) (vs : List Value) (v : Value), va_P D cl ws H → va_D A ws → va_S A H0 H locs → ws[q0]? = some (a, .inr (ci, vs)) → k < vs.length → z_tv ty v →
      (∀ (H1 : Heap) (locs1 : List Loc), va_P D cl (ws.set q0 (a, .inr (ci, vs.set k v))) H1 → va_D A (ws.set q0 (a, .inr (ci, vs.set k v))) → va_S A H0 H1 locs1 → W p l e R s m args below meth c H1 locs1 nc ns Q (F0 m n ls rest)) → W p l e R s m args below meth c H locs nc ns Q (F0 m pc ls (v :: .ref a :: rest)))
    (h : z_pf ci k ty n ivs lo sk hp nc ns = some q) (kk : ∀ z ∈ q, z_K p l e R s m args below meth c Q D cl tys A H0 nL ρ0 ad0 z.1 z.2) : z_K p l e R s m args below meth c Q D cl tys A H0 nL ρ0 ad0 pc (ivs, lo, sk, hp, nc, ns) := by
  unfold z_pf at h
  split at h
  · rename_i a j o sk
    split at h
    · rename_i ci' fs ec
      split at h
      · rename_i et
        have ei := z_beq (z_and et).1
        have el := Nat.le_of_ble_eq_true (z_and (z_and et).2).1
        have ey := (z_and (z_and et).2).2
        subst ei
        cases h
        intro ρ ws lv st H locs ls hg
        obtain ⟨v, v1, st, rfl, hv, hv1, hs⟩ := hg.xsk.c2
        obtain ⟨ad, e1, h1, rfl, h2⟩ := z_cell hg.xhp hv1 ec
        obtain ⟨vs, rfl, hF⟩ := h2
        refine row ws H locs ls st ad j vs v hg.xP hg.xD hg.xS h1 (by rw [← hF.len]; exact el) (z_tyok_ok hg.xiv hv ey) (fun H1 locs1 hP hD hS => ?_)
        have hc : z_c tys ρ (z_ad ws) (.inl (ci', fs.set k a)) (.inr (ci', vs.set k v)) := ⟨_, rfl, z_F.set hv hF k⟩
        have hg' := (hg.stk hs).set h1 hc hP hD hS
        exact kk _ (List.mem_singleton.mpr rfl) ρ _ lv st H1 locs1 ls hg'
      · cases h
    · cases h
  · cases h
/-- an index that is in its row -/
def z_ix (ivs : zJ) (x : Nat) (c : Int) (n : Nat) : Bool := match z_b ivs x c with
  | some (l, h) => z_ile 0 l && z_ile (h + 1) (Int.ofNat n)
  | none => false
theorem z_ix_ok {ivs : zJ} {ρ : List Int} {x n : Nat} {c0 : Int} {i : Int32} (hiv : z_iv ivs ρ) (hv : z_v ρ x c0 i.toInt) (h : z_ix ivs x c0 n = true) : vp_in i n ∧ i.toNatClampNeg < n ∧ (i.toNatClampNeg : Int) = i.toInt := by
  unfold z_ix at h
  split at h
  · rename_i l u eb
    have b := z_b_ok hiv hv eb
    have b1 := z_ile_ok (z_and h).1
    have b2 : u + 1 ≤ (n : Int) := z_ile_ok (z_and h).2
    refine ⟨vp_in_iff.mpr ⟨by omega, by omega⟩, ?_, ?_⟩
    · show i.toInt.toNat < n
      omega
    · show ((i.toInt.toNat : Nat) : Int) = i.toInt
      omega
  · cases h
/-- a number out of an array -/
def z_al (ok : Nat → Bool) (rt : Nat) (pc : Nat) (ivs : zJ) (lo : List (Nat × zV)) (sk : List zV) (hp : List zC) (nc ns : Nat) : zQ := match sk with
  | (0, x, c) :: (2, j, _) :: sk => match hp[j]? with
    | some (.inr (.inl (t, n, l, h))) => match ok t && z_ix ivs x c n with
      | true => match z_new rt l h ivs with
        | (r, ivs') => some [(pc, (ivs', lo, r :: sk, hp, nc, ns))]
      | false => none
    | some (.inr (.inr (t, es))) => match ok t && z_ix ivs x c es.length with
      | true => some ((List.range es.length).flatMap (fun k => match es[k]? with
        | some a => z_go (z_asm false .eq ivs x c 0 (Int.ofNat k)) pc lo (a :: sk) hp nc ns
        | none => []))
      | false => none
    | _ => none
  | _ => none
theorem zs_al {n : Nat} {ok : Nat → Bool} (hok : ∀ t, ok t = true → t < 3) (row : ∀ (ws : va_W) (H : Heap) (locs : List Loc) (ls : Array Slot) (rest : List Value) (a q0 t0 n0 : Nat) (cA : ClassId) (ty : FieldType) (f : Nat → Int32) (i : Int32), va_P D cl ws H → ws[q0]? = some (a, .inl (cA, n0, .inl f)) → tys[t0]? = some (cA, ty) → ok t0 = true → vp_in i n0 → W p l e R s m args below meth c H locs nc ns Q (F0 m n ls (.int (f i.toNatClampNeg) :: rest)) → W p l e R s m args below meth c H locs nc ns Q (F0 m pc ls (.int i :: .ref a :: rest)))
    (h : z_al ok 0 n ivs lo sk hp nc ns = some q) (kk : ∀ z ∈ q, z_K p l e R s m args below meth c Q D cl tys A H0 nL ρ0 ad0 z.1 z.2) : z_K p l e R s m args below meth c Q D cl tys A H0 nL ρ0 ad0 pc (ivs, lo, sk, hp, nc, ns) := by
  unfold z_al at h
  split at h
  · rename_i x c0 j o sk
    split at h
    · rename_i t n0 lb hb0 ec
      split at h
      · rename_i et
        have e1 := (z_and et).1
        have e2 := (z_and et).2
        cases h
        intro ρ ws lv st H locs ls hg
        obtain ⟨v2, v1, st, rfl, hv2, hv1, hs⟩ := hg.xsk.c2
        obtain ⟨i, rfl, hi⟩ := hv2
        obtain ⟨ad, ee, h1, rfl, h2⟩ := z_cell hg.xhp hv1 ec
        have hin := z_ix_ok hg.xiv hi e2
        obtain ⟨cA, ty, ht, ⟨-, f, rfl, hb⟩ | ⟨h3, -⟩⟩ := h2
        · have hb := hb _ hin.2.1
          obtain ⟨r1, ρ', g1, g2, g3⟩ := z_new_ok (t := 0) hg.xiv hg.zero hb.1 hb.2
          have hg' := (hg.stk hs).more g1 g2
          exact row ws H locs ls st ad j t n0 cA ty f i hg.xP h1 ht e1 hin.1 (kk _ (List.mem_singleton.mpr rfl) ρ' ws lv _ H locs ls (hg'.stk ⟨z_m.ofR (ρ := ρ) r1 g3, hg'.xsk⟩))
        · have := hok _ e1
          omega
      · cases h
    · rename_i t es ec
      split at h
      · rename_i et
        have e1 := (z_and et).1
        have e2 := (z_and et).2
        cases h
        intro ρ ws lv st H locs ls hg
        obtain ⟨v2, v1, st, rfl, hv2, hv1, hs⟩ := hg.xsk.c2
        obtain ⟨i, rfl, hi⟩ := hv2
        obtain ⟨ad, ee, h1, rfl, h2⟩ := z_cell hg.xhp hv1 ec
        have hin := z_ix_ok hg.xiv hi e2
        obtain ⟨cA, ty, ht, ⟨-, f, rfl, hb⟩ | ⟨h3, -⟩⟩ := h2
        · have ea : es[i.toNatClampNeg]? = some es[i.toNatClampNeg] := List.getElem?_eq_getElem hin.2.1
          obtain ⟨iv, h3, h4⟩ := z_asm_ok (both := false) (cd := .eq) (c := c0) (d := Int.ofNat i.toNatClampNeg) (Y := Int.ofNat i.toNatClampNeg) hg.xiv hi (z_v.of0 hg.zero _) (show i.toInt = Int.ofNat _ from hin.2.2.symm)
          refine row ws H locs ls st ad j t es.length cA ty f i hg.xP h1 ht e1 hin.1 (kk (n, (iv, lo, es[i.toNatClampNeg] :: sk, hp, nc, ns)) ?_ ρ ws lv _ H locs ls (((hg.stk hs).more (List.prefix_refl _) h4).stk ⟨hb _ _ ea, hs⟩))
          refine List.mem_flatMap.mpr ⟨i.toNatClampNeg, List.mem_range.mpr hin.2.1, ?_⟩
          rw [ea]
          exact List.mem_map.mpr ⟨iv, h3, rfl⟩
        · have := hok _ e1
          omega
      · cases h
    · cases h
  · cases h
def z_alL (pc : Nat) (ivs : zJ) (lo : List (Nat × zV)) (sk : List zV) (hp : List zC) (nc ns : Nat) : zQ := match sk with
  | (0, x, c) :: (2, j, _) :: sk => match hp[j]? with
    | some (.inr (.inl (t, n, l, h))) => match Nat.beq t 3 && z_ix ivs x c n with
      | true => match z_new 1 l h ivs with
        | (r, ivs') => some [(pc, (ivs', lo, r :: sk, hp, nc, ns))]
      | false => none
    | _ => none
  | _ => none
theorem zs_alL {n : Nat} (row : ∀ (ws : va_W) (H : Heap) (locs : List Loc) (ls : Array Slot) (rest : List Value) (a q0 n0 : Nat) (cA : ClassId) (ty : FieldType) (f : Nat → Int64) (i : Int32), va_P D cl ws H → ws[q0]? = some (a, .inl (cA, n0, .inr (.inl f))) → tys[3]? = some (cA, ty) → vp_in i n0 → W p l e R s m args below meth c H locs nc ns Q (F0 m n ls (.long (f i.toNatClampNeg) :: rest)) → W p l e R s m args below meth c H locs nc ns Q (F0 m pc ls (.int i :: .ref a :: rest)))
    (h : z_alL n ivs lo sk hp nc ns = some q) (kk : ∀ z ∈ q, z_K p l e R s m args below meth c Q D cl tys A H0 nL ρ0 ad0 z.1 z.2) : z_K p l e R s m args below meth c Q D cl tys A H0 nL ρ0 ad0 pc (ivs, lo, sk, hp, nc, ns) := by
  unfold z_alL at h
  split at h
  · rename_i x c0 j o sk
    split at h
    · rename_i t n0 lb hb0 ec
      split at h
      · rename_i et
        have e1 : t = 3 := z_beq (z_and et).1
        have e2 := (z_and et).2
        cases h
        intro ρ ws lv st H locs ls hg
        obtain ⟨v2, v1, st, rfl, hv2, hv1, hs⟩ := hg.xsk.c2
        obtain ⟨i, rfl, hi⟩ := hv2
        obtain ⟨ad, ee, h1, rfl, h2⟩ := z_cell hg.xhp hv1 ec
        have hin := z_ix_ok hg.xiv hi e2
        obtain ⟨cA, ty, ht, ⟨h3, -⟩ | ⟨-, f, rfl, hb⟩⟩ := h2
        · omega
        · have hb := hb _ hin.2.1
          subst e1
          obtain ⟨r1, ρ', g1, g2, g3⟩ := z_new_ok (t := 1) hg.xiv hg.zero hb.1 hb.2
          have hg' := (hg.stk hs).more g1 g2
          exact row ws H locs ls st ad j n0 cA ty f i hg.xP h1 ht hin.1 (kk _ (List.mem_singleton.mpr rfl) ρ' ws lv _ H locs ls (hg'.stk ⟨z_m.ofRL (ρ := ρ) r1 g3, hg'.xsk⟩))
      · cases h
    · cases h
  · cases h
/-- a number into an array: bounds that the row's kind asks for -/
def z_as (ok : Nat → Int → Int → Bool) (pc : Nat) (ivs : zJ) (lo : List (Nat × zV)) (sk : List zV) (hp : List zC) (nc ns : Nat) : zQ := match sk with
  | (0, y, d) :: (0, x, c) :: (2, j, _) :: sk => match z_b ivs y d with
    | some (vl, vh) => match hp[j]? with
      | some (.inr (.inl (t, n, l, h))) => match ok t vl vh && z_ix ivs x c n with
        | true => some [(pc, (ivs, lo, sk, hp.set j (.inr (.inl (t, n, z_min l vl, z_max h vh))), nc, ns))]
        | false => none
      | some (.inr (.inr (t, es))) => match ok t vl vh && z_ix ivs x c es.length with
        | true => some ((List.range es.length).flatMap (fun k => z_go (z_asm false .eq ivs x c 0 (Int.ofNat k)) pc lo sk (hp.set j (.inr (.inr (t, es.set k (0, y, d))))) nc ns))
        | false => none
      | _ => none
    | none => none
  | _ => none
theorem z_last {α : Type} {l : List α} {n : Nat} (a : α) (h : l.length = n) : (l ++ [a])[n]? = some a := by
  rw [← h, List.getElem?_append_right (Nat.le_refl _), Nat.sub_self]
  rfl
theorem zs_as {n : Nat} {ok : Nat → Int → Int → Bool} (hok : ∀ t a b, ok t a b = true → t < 3) (row : ∀ (ws : va_W) (H : Heap) (locs : List Loc) (ls : Array Slot) (rest : List Value) (a q0 t0 n0 : Nat) (cA : ClassId) (ty : FieldType) (f : Nat → Int32) (i x : Int32) (vl vh : Int), va_P D cl ws H → va_D A ws → va_S A H0 H locs → ws[q0]? = some (a, .inl (cA, n0, .inl f)) → tys[t0]? = some (cA, ty) → ok t0 vl vh = true → vl ≤ x.toInt → x.toInt ≤ vh → vp_in i n0 →
      (∀ (H1 : Heap) (locs1 : List Loc), va_P D cl (ws.set q0 (a, .inl (cA, n0, .inl (upd f i.toNatClampNeg x)))) H1 → va_D A (ws.set q0 (a, .inl (cA, n0, .inl (upd f i.toNatClampNeg x)))) → va_S A H0 H1 locs1 → W p l e R s m args below meth c H1 locs1 nc ns Q (F0 m n ls rest)) → W p l e R s m args below meth c H locs nc ns Q (F0 m pc ls (.int x :: .int i :: .ref a :: rest)))
    (h : z_as ok n ivs lo sk hp nc ns = some q) (kk : ∀ z ∈ q, z_K p l e R s m args below meth c Q D cl tys A H0 nL ρ0 ad0 z.1 z.2) : z_K p l e R s m args below meth c Q D cl tys A H0 nL ρ0 ad0 pc (ivs, lo, sk, hp, nc, ns) := by
  unfold z_as at h
  split at h
  · rename_i y d x c0 j o sk
    split at h
    · rename_i vl vh eb
      split at h
      · rename_i t n0 lb hb0 ec
        split at h
        · rename_i et
          have e1 := (z_and et).1
          have e2 := (z_and et).2
          cases h
          intro ρ ws lv st H locs ls hg
          obtain ⟨v3, v2, v1, st, rfl, hv3, hv2, hv1, hs⟩ := hg.xsk.c3
          obtain ⟨X, rfl, hX⟩ := hv3
          obtain ⟨i, rfl, hi⟩ := hv2
          obtain ⟨ad, ee, h1, rfl, h2⟩ := z_cell hg.xhp hv1 ec
          have hin := z_ix_ok hg.xiv hi e2
          have hxb := z_b_ok hg.xiv hX eb
          obtain ⟨cA, ty, ht, ⟨h3, f, rfl, hb⟩ | ⟨h3, -⟩⟩ := h2
          · refine row ws H locs ls st ad j t n0 cA ty f i X vl vh hg.xP hg.xD hg.xS h1 ht e1 hxb.1 hxb.2 hin.1 (fun H1 locs1 hP hD hS => ?_)
            have hc : z_c tys ρ (z_ad ws) (.inr (.inl (t, n0, z_min lb vl, z_max hb0 vh))) (.inl (cA, n0, .inl (upd f i.toNatClampNeg X))) := by
              refine ⟨cA, ty, ht, Or.inl ⟨h3, _, rfl, fun jj hj => ?_⟩⟩
              have m1 := z_min_l lb vl
              have m2 := z_min_r lb vl
              have m3 := z_max_l hb0 vh
              have m4 := z_max_r hb0 vh
              have b := hb jj hj
              unfold upd
              split <;> omega
            exact kk _ (List.mem_singleton.mpr rfl) ρ _ lv st H1 locs1 ls ((hg.stk hs).set h1 hc hP hD hS)
          · have := hok _ _ _ e1
            omega
        · cases h
      · rename_i t es ec
        split at h
        · rename_i et
          have e1 := (z_and et).1
          have e2 := (z_and et).2
          cases h
          intro ρ ws lv st H locs ls hg
          obtain ⟨v3, v2, v1, st, rfl, hv3, hv2, hv1, hs⟩ := hg.xsk.c3
          obtain ⟨X, rfl, hX⟩ := id hv3
          obtain ⟨i, rfl, hi⟩ := hv2
          obtain ⟨ad, ee, h1, rfl, h2⟩ := z_cell hg.xhp hv1 ec
          have hin := z_ix_ok hg.xiv hi e2
          have hxb := z_b_ok hg.xiv hX eb
          obtain ⟨cA, ty, ht, ⟨h3, f, rfl, hb⟩ | ⟨h3, -⟩⟩ := h2
          · obtain ⟨iv, h5, h6⟩ := z_asm_ok (both := false) (cd := .eq) (c := c0) (d := Int.ofNat i.toNatClampNeg) (Y := Int.ofNat i.toNatClampNeg) hg.xiv hi (z_v.of0 hg.zero _) (show i.toInt = Int.ofNat _ from hin.2.2.symm)
            refine row ws H locs ls st ad j t es.length cA ty f i X vl vh hg.xP hg.xD hg.xS h1 ht e1 hxb.1 hxb.2 hin.1 (fun H1 locs1 hP hD hS => ?_)
            have hc : z_c tys ρ (z_ad ws) (.inr (.inr (t, es.set i.toNatClampNeg (0, y, d)))) (.inl (cA, es.length, .inl (upd f i.toNatClampNeg X))) := by
              refine ⟨cA, ty, ht, Or.inl ⟨h3, _, by rw [List.length_set], fun jj a ha => ?_⟩⟩
              by_cases hj : i.toNatClampNeg = jj
              · subst hj
                rw [List.getElem?_set_self hin.2.1] at ha
                cases ha
                unfold upd
                rw [if_pos rfl]
                exact hv3
              · rw [List.getElem?_set_ne hj] at ha
                unfold upd
                rw [if_neg (Ne.symm hj)]
                exact hb jj a ha
            refine kk (n, (iv, lo, sk, hp.set j (.inr (.inr (t, es.set i.toNatClampNeg (0, y, d)))), nc, ns)) ?_ ρ _ lv st H1 locs1 ls (((hg.stk hs).set h1 hc hP hD hS).more (List.prefix_refl _) h6)
            refine List.mem_flatMap.mpr ⟨i.toNatClampNeg, List.mem_range.mpr hin.2.1, ?_⟩
            exact List.mem_map.mpr ⟨iv, h5, rfl⟩
          · have := hok _ _ _ e1
            omega
        · cases h
      · cases h
    · cases h
  · cases h
def z_asL (pc : Nat) (ivs : zJ) (lo : List (Nat × zV)) (sk : List zV) (hp : List zC) (nc ns : Nat) : zQ := match sk with
  | (1, y, d) :: (0, x, c) :: (2, j, _) :: sk => match z_b ivs y d with
    | some (vl, vh) => match hp[j]? with
      | some (.inr (.inl (t, n, l, h))) => match Nat.beq t 3 && z_ix ivs x c n with
        | true => some [(pc, (ivs, lo, sk, hp.set j (.inr (.inl (t, n, z_min l vl, z_max h vh))), nc, ns))]
        | false => none
      | _ => none
    | none => none
  | _ => none
theorem zs_asL {n : Nat} (row : ∀ (ws : va_W) (H : Heap) (locs : List Loc) (ls : Array Slot) (rest : List Value) (a q0 n0 : Nat) (cA : ClassId) (ty : FieldType) (f : Nat → Int64) (i : Int32) (x : Int64), va_P D cl ws H → va_D A ws → va_S A H0 H locs → ws[q0]? = some (a, .inl (cA, n0, .inr (.inl f))) → tys[3]? = some (cA, ty) → vp_in i n0 →
      (∀ (H1 : Heap) (locs1 : List Loc), va_P D cl (ws.set q0 (a, .inl (cA, n0, .inr (.inl (vp_updL f i.toNatClampNeg x))))) H1 → va_D A (ws.set q0 (a, .inl (cA, n0, .inr (.inl (vp_updL f i.toNatClampNeg x))))) → va_S A H0 H1 locs1 → W p l e R s m args below meth c H1 locs1 nc ns Q (F0 m n ls rest)) → W p l e R s m args below meth c H locs nc ns Q (F0 m pc ls (.long x :: .int i :: .ref a :: rest)))
    (h : z_asL n ivs lo sk hp nc ns = some q) (kk : ∀ z ∈ q, z_K p l e R s m args below meth c Q D cl tys A H0 nL ρ0 ad0 z.1 z.2) : z_K p l e R s m args below meth c Q D cl tys A H0 nL ρ0 ad0 pc (ivs, lo, sk, hp, nc, ns) := by
  unfold z_asL at h
  split at h
  · rename_i y d x c0 j o sk
    split at h
    · rename_i vl vh eb
      split at h
      · rename_i t n0 lb hb0 ec
        split at h
        · rename_i et
          have e1 : t = 3 := z_beq (z_and et).1
          have e2 := (z_and et).2
          cases h
          intro ρ ws lv st H locs ls hg
          obtain ⟨v3, v2, v1, st, rfl, hv3, hv2, hv1, hs⟩ := hg.xsk.c3
          obtain ⟨X, rfl, hX⟩ := hv3
          obtain ⟨i, rfl, hi⟩ := hv2
          obtain ⟨ad, ee, h1, rfl, h2⟩ := z_cell hg.xhp hv1 ec
          have hin := z_ix_ok hg.xiv hi e2
          have hxb := z_b_ok hg.xiv hX eb
          obtain ⟨cA, ty, ht, ⟨h3, -⟩ | ⟨h3, f, rfl, hb⟩⟩ := h2
          · omega
          · subst h3
            refine row ws H locs ls st ad j n0 cA ty f i X hg.xP hg.xD hg.xS h1 ht hin.1 (fun H1 locs1 hP hD hS => ?_)
            have hc : z_c tys ρ (z_ad ws) (.inr (.inl (3, n0, z_min lb vl, z_max hb0 vh))) (.inl (cA, n0, .inr (.inl (vp_updL f i.toNatClampNeg X)))) := by
              refine ⟨cA, ty, ht, Or.inr ⟨rfl, _, rfl, fun jj hj => ?_⟩⟩
              have m1 := z_min_l lb vl
              have m2 := z_min_r lb vl
              have m3 := z_max_l hb0 vh
              have m4 := z_max_r hb0 vh
              have b := hb jj hj
              unfold vp_updL
              split <;> omega
            exact kk _ (List.mem_singleton.mpr rfl) ρ _ lv st H1 locs1 ls ((hg.stk hs).set h1 hc hP hD hS)
        · cases h
      · cases h
    · cases h
  · cases h
/-- a cell out of an array of references: place by place -/
def z_ar (pc : Nat) (ivs : zJ) (lo : List (Nat × zV)) (sk : List zV) (hp : List zC) (nc ns : Nat) : zQ := match sk with
  | (0, x, c) :: (2, j, _) :: sk => match hp[j]? with
    | some (.inr (.inr (t, es))) => match Nat.ble 4 t && z_ix ivs x c es.length with
      | true => some ((List.range es.length).flatMap (fun k => match es[k]? with
        | some a => z_go (z_asm false .eq ivs x c 0 (Int.ofNat k)) pc lo (a :: sk) hp nc ns
        | none => []))
      | false => none
    | _ => none
  | _ => none
theorem zs_ar {n : Nat} (row : ∀ (ws : va_W) (H : Heap) (locs : List Loc) (ls : Array Slot) (rest : List Value) (a q0 t0 n0 : Nat) (cA : ClassId) (ty : FieldType) (f : Nat → Option Nat) (i : Int32), va_P D cl ws H → ws[q0]? = some (a, .inl (cA, n0, .inr (.inr (.inr (.inr f))))) → 4 ≤ t0 → tys[t0]? = some (cA, ty) → vp_in i n0 → W p l e R s m args below meth c H locs nc ns Q (F0 m n ls (va_rf (f i.toNatClampNeg) :: rest)) → W p l e R s m args below meth c H locs nc ns Q (F0 m pc ls (.int i :: .ref a :: rest)))
    (h : z_ar n ivs lo sk hp nc ns = some q) (kk : ∀ z ∈ q, z_K p l e R s m args below meth c Q D cl tys A H0 nL ρ0 ad0 z.1 z.2) : z_K p l e R s m args below meth c Q D cl tys A H0 nL ρ0 ad0 pc (ivs, lo, sk, hp, nc, ns) := by
  unfold z_ar at h
  split at h
  · rename_i x c0 j o sk
    split at h
    · rename_i t es ec
      split at h
      · rename_i et
        have e1 := Nat.le_of_ble_eq_true (z_and et).1
        have e2 := (z_and et).2
        cases h
        intro ρ ws lv st H locs ls hg
        obtain ⟨v2, v1, st, rfl, hv2, hv1, hs⟩ := hg.xsk.c2
        obtain ⟨i, rfl, hi⟩ := hv2
        obtain ⟨ad, ee, h1, rfl, h2⟩ := z_cell hg.xhp hv1 ec
        have hin := z_ix_ok hg.xiv hi e2
        obtain ⟨cA, ty, ht, ⟨h3, -⟩ | ⟨-, f, rfl, hb⟩⟩ := h2
        · omega
        · have ea : es[i.toNatClampNeg]? = some es[i.toNatClampNeg] := List.getElem?_eq_getElem hin.2.1
          obtain ⟨iv, h3, h4⟩ := z_asm_ok (both := false) (cd := .eq) (c := c0) (d := Int.ofNat i.toNatClampNeg) (Y := Int.ofNat i.toNatClampNeg) hg.xiv hi (z_v.of0 hg.zero _) (show i.toInt = Int.ofNat _ from hin.2.2.symm)
          refine row ws H locs ls st ad j t es.length cA ty f i hg.xP h1 e1 ht hin.1 (kk (n, (iv, lo, es[i.toNatClampNeg] :: sk, hp, nc, ns)) ?_ ρ ws lv _ H locs ls (((hg.stk hs).more (List.prefix_refl _) h4).stk ⟨hb _ _ ea, hs⟩))
          refine List.mem_flatMap.mpr ⟨i.toNatClampNeg, List.mem_range.mpr hin.2.1, ?_⟩
          rw [ea]
          exact List.mem_map.mpr ⟨iv, h3, rfl⟩
      · cases h
    · cases h
  · cases h
/-- a cell into an array of references, at a place that is known -/
def z_sr (ok : Nat → Nat → Bool) (pc : Nat) (ivs : zJ) (lo : List (Nat × zV)) (sk : List zV) (hp : List zC) (nc ns : Nat) : zQ := match sk with
  | (2, v, o) :: (0, 0, k) :: (2, j, _) :: sk => match hp[j]?, hp[v]? with
    | some (.inr (.inr (t, es))), some (.inl (ci, _)) => match ok t ci && (Nat.ble 4 t && z_ix ivs 0 k es.length) with
      | true => some [(pc, (ivs, lo, sk, hp.set j (.inr (.inr (t, es.set k.toNat (2, v, o)))), nc, ns))]
      | false => none
    | _, _ => none
  | _ => none
theorem zs_sr {n : Nat} {ok : Nat → Nat → Bool} (row : ∀ (ws : va_W) (H : Heap) (locs : List Loc) (ls : Array Slot) (rest : List Value) (a q0 t0 n0 v qk ci : Nat) (cA : ClassId) (ty : FieldType) (f : Nat → Option Nat) (vs : List Value) (i : Int32), va_P D cl ws H → va_D A ws → va_S A H0 H locs → ws[q0]? = some (a, .inl (cA, n0, .inr (.inr (.inr (.inr f))))) → tys[t0]? = some (cA, ty) → ws[qk]? = some (v, .inr (ci, vs)) → ok t0 ci = true → 4 ≤ t0 → vp_in i n0 →
      (∀ (H1 : Heap) (locs1 : List Loc), va_P D cl (ws.set q0 (a, .inl (cA, n0, .inr (.inr (.inr (.inr (va_up f i.toNatClampNeg (some v)))))))) H1 → va_D A (ws.set q0 (a, .inl (cA, n0, .inr (.inr (.inr (.inr (va_up f i.toNatClampNeg (some v)))))))) → va_S A H0 H1 locs1 → W p l e R s m args below meth c H1 locs1 nc ns Q (F0 m n ls rest)) → W p l e R s m args below meth c H locs nc ns Q (F0 m pc ls (.ref v :: .int i :: .ref a :: rest)))
    (h : z_sr ok n ivs lo sk hp nc ns = some q) (kk : ∀ z ∈ q, z_K p l e R s m args below meth c Q D cl tys A H0 nL ρ0 ad0 z.1 z.2) : z_K p l e R s m args below meth c Q D cl tys A H0 nL ρ0 ad0 pc (ivs, lo, sk, hp, nc, ns) := by
  unfold z_sr at h
  split at h
  · rename_i v o k0 j o2 sk
    split at h
    · rename_i t es ci fs ec ev
      split at h
      · rename_i et
        have e1 := (z_and et).1
        have e4 := Nat.le_of_ble_eq_true (z_and (z_and et).2).1
        have e2 := (z_and (z_and et).2).2
        cases h
        intro ρ ws lv st H locs ls hg
        obtain ⟨v3, v2, v1, st, rfl, hv3, hv2, hv1, hs⟩ := hg.xsk.c3
        obtain ⟨i, rfl, hi⟩ := hv2
        obtain ⟨ad, ee, h1, rfl, h2⟩ := z_cell hg.xhp hv1 ec
        obtain ⟨ad3, ee3, h13, rfl, h23⟩ := z_cell hg.xhp hv3 ev
        obtain ⟨vs, rfl, -⟩ := h23
        have hin := z_ix_ok hg.xiv hi e2
        have ei := z_v.const hg.zero hi
        have ek : k0.toNat = i.toNatClampNeg := by
          show k0.toNat = i.toInt.toNat
          rw [ei]
        obtain ⟨cA, ty, ht, ⟨h3, -⟩ | ⟨h3, f, rfl, hb⟩⟩ := h2
        · omega
        · refine row ws H locs ls st ad j t es.length ad3 v ci cA ty f vs i hg.xP hg.xD hg.xS h1 ht h13 e1 e4 hin.1 (fun H1 locs1 hP hD hS => ?_)
          have hc : z_c tys ρ (z_ad ws) (.inr (.inr (t, es.set k0.toNat (2, v, o)))) (.inl (cA, es.length, .inr (.inr (.inr (.inr (va_up f i.toNatClampNeg (some ad3))))))) := by
            refine ⟨cA, ty, ht, Or.inr ⟨h3, _, by rw [List.length_set], fun jj a ha => ?_⟩⟩
            rw [ek] at ha
            by_cases hj : i.toNatClampNeg = jj
            · subst hj
              rw [List.getElem?_set_self hin.2.1] at ha
              cases ha
              rw [va_up_self]
              exact ⟨ad3, z_ad_get h13, rfl⟩
            · rw [List.getElem?_set_ne hj] at ha
              rw [va_up_ne _ _ (Ne.symm hj)]
              exact hb jj a ha
          exact kk _ (List.mem_singleton.mpr rfl) ρ _ lv st H1 locs1 ls ((hg.stk hs).set h1 hc hP hD hS)
      · cases h
    · cases h
  · cases h
/-- a new cell of the world -/
theorem z_g.push {H1 : Heap} {a : Nat} {e1 : va_E} {cell : zC} {nc' ns' : Nat} (h : z_g D cl tys A H0 nL ρ0 ad0 (ivs, lo, sk, hp, nc, ns) ρ ws lv st H locs ls) (hc : z_c tys ρ (z_ad ws ++ [a]) cell e1) (hP : va_P D cl (ws ++ [(a, e1)]) H1) (hD : va_D A (ws ++ [(a, e1)])) (hS : va_S A H0 H1 locs) :
    z_g D cl tys A H0 nL ρ0 ad0 (ivs, lo, (2, hp.length, 0) :: sk, hp ++ [cell], nc', ns') ρ (ws ++ [(a, e1)]) lv (.ref a :: st) H1 locs ls := by
  obtain ⟨⟨a1, a3, a4⟩, b1, b3, b4, b5, b6, b7, b8, b9⟩ := h
  have ead : z_ad (ws ++ [(a, e1)]) = z_ad ws ++ [a] := z_ad_app _ _
  have el : hp.length = (z_ad ws).length := by
    unfold z_ad
    rw [List.length_map]
    exact b5.len
  refine ⟨⟨a1, by rw [ead]; exact a3.trans (z_app_pre _ _), a4⟩, b1, ?_, ⟨⟨a, ?_, rfl⟩, ?_⟩, ?_, hP, hD, hS, b9⟩
  · rw [ead]
    exact b3.mono (fun _ _ k => ⟨k.1, k.2.mono (List.prefix_refl _) (z_app_pre _ _)⟩)
  · rw [ead]
    exact z_last a el.symm
  · rw [ead]
    exact b4.mono (fun _ _ k => k.mono (List.prefix_refl _) (z_app_pre _ _))
  · rw [ead]
    exact z_F.app (l2 := [cell]) (k2 := [(a, e1)]) ⟨hc, trivial⟩ (b5.mono (fun _ _ k => z_c.mono (List.prefix_refl _) (z_app_pre _ _) k))
end ZB
