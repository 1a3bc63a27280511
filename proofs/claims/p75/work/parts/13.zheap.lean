/-! ===== fields, arrays, new cells ===== -/
theorem z_ad_get {ws : va_W} {j a : Nat} {e : va_E} (h : ws[j]? = some (a, e)) : (z_ad ws)[j]? = some a := by
  unfold z_ad
  rw [List.getElem?_map, h]
  rfl
theorem z_ad_set {ws : va_W} {j a : Nat} {e e' : va_E} (h : ws[j]? = some (a, e)) : z_ad (ws.set j (a, e')) = z_ad ws := by
  unfold z_ad
  apply List.ext_getElem?
  intro i
  rw [List.getElem?_map, List.getElem?_map]
  by_cases hi : j = i
  · subst hi
    rw [List.getElem?_set_self (List.getElem?_eq_some_iff.mp h).1, h]
    rfl
  · rw [List.getElem?_set_ne hi]
theorem z_ad_app (ws ws2 : va_W) : z_ad (ws ++ ws2) = z_ad ws ++ z_ad ws2 := List.map_append ..
theorem z_cell {tys : List (ClassId × FieldType)} {ρ : List Int} {ws : va_W} {hp : List zC} {j : Nat} {o : Int} {v : Value} {cell : zC} (hH : z_F (z_H tys ρ (z_ad ws)) hp ws) (hm : z_m ρ (z_ad ws) (2, j, o) v) (hc : hp[j]? = some cell) :
    ∃ (a : Nat) (e : va_E), ws[j]? = some (a, e) ∧ v = .ref a ∧ z_c tys ρ (z_ad ws) cell e := by
  obtain ⟨⟨a, e⟩, h1, h2⟩ := hH.get hc
  obtain ⟨q, h3, h4⟩ := hm
  rw [z_ad_get h1] at h3
  cases h3
  exact ⟨a, e, h1, h4, h2⟩
noncomputable def z_tyok (ty : Nat) (ivs : zJ) (a : zV) : Bool := match ty with
  | 0 => Nat.beq a.1 0
  | 1 => Nat.beq a.1 0 && (match z_b ivs a.2.1 a.2.2 with
    | some (l, h) => z_ile 0 l && z_ile h 1
    | none => false)
  | 2 => Nat.beq a.1 1
  | _ => Nat.beq a.1 2
noncomputable def z_tv (ty : Nat) (v : Value) : Prop := match ty with
  | 0 => ∃ i : Int32, v = .int i
  | 1 => v = .int 0 ∨ v = .int 1
  | 2 => ∃ i : Int64, v = .long i
  | _ => ∃ a : Nat, v = .ref a
theorem z_01 {x : Int32} (h1 : 0 ≤ x.toInt) (h2 : x.toInt ≤ 1) : x = 0 ∨ x = 1 := by
  rcases (show x.toInt = 0 ∨ x.toInt = 1 by omega) with h | h
  · exact Or.inl (Int32.toInt_inj.mp (by rw [h]; rfl))
  · exact Or.inr (Int32.toInt_inj.mp (by rw [h]; rfl))
theorem z_tyok_ok {ty : Nat} {ivs : zJ} {ρ : List Int} {ad : List Nat} {a : zV} {v : Value} (hiv : z_iv ivs ρ) (hm : z_m ρ ad a v) (h : z_tyok ty ivs a = true) : z_tv ty v := by
  obtain ⟨t, x, y⟩ := a
  unfold z_tyok at h
  unfold z_tv
  split at h
  · have e : t = 0 := z_beq h
    subst e
    obtain ⟨i, rfl, -⟩ := hm
    exact ⟨i, rfl⟩
  · have e : t = 0 := z_beq (z_and h).1
    subst e
    obtain ⟨i, rfl, hv⟩ := hm
    have h2 := (z_and h).2
    split at h2
    · rename_i l u eb
      have b := z_b_ok hiv hv eb
      have b1 := z_ile_ok (z_and h2).1
      have b2 := z_ile_ok (z_and h2).2
      rcases z_01 (x := i) (by omega) (by omega) with e | e
      · exact Or.inl (by rw [e])
      · exact Or.inr (by rw [e])
    · cases h2
  · have e : t = 1 := z_beq h
    subst e
    obtain ⟨i, rfl, -⟩ := hm
    exact ⟨i, rfl⟩
  · have e : t = 2 := z_beq h
    subst e
    obtain ⟨q, -, rfl⟩ := hm
    exact ⟨q, rfl⟩
section ZB
variable {p : Program} {l : Launch} {e : Env} {R : Room} {s : State} {m : MethodId} {args : Array Value} {below : List Frame} {meth : Method} {c : Code} {Q : State → Prop} {D : va_G} {cl : List vw_C} {tys : List (ClassId × FieldType)} {A : Nat → Prop} {H0 : Heap} {nL : Nat} {ρ0 : List Int} {ad0 : List Nat}
variable {cc : ByteArray} {pc : Nat} {ivs : zJ} {lo : List (Nat × zV)} {sk : List zV} {hp : List zC} {nc ns : Nat} {q : List (Nat × zS)}
variable {ρ : List Int} {ws : va_W} {lv : List (Nat × Value)} {st st' : List Value} {H : Heap} {locs : List Loc} {ls : Array Slot} {sk' : List zV}
/-- a cell of the world has changed -/
theorem z_g.set {H1 : Heap} {locs1 : List Loc} {j a : Nat} {e0 e1 : va_E} {cell : zC} (h : z_g D cl tys A H0 nL ρ0 ad0 (ivs, lo, sk, hp, nc, ns) ρ ws lv st H locs ls) (hj : ws[j]? = some (a, e0)) (hc : z_c tys ρ (z_ad ws) cell e1) (hP : va_P D cl (ws.set j (a, e1)) H1) (hD : va_D A (ws.set j (a, e1))) (hS : va_S A H0 H1 locs1) :
    z_g D cl tys A H0 nL ρ0 ad0 (ivs, lo, sk, hp.set j cell, nc, ns) ρ (ws.set j (a, e1)) lv st H1 locs1 ls := by
  obtain ⟨⟨a1, a3, a4⟩, b1, b3, b4, b5, b6, b7, b8, b9⟩ := h
  have ead := z_ad_set (e' := e1) hj
  refine ⟨⟨a1, by rw [ead]; exact a3, a4⟩, b1, by rw [ead]; exact b3, by rw [ead]; exact b4, ?_, hP, hD, hS, b9⟩
  rw [ead]
  exact z_F.set (a := cell) (b := (a, e1)) hc b5 j
noncomputable def z_gf (ci k : Nat) (pc : Nat) (ivs : zJ) (lo : List (Nat × zV)) (sk : List zV) (hp : List zC) (nc ns : Nat) : zQ := match sk with
  | (2, j, _) :: sk => match hp[j]? with
    | some (.inl (ci', fs)) => match Nat.beq ci' ci with
      | true => match fs[k]? with
        | some a => some [(pc, (ivs, lo, a :: sk, hp, nc, ns))]
        | none => none
      | false => none
    | _ => none
  | _ => none
theorem zs_gf {ci k n : Nat} (row : ∀ (ws : va_W) (H : Heap) (locs : List Loc) (ls : Array Slot) (rest : List Value) (a q0 : Nat) (vs : List Value) (v : Value), va_P D cl ws H → ws[q0]? = some (a, .inr (ci, vs)) → vs[k]? = some v → W p l e R s m args below meth c H locs nc ns Q (F0 m n ls (v :: rest)) → W p l e R s m args below meth c H locs nc ns Q (F0 m pc ls (.ref a :: rest)))
    (h : z_gf ci k n ivs lo sk hp nc ns = some q) (kk : ∀ z ∈ q, z_K p l e R s m args below meth c Q D cl tys A H0 nL ρ0 ad0 z.1 z.2) : z_K p l e R s m args below meth c Q D cl tys A H0 nL ρ0 ad0 pc (ivs, lo, sk, hp, nc, ns) := by
  unfold z_gf at h
  split at h
  · rename_i j o sk
    split at h
    · rename_i ci' fs ec
      split at h
      · rename_i ei
        have ei := z_beq ei
        subst ei
        split at h
        · rename_i a ea
          cases h
          intro ρ ws lv st H locs ls hg
          obtain ⟨v1, st, rfl, hv1, hs⟩ := hg.xsk.c1
          obtain ⟨ad, e1, h1, rfl, h2⟩ := z_cell hg.xhp hv1 ec
          obtain ⟨vs, rfl, hF⟩ := h2
          obtain ⟨v, h3, h4⟩ := hF.get ea
          exact row ws H locs ls st ad j vs v hg.xP h1 h3 (kk _ (List.mem_singleton.mpr rfl) ρ ws lv _ H locs ls (hg.stk ⟨h4, hs⟩))
        · cases h
      · cases h
    · cases h
  · cases h
noncomputable def z_pf (ci k ty : Nat) (pc : Nat) (ivs : zJ) (lo : List (Nat × zV)) (sk : List zV) (hp : List zC) (nc ns : Nat) : zQ := match sk with
  | a :: (2, j, _) :: sk => match hp[j]? with
    | some (.inl (ci', fs)) => match Nat.beq ci' ci && (Nat.ble (k + 1) fs.length && z_tyok ty ivs a) with
      | true => some [(pc, (ivs, lo, sk, hp.set j (.inl (ci, fs.set k a)), nc, ns))]
      | false => none
    | _ => none
  | _ => none
theorem zs_pf {ci k ty n : Nat} (row : ∀ (ws : va_W) (H : Heap) (locs : List Loc) (ls : Array Slot) (rest : List Value) (a q0 : Nat) (vs : List Value) (v : Value), va_P D cl ws H → va_D A ws → va_S A H0 H locs → ws[q0]? = some (a, .inr (ci, vs)) → k < vs.length → z_tv ty v →
      (∀ (H1 : Heap) (locs1 : List Loc), va_P D cl (ws.set q0 (a, .inr (ci, vs.set k v))) H1 → va_D A (ws.set q0 (a, .inr (ci, vs.set k v))) → va_S A H0 H1 locs1 → W p l e R s m args below meth c H1 locs1 nc ns Q (F0 m n ls rest)) → W p l e R s m args below meth c H locs nc ns Q (F0 m pc ls (v :: .ref a :: rest)))
    (h : z_pf ci k ty n ivs lo sk hp nc ns = some q) (kk : ∀ z ∈ q, z_K p l e R s m args below meth c Q D cl tys A H0 nL ρ0 ad0 z.1 z.2) : z_K p l e R s m args below meth c Q D cl tys A H0 nL ρ0 ad0 pc (ivs, lo, sk, hp, nc, ns) := by
  unfold z_pf at h
  split at h
  · rename_i a j o sk
    split at h
    · rename_i ci' fs ec
      split at h
      · rename_i et
        have ei := z_beq (z_and et).1
        have el := Nat.le_of_ble_eq_true (z_and (z_and et).2).1
        have ey := (z_and (z_and et).2).2
        subst ei
        cases h
        intro ρ ws lv st H locs ls hg
        obtain ⟨v, v1, st, rfl, hv, hv1, hs⟩ := hg.xsk.c2
        obtain ⟨ad, e1, h1, rfl, h2⟩ := z_cell hg.xhp hv1 ec
        obtain ⟨vs, rfl, hF⟩ := h2
        refine row ws H locs ls st ad j vs v hg.xP hg.xD hg.xS h1 (by rw [← hF.len]; exact el) (z_tyok_ok hg.xiv hv ey) (fun H1 locs1 hP hD hS => ?_)
        have hc : z_c tys ρ (z_ad ws) (.inl (ci', fs.set k a)) (.inr (ci', vs.set k v)) := ⟨_, rfl, z_F.set hv hF k⟩
        have hg' := (hg.stk hs).set h1 hc hP hD hS
        exact kk _ (List.mem_singleton.mpr rfl) ρ _ lv st H1 locs1 ls hg'
      · cases h
    · cases h
  · cases h
/-- an index that is in its row -/
noncomputable def z_ix (ivs : zJ) (x : Nat) (c : Int) (n : Nat) : Bool := match z_b ivs x c with
  | some (l, h) => z_ile 0 l && z_ile (h + 1) (Int.ofNat n)
  | none => false
theorem z_ix_ok {ivs : zJ} {ρ : List Int} {x n : Nat} {c0 : Int} {i : Int32} (hiv : z_iv ivs ρ) (hv : z_v ρ x c0 i.toInt) (h : z_ix ivs x c0 n = true) : vp_in i n ∧ i.toNatClampNeg < n ∧ (i.toNatClampNeg : Int) = i.toInt := by
  unfold z_ix at h
  split at h
  · rename_i l u eb
    have b := z_b_ok hiv hv eb
    have b1 := z_ile_ok (z_and h).1
    have b2 : u + 1 ≤ (n : Int) := z_ile_ok (z_and h).2
    refine ⟨vp_in_iff.mpr ⟨by omega, by omega⟩, ?_, ?_⟩
    · show i.toInt.toNat < n
      omega
    · show ((i.toInt.toNat : Nat) : Int) = i.toInt
      omega
  · cases h
/-! numbers of an array -/
noncomputable def z_inb (J : zJ) (x : Nat) (c : Int) (b : zBd) : Bool := z_imp J 0 (Int.ofNat b.1) x c 0 && (z_imp J x c b.2.1 b.2.2.1 (-1) && (Nat.beq b.2.2.2.1 1 || (match z_cg J x c b.2.2.2.1 with
  | some r => z_ieq r (Int.ofNat b.1 % Int.ofNat b.2.2.2.1)
  | none => false)))
noncomputable def z_ofb (J : zJ) (x : Nat) (c : Int) (b : zBd) : Bool := z_imp J x c 0 (Int.ofNat b.1) (-1) || ((Nat.beq b.2.1 0 && z_imp J 0 b.2.2.1 x c 0) || (match z_cg J x c b.2.2.2.1 with
  | some r => !(z_ieq r (Int.ofNat b.1 % Int.ofNat b.2.2.2.1))
  | none => false))
theorem z_inb_ok {J : zJ} {ρ : List Int} {x : Nat} {c X : Int} {b : zBd} {j : Nat} (hJ : z_iv J ρ) (h0 : ρ[0]? = some 0) (hx : z_v ρ x c X) (hj : (j : Int) = X) (hw : ∃ w, ρ[b.2.1]? = some w) (h : z_inb J x c b = true) : z_ib ρ b j := by
  obtain ⟨w, hw⟩ := hw
  obtain ⟨h1, h⟩ := z_and h
  obtain ⟨h2, h3⟩ := z_and h
  have g1 := z_imp_ok hJ (z_v.of0 h0 (Int.ofNat b.1)) hx h1
  have g2 := z_imp_ok hJ hx (⟨w, hw, rfl⟩ : z_v ρ b.2.1 b.2.2.1 (w + b.2.2.1)) h2
  have e1 : Int.ofNat b.1 = (b.1 : Int) := rfl
  refine ⟨by omega, ?_, w, hw, by omega⟩
  rcases Bool.or_eq_true_iff.mp h3 with q | q
  · rw [z_beq q, Nat.mod_one, Nat.mod_one]
  · split at q
    · rename_i r er
      have g3 := z_cg_ok hJ h0 hx er
      have g4 := z_ieq_ok q
      have g5 : ((j % b.2.2.2.1 : Nat) : Int) = ((b.1 % b.2.2.2.1 : Nat) : Int) := by
        rw [Int.natCast_emod, Int.natCast_emod, hj]
        exact g3.trans g4
      exact Int.ofNat_inj.mp g5
    · cases q
theorem z_ofb_ok {J : zJ} {ρ : List Int} {x : Nat} {c X : Int} {b : zBd} {j : Nat} (hJ : z_iv J ρ) (h0 : ρ[0]? = some 0) (hx : z_v ρ x c X) (hj : (j : Int) = X) (h : z_ofb J x c b = true) : ¬ z_ib ρ b j := by
  intro hb
  obtain ⟨b1, b2, w, b3, b4⟩ := hb
  have e1 : Int.ofNat b.1 = (b.1 : Int) := rfl
  rcases Bool.or_eq_true_iff.mp h with q | q
  · have := z_imp_ok hJ hx (z_v.of0 h0 (Int.ofNat b.1)) q
    omega
  · rcases Bool.or_eq_true_iff.mp q with q | q
    · have q1 := z_beq (z_and q).1
      have q2 := z_imp_ok hJ (z_v.of0 h0 b.2.2.1) hx (z_and q).2
      rw [q1, h0] at b3
      cases b3
      omega
    · split at q
      · rename_i r er
        have g3 := z_cg_ok hJ h0 hx er
        have g5 : ((j % b.2.2.2.1 : Nat) : Int) = ((b.1 % b.2.2.2.1 : Nat) : Int) := by rw [b2]
        rw [Int.natCast_emod, Int.natCast_emod, hj] at g5
        have g6 : r = Int.ofNat b.1 % Int.ofNat b.2.2.2.1 := g3.symm.trans g5
        rw [← g6] at q
        have g7 : z_ieq r r = true := by
          unfold z_ieq
          have : z_ile r r = true := by
            cases hh : z_ile r r with
            | true => rfl
            | false =>
              have := z_ile_no hh
              omega
          rw [this]
          rfl
        rw [g7] at q
        cases q
      · cases q
noncomputable def z_fb (J : zJ) (x : Nat) (c : Int) : List zBd → zI → zI
  | [], d => d
  | b :: bs, d => match z_inb J x c b with
    | true => (b.2.2.2.2.1, b.2.2.2.2.2)
    | false => z_fb J x c bs d
theorem z_fb_ok {J : zJ} {ρ : List Int} {x : Nat} {c X z : Int} {j : Nat} {d : zI} (hJ : z_iv J ρ) (h0 : ρ[0]? = some 0) (hx : z_v ρ x c X) (hj : (j : Int) = X) (hd : d.1 ≤ z ∧ z ≤ d.2) : ∀ {bs : List zBd}, (∀ b ∈ bs, (∃ w, ρ[b.2.1]? = some w) ∧ (z_ib ρ b j → b.2.2.2.2.1 ≤ z ∧ z ≤ b.2.2.2.2.2)) → (z_fb J x c bs d).1 ≤ z ∧ z ≤ (z_fb J x c bs d).2
  | [], _ => hd
  | b :: bs, hb => by
    unfold z_fb
    split
    · rename_i e
      have h1 := hb b List.mem_cons_self
      exact h1.2 (z_inb_ok hJ h0 hx hj h1.1 e)
    · exact z_fb_ok hJ h0 hx hj hd (fun q hq => hb q (List.mem_cons_of_mem _ hq))
/-- out of an array -/
noncomputable def z_kld (kt : Nat) (J : zJ) (x : Nat) (c : Int) (K : zK) : List (zV × zJ) := match K with
  | .inl (l, h) => [z_new kt l h J]
  | .inr (.inl es) => (List.range es.length).flatMap (fun k => match es[k]? with
    | some a => (z_asm false .eq J x c 0 (Int.ofNat k)).map (fun i => ((kt, a.2.1, a.2.2), i))
    | none => [])
  | .inr (.inr (l, h, bs)) => [z_new kt (z_fb J x c bs (l, h)).1 (z_fb J x c bs (l, h)).2 J]
theorem z_kld_ok {kt : Nat} {J : zJ} {ρ : List Int} {x : Nat} {c X z : Int} {K : zK} {j : Nat} (hJ : z_iv J ρ) (h0 : ρ[0]? = some 0) (hx : z_v ρ x c X) (hj : (j : Int) = X) (hz : z_kz ρ K j z) : ∃ out ∈ z_kld kt J x c K, z_R kt ρ out z := by
  unfold z_kld
  split
  · exact ⟨_, List.mem_singleton.mpr rfl, z_new_ok hJ h0 hz.1 hz.2⟩
  · rename_i es
    obtain ⟨a, h1, h2⟩ := hz
    obtain ⟨iv, h3, h4⟩ := z_asm_ok (both := false) (cd := .eq) (c := c) (d := Int.ofNat j) (Y := Int.ofNat j) hJ hx (z_v.of0 h0 _) (show X = Int.ofNat j from hj.symm)
    refine ⟨((kt, a.2.1, a.2.2), iv), List.mem_flatMap.mpr ⟨j, List.mem_range.mpr (List.getElem?_eq_some_iff.mp h1).1, ?_⟩, ⟨rfl, ρ, List.prefix_refl _, h4, h2⟩⟩
    rw [h1]
    exact List.mem_map.mpr ⟨iv, h3, rfl⟩
  · rename_i l h bs
    have r := z_fb_ok (d := (l, h)) hJ h0 hx hj hz.1 hz.2
    exact ⟨_, List.mem_singleton.mpr rfl, z_new_ok hJ h0 r.1 r.2⟩
/-- into an array -/
noncomputable def z_bst (J : zJ) (x : Nat) (c vl vh : Int) (b : zBd) : zBd := match (z_ile b.2.2.2.2.1 vl && z_ile vh b.2.2.2.2.2) || z_ofb J x c b with
  | true => b
  | false => (b.1, b.2.1, b.2.2.1, b.2.2.2.1, z_min b.2.2.2.2.1 vl, z_max b.2.2.2.2.2 vh)
noncomputable def z_kst (kt : Nat) (J : zJ) (x : Nat) (c : Int) (K : zK) (y : Nat) (d vl vh : Int) : List (zJ × zK) := match K with
  | .inl (l, h) => [(J, .inl (z_min l vl, z_max h vh))]
  | .inr (.inl es) => (List.range es.length).flatMap (fun k => (z_asm false .eq J x c 0 (Int.ofNat k)).map (fun i => (i, .inr (.inl (es.set k (kt, y, d))))))
  | .inr (.inr (l, h, bs)) => [(J, .inr (.inr (z_min l vl, z_max h vh, bs.map (z_bst J x c vl vh))))]
theorem z_hull {l h vl vh z : Int} (hz : (l ≤ z ∧ z ≤ h) ∨ (vl ≤ z ∧ z ≤ vh)) : z_min l vl ≤ z ∧ z ≤ z_max h vh := by
  have m1 := z_min_l l vl
  have m2 := z_min_r l vl
  have m3 := z_max_l h vh
  have m4 := z_max_r h vh
  omega
theorem z_bst_ib {ρ : List Int} {J : zJ} {x : Nat} {c vl vh : Int} {b : zBd} {i : Nat} : z_ib ρ (z_bst J x c vl vh b) i ↔ z_ib ρ b i := by
  unfold z_bst
  split
  · exact Iff.rfl
  · exact Iff.rfl
theorem z_bst_y {J : zJ} {x : Nat} {c vl vh : Int} {b : zBd} : (z_bst J x c vl vh b).2.1 = b.2.1 := by
  unfold z_bst
  split
  · rfl
  · rfl
theorem z_kst_ok {kt : Nat} {J : zJ} {ρ : List Int} {x y : Nat} {c d vl vh X V : Int} {K : zK} {j n : Nat} {F : Nat → Int} (hJ : z_iv J ρ) (h0 : ρ[0]? = some 0) (hx : z_v ρ x c X) (hj : (j : Int) = X) (hjn : j < n) (hy : z_v ρ y d V) (h1 : vl ≤ V) (h2 : V ≤ vh) (hF : ∀ i, i < n → z_kz ρ K i (F i)) :
    ∃ out ∈ z_kst kt J x c K y d vl vh, z_iv out.1 ρ ∧ ∀ i, i < n → z_kz ρ out.2 i (if i = j then V else F i) := by
  unfold z_kst
  split
  · refine ⟨_, List.mem_singleton.mpr rfl, hJ, fun i hi => ?_⟩
    split
    · exact z_hull (Or.inr ⟨h1, h2⟩)
    · exact z_hull (Or.inl (hF i hi))
  · rename_i es
    obtain ⟨a, e1, e2⟩ := hF j hjn
    obtain ⟨iv, h3, h4⟩ := z_asm_ok (both := false) (cd := .eq) (c := c) (d := Int.ofNat j) (Y := Int.ofNat j) hJ hx (z_v.of0 h0 _) (show X = Int.ofNat j from hj.symm)
    have hl := (List.getElem?_eq_some_iff.mp e1).1
    refine ⟨(iv, .inr (.inl (es.set j (kt, y, d)))), List.mem_flatMap.mpr ⟨j, List.mem_range.mpr hl, List.mem_map.mpr ⟨iv, h3, rfl⟩⟩, h4, fun i hi => ?_⟩
    split
    · rename_i ei
      subst ei
      exact ⟨(kt, y, d), List.getElem?_set_self hl, hy⟩
    · rename_i ei
      obtain ⟨a2, e3, e4⟩ := hF i hi
      exact ⟨a2, by rw [List.getElem?_set_ne (fun q => ei q.symm)]; exact e3, e4⟩
  · rename_i l h bs
    refine ⟨_, List.mem_singleton.mpr rfl, hJ, fun i hi => ?_⟩
    have hz := hF i hi
    refine ⟨?_, fun b hb => ?_⟩
    · split
      · exact z_hull (Or.inr ⟨h1, h2⟩)
      · exact z_hull (Or.inl hz.1)
    · obtain ⟨b0, hb0, rfl⟩ := List.mem_map.mp hb
      obtain ⟨hw, hq⟩ := hz.2 b0 hb0
      refine ⟨by rw [z_bst_y]; exact hw, fun hib => ?_⟩
      have hib := z_bst_ib.mp hib
      have hq := hq hib
      unfold z_bst
      split
      · rename_i e
        split
        · rename_i ei
          subst ei
          rcases Bool.or_eq_true_iff.mp e with e | e
          · have p1 := z_ile_ok (z_and e).1
            have p2 := z_ile_ok (z_and e).2
            omega
          · exact absurd hib (z_ofb_ok hJ h0 hx hj e)
        · exact hq
      · split
        · exact z_hull (Or.inr ⟨h1, h2⟩)
        · exact z_hull (Or.inl hq)
/-- into an array of bounds, at a place that is known: that place gets its own bounds -/
noncomputable def z_kst2 (J : zJ) (c : Int) (K : zK) (vl vh : Int) : Option (zJ × zK) := match K with
  | .inl (l, h) => some (J, .inr (.inr (z_min l vl, z_max h vh, [(c.toNat, 0, c + 1, 1, vl, vh)])))
  | _ => none
theorem z_kst2_ok {J : zJ} {ρ : List Int} {c vl vh V : Int} {K : zK} {j n : Nat} {F : Nat → Int} {out : zJ × zK} (hJ : z_iv J ρ) (h0 : ρ[0]? = some 0) (hj : (j : Int) = c) (h1 : vl ≤ V) (h2 : V ≤ vh) (hF : ∀ i, i < n → z_kz ρ K i (F i)) (h : z_kst2 J c K vl vh = some out) :
    z_iv out.1 ρ ∧ ∀ i, i < n → z_kz ρ out.2 i (if i = j then V else F i) := by
  unfold z_kst2 at h
  split at h
  · rename_i l u
    cases h
    refine ⟨hJ, fun i hi => ⟨?_, fun b hb => ?_⟩⟩
    · split
      · exact z_hull (Or.inr ⟨h1, h2⟩)
      · exact z_hull (Or.inl (hF i hi))
    · have hb := List.mem_singleton.mp hb
      subst hb
      refine ⟨⟨0, h0⟩, fun hib => ?_⟩
      obtain ⟨b1, b2, w, b3, b4⟩ := hib
      have b3 : ρ[0]? = some w := b3
      rw [h0] at b3
      cases b3
      have b1 : c.toNat ≤ i := b1
      have b4 : (i : Int) < 0 + (c + 1) := b4
      rw [if_pos (by omega)]
      exact ⟨h1, h2⟩
  · cases h
/-- an array made place by place: new symbols -/
noncomputable def z_pbs (p : Nat) : List zBd → zI → zI
  | [], d => d
  | b :: bs, d => match Nat.beq b.2.1 0 && (Nat.ble b.1 p && (z_ile (Int.ofNat p + 1) b.2.2.1 && Nat.beq (p % b.2.2.2.1) (b.1 % b.2.2.2.1))) with
    | true => (b.2.2.2.2.1, b.2.2.2.2.2)
    | false => z_pbs p bs d
noncomputable def z_mat0 (kt : Nat) (J : zJ) (n : Nat) (B : Nat → zI) : zJ × zK := ((J.1 ++ (List.range n).map B, J.2), .inr (.inl ((List.range n).map (fun i => (kt, J.1.length + i, 0)))))
noncomputable def z_kmat (kt : Nat) (J : zJ) (n : Nat) (K : zK) : zJ × zK := match K with
  | .inl d => z_mat0 kt J n (fun _ => d)
  | .inr (.inl es) => (J, .inr (.inl es))
  | .inr (.inr (l, h, bs)) => z_mat0 kt J n (fun p => z_pbs p bs (l, h))
theorem z_pbs_ok {ρ : List Int} {z : Int} {p : Nat} {d : zI} (h0 : ρ[0]? = some 0) (hd : d.1 ≤ z ∧ z ≤ d.2) : ∀ {bs : List zBd}, (∀ b ∈ bs, (∃ w, ρ[b.2.1]? = some w) ∧ (z_ib ρ b p → b.2.2.2.2.1 ≤ z ∧ z ≤ b.2.2.2.2.2)) → (z_pbs p bs d).1 ≤ z ∧ z ≤ (z_pbs p bs d).2
  | [], _ => hd
  | b :: bs, hb => by
    unfold z_pbs
    split
    · rename_i e
      have e1 := z_beq (z_and e).1
      have e2 := Nat.le_of_ble_eq_true (z_and (z_and e).2).1
      have e3 : (p : Int) + 1 ≤ b.2.2.1 := z_ile_ok (z_and (z_and (z_and e).2).2).1
      have e4 := z_beq (z_and (z_and (z_and e).2).2).2
      exact (hb b List.mem_cons_self).2 ⟨e2, e4, 0, by rw [e1]; exact h0, by omega⟩
    · exact z_pbs_ok h0 hd (fun q hq => hb q (List.mem_cons_of_mem _ hq))
theorem z_mat1 {J : zJ} {ρ : List Int} {n kt : Nat} {B : Nat → zI} {F : Nat → Int} (hJ : z_iv J ρ) (hB : ∀ i, i < n → (B i).1 ≤ F i ∧ F i ≤ (B i).2) :
    z_iv (J.1 ++ (List.range n).map B, J.2) (ρ ++ (List.range n).map F) ∧ ∀ i, i < n → z_kz (ρ ++ (List.range n).map F) (.inr (.inl ((List.range n).map (fun i => ((kt, J.1.length + i, 0) : zV))))) i (F i) := by
  have el := z_F.len hJ.1
  refine ⟨⟨?_, fun r hr => (hJ.2 r hr).mono ⟨_, rfl⟩⟩, fun i hi => ?_⟩
  · refine z_F.app (R := z_in) ?_ hJ.1
    have : ∀ (k : List Nat), (∀ i ∈ k, i < n) → z_F z_in (k.map B) (k.map F) := by
      intro k
      induction k with
      | nil => exact fun _ => trivial
      | cons a k ih => exact fun hk => ⟨Or.inr (hB a (hk a List.mem_cons_self)), ih (fun i hi => hk i (List.mem_cons_of_mem _ hi))⟩
    exact this (List.range n) (fun i hi => List.mem_range.mp hi)
  · refine ⟨(kt, J.1.length + i, 0), ?_, F i, ?_, by show F i = F i + 0; omega⟩
    · rw [List.getElem?_map, List.getElem?_range hi]
      rfl
    · show (ρ ++ (List.range n).map F)[J.1.length + i]? = some (F i)
      rw [el, List.getElem?_append_right (by omega), show ρ.length + i - ρ.length = i by omega, List.getElem?_map, List.getElem?_range hi]
      rfl
theorem z_kmat_ok {kt : Nat} {J : zJ} {ρ : List Int} {n : Nat} {K : zK} {F : Nat → Int} (hJ : z_iv J ρ) (h0 : ρ[0]? = some 0) (hF : ∀ i, i < n → z_kz ρ K i (F i)) : ∃ ρ', ρ <+: ρ' ∧ z_iv (z_kmat kt J n K).1 ρ' ∧ ∀ i, i < n → z_kz ρ' (z_kmat kt J n K).2 i (F i) := by
  unfold z_kmat
  split
  · rename_i d
    have := z_mat1 (kt := kt) (B := fun _ => d) hJ (fun i hi => hF i hi)
    exact ⟨_, z_app_pre _ _, this.1, this.2⟩
  · exact ⟨ρ, List.prefix_refl _, hJ, hF⟩
  · rename_i l u bs
    have := z_mat1 (kt := kt) (B := fun p => z_pbs p bs (l, u)) hJ (fun i hi => z_pbs_ok h0 (hF i hi).1 (hF i hi).2)
    exact ⟨_, z_app_pre _ _, this.1, this.2⟩
/-- a number out of an array -/
noncomputable def z_al (ok : Nat → Bool) (rt : Nat) (pc : Nat) (ivs : zJ) (lo : List (Nat × zV)) (sk : List zV) (hp : List zC) (nc ns : Nat) : zQ := match sk with
  | (0, x, c) :: (2, j, _) :: sk => match hp[j]? with
    | some (.inr (.inl (t, n, K))) => match ok t && z_ix ivs x c n with
      | true => some ((z_kld rt ivs x c K).map (fun o => (pc, (o.2, lo, o.1 :: sk, hp, nc, ns))))
      | false => none
    | _ => none
  | _ => none
theorem zs_al {n : Nat} {ok : Nat → Bool} (hok : ∀ t, ok t = true → t < 3) (row : ∀ (ws : va_W) (H : Heap) (locs : List Loc) (ls : Array Slot) (rest : List Value) (a q0 t0 n0 : Nat) (cA : ClassId) (ty : FieldType) (f : Nat → Int32) (i : Int32), va_P D cl ws H → ws[q0]? = some (a, .inl (cA, n0, .inl f)) → tys[t0]? = some (cA, ty) → ok t0 = true → vp_in i n0 → W p l e R s m args below meth c H locs nc ns Q (F0 m n ls (.int (f i.toNatClampNeg) :: rest)) → W p l e R s m args below meth c H locs nc ns Q (F0 m pc ls (.int i :: .ref a :: rest)))
    (h : z_al ok 0 n ivs lo sk hp nc ns = some q) (kk : ∀ z ∈ q, z_K p l e R s m args below meth c Q D cl tys A H0 nL ρ0 ad0 z.1 z.2) : z_K p l e R s m args below meth c Q D cl tys A H0 nL ρ0 ad0 pc (ivs, lo, sk, hp, nc, ns) := by
  unfold z_al at h
  split at h
  · rename_i x c0 j o sk
    split at h
    · rename_i t n0 K ec
      split at h
      · rename_i et
        have e1 := (z_and et).1
        have e2 := (z_and et).2
        cases h
        intro ρ ws lv st H locs ls hg
        obtain ⟨v2, v1, st, rfl, hv2, hv1, hs⟩ := hg.xsk.c2
        obtain ⟨i, rfl, hi⟩ := hv2
        obtain ⟨ad, ee, h1, rfl, h2⟩ := z_cell hg.xhp hv1 ec
        have hin := z_ix_ok hg.xiv hi e2
        obtain ⟨cA, ty, ht, ⟨-, f, rfl, hb⟩ | ⟨h3, -⟩⟩ := h2
        · obtain ⟨out, ho, r1, ρ', g1, g2, g3⟩ := z_kld_ok (kt := 0) hg.xiv hg.zero hi hin.2.2 (hb _ hin.2.1)
          have hg' := (hg.stk hs).more g1 g2
          exact row ws H locs ls st ad j t n0 cA ty f i hg.xP h1 ht e1 hin.1 (kk (n, (out.2, lo, out.1 :: sk, hp, nc, ns)) (List.mem_map.mpr ⟨out, ho, rfl⟩) ρ' ws lv _ H locs ls (hg'.stk ⟨z_m.ofR (ρ := ρ) r1 g3, hg'.xsk⟩))
        · have := hok _ e1
          omega
      · cases h
    · cases h
  · cases h
noncomputable def z_alL (pc : Nat) (ivs : zJ) (lo : List (Nat × zV)) (sk : List zV) (hp : List zC) (nc ns : Nat) : zQ := z_al (fun t => Nat.beq t 3) 1 pc ivs lo sk hp nc ns
theorem zs_alL {n : Nat} (row : ∀ (ws : va_W) (H : Heap) (locs : List Loc) (ls : Array Slot) (rest : List Value) (a q0 n0 : Nat) (cA : ClassId) (ty : FieldType) (f : Nat → Int64) (i : Int32), va_P D cl ws H → ws[q0]? = some (a, .inl (cA, n0, .inr (.inl f))) → tys[3]? = some (cA, ty) → vp_in i n0 → W p l e R s m args below meth c H locs nc ns Q (F0 m n ls (.long (f i.toNatClampNeg) :: rest)) → W p l e R s m args below meth c H locs nc ns Q (F0 m pc ls (.int i :: .ref a :: rest)))
    (h : z_alL n ivs lo sk hp nc ns = some q) (kk : ∀ z ∈ q, z_K p l e R s m args below meth c Q D cl tys A H0 nL ρ0 ad0 z.1 z.2) : z_K p l e R s m args below meth c Q D cl tys A H0 nL ρ0 ad0 pc (ivs, lo, sk, hp, nc, ns) := by
  unfold z_alL z_al at h
  split at h
  · rename_i x c0 j o sk
    split at h
    · rename_i t n0 K ec
      split at h
      · rename_i et
        have e1 : t = 3 := z_beq (z_and et).1
        have e2 := (z_and et).2
        cases h
        intro ρ ws lv st H locs ls hg
        obtain ⟨v2, v1, st, rfl, hv2, hv1, hs⟩ := hg.xsk.c2
        obtain ⟨i, rfl, hi⟩ := hv2
        obtain ⟨ad, ee, h1, rfl, h2⟩ := z_cell hg.xhp hv1 ec
        have hin := z_ix_ok hg.xiv hi e2
        obtain ⟨cA, ty, ht, ⟨h3, -⟩ | ⟨-, f, rfl, hb⟩⟩ := h2
        · omega
        · subst e1
          obtain ⟨out, ho, r1, ρ', g1, g2, g3⟩ := z_kld_ok (kt := 1) hg.xiv hg.zero hi hin.2.2 (hb _ hin.2.1)
          have hg' := (hg.stk hs).more g1 g2
          exact row ws H locs ls st ad j n0 cA ty f i hg.xP h1 ht hin.1 (kk (n, (out.2, lo, out.1 :: sk, hp, nc, ns)) (List.mem_map.mpr ⟨out, ho, rfl⟩) ρ' ws lv _ H locs ls (hg'.stk ⟨z_m.ofRL (ρ := ρ) r1 g3, hg'.xsk⟩))
      · cases h
    · cases h
  · cases h
/-- ahead of it, the array is made place by place -/
noncomputable def z_mat (kt : Nat) (ivs : zJ) (sk : List zV) (hp : List zC) : Option (zJ × List zC) := match sk with
  | _ :: (2, j, _) :: _ => match hp[j]? with
    | some (.inr (.inl (t, n, K))) => match z_kmat kt ivs n K with
      | (J, K') => some (J, hp.set j (.inr (.inl (t, n, K'))))
    | _ => none
  | _ => none
theorem zs_mat {kt : Nat} {J : zJ} {hp' : List zC} (h : z_mat kt ivs sk hp = some (J, hp')) (kk : z_K p l e R s m args below meth c Q D cl tys A H0 nL ρ0 ad0 pc (J, lo, sk, hp', nc, ns)) : z_K p l e R s m args below meth c Q D cl tys A H0 nL ρ0 ad0 pc (ivs, lo, sk, hp, nc, ns) := by
  unfold z_mat at h
  split at h
  · rename_i v j o sk
    split at h
    · rename_i t n0 K ec
      dsimp only at h
      cases h
      intro ρ ws lv st H locs ls hg
      obtain ⟨⟨a, ee⟩, h1, h2⟩ := hg.xhp.get ec
      have h2 : z_c tys ρ (z_ad ws) (.inr (.inl (t, n0, K))) ee := h2
      have fin : ∀ ρ', ρ <+: ρ' → z_iv (z_kmat kt ivs n0 K).1 ρ' → z_c tys ρ' (z_ad ws) (.inr (.inl (t, n0, (z_kmat kt ivs n0 K).2))) ee → W p l e R s m args below meth c H locs nc ns Q (F0 m pc ls st) := fun ρ' g1 g2 g3 => by
        have hg' := hg.more g1 g2
        refine kk ρ' ws lv st H locs ls ?_
        obtain ⟨a1, b1, b3, b4, b5, b6⟩ := hg'
        refine ⟨a1, b1, b3, b4, ?_, b6⟩
        have k := z_F.set (R := z_H tys ρ' (z_ad ws)) (a := .inr (.inl (t, n0, (z_kmat kt ivs n0 K).2))) (b := (a, ee)) g3 b5 j
        have e : ws.set j (a, ee) = ws := by
          apply List.ext_getElem?
          intro i
          by_cases hi : j = i
          · subst hi
            rw [List.getElem?_set_self (List.getElem?_eq_some_iff.mp h1).1, h1]
          · rw [List.getElem?_set_ne hi]
        rw [e] at k
        exact k
      obtain ⟨cA, ty, ht, ⟨h3, f, rfl, hb⟩ | ⟨h3, f, rfl, hb⟩⟩ := h2
      · obtain ⟨ρ', g1, g2, g3⟩ := z_kmat_ok (kt := kt) (F := fun i => (f i).toInt) hg.xiv hg.zero hb
        exact fin ρ' g1 g2 ⟨cA, ty, ht, Or.inl ⟨h3, f, rfl, g3⟩⟩
      · obtain ⟨ρ', g1, g2, g3⟩ := z_kmat_ok (kt := kt) (F := fun i => (f i).toInt) hg.xiv hg.zero hb
        exact fin ρ' g1 g2 ⟨cA, ty, ht, Or.inr ⟨h3, f, rfl, g3⟩⟩
    · cases h
  · cases h
/-- a place of an array of longs is looked at: within bounds (then a band goes on over it), below, above -/
noncomputable def z_ext (m : Nat) (hi : Int) (x : Nat) (c : Int) (J : zJ) (K : zK) : Option (Int × Int × zK) := match K with
  | .inl (l, h) => match Nat.beq x 0 && Nat.ble 1 m with
    | true => some (l, h, .inr (.inr (l, h, [(c.toNat, 0, c + Int.ofNat m, m, 0, hi)])))
    | false => none
  | .inr (.inr (l, h, [(f, y, d, m', lo', hi')])) => match z_cg J x c m with
    | some r => match (Nat.beq y x && (z_ieq d c && (Nat.beq m' m && Nat.ble 1 m))) && (z_ieq lo' 0 && (z_ieq hi' hi && z_ieq r (Int.ofNat (f % m)))) with
      | true => some (l, h, .inr (.inr (l, h, [(f, y, c + Int.ofNat m, m, 0, hi)])))
      | false => none
    | none => none
  | _ => none
theorem z_near_eq {i j m : Nat} (h1 : j ≤ i) (h2 : i < j + m) (h3 : i % m = j % m) : i = j := by
  have h4 : (i - j) % m = 0 := Nat.sub_mod_eq_zero_of_mod_eq h3
  rw [Nat.mod_eq_of_lt (by omega)] at h4
  omega
theorem z_ext_ok {m : Nat} {hi : Int} {x : Nat} {c X : Int} {J : zJ} {K K' : zK} {l h : Int} {ρ : List Int} {i0 n : Nat} {F : Nat → Int} (hJ : z_iv J ρ) (h0 : ρ[0]? = some 0) (hx : z_v ρ x c X) (hj : (i0 : Int) = X) (hn : i0 < n) (hF : ∀ i, i < n → z_kz ρ K i (F i)) (he : z_ext m hi x c J K = some (l, h, K')) :
    (l ≤ F i0 ∧ F i0 ≤ h) ∧ (0 ≤ F i0 → F i0 ≤ hi → ∀ i, i < n → z_kz ρ K' i (F i)) := by
  unfold z_ext at he
  split at he
  · rename_i l0 u0
    split at he
    · rename_i e
      have e1 := z_beq (z_and e).1
      subst e1
      have ex := z_v.const h0 hx
      cases he
      refine ⟨hF i0 hn, fun q1 q2 i hi' => ⟨hF i hi', fun b hb => ?_⟩⟩
      have hb := List.mem_singleton.mp hb
      subst hb
      refine ⟨⟨0, h0⟩, fun hib => ?_⟩
      obtain ⟨b1, b2, w, b3, b4⟩ := hib
      have b3 : ρ[0]? = some w := b3
      rw [h0] at b3
      cases b3
      have b1 : c.toNat ≤ i := b1
      have b2 : i % m = c.toNat % m := b2
      have b4 : (i : Int) < 0 + (c + Int.ofNat m) := b4
      have b4 : (i : Int) < 0 + (c + (m : Int)) := b4
      have ec : c.toNat = i0 := by omega
      rw [ec] at b1 b2
      have ei := z_near_eq b1 (by omega) b2
      rw [ei]
      exact ⟨q1, q2⟩
    · cases he
  · rename_i l0 u0 f y d m' lo' hi'
    split at he
    · rename_i r er
      split at he
      · rename_i e
        have e1 := z_beq (z_and (z_and e).1).1
        have e2 := z_ieq_ok (z_and (z_and (z_and e).1).2).1
        have e3 := z_beq (z_and (z_and (z_and (z_and e).1).2).2).1
        have e5 := z_ieq_ok (z_and (z_and e).2).1
        have e6 := z_ieq_ok (z_and (z_and (z_and e).2).2).1
        have e7 := z_ieq_ok (z_and (z_and (z_and e).2).2).2
        have hc := z_cg_ok hJ h0 hx er
        subst e1
        subst e2
        subst e3
        subst e5
        subst e6
        cases he
        refine ⟨(hF i0 hn).1, fun q1 q2 i hi' => ⟨(hF i hi').1, fun b hb => ?_⟩⟩
        have hb := List.mem_singleton.mp hb
        subst hb
        have old := (hF i hi').2 _ List.mem_cons_self
        refine ⟨old.1, fun hib => ?_⟩
        obtain ⟨b1, b2, w, b3, b4⟩ := hib
        have b1 : f ≤ i := b1
        have b2 : i % m' = f % m' := b2
        have b3 : ρ[y]? = some w := b3
        have b4 : (i : Int) < w + (d + (m' : Int)) := b4
        obtain ⟨w', g1, g2⟩ := hx
        rw [b3] at g1
        cases g1
        by_cases hlt : (i : Int) < w + d
        · exact old.2 ⟨b1, b2, w, b3, hlt⟩
        · have h5 : ((i0 % m' : Nat) : Int) = ((f % m' : Nat) : Int) := by
            rw [e7, ← hj] at hc
            exact hc
          have h6 : i0 % m' = f % m' := by omega
          have ei := z_near_eq (i := i) (j := i0) (m := m') (by omega) (by omega) (b2.trans h6.symm)
          rw [ei]
          exact ⟨q1, q2⟩
      · cases he
    · cases he
  · cases he
noncomputable def z_al3 (m : Nat) (hi : Int) (pc : Nat) (ivs : zJ) (lo : List (Nat × zV)) (sk : List zV) (hp : List zC) (nc ns : Nat) : zQ := match sk with
  | (0, x, c) :: (2, j, _) :: sk => match hp[j]? with
    | some (.inr (.inl (t, n, K))) => match Nat.beq t 3 && z_ix ivs x c n, z_ext m hi x c ivs K with
      | true, some (l, h, K') => some [(pc, ((z_new 1 0 hi ivs).2, lo, (z_new 1 0 hi ivs).1 :: sk, hp.set j (.inr (.inl (t, n, K'))), nc, ns)), (pc, ((z_new 1 l (-1) ivs).2, lo, (z_new 1 l (-1) ivs).1 :: sk, hp, nc, ns)), (pc, ((z_new 1 (hi + 1) h ivs).2, lo, (z_new 1 (hi + 1) h ivs).1 :: sk, hp, nc, ns))]
      | _, _ => none
    | _ => none
  | _ => none
theorem zs_al3 {n mm : Nat} {hi : Int} (row : ∀ (ws : va_W) (H : Heap) (locs : List Loc) (ls : Array Slot) (rest : List Value) (a q0 n0 : Nat) (cA : ClassId) (ty : FieldType) (f : Nat → Int64) (i : Int32), va_P D cl ws H → ws[q0]? = some (a, .inl (cA, n0, .inr (.inl f))) → tys[3]? = some (cA, ty) → vp_in i n0 → W p l e R s m args below meth c H locs nc ns Q (F0 m n ls (.long (f i.toNatClampNeg) :: rest)) → W p l e R s m args below meth c H locs nc ns Q (F0 m pc ls (.int i :: .ref a :: rest)))
    (h : z_al3 mm hi n ivs lo sk hp nc ns = some q) (kk : ∀ z ∈ q, z_K p l e R s m args below meth c Q D cl tys A H0 nL ρ0 ad0 z.1 z.2) : z_K p l e R s m args below meth c Q D cl tys A H0 nL ρ0 ad0 pc (ivs, lo, sk, hp, nc, ns) := by
  unfold z_al3 at h
  split at h
  · rename_i x c0 j o sk
    split at h
    · rename_i t n0 K ec
      split at h
      · rename_i l0 u0 K' et ex
        have e1 : t = 3 := z_beq (z_and et).1
        have e2 := (z_and et).2
        cases h
        intro ρ ws lv st H locs ls hg
        obtain ⟨v2, v1, st, rfl, hv2, hv1, hs⟩ := hg.xsk.c2
        obtain ⟨i, rfl, hi0⟩ := hv2
        obtain ⟨ad, ee, h1, rfl, h2⟩ := z_cell hg.xhp hv1 ec
        have hin := z_ix_ok hg.xiv hi0 e2
        obtain ⟨cA, ty, ht, ⟨h3, -⟩ | ⟨h3, f, rfl, hb⟩⟩ := h2
        · omega
        · subst e1
          have hb : ∀ i, i < n0 → z_kz ρ K i ((fun i => (f i).toInt) i) := hb
          have r := z_ext_ok hg.xiv hg.zero hi0 hin.2.2 hin.2.1 hb ex
          have r1 : l0 ≤ (f i.toNatClampNeg).toInt ∧ (f i.toNatClampNeg).toInt ≤ u0 := r.1
          rcases Int.lt_or_le (f i.toNatClampNeg).toInt 0 with hv | hv
          · obtain ⟨s1, ρ', g1, g2, g3⟩ := z_new_ok (t := 1) (lo := l0) (hi := -1) (z := (f i.toNatClampNeg).toInt) hg.xiv hg.zero r1.1 (by omega)
            have hg' := (hg.stk hs).more g1 g2
            exact row ws H locs ls st ad j n0 cA ty f i hg.xP h1 ht hin.1 (kk _ (List.mem_cons_of_mem _ List.mem_cons_self) ρ' ws lv _ H locs ls (hg'.stk ⟨z_m.ofRL (ρ := ρ) s1 g3, hg'.xsk⟩))
          · rcases Int.lt_or_le hi (f i.toNatClampNeg).toInt with hw | hw
            · obtain ⟨s1, ρ', g1, g2, g3⟩ := z_new_ok (t := 1) (lo := hi + 1) (hi := u0) (z := (f i.toNatClampNeg).toInt) hg.xiv hg.zero (by omega) r1.2
              have hg' := (hg.stk hs).more g1 g2
              exact row ws H locs ls st ad j n0 cA ty f i hg.xP h1 ht hin.1 (kk _ (List.mem_cons_of_mem _ (List.mem_cons_of_mem _ List.mem_cons_self)) ρ' ws lv _ H locs ls (hg'.stk ⟨z_m.ofRL (ρ := ρ) s1 g3, hg'.xsk⟩))
            · obtain ⟨s1, ρ', g1, g2, g3⟩ := z_new_ok (t := 1) (lo := 0) (hi := hi) (z := (f i.toNatClampNeg).toInt) hg.xiv hg.zero hv hw
              have hgA : z_g D cl tys A H0 nL ρ0 ad0 (ivs, lo, sk, hp.set j (.inr (.inl (3, n0, K'))), nc, ns) ρ ws lv st H locs ls := by
                obtain ⟨a1, b1, b3, b4, b5, b6⟩ := hg.stk hs
                refine ⟨a1, b1, b3, b4, ?_, b6⟩
                have k := z_F.set (R := z_H tys ρ (z_ad ws)) (a := .inr (.inl (3, n0, K'))) (b := (ad, .inl (cA, n0, .inr (.inl f)))) ⟨cA, ty, ht, Or.inr ⟨h3, f, rfl, r.2 hv hw⟩⟩ b5 j
                have e : ws.set j (ad, .inl (cA, n0, .inr (.inl f))) = ws := by
                  apply List.ext_getElem?
                  intro i
                  by_cases hi : j = i
                  · subst hi
                    rw [List.getElem?_set_self (List.getElem?_eq_some_iff.mp h1).1, h1]
                  · rw [List.getElem?_set_ne hi]
                rw [e] at k
                exact k
              have hg' := hgA.more g1 g2
              exact row ws H locs ls st ad j n0 cA ty f i hg.xP h1 ht hin.1 (kk _ List.mem_cons_self ρ' ws lv _ H locs ls (hg'.stk ⟨z_m.ofRL (ρ := ρ) s1 g3, hg'.xsk⟩))
      · cases h
    · cases h
  · cases h
/-- a number into an array: bounds that the row's kind asks for -/
noncomputable def z_as (two : Bool) (kt : Nat) (ok : Nat → Int → Int → Bool) (pc : Nat) (ivs : zJ) (lo : List (Nat × zV)) (sk : List zV) (hp : List zC) (nc ns : Nat) : zQ := match sk with
  | (t1, y, d) :: (0, x, c) :: (2, j, _) :: sk => match z_b ivs y d with
    | some (vl, vh) => match hp[j]? with
      | some (.inr (.inl (t, n, K))) => match Nat.beq t1 kt && (ok t vl vh && z_ix ivs x c n) with
        | true => match two && Nat.beq x 0, z_kst2 ivs c K vl vh with
          | true, some o => some [(pc, (o.1, lo, sk, hp.set j (.inr (.inl (t, n, o.2))), nc, ns))]
          | _, _ => some ((z_kst kt ivs x c K y d vl vh).map (fun o => (pc, (o.1, lo, sk, hp.set j (.inr (.inl (t, n, o.2))), nc, ns))))
        | false => none
      | _ => none
    | none => none
  | _ => none
theorem z_last {α : Type} {l : List α} {n : Nat} (a : α) (h : l.length = n) : (l ++ [a])[n]? = some a := by
  rw [← h, List.getElem?_append_right (Nat.le_refl _), Nat.sub_self]
  rfl
/-- the outcomes of a store -/
theorem z_as_out {two : Bool} {kt pc0 : Nat} {x y : Nat} {c0 d vl vh X V : Int} {K : zK} {t n j i0 : Nat} {F : Nat → Int} {ρ : List Int} {sk0 : List zV} (hJ : z_iv ivs ρ) (h0 : ρ[0]? = some 0) (hx : z_v ρ x c0 X) (hj : (i0 : Int) = X) (hjn : i0 < n) (hy : z_v ρ y d V) (h1 : vl ≤ V) (h2 : V ≤ vh) (hF : ∀ i, i < n → z_kz ρ K i (F i))
    (h : (match two && Nat.beq x 0, z_kst2 ivs c0 K vl vh with
          | true, some o => some [(pc0, ((o.1, lo, sk0, hp.set j (.inr (.inl (t, n, o.2))), nc, ns) : zS))]
          | _, _ => some ((z_kst kt ivs x c0 K y d vl vh).map (fun o => (pc0, ((o.1, lo, sk0, hp.set j (.inr (.inl (t, n, o.2))), nc, ns) : zS))))) = some q) :
    ∃ J' K', (pc0, ((J', lo, sk0, hp.set j (.inr (.inl (t, n, K'))), nc, ns) : zS)) ∈ q ∧ z_iv J' ρ ∧ ∀ i, i < n → z_kz ρ K' i (if i = i0 then V else F i) := by
  split at h
  · rename_i o e1 e2
    cases h
    have ex := z_beq (z_and e1).2
    subst ex
    have := z_v.const h0 hx
    subst this
    have r := z_kst2_ok (j := i0) hJ h0 hj h1 h2 hF e2
    exact ⟨o.1, o.2, List.mem_singleton.mpr rfl, r.1, r.2⟩
  · cases h
    obtain ⟨out, ho, r1, r2⟩ := z_kst_ok (kt := kt) hJ h0 hx hj hjn hy h1 h2 hF
    exact ⟨out.1, out.2, List.mem_map.mpr ⟨out, ho, rfl⟩, r1, r2⟩
theorem zs_as {n : Nat} {two : Bool} {ok : Nat → Int → Int → Bool} (hok : ∀ t a b, ok t a b = true → t < 3) (row : ∀ (ws : va_W) (H : Heap) (locs : List Loc) (ls : Array Slot) (rest : List Value) (a q0 t0 n0 : Nat) (cA : ClassId) (ty : FieldType) (f : Nat → Int32) (i x : Int32) (vl vh : Int), va_P D cl ws H → va_D A ws → va_S A H0 H locs → ws[q0]? = some (a, .inl (cA, n0, .inl f)) → tys[t0]? = some (cA, ty) → ok t0 vl vh = true → vl ≤ x.toInt → x.toInt ≤ vh → vp_in i n0 →
      (∀ (H1 : Heap) (locs1 : List Loc), va_P D cl (ws.set q0 (a, .inl (cA, n0, .inl (upd f i.toNatClampNeg x)))) H1 → va_D A (ws.set q0 (a, .inl (cA, n0, .inl (upd f i.toNatClampNeg x)))) → va_S A H0 H1 locs1 → W p l e R s m args below meth c H1 locs1 nc ns Q (F0 m n ls rest)) → W p l e R s m args below meth c H locs nc ns Q (F0 m pc ls (.int x :: .int i :: .ref a :: rest)))
    (h : z_as two 0 ok n ivs lo sk hp nc ns = some q) (kk : ∀ z ∈ q, z_K p l e R s m args below meth c Q D cl tys A H0 nL ρ0 ad0 z.1 z.2) : z_K p l e R s m args below meth c Q D cl tys A H0 nL ρ0 ad0 pc (ivs, lo, sk, hp, nc, ns) := by
  unfold z_as at h
  split at h
  · rename_i t1 y d x c0 j o sk
    split at h
    · rename_i vl vh eb
      split at h
      · rename_i t n0 K ec
        split at h
        · rename_i et
          have e0 : t1 = 0 := z_beq (z_and et).1
          have e1 := (z_and (z_and et).2).1
          have e2 := (z_and (z_and et).2).2
          subst e0
          intro ρ ws lv st H locs ls hg
          obtain ⟨v3, v2, v1, st, rfl, hv3, hv2, hv1, hs⟩ := hg.xsk.c3
          obtain ⟨X, rfl, hX⟩ := hv3
          obtain ⟨i, rfl, hi⟩ := hv2
          obtain ⟨ad, ee, h1, rfl, h2⟩ := z_cell hg.xhp hv1 ec
          have hin := z_ix_ok hg.xiv hi e2
          have hxb := z_b_ok hg.xiv hX eb
          obtain ⟨cA, ty, ht, ⟨h3, f, rfl, hb⟩ | ⟨h3, -⟩⟩ := h2
          · obtain ⟨J', K', k1, k2, k3⟩ := z_as_out (F := fun i => (f i).toInt) hg.xiv hg.zero hi hin.2.2 hin.2.1 hX hxb.1 hxb.2 hb h
            refine row ws H locs ls st ad j t n0 cA ty f i X vl vh hg.xP hg.xD hg.xS h1 ht e1 hxb.1 hxb.2 hin.1 (fun H1 locs1 hP hD hS => ?_)
            have hc : z_c tys ρ (z_ad ws) (.inr (.inl (t, n0, K'))) (.inl (cA, n0, .inl (upd f i.toNatClampNeg X))) := by
              refine ⟨cA, ty, ht, Or.inl ⟨h3, _, rfl, fun jj hj => ?_⟩⟩
              have b := k3 jj hj
              unfold upd
              split
              · rename_i ej
                rw [if_pos ej] at b
                exact b
              · rename_i ej
                rw [if_neg ej] at b
                exact b
            exact kk _ k1 ρ _ lv st H1 locs1 ls (((hg.stk hs).set h1 hc hP hD hS).more (List.prefix_refl _) k2)
          · have := hok _ _ _ e1
            omega
        · cases h
      · cases h
    · cases h
  · cases h
noncomputable def z_asL (pc : Nat) (ivs : zJ) (lo : List (Nat × zV)) (sk : List zV) (hp : List zC) (nc ns : Nat) : zQ := z_as false 1 (fun t _ _ => Nat.beq t 3) pc ivs lo sk hp nc ns
theorem zs_asL {n : Nat} (row : ∀ (ws : va_W) (H : Heap) (locs : List Loc) (ls : Array Slot) (rest : List Value) (a q0 n0 : Nat) (cA : ClassId) (ty : FieldType) (f : Nat → Int64) (i : Int32) (x : Int64), va_P D cl ws H → va_D A ws → va_S A H0 H locs → ws[q0]? = some (a, .inl (cA, n0, .inr (.inl f))) → tys[3]? = some (cA, ty) → vp_in i n0 →
      (∀ (H1 : Heap) (locs1 : List Loc), va_P D cl (ws.set q0 (a, .inl (cA, n0, .inr (.inl (vp_updL f i.toNatClampNeg x))))) H1 → va_D A (ws.set q0 (a, .inl (cA, n0, .inr (.inl (vp_updL f i.toNatClampNeg x))))) → va_S A H0 H1 locs1 → W p l e R s m args below meth c H1 locs1 nc ns Q (F0 m n ls rest)) → W p l e R s m args below meth c H locs nc ns Q (F0 m pc ls (.long x :: .int i :: .ref a :: rest)))
    (h : z_asL n ivs lo sk hp nc ns = some q) (kk : ∀ z ∈ q, z_K p l e R s m args below meth c Q D cl tys A H0 nL ρ0 ad0 z.1 z.2) : z_K p l e R s m args below meth c Q D cl tys A H0 nL ρ0 ad0 pc (ivs, lo, sk, hp, nc, ns) := by
  unfold z_asL z_as at h
  split at h
  · rename_i t1 y d x c0 j o sk
    split at h
    · rename_i vl vh eb
      split at h
      · rename_i t n0 K ec
        split at h
        · rename_i et
          have e0 : t1 = 1 := z_beq (z_and et).1
          have e1 : t = 3 := z_beq (z_and (z_and et).2).1
          have e2 := (z_and (z_and et).2).2
          subst e0
          intro ρ ws lv st H locs ls hg
          obtain ⟨v3, v2, v1, st, rfl, hv3, hv2, hv1, hs⟩ := hg.xsk.c3
          obtain ⟨X, rfl, hX⟩ := hv3
          obtain ⟨i, rfl, hi⟩ := hv2
          obtain ⟨ad, ee, h1, rfl, h2⟩ := z_cell hg.xhp hv1 ec
          have hin := z_ix_ok hg.xiv hi e2
          have hxb := z_b_ok hg.xiv hX eb
          obtain ⟨cA, ty, ht, ⟨h3, -⟩ | ⟨h3, f, rfl, hb⟩⟩ := h2
          · omega
          · subst h3
            obtain ⟨J', K', k1, k2, k3⟩ := z_as_out (two := false) (kt := 1) (F := fun i => (f i).toInt) hg.xiv hg.zero hi hin.2.2 hin.2.1 hX hxb.1 hxb.2 hb h
            refine row ws H locs ls st ad j n0 cA ty f i X hg.xP hg.xD hg.xS h1 ht hin.1 (fun H1 locs1 hP hD hS => ?_)
            have hc : z_c tys ρ (z_ad ws) (.inr (.inl (3, n0, K'))) (.inl (cA, n0, .inr (.inl (vp_updL f i.toNatClampNeg X)))) := by
              refine ⟨cA, ty, ht, Or.inr ⟨rfl, _, rfl, fun jj hj => ?_⟩⟩
              have b := k3 jj hj
              unfold vp_updL
              split
              · rename_i ej
                rw [if_pos ej] at b
                exact b
              · rename_i ej
                rw [if_neg ej] at b
                exact b
            exact kk _ k1 ρ _ lv st H1 locs1 ls (((hg.stk hs).set h1 hc hP hD hS).more (List.prefix_refl _) k2)
        · cases h
      · cases h
    · cases h
  · cases h
/-- a cell out of an array of references: place by place -/
noncomputable def z_ar (pc : Nat) (ivs : zJ) (lo : List (Nat × zV)) (sk : List zV) (hp : List zC) (nc ns : Nat) : zQ := match sk with
  | (0, x, c) :: (2, j, _) :: sk => match hp[j]? with
    | some (.inr (.inr (t, es))) => match Nat.ble 4 t && z_ix ivs x c es.length with
      | true => some ((List.range es.length).flatMap (fun k => match es[k]? with
        | some a => z_go (z_asm false .eq ivs x c 0 (Int.ofNat k)) pc lo (a :: sk) hp nc ns
        | none => []))
      | false => none
    | _ => none
  | _ => none
theorem zs_ar {n : Nat} (row : ∀ (ws : va_W) (H : Heap) (locs : List Loc) (ls : Array Slot) (rest : List Value) (a q0 t0 n0 : Nat) (cA : ClassId) (ty : FieldType) (f : Nat → Option Nat) (i : Int32), va_P D cl ws H → ws[q0]? = some (a, .inl (cA, n0, .inr (.inr (.inr (.inr f))))) → 4 ≤ t0 → tys[t0]? = some (cA, ty) → vp_in i n0 → W p l e R s m args below meth c H locs nc ns Q (F0 m n ls (va_rf (f i.toNatClampNeg) :: rest)) → W p l e R s m args below meth c H locs nc ns Q (F0 m pc ls (.int i :: .ref a :: rest)))
    (h : z_ar n ivs lo sk hp nc ns = some q) (kk : ∀ z ∈ q, z_K p l e R s m args below meth c Q D cl tys A H0 nL ρ0 ad0 z.1 z.2) : z_K p l e R s m args below meth c Q D cl tys A H0 nL ρ0 ad0 pc (ivs, lo, sk, hp, nc, ns) := by
  unfold z_ar at h
  split at h
  · rename_i x c0 j o sk
    split at h
    · rename_i t es ec
      split at h
      · rename_i et
        have e1 := Nat.le_of_ble_eq_true (z_and et).1
        have e2 := (z_and et).2
        cases h
        intro ρ ws lv st H locs ls hg
        obtain ⟨v2, v1, st, rfl, hv2, hv1, hs⟩ := hg.xsk.c2
        obtain ⟨i, rfl, hi⟩ := hv2
        obtain ⟨ad, ee, h1, rfl, h2⟩ := z_cell hg.xhp hv1 ec
        have hin := z_ix_ok hg.xiv hi e2
        obtain ⟨cA, ty, ht, -, f, rfl, hb⟩ := h2
        · have ea : es[i.toNatClampNeg]? = some es[i.toNatClampNeg] := List.getElem?_eq_getElem hin.2.1
          obtain ⟨iv, h3, h4⟩ := z_asm_ok (both := false) (cd := .eq) (c := c0) (d := Int.ofNat i.toNatClampNeg) (Y := Int.ofNat i.toNatClampNeg) hg.xiv hi (z_v.of0 hg.zero _) (show i.toInt = Int.ofNat _ from hin.2.2.symm)
          refine row ws H locs ls st ad j t es.length cA ty f i hg.xP h1 e1 ht hin.1 (kk (n, (iv, lo, es[i.toNatClampNeg] :: sk, hp, nc, ns)) ?_ ρ ws lv _ H locs ls (((hg.stk hs).more (List.prefix_refl _) h4).stk ⟨hb _ _ ea, hs⟩))
          refine List.mem_flatMap.mpr ⟨i.toNatClampNeg, List.mem_range.mpr hin.2.1, ?_⟩
          rw [ea]
          exact List.mem_map.mpr ⟨iv, h3, rfl⟩
      · cases h
    · cases h
  · cases h
/-- a cell into an array of references, at a place that is known -/
noncomputable def z_sr (ok : Nat → Nat → Bool) (pc : Nat) (ivs : zJ) (lo : List (Nat × zV)) (sk : List zV) (hp : List zC) (nc ns : Nat) : zQ := match sk with
  | (2, v, o) :: (0, 0, k) :: (2, j, _) :: sk => match hp[j]?, hp[v]? with
    | some (.inr (.inr (t, es))), some (.inl (ci, _)) => match ok t ci && (Nat.ble 4 t && z_ix ivs 0 k es.length) with
      | true => some [(pc, (ivs, lo, sk, hp.set j (.inr (.inr (t, es.set k.toNat (2, v, o)))), nc, ns))]
      | false => none
    | _, _ => none
  | _ => none
theorem zs_sr {n : Nat} {ok : Nat → Nat → Bool} (row : ∀ (ws : va_W) (H : Heap) (locs : List Loc) (ls : Array Slot) (rest : List Value) (a q0 t0 n0 v qk ci : Nat) (cA : ClassId) (ty : FieldType) (f : Nat → Option Nat) (vs : List Value) (i : Int32), va_P D cl ws H → va_D A ws → va_S A H0 H locs → ws[q0]? = some (a, .inl (cA, n0, .inr (.inr (.inr (.inr f))))) → tys[t0]? = some (cA, ty) → ws[qk]? = some (v, .inr (ci, vs)) → ok t0 ci = true → 4 ≤ t0 → vp_in i n0 →
      (∀ (H1 : Heap) (locs1 : List Loc), va_P D cl (ws.set q0 (a, .inl (cA, n0, .inr (.inr (.inr (.inr (va_up f i.toNatClampNeg (some v)))))))) H1 → va_D A (ws.set q0 (a, .inl (cA, n0, .inr (.inr (.inr (.inr (va_up f i.toNatClampNeg (some v)))))))) → va_S A H0 H1 locs1 → W p l e R s m args below meth c H1 locs1 nc ns Q (F0 m n ls rest)) → W p l e R s m args below meth c H locs nc ns Q (F0 m pc ls (.ref v :: .int i :: .ref a :: rest)))
    (h : z_sr ok n ivs lo sk hp nc ns = some q) (kk : ∀ z ∈ q, z_K p l e R s m args below meth c Q D cl tys A H0 nL ρ0 ad0 z.1 z.2) : z_K p l e R s m args below meth c Q D cl tys A H0 nL ρ0 ad0 pc (ivs, lo, sk, hp, nc, ns) := by
  unfold z_sr at h
  split at h
  · rename_i v o k0 j o2 sk
    split at h
    · rename_i t es ci fs ec ev
      split at h
      · rename_i et
        have e1 := (z_and et).1
        have e4 := Nat.le_of_ble_eq_true (z_and (z_and et).2).1
        have e2 := (z_and (z_and et).2).2
        cases h
        intro ρ ws lv st H locs ls hg
        obtain ⟨v3, v2, v1, st, rfl, hv3, hv2, hv1, hs⟩ := hg.xsk.c3
        obtain ⟨i, rfl, hi⟩ := hv2
        obtain ⟨ad, ee, h1, rfl, h2⟩ := z_cell hg.xhp hv1 ec
        obtain ⟨ad3, ee3, h13, rfl, h23⟩ := z_cell hg.xhp hv3 ev
        obtain ⟨vs, rfl, -⟩ := h23
        have hin := z_ix_ok hg.xiv hi e2
        have ei := z_v.const hg.zero hi
        have ek : k0.toNat = i.toNatClampNeg := by
          show k0.toNat = i.toInt.toNat
          rw [ei]
        obtain ⟨cA, ty, ht, h3, f, rfl, hb⟩ := h2
        · refine row ws H locs ls st ad j t es.length ad3 v ci cA ty f vs i hg.xP hg.xD hg.xS h1 ht h13 e1 e4 hin.1 (fun H1 locs1 hP hD hS => ?_)
          have hc : z_c tys ρ (z_ad ws) (.inr (.inr (t, es.set k0.toNat (2, v, o)))) (.inl (cA, es.length, .inr (.inr (.inr (.inr (va_up f i.toNatClampNeg (some ad3))))))) := by
            refine ⟨cA, ty, ht, h3, _, by rw [List.length_set], fun jj a ha => ?_⟩
            rw [ek] at ha
            by_cases hj : i.toNatClampNeg = jj
            · subst hj
              rw [List.getElem?_set_self hin.2.1] at ha
              cases ha
              rw [va_up_self]
              exact ⟨ad3, z_ad_get h13, rfl⟩
            · rw [List.getElem?_set_ne hj] at ha
              rw [va_up_ne _ _ (Ne.symm hj)]
              exact hb jj a ha
          exact kk _ (List.mem_singleton.mpr rfl) ρ _ lv st H1 locs1 ls ((hg.stk hs).set h1 hc hP hD hS)
      · cases h
    · cases h
  · cases h
/-- a new cell of the world -/
theorem z_g.push {H1 : Heap} {a : Nat} {e1 : va_E} {cell : zC} {nc' ns' : Nat} (h : z_g D cl tys A H0 nL ρ0 ad0 (ivs, lo, sk, hp, nc, ns) ρ ws lv st H locs ls) (hc : z_c tys ρ (z_ad ws ++ [a]) cell e1) (hP : va_P D cl (ws ++ [(a, e1)]) H1) (hD : va_D A (ws ++ [(a, e1)])) (hS : va_S A H0 H1 locs) :
    z_g D cl tys A H0 nL ρ0 ad0 (ivs, lo, (2, hp.length, 0) :: sk, hp ++ [cell], nc', ns') ρ (ws ++ [(a, e1)]) lv (.ref a :: st) H1 locs ls := by
  obtain ⟨⟨a1, a3, a4⟩, b1, b3, b4, b5, b6, b7, b8, b9⟩ := h
  have ead : z_ad (ws ++ [(a, e1)]) = z_ad ws ++ [a] := z_ad_app _ _
  have el : hp.length = (z_ad ws).length := by
    unfold z_ad
    rw [List.length_map]
    exact b5.len
  refine ⟨⟨a1, by rw [ead]; exact a3.trans (z_app_pre _ _), a4⟩, b1, ?_, ⟨⟨a, ?_, rfl⟩, ?_⟩, ?_, hP, hD, hS, b9⟩
  · rw [ead]
    exact b3.mono (fun _ _ k => ⟨k.1, k.2.mono (List.prefix_refl _) (z_app_pre _ _)⟩)
  · rw [ead]
    exact z_last a el.symm
  · rw [ead]
    exact b4.mono (fun _ _ k => k.mono (List.prefix_refl _) (z_app_pre _ _))
  · rw [ead]
    exact z_F.app (l2 := [cell]) (k2 := [(a, e1)]) ⟨hc, trivial⟩ (b5.mono (fun _ _ k => z_c.mono (List.prefix_refl _) (z_app_pre _ _) k))
end ZB
