/-! ===== a contract of a few cells at a call with more: the others stay ===== -/
theorem z_Met_gen {l : Launch} {y : MethodName} {ws : List Cond} {rm : Room} {Pc Pc' : Array Value → State → Prop} {Qc Qc' : Array Value → State → Outcome → State → Prop} {mc ms : Nat} {free free' : Addr → Prop} (h : Met l y ws rm Pc Qc mc ms free) (hp : ∀ a s, Pc' a s → Pc a s) (hq : ∀ a s o t, Pc' a s → Qc a s o t → Qc' a s o t) (hf : ∀ q, free q → free' q) : Met l y ws rm Pc' Qc' mc ms free' := by
  intro p e ha hc hk s m args below hf0 happ hP hK
  obtain ⟨n, o, h1, h2, h3, h4, L, h5, h6⟩ := h p e ha hc hk s m args below hf0 happ (hp _ _ hP) hK
  exact ⟨n, o, h1, h2, h3, hq _ _ _ _ hP h4, L, h5, fun q hq => hf _ (h6 q hq)⟩
/-- some places of a list, put anew -/
noncomputable def z_put {α : Type} : List α → List Nat → List α → List α
  | l, [], _ => l
  | l, _ :: _, [] => l
  | l, p :: ps, c :: cs => z_put (z_stx l c p) ps cs
theorem z_put_len {α : Type} : ∀ (l : List α) (ps : List Nat) (cs : List α), (z_put l ps cs).length = l.length
  | l, [], _ => by unfold z_put; rfl
  | l, _ :: _, [] => rfl
  | l, p :: ps, c :: cs => by
    show (z_put (z_stx l c p) ps cs).length = l.length
    rw [z_stx_eq, z_put_len, List.length_set]
theorem z_put_out {α : Type} {i : Nat} : ∀ {l : List α} {ps : List Nat} {cs : List α}, i ∉ ps → (z_put l ps cs)[i]? = l[i]?
  | l, [], _, _ => by unfold z_put; rfl
  | l, _ :: _, [], _ => rfl
  | l, p :: ps, c :: cs, h => by
    show (z_put (z_stx l c p) ps cs)[i]? = l[i]?
    rw [z_stx_eq, z_put_out (fun q => h (List.mem_cons_of_mem _ q)), List.getElem?_set_ne (fun q => h (by rw [q]; exact List.mem_cons_self))]
noncomputable def z_nodup : List Nat → Bool
  | [] => true
  | p :: ps => match z_has ps p with
    | true => false
    | false => z_nodup ps
theorem z_has_ok {x : Nat} : ∀ {l : List Nat}, z_has l x = false → x ∉ l
  | [], _ => fun h => by cases h
  | y :: l, h => by
    have h2 : Bool.rec (motive := fun _ => Bool) (z_has l x) true (Nat.beq y x) = false := h
    cases e : Nat.beq y x with
    | true =>
      rw [e] at h2
      cases h2
    | false =>
      rw [e] at h2
      have h : z_has l x = false := h2
      intro hm
      rcases List.mem_cons.mp hm with rfl | hm
      · rw [Nat.beq_refl] at e
        cases e
      · exact z_has_ok h hm
theorem z_put_in {α : Type} {i j : Nat} {c : α} : ∀ {l : List α} {ps : List Nat} {cs : List α}, z_nodup ps = true → ps[j]? = some i → cs[j]? = some c → i < l.length → (z_put l ps cs)[i]? = some c
  | l, [], cs, _, h, _, _ => by simp at h
  | l, _ :: _, [], _, _, h, _ => by simp at h
  | l, p :: ps, c0 :: cs, hn, h1, h2, h3 => by
    unfold z_nodup at hn
    split at hn
    · cases hn
    · rename_i eh
      show (z_put (z_stx l c0 p) ps cs)[i]? = some c
      rw [z_stx_eq]
      cases j with
      | zero =>
        rw [List.getElem?_cons_zero] at h1 h2
        cases h1
        cases h2
        rw [z_put_out (z_has_ok eh), List.getElem?_set_self h3]
      | succ j =>
        rw [List.getElem?_cons_succ] at h1 h2
        exact z_put_in hn h1 h2 (by rw [List.length_set]; exact h3)
theorem z_nodup_inj : ∀ {ps : List Nat} {i j a : Nat}, z_nodup ps = true → ps[i]? = some a → ps[j]? = some a → i = j
  | [], i, j, a, _, h, _ => by simp at h
  | p :: ps, i, j, a, hn, h1, h2 => by
    unfold z_nodup at hn
    split at hn
    · cases hn
    · rename_i eh
      have hp := z_has_ok eh
      cases i with
      | zero =>
        cases j with
        | zero => rfl
        | succ j =>
          rw [List.getElem?_cons_zero] at h1
          rw [List.getElem?_cons_succ] at h2
          cases h1
          exact absurd (List.mem_of_getElem? h2) hp
      | succ i =>
        cases j with
        | zero =>
          rw [List.getElem?_cons_zero] at h2
          rw [List.getElem?_cons_succ] at h1
          cases h2
          exact absurd (List.mem_of_getElem? h1) hp
        | succ j =>
          rw [List.getElem?_cons_succ] at h1 h2
          rw [z_nodup_inj hn h1 h2]
/-- the place of a number in a list -/
noncomputable def z_idx (x : Nat) : List Nat → Nat → Option Nat
  | [], _ => none
  | y :: l, k => match Nat.beq y x with
    | true => some k
    | false => z_idx x l (k + 1)
theorem z_idx_ok {x : Nat} : ∀ {l : List Nat} {k j : Nat}, z_idx x l k = some j → k ≤ j ∧ l[j - k]? = some x
  | [], k, j, h => by cases h
  | y :: l, k, j, h => by
    unfold z_idx at h
    split at h
    · rename_i e
      cases h
      rw [z_beq e, Nat.sub_self]
      exact ⟨Nat.le_refl _, rfl⟩
    · obtain ⟨h1, h2⟩ := z_idx_ok h
      refine ⟨by omega, ?_⟩
      rw [show j - k = (j - (k + 1)) + 1 by omega, List.getElem?_cons_succ]
      exact h2
/-- places as the contract numbers them, and back -/
noncomputable def z_dn (π : List Nat) (a : zV) : Option zV := match Nat.beq a.1 2 with
  | true => match z_idx a.2.1 π 0 with
    | some j => some (2, j, a.2.2)
    | none => none
  | false => some a
noncomputable def z_dnl (π : List Nat) : List zV → Option (List zV)
  | [] => some []
  | a :: as => match z_dn π a, z_dnl π as with
    | some b, some bs => some (b :: bs)
    | _, _ => none
noncomputable def z_dnc (π : List Nat) (a : zC) : Option zC := match a with
  | .inl (c, f) => match z_dnl π f with
    | some g => some (.inl (c, g))
    | none => none
  | .inr (.inl x) => some (.inr (.inl x))
  | .inr (.inr (t, f)) => match z_dnl π f with
    | some g => some (.inr (.inr (t, g)))
    | none => none
noncomputable def z_dnh (π : List Nat) (hp : List zC) : List Nat → Option (List zC)
  | [] => some []
  | i :: is => match z_nx hp i with
    | some a => match z_dnc π a, z_dnh π hp is with
      | some b, some bs => some (b :: bs)
      | _, _ => none
    | none => none
noncomputable def z_up (π : List Nat) (a : zV) : Option zV := match Nat.beq a.1 2 with
  | true => match z_nx π a.2.1 with
    | some j => some (2, j, a.2.2)
    | none => none
  | false => some a
noncomputable def z_upl (π : List Nat) : List zV → Option (List zV)
  | [] => some []
  | a :: as => match z_up π a, z_upl π as with
    | some b, some bs => some (b :: bs)
    | _, _ => none
noncomputable def z_upc (π : List Nat) (a : zC) : Option zC := match a with
  | .inl (c, f) => match z_upl π f with
    | some g => some (.inl (c, g))
    | none => none
  | .inr (.inl x) => some (.inr (.inl x))
  | .inr (.inr (t, f)) => match z_upl π f with
    | some g => some (.inr (.inr (t, g)))
    | none => none
noncomputable def z_uph (π : List Nat) : List zC → Option (List zC)
  | [] => some []
  | a :: as => match z_upc π a, z_uph π as with
    | some b, some bs => some (b :: bs)
    | _, _ => none
noncomputable def z_upX (π : List Nat) (hp : List zC) : List zX → Option (List zX)
  | [] => some []
  | E :: es => match z_upl π E.2.1, z_uph π E.2.2, Nat.beq E.2.2.length π.length, z_upX π hp es with
    | some rv, some h, true, some es' => some ((E.1, rv, z_put hp π h) :: es')
    | _, _, _, _ => none
/-- the cells that are reached, in the order in which they are met -/
noncomputable def z_addp (π : List Nat) : List zV → List Nat
  | [] => π
  | a :: as => match Nat.beq a.1 2 with
    | true => match z_has π a.2.1 with
      | true => z_addp π as
      | false => z_addp (π ++ [a.2.1]) as
    | false => z_addp π as
noncomputable def z_bfs (hp : List zC) : Nat → Nat → List Nat → List Nat
  | 0, _, π => π
  | n + 1, j, π => match z_nx π j with
    | some q => match z_nx hp q with
      | some (.inl (_, fs)) => z_bfs hp n (j + 1) (z_addp π fs)
      | some (.inr (.inr (_, es))) => z_bfs hp n (j + 1) (z_addp π es)
      | _ => z_bfs hp n (j + 1) π
    | none => π
noncomputable def z_useP (nb : Nat) (cn : zCn) (J : zJ) (as : List zV) (hp : List zC) (π : List Nat) : Option (List zX) := match z_nodup π, z_dnl π as, z_dnh π hp π with
  | true, some as', some hp' => match z_use nb cn J as' hp' with
    | some es => z_upX π hp es
    | none => none
  | _, _, _ => none
noncomputable def z_useF (nb : Nat) (cn : zCn) (J : zJ) (as : List zV) (hp : List zC) : Option (List zX) := z_useP nb cn J as hp (z_bfs hp cn.1.2.2.length 0 (z_addp [] as))
/-- a world's addresses at some places -/
noncomputable def z_adP (π : List Nat) (ad adc : List Nat) : Prop := ∀ (j i : Nat), π[j]? = some i → ∀ a, ad[i]? = some a → adc[j]? = some a
theorem z_dn_ok {π : List Nat} {ρ : List Int} {ad adc : List Nat} {a b : zV} {v : Value} (hA : z_adP π ad adc) (hm : z_m ρ ad a v) (h : z_dn π a = some b) : z_m ρ adc b v := by
  obtain ⟨t, x, c⟩ := a
  unfold z_dn at h
  dsimp only at h
  split at h
  · rename_i e
    have e := z_beq e
    subst e
    split at h
    · rename_i j ej
      cases h
      obtain ⟨-, g⟩ := z_idx_ok ej
      rw [Nat.sub_zero] at g
      obtain ⟨q, h1, h2⟩ := hm
      exact ⟨q, hA j x g q h1, h2⟩
    · cases h
  · rename_i e
    cases h
    match t, hm, e with
    | 0, hm, _ => exact hm
    | 1, hm, _ => exact hm
    | 2, _, e => cases e
    | 3, hm, _ => exact hm
    | _ + 4, hm, _ => exact hm
theorem z_dnl_ok {π : List Nat} {ρ : List Int} {ad adc : List Nat} (hA : z_adP π ad adc) : ∀ {as bs : List zV} {vs : List Value}, z_F (z_m ρ ad) as vs → z_dnl π as = some bs → z_F (z_m ρ adc) bs vs
  | [], bs, [], _, h => by
    cases h
    trivial
  | a :: as, bs, v :: vs, hF, h => by
    unfold z_dnl at h
    split at h
    · rename_i b bs' e1 e2
      cases h
      exact ⟨z_dn_ok hA hF.1 e1, z_dnl_ok hA hF.2 e2⟩
    · cases h
  | [], bs, _ :: _, hF, h => hF.elim
  | _ :: _, bs, [], hF, h => hF.elim
theorem z_dnl_len {π : List Nat} : ∀ {as bs : List zV}, z_dnl π as = some bs → bs.length = as.length
  | [], bs, h => by
    cases h
    rfl
  | a :: as, bs, h => by
    unfold z_dnl at h
    split at h
    · rename_i b bs' e1 e2
      cases h
      rw [List.length_cons, List.length_cons, z_dnl_len e2]
    · cases h
theorem z_dnc_ok {tys : List (ClassId × FieldType)} {π : List Nat} {ρ : List Int} {ad adc : List Nat} {a b : zC} {e : va_E} (hA : z_adP π ad adc) (hc : z_c tys ρ ad a e) (h : z_dnc π a = some b) : z_c tys ρ adc b e := by
  unfold z_dnc at h
  split at h
  · split at h
    · rename_i g eg
      cases h
      obtain ⟨vs, rfl, hF⟩ := hc
      exact ⟨vs, rfl, z_dnl_ok hA hF eg⟩
    · cases h
  · cases h
    exact hc
  · split at h
    · rename_i g eg
      cases h
      obtain ⟨cA, ty, hty, h1, F, h2, h3⟩ := hc
      have k := z_dnl_ok hA (z_elF (F := fun j => va_rf (F j)) h3) eg
      obtain ⟨g3, g4⟩ := z_elB k
      exact ⟨cA, ty, hty, h1, F, by rw [h2, g3], g4⟩
    · cases h
theorem z_up_ok {π : List Nat} {ρ : List Int} {ad adc : List Nat} {a b : zV} {v : Value} (hA : ∀ (j i : Nat), π[j]? = some i → ad[i]? = adc[j]?) (hm : z_m ρ adc a v) (h : z_up π a = some b) : z_m ρ ad b v := by
  obtain ⟨t, x, c⟩ := a
  unfold z_up at h
  rw [z_nx_eq] at h
  dsimp only at h
  split at h
  · rename_i e
    have e := z_beq e
    subst e
    split at h
    · rename_i j ej
      cases h
      obtain ⟨q, h1, h2⟩ := hm
      exact ⟨q, by rw [hA x j ej]; exact h1, h2⟩
    · cases h
  · rename_i e
    cases h
    match t, hm, e with
    | 0, hm, _ => exact hm
    | 1, hm, _ => exact hm
    | 2, _, e => cases e
    | 3, hm, _ => exact hm
    | _ + 4, hm, _ => exact hm
theorem z_upl_ok {π : List Nat} {ρ : List Int} {ad adc : List Nat} (hA : ∀ (j i : Nat), π[j]? = some i → ad[i]? = adc[j]?) : ∀ {as bs : List zV} {vs : List Value}, z_F (z_m ρ adc) as vs → z_upl π as = some bs → z_F (z_m ρ ad) bs vs
  | [], bs, [], _, h => by
    cases h
    trivial
  | a :: as, bs, v :: vs, hF, h => by
    unfold z_upl at h
    split at h
    · rename_i b bs' e1 e2
      cases h
      exact ⟨z_up_ok hA hF.1 e1, z_upl_ok hA hF.2 e2⟩
    · cases h
  | [], bs, _ :: _, hF, h => hF.elim
  | _ :: _, bs, [], hF, h => hF.elim
theorem z_upc_ok {tys : List (ClassId × FieldType)} {π : List Nat} {ρ : List Int} {ad adc : List Nat} {a b : zC} {e : va_E} (hA : ∀ (j i : Nat), π[j]? = some i → ad[i]? = adc[j]?) (hc : z_c tys ρ adc a e) (h : z_upc π a = some b) : z_c tys ρ ad b e := by
  unfold z_upc at h
  split at h
  · split at h
    · rename_i g eg
      cases h
      obtain ⟨vs, rfl, hF⟩ := hc
      exact ⟨vs, rfl, z_upl_ok hA hF eg⟩
    · cases h
  · cases h
    exact hc
  · split at h
    · rename_i g eg
      cases h
      obtain ⟨cA, ty, hty, h1, F, h2, h3⟩ := hc
      have k := z_upl_ok hA (z_elF (F := fun j => va_rf (F j)) h3) eg
      obtain ⟨g3, g4⟩ := z_elB k
      exact ⟨cA, ty, hty, h1, F, by rw [h2, g3], g4⟩
    · cases h
theorem z_uph_get {π : List Nat} : ∀ {cs ds : List zC}, z_uph π cs = some ds → ds.length = cs.length ∧ ∀ (j : Nat) (c : zC), cs[j]? = some c → ∃ d, ds[j]? = some d ∧ z_upc π c = some d
  | [], ds, h => by
    cases h
    exact ⟨rfl, fun j c hc => by simp at hc⟩
  | c :: cs, ds, h => by
    unfold z_uph at h
    split at h
    · rename_i b bs e1 e2
      cases h
      obtain ⟨g1, g2⟩ := z_uph_get e2
      refine ⟨by rw [List.length_cons, List.length_cons, g1], fun j c' hc => ?_⟩
      cases j with
      | zero =>
        rw [List.getElem?_cons_zero] at hc
        cases hc
        exact ⟨b, by rw [List.getElem?_cons_zero], e1⟩
      | succ j =>
        rw [List.getElem?_cons_succ] at hc
        obtain ⟨d, k1, k2⟩ := g2 j c' hc
        exact ⟨d, by rw [List.getElem?_cons_succ]; exact k1, k2⟩
    · cases h
theorem z_dnh_get {π : List Nat} {hp : List zC} : ∀ {is : List Nat} {ds : List zC}, z_dnh π hp is = some ds → ds.length = is.length ∧ ∀ (j i : Nat), is[j]? = some i → ∃ a d, hp[i]? = some a ∧ ds[j]? = some d ∧ z_dnc π a = some d
  | [], ds, h => by
    cases h
    exact ⟨rfl, fun j i hc => by simp at hc⟩
  | i0 :: is, ds, h => by
    unfold z_dnh at h
    rw [z_nx_eq] at h
    split at h
    · rename_i a ea
      split at h
      · rename_i b bs e1 e2
        cases h
        obtain ⟨g1, g2⟩ := z_dnh_get e2
        refine ⟨by rw [List.length_cons, List.length_cons, g1], fun j i hi => ?_⟩
        cases j with
        | zero =>
          rw [List.getElem?_cons_zero] at hi
          cases hi
          exact ⟨a, b, ea, by rw [List.getElem?_cons_zero], e1⟩
        | succ j =>
          rw [List.getElem?_cons_succ] at hi
          obtain ⟨a', d, k1, k2, k3⟩ := g2 j i hi
          exact ⟨a', d, k1, by rw [List.getElem?_cons_succ]; exact k2, k3⟩
      · cases h
    · cases h
/-- a world at some places -/
noncomputable def z_sw (ws : va_W) (π : List Nat) : va_W := π.map (fun i => ws.getD i (0, .inr (0, [])))
theorem z_sw_get {ws : va_W} {π : List Nat} {j i : Nat} {q : Nat × va_E} (h1 : π[j]? = some i) (h2 : ws[i]? = some q) : (z_sw ws π)[j]? = some q := by
  unfold z_sw
  rw [List.getElem?_map, h1]
  show some (ws.getD i _) = _
  rw [List.getD_eq_getElem?_getD, h2]
  rfl
theorem z_pfx_eq {α : Type} {l k : List α} (h : l <+: k) (hl : l.length = k.length) : l = k := h.eq_of_length hl
theorem z_upX_get {π : List Nat} {hp : List zC} : ∀ {es es' : List zX}, z_upX π hp es = some es' → ∀ E ∈ es, ∃ rv h, z_upl π E.2.1 = some rv ∧ z_uph π E.2.2 = some h ∧ E.2.2.length = π.length ∧ (E.1, rv, z_put hp π h) ∈ es'
  | [], es', h, E, hE => by cases hE
  | F :: es, es', h, E, hE => by
    unfold z_upX at h
    split at h
    · rename_i rv hh es2 e1 e2 e3 e4
      cases h
      rcases List.mem_cons.mp hE with rfl | hm
      · exact ⟨rv, hh, e1, e2, z_beq e3, List.mem_cons_self⟩
      · obtain ⟨rv', h', g1, g2, g3, g4⟩ := z_upX_get e4 E hm
        exact ⟨rv', h', g1, g2, g3, List.mem_cons_of_mem _ g4⟩
    · cases h
theorem z_useP_ok {SP : zSP} {bs : List Int} {l : Launch} {D : va_G} {cl : List vw_C} {tys : List (ClassId × FieldType)} {tbl : List Cond} {y : MethodName} {cc : ByteArray} {nL : Nat} {ret : Option FieldType} {d rk mc ms : Nat} {cn : zCn} {J : zJ} {as : List zV} {hp : List zC} {es : List zX} {π : List Nat} (hb1 : 0 < bs.length) (hM : z_MET SP bs l D cl tys tbl y cc nL ret d rk mc ms cn.1.1 cn.1.2.1 cn.1.2.2 cn.2) (h : z_useP bs.length cn J as hp π = some es) : z_MET SP bs l D cl tys tbl y cc nL ret d rk mc ms J as hp es := by
  unfold z_useP at h
  split at h
  · rename_i as' hp' en ea eh
    split at h
    · rename_i es0 eu
      have hM' := z_use_ok hb1 hM eu
      intro ρ ws av sz eb e0 e1 e2 e3
      obtain ⟨l1, dg⟩ := z_dnh_get eh
      -- places are places of the world
      have inW : ∀ (j i : Nat), π[j]? = some i → ∃ q, ws[i]? = some q := fun j i hj => by
        obtain ⟨a, dd, k1, k2, k3⟩ := dg j i hj
        obtain ⟨q, k4, -⟩ := e3.get k1
        exact ⟨q, k4⟩
      have subG : ∀ (j : Nat) (q : Nat × va_E), (z_sw ws π)[j]? = some q → ∃ i, π[j]? = some i ∧ ws[i]? = some q := fun j q hj => by
        have hl : j < π.length := by
          have := (List.getElem?_eq_some_iff.mp hj).1
          unfold z_sw at this
          rw [List.length_map] at this
          exact this
        have hi : π[j]? = some π[j] := List.getElem?_eq_getElem hl
        obtain ⟨q', hq'⟩ := inW j _ hi
        rw [z_sw_get hi hq'] at hj
        cases hj
        exact ⟨_, hi, hq'⟩
      have hA : z_adP π (z_ad ws) (z_ad (z_sw ws π)) := fun j i hj a ha => by
        obtain ⟨q, hq⟩ := inW j i hj
        unfold z_ad at ha ⊢
        rw [List.getElem?_map, hq] at ha
        rw [List.getElem?_map, z_sw_get hj hq]
        exact ha
      have hls : (z_sw ws π).length = π.length := by
        unfold z_sw
        rw [List.length_map]
      have f2 := z_dnl_ok hA e2 ea
      have f3 : z_F (z_H tys ρ (z_ad (z_sw ws π))) hp' (z_sw ws π) := by
        refine z_F.mk (by rw [l1, hls]) (fun j a q ha hq => ?_)
        obtain ⟨i, g1, g2⟩ := subG j q hq
        obtain ⟨a0, d0, k1, k2, k3⟩ := dg j i g1
        rw [ha] at k2
        cases k2
        obtain ⟨q', k4, k5⟩ := e3.get k1
        rw [g2] at k4
        cases k4
        exact z_dnc_ok hA k5 k3
      have hMet := hM' ρ (z_sw ws π) av sz eb e0 e1 f2 f3
      have subA : ∀ q, va_A (z_sw ws π) sz q → va_A ws sz q := fun q hq => by
        rcases hq with ⟨k, e9, hq⟩ | hq
        · obtain ⟨i, g1, g2⟩ := subG k _ hq
          exact Or.inl ⟨i, e9, g2⟩
        · exact Or.inr hq
      -- the end
      have fin : ∀ (s t : State) (rv : List Value) (u : List Int × va_W), va_P D cl ws s.heap → va_D (fun _ => True) ws → s.heap.size = sz → z_po tys ρ (z_sw ws π) es0 rv u → z_Bo D cl tys (va_A (z_sw ws π) sz) u t → va_F (va_A (z_sw ws π) sz) s t → ∃ u', z_po tys ρ ws es rv u' ∧ z_Bo D cl tys (va_A ws sz) u' t ∧ va_F (va_A ws sz) s t := by
        intro s t rv u hP hD hsz hpo hB hF
        obtain ⟨E, hE, g1, g2, g3, g4, g5⟩ := hpo
        obtain ⟨j1, j2, j3⟩ := hB
        obtain ⟨rv', hh, k1, k2, k3, k4⟩ := z_upX_get h E hE
        have hlu : u.2.length = π.length := by rw [← g5.len, k3]
        have had : z_ad (z_sw ws π) = z_ad u.2 := z_pfx_eq g2 (by unfold z_ad; rw [List.length_map, List.length_map, hls, hlu])
        have adr : ∀ (j i : Nat) (q q' : Nat × va_E), π[j]? = some i → ws[i]? = some q → u.2[j]? = some q' → q'.1 = q.1 := fun j i q q' h1 h2 h3 => by
          have c1 : (z_ad (z_sw ws π))[j]? = some q.1 := by
            unfold z_ad
            rw [List.getElem?_map, z_sw_get h1 h2]
            rfl
          rw [had] at c1
          unfold z_ad at c1
          rw [List.getElem?_map, h3] at c1
          exact Option.some.inj c1
        -- the new world
        have wIn : ∀ (j i : Nat) (q' : Nat × va_E), π[j]? = some i → u.2[j]? = some q' → (z_put ws π u.2)[i]? = some q' := fun j i q' h1 h2 => by
          obtain ⟨q, hq⟩ := inW j i h1
          exact z_put_in en h1 h2 (List.getElem?_eq_some_iff.mp hq).1
        have wOut : ∀ i, i ∉ π → (z_put ws π u.2)[i]? = ws[i]? := fun i hi => z_put_out hi
        have wAd : z_ad (z_put ws π u.2) = z_ad ws := by
          apply List.ext_getElem?
          intro i
          unfold z_ad
          rw [List.getElem?_map, List.getElem?_map]
          by_cases hi : i ∈ π
          · obtain ⟨j, hj⟩ := List.mem_iff_getElem?.mp hi
            obtain ⟨q, hq⟩ := inW j i hj
            have hjl : j < List.length u.2 := by rw [hlu]; exact (List.getElem?_eq_some_iff.mp hj).1
            have hj2 : u.2[j]? = some (u.2[j]'hjl) := List.getElem?_eq_getElem hjl
            rw [wIn j i _ hj hj2, hq]
            exact congrArg some (adr j i q _ hj hq hj2)
          · rw [wOut i hi]
        have mA : ∀ (j i : Nat), π[j]? = some i → (z_ad ws)[i]? = (z_ad u.2)[j]? := fun j i hj => by
          obtain ⟨q, hq⟩ := inW j i hj
          rw [← had]
          unfold z_ad
          rw [List.getElem?_map, List.getElem?_map, hq, z_sw_get hj hq]
        have wWho : ∀ (i : Nat) (q' : Nat × va_E), (z_put ws π u.2)[i]? = some q' → (∃ j, π[j]? = some i ∧ u.2[j]? = some q') ∨ (i ∉ π ∧ ws[i]? = some q') := fun i q' hi => by
          by_cases hm : i ∈ π
          · obtain ⟨j, hj⟩ := List.mem_iff_getElem?.mp hm
            have hjl : j < List.length u.2 := by rw [hlu]; exact (List.getElem?_eq_some_iff.mp hj).1
            have hj2 : u.2[j]? = some (u.2[j]'hjl) := List.getElem?_eq_getElem hjl
            rw [wIn j i _ hj hj2] at hi
            cases hi
            exact Or.inl ⟨j, hj, hj2⟩
          · rw [wOut i hm] at hi
            exact Or.inr ⟨hm, hi⟩
        refine ⟨(u.1, z_put ws π u.2), ⟨_, k4, g1, ?_, g3, ?_, ?_⟩, ⟨?_, j2, ?_⟩, ?_⟩
        · rw [wAd]
          exact List.prefix_refl _
        · rw [wAd]
          exact z_upl_ok mA g4 k1
        · rw [wAd]
          obtain ⟨ul, ug⟩ := z_uph_get k2
          refine z_F.mk (by rw [z_put_len, z_put_len]; exact e3.len) (fun i a q' ha hq' => ?_)
          rcases wWho i q' hq' with ⟨j, h1, h2⟩ | ⟨h1, h2⟩
          · obtain ⟨c0, k5, k6⟩ := g5.get' h2
            obtain ⟨d0, k7, k8⟩ := ug j c0 k5
            obtain ⟨q, hq⟩ := inW j i h1
            have hli : i < hp.length := by
              have := (List.getElem?_eq_some_iff.mp hq).1
              rw [e3.len]
              exact this
            rw [z_put_in en h1 k7 hli] at ha
            cases ha
            exact z_upc_ok mA k6 k8
          · rw [z_put_out h1] at ha
            obtain ⟨q, k5, k6⟩ := e3.get ha
            rw [h2] at k5
            cases k5
            exact z_c.mono g1 (List.prefix_refl _) k6
        · intro i q' hq'
          rcases wWho i q' hq' with ⟨j, h1, h2⟩ | ⟨h1, h2⟩
          · exact j1 j q' h2
          · refine (hP i q' h2).kept (hF.2 q'.1 (hP i q' h2).lt (fun z => ?_))
            rcases z with ⟨k, e9, z⟩ | z
            · obtain ⟨i2, c1, c2⟩ := subG k _ z
              have := hD.1 i i2 q' (q'.1, e9) h2 c2 rfl
              subst this
              exact h1 (List.mem_of_getElem? c1)
            · have := (hP i q' h2).lt
              omega
        · refine ⟨fun i j p q hi hj hpq => ?_, fun i q hi => ?_⟩
          · have c1 : (z_ad (z_put ws π u.2))[i]? = some p.1 := by
              unfold z_ad
              rw [List.getElem?_map, hi]
              rfl
            have c2 : (z_ad (z_put ws π u.2))[j]? = some q.1 := by
              unfold z_ad
              rw [List.getElem?_map, hj]
              rfl
            rw [wAd] at c1 c2
            unfold z_ad at c1 c2
            rw [List.getElem?_map] at c1 c2
            cases h1 : ws[i]? with
            | none => rw [h1] at c1; cases c1
            | some p' =>
              cases h2 : ws[j]? with
              | none => rw [h2] at c2; cases c2
              | some q' =>
                rw [h1] at c1
                rw [h2] at c2
                have c1 : p'.1 = p.1 := Option.some.inj c1
                have c2 : q'.1 = q.1 := Option.some.inj c2
                exact hD.1 i j p' q' h1 h2 (by rw [c1, c2]; exact hpq)
          · have c1 : (z_ad (z_put ws π u.2))[i]? = some q.1 := by
              unfold z_ad
              rw [List.getElem?_map, hi]
              rfl
            rw [wAd] at c1
            unfold z_ad at c1
            rw [List.getElem?_map] at c1
            cases h1 : ws[i]? with
            | none => rw [h1] at c1; cases c1
            | some p' =>
              rw [h1] at c1
              have c1 : p'.1 = q.1 := Option.some.inj c1
              exact Or.inl ⟨i, p'.2, by rw [h1, ← c1]⟩
        · exact ⟨hF.1, fun q h1 h2 => hF.2 q h1 (fun z => h2 (subA q z))⟩
      refine z_Met_gen hMet (fun a s hv => ?_) (fun a s o t hv hQ => ?_) subA
      · obtain ⟨rfl, hsz, hP, hK, hD, hF⟩ := hv
        refine ⟨rfl, hsz, fun k q hk => ?_, hK, ⟨fun i j p q hi hj hpq => ?_, fun _ _ _ => trivial⟩, ?_⟩
        · obtain ⟨i, g1, g2⟩ := subG k q hk
          exact hP i q g2
        · obtain ⟨i1, c1, c2⟩ := subG i p hi
          obtain ⟨i2, c3, c4⟩ := subG j q hj
          have := hD.1 i1 i2 p q c2 c4 hpq
          subst this
          exact z_nodup_inj en c1 c3
        · obtain ⟨adK, adV, h1, h2, h3, h4⟩ := hF
          exact ⟨adK, adV, h1, h2, h3.narrow subA, ⟨h4.1.narrow subA, h4.2.narrow subA⟩⟩
      · obtain ⟨rfl, hsz, hP, hK, hD, hF⟩ := hv
        unfold z_Qc at hQ ⊢
        split at hQ
        · obtain ⟨⟨r, u, h1, h2, h3⟩, h4⟩ := hQ
          obtain ⟨u', k1, k2, k3⟩ := fin s t _ u hP hD hsz h2 h3 h4
          exact ⟨⟨r, u', h1, k1, k2⟩, k3⟩
        · obtain ⟨⟨u, h1, h2, h3⟩, h4⟩ := hQ
          obtain ⟨u', k1, k2, k3⟩ := fin s t _ u hP hD hsz h2 h3 h4
          exact ⟨⟨u', h1, k1, k2⟩, k3⟩
        · obtain ⟨⟨r, u, h1, h2, h3⟩, h4⟩ := hQ
          obtain ⟨u', k1, k2, k3⟩ := fin s t _ u hP hD hsz h2 h3 h4
          exact ⟨⟨r, u', h1, k1, k2⟩, k3⟩
    · cases h
  · cases h
theorem z_useF_ok {SP : zSP} {bs : List Int} {l : Launch} {D : va_G} {cl : List vw_C} {tys : List (ClassId × FieldType)} {tbl : List Cond} {y : MethodName} {cc : ByteArray} {nL : Nat} {ret : Option FieldType} {d rk mc ms : Nat} {cn : zCn} {J : zJ} {as : List zV} {hp : List zC} {es : List zX} (hb1 : 0 < bs.length) (hM : z_MET SP bs l D cl tys tbl y cc nL ret d rk mc ms cn.1.1 cn.1.2.1 cn.1.2.2 cn.2) (h : z_useF bs.length cn J as hp = some es) : z_MET SP bs l D cl tys tbl y cc nL ret d rk mc ms J as hp es := z_useP_ok hb1 hM h
