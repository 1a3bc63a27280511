/-! ===== loops: places where a run is cut, a pattern and a measure at each ===== -/
noncomputable def z_has (l : List Nat) (x : Nat) : Bool := List.rec (motive := fun _ => Bool) false (fun y _ ih => Bool.rec (motive := fun _ => Bool) ih true (Nat.beq y x)) l
noncomputable def z_runS (SP : zSP) (ZD : List zN) (call : zL) (RC RS nL : Nat) (sc : Option Nat) (DF : List (List Nat)) (TC : List Nat) (T : List (List zE)) (stp : List Nat) : Nat → List (Nat × zS) → List (Nat × zS) → Option (List (Nat × zS))
  | 0, _, _ => none
  | _ + 1, [], acc => some acc
  | n + 1, (pc, S) :: w, acc => match z_has stp pc with
    | true => z_runS SP ZD call RC RS nL sc DF TC T stp n w ((pc, S) :: acc)
    | false => match z_at T pc with
      | some x => match z_isr x.2.1 with
        | true => z_runS SP ZD call RC RS nL sc DF TC T stp n w ((pc, S) :: acc)
        | false => match z_step SP ZD call RC RS nL sc DF TC (z_at T (pc + 1)) pc x.2.1 x.2.2.2.1 x.2.2.2.2.1 x.2.2.2.2.2.2 S.1 S.2.1 S.2.2.1 S.2.2.2.1 S.2.2.2.2.1 S.2.2.2.2.2 with
          | some q => z_runS SP ZD call RC RS nL sc DF TC T stp n (q ++ w) acc
          | none => none
      | none => none
theorem z_runS_ok {SP : zSP} {ZD : List zN} {call : zL} {RC RS nL : Nat} {sc : Option Nat} {DF : List (List Nat)} {TC : List Nat} {T : List (List zE)} {stp : List Nat} {K : Nat → zS → Prop}
    (hs : ∀ (pc : Nat) (S : zS) (x : zE) (q : List (Nat × zS)), z_at T pc = some x → z_step SP ZD call RC RS nL sc DF TC (z_at T (pc + 1)) pc x.2.1 x.2.2.2.1 x.2.2.2.2.1 x.2.2.2.2.2.2 S.1 S.2.1 S.2.2.1 S.2.2.2.1 S.2.2.2.2.1 S.2.2.2.2.2 = some q → (∀ z ∈ q, K z.1 z.2) → K pc S) :
    ∀ (n : Nat) (w acc ex : List (Nat × zS)), z_runS SP ZD call RC RS nL sc DF TC T stp n w acc = some ex → (∀ z ∈ acc, z ∈ ex) ∧ ((∀ z ∈ ex, K z.1 z.2) → ∀ z ∈ w, K z.1 z.2)
  | 0, w, acc, ex, h => by
    unfold z_runS at h
    cases h
  | n + 1, [], acc, ex, h => by
    unfold z_runS at h
    cases h
    exact ⟨fun z hz => hz, fun _ z hz => by cases hz⟩
  | n + 1, (pc, S) :: w, acc, ex, h => by
    have put : z_runS SP ZD call RC RS nL sc DF TC T stp n w ((pc, S) :: acc) = some ex → (∀ z ∈ acc, z ∈ ex) ∧ ((∀ z ∈ ex, K z.1 z.2) → ∀ z ∈ (pc, S) :: w, K z.1 z.2) := fun h => by
      obtain ⟨h1, h2⟩ := z_runS_ok hs n w ((pc, S) :: acc) ex h
      refine ⟨fun z hz => h1 z (List.mem_cons_of_mem _ hz), fun hK z hz => ?_⟩
      rcases List.mem_cons.mp hz with rfl | hz
      · exact hK _ (h1 _ List.mem_cons_self)
      · exact h2 hK z hz
    unfold z_runS at h
    split at h
    · exact put h
    · split at h
      · rename_i x ex0
        split at h
        · exact put h
        · split at h
          · rename_i q eq
            obtain ⟨h1, h2⟩ := z_runS_ok hs n (q ++ w) acc ex h
            refine ⟨h1, fun hK z hz => ?_⟩
            rcases List.mem_cons.mp hz with rfl | hz
            · exact hs pc S x q ex0 eq (fun z hz => h2 hK z (List.mem_append_left _ hz))
            · exact h2 hK z (List.mem_append_right _ hz)
          · cases h
      · cases h
/-! measures: a list of numbers c - x, the first that differs is less -/
abbrev zMs : Type := List (Int × Nat)
noncomputable def z_ms (ρ : List Int) (l : zMs) : List Int := l.map (fun q => q.1 - ρ.getD q.2 0)
noncomputable def z_lex : List Int → List Int → Prop
  | a :: l, b :: k => a < b ∨ (a = b ∧ z_lex l k)
  | _, _ => False
noncomputable def z_enc (B : Nat) : Nat → List Int → Nat
  | acc, [] => acc
  | acc, a :: l => z_enc B (acc * B + a.toNat) l
noncomputable def z_inB (B : Nat) (l : List Int) : Prop := ∀ a ∈ l, 0 ≤ a ∧ a < (B : Int)
theorem z_len_tl {α β : Type} {a : α} {b : β} {l : List α} {k : List β} (h : (a :: l).length = (b :: k).length) : l.length = k.length := by
  rw [List.length_cons, List.length_cons] at h
  omega
theorem z_enc_lt {B : Nat} : ∀ {l k : List Int} {p q : Nat}, l.length = k.length → z_inB B l → p + 1 ≤ q → z_enc B p l + 1 ≤ z_enc B q k
  | [], [], p, q, _, _, h => h
  | a :: l, b :: k, p, q, hl, hB, h => by
    have ha := hB a List.mem_cons_self
    show z_enc B (p * B + a.toNat) l + 1 ≤ z_enc B (q * B + b.toNat) k
    refine z_enc_lt (z_len_tl hl) (fun x hx => hB x (List.mem_cons_of_mem _ hx)) ?_
    have h1 : a.toNat < B := by omega
    have h2 : (p + 1) * B ≤ q * B := Nat.mul_le_mul_right B h
    rw [Nat.add_mul, Nat.one_mul] at h2
    omega
  | [], _ :: _, _, _, hl, _, _ => by cases hl
  | _ :: _, [], _, _, hl, _, _ => by cases hl
theorem z_lex_enc {B : Nat} : ∀ {l k : List Int} {p : Nat}, l.length = k.length → z_inB B l → z_inB B k → z_lex l k → z_enc B p l + 1 ≤ z_enc B p k
  | a :: l, b :: k, p, hl, h1, h2, h => by
    have ha := h1 a List.mem_cons_self
    have hb := h2 b List.mem_cons_self
    show z_enc B (p * B + a.toNat) l + 1 ≤ z_enc B (p * B + b.toNat) k
    rcases h with h | ⟨rfl, h⟩
    · refine z_enc_lt (z_len_tl hl) (fun x hx => h1 x (List.mem_cons_of_mem _ hx)) ?_
      omega
    · exact z_lex_enc (z_len_tl hl) (fun x hx => h1 x (List.mem_cons_of_mem _ hx)) (fun x hx => h2 x (List.mem_cons_of_mem _ hx)) h
  | [], [], _, _, _, _, h => h.elim
  | [], _ :: _, _, hl, _, _, _ => by cases hl
  | _ :: _, [], _, hl, _, _, _ => by cases hl
/-- a measure is in its bounds -/
noncomputable def z_msB (J : zJ) (B : Nat) (l : zMs) : Bool := l.all (fun q => match z_b J q.2 0 with
  | some (x, y) => z_ile y q.1 && z_ile (q.1 - x + 1) (Int.ofNat B)
  | none => false)
theorem z_sym {J : zJ} {ρ : List Int} {x : Nat} {c a b : Int} (hJ : z_iv J ρ) (h : z_b J x c = some (a, b)) : ∃ w, ρ[x]? = some w := by
  have h : z_b0 J.1 x c = some (a, b) := h
  unfold z_b0 at h
  rw [z_nx_eq] at h
  split at h
  · rename_i lo hi ey
    obtain ⟨w, g1, -⟩ := hJ.1.get ey
    exact ⟨w, g1⟩
  · cases h
theorem z_msB_ok {J : zJ} {B : Nat} {l : zMs} {ρ : List Int} (hJ : z_iv J ρ) (h : z_msB J B l = true) : z_inB B (z_ms ρ l) := fun a ha => by
  obtain ⟨q, hq, rfl⟩ := List.mem_map.mp ha
  have h1 := List.all_eq_true.mp h q hq
  split at h1
  · rename_i x y e
    obtain ⟨w, hw⟩ := z_sym hJ e
    have b := z_b_ok hJ (⟨w, hw, by omega⟩ : z_v ρ q.2 0 w) e
    have b1 := z_ile_ok (z_and h1).1
    have b2 : q.1 - x + 1 ≤ (B : Int) := z_ile_ok (z_and h1).2
    rw [List.getD_eq_getElem?_getD, hw]
    show 0 ≤ q.1 - w ∧ q.1 - w < (B : Int)
    omega
  · cases h1
/-- the measure at the end of a way (new: by the binding) is less than that at its start (old) -/
noncomputable def z_dec (J : zJ) (n0 : Nat) (σ : zB) : zMs → zMs → Bool
  | (c', x') :: l', (c, x) :: l => match z_vp n0 σ x' with
    | some (y, d) => z_imp J x (c' - d - c + 1) y 0 0 || ((z_imp J x (c' - d - c) y 0 0 && z_imp J y (c - c' + d) x 0 0) && z_dec J n0 σ l' l)
    | none => false
  | _, _ => false
theorem z_dec_ok {J : zJ} {n0 : Nat} {σ : zB} {ρ : List Int} (hJ : z_iv J ρ) (hn : n0 ≤ ρ.length) (hq : ∀ q ∈ σ, ∃ w, ρ[q.1]? = some w) : ∀ {l' l : zMs}, (∀ q ∈ l, ∃ w, ρ[q.2]? = some w) → z_dec J n0 σ l' l = true → z_lex (z_ms (z_r2 n0 ρ σ) l') (z_ms ρ l)
  | (c', x') :: l', (c, x) :: l, hl, h => by
    unfold z_dec at h
    split at h
    · rename_i y d e
      obtain ⟨w, g1, g2⟩ := z_vp_ok hn hq e
      obtain ⟨u, hu⟩ := hl (c, x) List.mem_cons_self
      have e1 : (z_r2 n0 ρ σ).getD x' 0 = w + d := by
        rw [List.getD_eq_getElem?_getD, g2]
        rfl
      have e2 : ρ.getD x 0 = u := by
        rw [List.getD_eq_getElem?_getD, hu]
        rfl
      show c' - (z_r2 n0 ρ σ).getD x' 0 < c - ρ.getD x 0 ∨ (c' - (z_r2 n0 ρ σ).getD x' 0 = c - ρ.getD x 0 ∧ z_lex (z_ms (z_r2 n0 ρ σ) l') (z_ms ρ l))
      rw [e1, e2]
      rcases Bool.or_eq_true_iff.mp h with q | q
      · have := z_imp_ok hJ (⟨u, hu, rfl⟩ : z_v ρ x (c' - d - c + 1) (u + (c' - d - c + 1))) (⟨w, g1, rfl⟩ : z_v ρ y 0 (w + 0)) q
        exact Or.inl (by omega)
      · have q1 := (z_and (z_and q).1).1
        have q2 := (z_and (z_and q).1).2
        have i1 := z_imp_ok hJ (⟨u, hu, rfl⟩ : z_v ρ x (c' - d - c) (u + (c' - d - c))) (⟨w, g1, rfl⟩ : z_v ρ y 0 (w + 0)) q1
        have i2 := z_imp_ok hJ (⟨w, g1, rfl⟩ : z_v ρ y (c - c' + d) (w + (c - c' + d))) (⟨u, hu, rfl⟩ : z_v ρ x 0 (u + 0)) q2
        exact Or.inr ⟨by omega, z_dec_ok hJ hn hq (fun q hm => hl q (List.mem_cons_of_mem _ hm)) (z_and q).2⟩
    · cases h
  | [], _, _, h => by
    unfold z_dec at h
    cases h
  | _ :: _, [], _, h => by
    unfold z_dec at h
    cases h
/-- a place where runs are cut -/
abbrev zCt : Type := Nat × zS × zMs
noncomputable def z_edge (n0 : Nat) (l : zMs) (S : zS) (c' : zCt) : Bool := match z_mS n0 c'.2.1 S with
  | some σ => z_dec S.1 n0 σ c'.2.2 l
  | none => false
noncomputable def z_chkC (SP : zSP) (ZD : List zN) (call : zL) (RC RS nL : Nat) (sc : Option Nat) (DF : List (List Nat)) (TC : List Nat) (T : List (List zE)) (FU n0 B len : Nat) (okx : Nat × zS → Bool) (cuts : List zCt) (c : zCt) : Bool := z_msB c.2.1.1 B c.2.2 && (Nat.beq c.2.2.length len && (Nat.ble n0 c.2.1.1.1.length && (match z_wl SP ZD call RC RS nL sc DF TC T 1 [(c.1, c.2.1)] with
  | some w => match z_runS SP ZD call RC RS nL sc DF TC T (cuts.map (fun c => c.1)) FU w [] with
    | some ex => ex.all (fun z => okx z || cuts.any (fun c' => Nat.beq c'.1 z.1 && z_edge n0 c.2.2 z.2 c'))
    | none => false
  | none => false)))
section ZC2
variable {p : Program} {l : Launch} {e : Env} {R : Room} {s : State} {m : MethodId} {args : Array Value} {below : List Frame} {meth : Method} {c : Code} {Q : State → Prop} {D : va_G} {cl : List vw_C} {tys : List (ClassId × FieldType)} {A : Nat → Prop} {H0 : Heap} {nL : Nat} {ρ0 : List Int} {ad0 : List Nat}
theorem z_g.base {ρ1 : List Int} {S : zS} {ρ : List Int} {ws : va_W} {lv : List (Nat × Value)} {st : List Value} {H : Heap} {locs : List Loc} {ls : Array Slot} (h : z_g D cl tys A H0 nL ρ0 ad0 S ρ ws lv st H locs ls) (h1 : ρ1 <+: ρ) : z_g D cl tys A H0 nL ρ1 ad0 S ρ ws lv st H locs ls := ⟨⟨h1, h.1.2.1, h.1.2.2⟩, h.2⟩
theorem z_K.up {ρ1 : List Int} {pc : Nat} {S : zS} (h : z_K p l e R s m args below meth c Q D cl tys A H0 nL ρ0 ad0 pc S) (h1 : ρ0 <+: ρ1) : z_K p l e R s m args below meth c Q D cl tys A H0 nL ρ1 ad0 pc S := fun ρ ws lv st H locs ls hg => h ρ ws lv st H locs ls (hg.base (h1.trans hg.1.1))
theorem z_ms_pre {ρ ρ' : List Int} (h : ρ <+: ρ') : ∀ {l : zMs}, (∀ q ∈ l, ∃ w, ρ[q.2]? = some w) → z_ms ρ' l = z_ms ρ l
  | [], _ => rfl
  | q :: l, hq => by
    obtain ⟨w, hw⟩ := hq q List.mem_cons_self
    have ih := z_ms_pre h (l := l) (fun q hm => hq q (List.mem_cons_of_mem _ hm))
    show (q.1 - ρ'.getD q.2 0) :: z_ms ρ' l = (q.1 - ρ.getD q.2 0) :: z_ms ρ l
    rw [ih, List.getD_eq_getElem?_getD, List.getD_eq_getElem?_getD, z_pre h hw, hw]
theorem z_msB_in {J : zJ} {B : Nat} {l : zMs} {ρ : List Int} (hJ : z_iv J ρ) (h : z_msB J B l = true) : ∀ q ∈ l, ∃ w, ρ[q.2]? = some w := fun q hq => by
  have h1 := List.all_eq_true.mp h q hq
  split at h1
  · rename_i x y e
    exact z_sym hJ e
  · cases h1
theorem z_cuts_ok {SP : zSP} {ZD : List zN} {call : zL} {RC RS : Nat} {sc : Option Nat} {DF : List (List Nat)} {TC : List Nat} {T : List (List zE)} {FU n0 B len : Nat} {okx : Nat × zS → Bool} {cuts : List zCt}
    (hs : ∀ ρ : List Int, ρ0 <+: ρ → ∀ (pc : Nat) (S : zS) (x : zE) (q : List (Nat × zS)), z_at T pc = some x → z_step SP ZD call RC RS nL sc DF TC (z_at T (pc + 1)) pc x.2.1 x.2.2.2.1 x.2.2.2.2.1 x.2.2.2.2.2.2 S.1 S.2.1 S.2.2.1 S.2.2.2.1 S.2.2.2.2.1 S.2.2.2.2.2 = some q → (∀ z ∈ q, z_K p l e R s m args below meth c Q D cl tys A H0 nL ρ ad0 z.1 z.2) → z_K p l e R s m args below meth c Q D cl tys A H0 nL ρ ad0 pc S)
    (hlen : ρ0.length = n0) (hn0 : 0 < n0) (hx : ∀ z, okx z = true → z_K p l e R s m args below meth c Q D cl tys A H0 nL ρ0 ad0 z.1 z.2) (hc : ∀ k ∈ cuts, z_chkC SP ZD call RC RS nL sc DF TC T FU n0 B len okx cuts k = true) : ∀ k ∈ cuts, z_K p l e R s m args below meth c Q D cl tys A H0 nL ρ0 ad0 k.1 k.2.1 := by
  have main : ∀ N : Nat, ∀ k ∈ cuts, ∀ (ρ : List Int) (ws : va_W) (lv : List (Nat × Value)) (st : List Value) (H : Heap) (locs : List Loc) (ls : Array Slot), z_g D cl tys A H0 nL ρ0 ad0 k.2.1 ρ ws lv st H locs ls → z_enc B 0 (z_ms ρ k.2.2) < N → W p l e R s m args below meth c H locs k.2.1.2.2.2.2.1 k.2.1.2.2.2.2.2 Q (F0 m k.1 ls st) := by
    intro N
    induction N with
    | zero => intro k _ ρ ws lv st H locs ls _ h; exact absurd h (Nat.not_lt_zero _)
    | succ N ih =>
      intro k hk ρ ws lv st H locs ls hg hN
      have h := hc k hk
      unfold z_chkC at h
      have f1 := (z_and h).1
      have f2 := z_beq (z_and (z_and h).2).1
      have f4 := (z_and (z_and (z_and h).2).2).2
      have hpre : ρ0 <+: ρ := hg.1.1
      have hJ : z_iv k.2.1.1 ρ := hg.2.1
      split at f4
      · rename_i w ew
        split at f4
        · rename_i ex er
          have hK : z_K p l e R s m args below meth c Q D cl tys A H0 nL ρ ad0 k.1 k.2.1 := by
            refine z_wl_ok (hs ρ hpre) 1 [(k.1, k.2.1)] w ew ((z_runS_ok (hs ρ hpre) FU w [] ex er).2 (fun z hz => ?_)) (k.1, k.2.1) List.mem_cons_self
            have g := List.all_eq_true.mp f4 z hz
            rcases Bool.or_eq_true_iff.mp g with g | g
            · exact (hx z g).up hpre
            · obtain ⟨k', hk', g⟩ := List.any_eq_true.mp g
              have g1 := z_beq (z_and g).1
              have g2 := (z_and g).2
              unfold z_edge at g2
              split at g2
              · rename_i σ eσ
                intro ρ' ws' lv' st' H' locs' ls' hg'
                have hpre' : ρ <+: ρ' := hg'.1.1
                have hn : n0 ≤ ρ'.length := by
                  have := (hpre.trans hpre').length_le
                  omega
                obtain ⟨⟨lv2, hgP⟩, c1, c2, hq⟩ := z_mS_ok (hg'.base (hpre.trans hpre')) (by omega) hn hn0 eσ
                have hJ' : z_iv z.2.1 ρ' := hg'.2.1
                have hin := z_msB_in hJ f1
                have hin' : ∀ q ∈ k.2.2, ∃ w, ρ'[q.2]? = some w := fun q hm => by
                  obtain ⟨w, hw⟩ := hin q hm
                  exact ⟨w, z_pre hpre' hw⟩
                have hlx := z_dec_ok hJ' hn hq hin' g2
                rw [z_ms_pre hpre' hin] at hlx
                have h' := hc k' hk'
                unfold z_chkC at h'
                have b1 := z_msB_ok hgP.2.1 (z_and h').1
                have b2 := z_msB_ok hJ f1
                have f2' := z_beq (z_and (z_and h').2).1
                have el : (z_ms (z_r2 n0 ρ' σ) k'.2.2).length = (z_ms ρ k.2.2).length := by
                  unfold z_ms
                  rw [List.length_map, List.length_map, f2, f2']
                have hen := z_lex_enc (p := 0) el b1 b2 hlx
                have hW := ih k' hk' (z_r2 n0 ρ' σ) ws' lv2 st' H' locs' ls' hgP (by omega)
                rw [g1] at hW
                exact W.widen c1 c2 hW
              · cases g2
          exact hK ρ ws lv st H locs ls (hg.base (List.prefix_refl _))
        · cases f4
      · cases f4
  intro k hk ρ ws lv st H locs ls hg
  exact main _ k hk ρ ws lv st H locs ls hg (Nat.lt_succ_self _)
end ZC2
