/-! ===== a method's run ===== -/
noncomputable def z_fi (b : List zE) (pc : Nat) : Option zE := match b with
  | [] => none
  | x :: b => match Nat.beq x.1 pc with
    | true => some x
    | false => z_fi b pc
noncomputable def z_at (T : List (List zE)) (pc : Nat) : Option zE := match z_nx T (pc / 32) with
  | some b => z_fi b pc
  | none => none
theorem z_fi_ok {pc : Nat} {y : zE} : ∀ {b : List zE}, z_fi b pc = some y → y ∈ b ∧ y.1 = pc
  | [], h => by cases h
  | x :: b, h => by
    unfold z_fi at h
    split at h
    · rename_i e
      cases h
      exact ⟨List.mem_cons_self, z_beq e⟩
    · obtain ⟨h1, h2⟩ := z_fi_ok h
      exact ⟨List.mem_cons_of_mem _ h1, h2⟩
theorem z_at_ok {T : List (List zE)} {pc : Nat} {y : zE} (h : z_at T pc = some y) : (∃ b ∈ T, y ∈ b) ∧ y.1 = pc := by
  unfold z_at at h
  rw [z_nx_eq] at h
  split at h
  · rename_i b eb
    obtain ⟨h1, h2⟩ := z_fi_ok h
    exact ⟨⟨b, List.mem_of_getElem? eb, h1⟩, h2⟩
  · cases h
noncomputable def z_isr (ins : Jvm.ClassFile.Instr) : Bool := match ins with
  | .ireturn => true
  | .lreturn => true
  | .return_ => true
  | _ => false
noncomputable def z_run (SP : zSP) (ZD : List zN) (call : zL) (RC RS nL : Nat) (sc : Option Nat) (DF : List (List Nat)) (TC : List Nat) (T : List (List zE)) : Nat → List (Nat × zS) → List (Nat × zS) → Option (List (Nat × zS))
  | 0, _, _ => none
  | _ + 1, [], acc => some acc
  | n + 1, (pc, S) :: w, acc => match z_at T pc with
    | some x => match z_isr x.2.1 with
      | true => z_run SP ZD call RC RS nL sc DF TC T n w ((pc, S) :: acc)
      | false => match z_step SP ZD call RC RS nL sc DF TC (z_at T (pc + 1)) pc x.2.1 x.2.2.2.1 x.2.2.2.2.1 x.2.2.2.2.2.2 S.1 S.2.1 S.2.2.1 S.2.2.2.1 S.2.2.2.2.1 S.2.2.2.2.2 with
        | some q => z_run SP ZD call RC RS nL sc DF TC T n (q ++ w) acc
        | none => none
    | none => none
theorem z_run_ok {SP : zSP} {ZD : List zN} {call : zL} {RC RS nL : Nat} {sc : Option Nat} {DF : List (List Nat)} {TC : List Nat} {T : List (List zE)} {K : Nat → zS → Prop}
    (hs : ∀ (pc : Nat) (S : zS) (x : zE) (q : List (Nat × zS)), z_at T pc = some x → z_step SP ZD call RC RS nL sc DF TC (z_at T (pc + 1)) pc x.2.1 x.2.2.2.1 x.2.2.2.2.1 x.2.2.2.2.2.2 S.1 S.2.1 S.2.2.1 S.2.2.2.1 S.2.2.2.2.1 S.2.2.2.2.2 = some q → (∀ z ∈ q, K z.1 z.2) → K pc S) :
    ∀ (n : Nat) (w acc ex : List (Nat × zS)), z_run SP ZD call RC RS nL sc DF TC T n w acc = some ex → (∀ z ∈ acc, z ∈ ex) ∧ ((∀ z ∈ ex, K z.1 z.2) → ∀ z ∈ w, K z.1 z.2)
  | 0, w, acc, ex, h => by
    unfold z_run at h
    cases h
  | n + 1, [], acc, ex, h => by
    unfold z_run at h
    cases h
    exact ⟨fun z hz => hz, fun _ z hz => by cases hz⟩
  | n + 1, (pc, S) :: w, acc, ex, h => by
    unfold z_run at h
    split at h
    · rename_i x ex0
      split at h
      · obtain ⟨h1, h2⟩ := z_run_ok hs n w ((pc, S) :: acc) ex h
        refine ⟨fun z hz => h1 z (List.mem_cons_of_mem _ hz), fun hK z hz => ?_⟩
        rcases List.mem_cons.mp hz with rfl | hz
        · exact hK _ (h1 _ List.mem_cons_self)
        · exact h2 hK z hz
      · split at h
        · rename_i q eq
          obtain ⟨h1, h2⟩ := z_run_ok hs n (q ++ w) acc ex h
          refine ⟨h1, fun hK z hz => ?_⟩
          rcases List.mem_cons.mp hz with rfl | hz
          · exact hs pc S x q ex0 eq (fun z hz => h2 hK z (List.mem_append_left _ hz))
          · exact h2 hK z (List.mem_append_right _ hz)
        · cases h
    · cases h
noncomputable def z_end (rk : Nat) (ins : Jvm.ClassFile.Instr) (S : zS) : Option zX := match ins, S.2.2.1 with
  | .ireturn, [(0, v, c)] => match rk with
    | 0 => some (S.1, [(0, v, c)], S.2.2.2.1)
    | 1 => match z_tyok 1 S.1 (0, v, c) with
      | true => some (S.1, [(0, v, c)], S.2.2.2.1)
      | false => none
    | _ => none
  | .lreturn, [(1, v, c)] => match rk with
    | 2 => some (S.1, [(1, v, c)], S.2.2.2.1)
    | _ => none
  | .return_, [] => match rk with
    | 3 => some (S.1, [], S.2.2.2.1)
    | _ => none
  | _, _ => none
noncomputable def z_ends (rk mc ms : Nat) (T : List (List zE)) : List (Nat × zS) → Option (List zX)
  | [] => some []
  | (pc, S) :: ex => match z_at T pc with
    | some x => match Nat.ble S.2.2.2.2.1 mc && Nat.ble S.2.2.2.2.2 ms with
      | true => match z_end rk x.2.1 S with
        | some E => match z_ends rk mc ms T ex with
          | some es => some (E :: es)
          | none => none
        | none => none
      | false => none
    | none => none
theorem z_ends_ok {rk mc ms : Nat} {T : List (List zE)} : ∀ {ex : List (Nat × zS)} {es : List zX}, z_ends rk mc ms T ex = some es → ∀ z ∈ ex, ∃ x E, z_at T z.1 = some x ∧ z.2.2.2.2.2.1 ≤ mc ∧ z.2.2.2.2.2.2 ≤ ms ∧ z_end rk x.2.1 z.2 = some E ∧ E ∈ es
  | [], es, h => fun z hz => by cases hz
  | (pc, S) :: ex, es, h => by
    unfold z_ends at h
    split at h
    · rename_i x ex0
      split at h
      · rename_i et
        split at h
        · rename_i E eE
          split at h
          · rename_i es' ees
            cases h
            intro z hz
            rcases List.mem_cons.mp hz with rfl | hz
            · exact ⟨x, E, ex0, Nat.le_of_ble_eq_true (z_and et).1, Nat.le_of_ble_eq_true (z_and et).2, eE, List.mem_cons_self⟩
            · obtain ⟨x2, E2, g1, g2, g3, g4, g5⟩ := z_ends_ok ees z hz
              exact ⟨x2, E2, g1, g2, g3, g4, List.mem_cons_of_mem _ g5⟩
          · cases h
        · cases h
      · cases h
    · cases h
noncomputable def z_args : Nat → List zV → List (Nat × zV)
  | _, [] => []
  | i, a :: as => (i, a) :: z_args (match Nat.beq a.1 1 with
    | true => i + 2
    | false => i + 1) as
theorem z_args_ok {ρ : List Int} {ad : List Nat} : ∀ {as : List zV} {av : List Value} (i : Nat), z_F (z_m ρ ad) as av → z_F (z_Lo ρ ad) (z_args i as) (lv_args i av)
  | [], [], i, _ => trivial
  | a :: as, v :: av, i, h => by
    refine ⟨⟨rfl, h.1⟩, ?_⟩
    have e : (match Nat.beq a.1 1 with
      | true => i + 2
      | false => i + 1) = (if v.category = 2 then i + 2 else i + 1) := by
      cases e : Nat.beq a.1 1 with
      | true =>
        have h1 := z_m.cat h.1
        have e := z_beq e
        rw [e] at h1
        have h2 : v.category = 2 := eq_of_beq h1
        rw [if_pos h2]
      | false =>
        have h1 := z_cat1 h.1 e
        rw [if_neg (by omega)]
    rw [e]
    exact z_args_ok _ h.2
  | [], _ :: _, i, h => h.elim
  | _ :: _, [], i, h => h.elim
theorem z_sl_len : ∀ av : List Value, (lg_sl av).length = (av.map fun v => v.category).sum
  | [] => rfl
  | v :: av => by
    have ih := z_sl_len av
    have e : lg_sl (v :: av) = (if v.category = 2 then [Slot.val v, Slot.second] else [Slot.val v]) ++ lg_sl av := rfl
    rw [e, List.length_append, ih, List.map_cons, List.sum_cons]
    rcases lv_cat v with h | h
    · rw [if_neg (by omega), h]; rfl
    · rw [if_pos h, h]; rfl
/-- what holds of all the methods -/
noncomputable def z_ALL (SP : zSP) (bs : List Int) (l : Launch) (D : va_G) (tys : List (ClassId × FieldType)) (tbl : List Cond) (cl : List vw_C) (TY : Nat → Nat → FieldType) (TC : List Nat) (DF : List (List Nat)) (Y : Nat → MethodName) (CC : Nat → ByteArray) (RT : Nat → Option FieldType) (VK : Nat → Nat) (INI : Nat → Bool) (HN : String) (ZD : List zN) : Prop :=
  (∀ w ∈ tbl, z_wok w = true) ∧ z_ST tbl cl TY DF ∧
  (∀ mi nA rc rk mc ms nl T, ZD[mi]? = some (nA, rc, rk, mc, ms, nl, T) → z_mok tbl cl (Y mi) (CC mi) nl (RT mi) (VK mi) nA rc rk ∧ (INI mi = true → (Y mi).name = "<init>") ∧ ∀ b ∈ T, ∀ x ∈ b, decode (CC mi) x.1 = .ok (x.2.1, x.2.2.1) ∧ z_lok SP tbl cl TY TC Y VK HN (Y mi).cls (INI mi) x.2.1 x.2.2.1 x.2.2.2.1 x.2.2.2.2.1 x.2.2.2.2.2.1 x.2.2.2.2.2.2 = true) ∧ z_SM SP bs l D cl tys tbl
section ZW
variable {p : Program} {l : Launch} {e : Env} {R : Room} {s : State} {m : MethodId} {args : Array Value} {below : List Frame} {meth : Method} {c : Code} {Q : State → Prop} {D : va_G} {cl : List vw_C} {tys : List (ClassId × FieldType)} {A : Nat → Prop} {H0 : Heap} {nL : Nat} {ρ0 : List Int} {ad0 : List Nat} {cc : ByteArray}
variable {SP : zSP} {bs : List Int} {tbl : List Cond} {TY : Nat → Nat → FieldType} {TC : List Nat} {DF : List (List Nat)} {Y : Nat → MethodName} {CC : Nat → ByteArray} {RT : Nat → Option FieldType} {VK : Nat → Nat} {INI : Nat → Bool} {HN own : String} {ini : Bool} {ZD : List zN} {RC RS d : Nat} {sc : Option Nat} {call : zL} {T : List (List zE)}
/-- a frame's run, from the steps -/
theorem z_frame (h2 : 3 ≤ d) (CX : z_CX SP bs p R s m args meth c cc nL own ini D cl tys TC tbl A H0 RC RS d sc ρ0) (AL : z_ALL SP bs l D tys tbl cl TY TC DF Y CC RT VK INI HN ZD)
    (hT : ∀ b ∈ T, ∀ x ∈ b, decode cc x.1 = .ok (x.2.1, x.2.2.1) ∧ z_lok SP tbl cl TY TC Y VK HN own ini x.2.1 x.2.2.1 x.2.2.2.1 x.2.2.2.2.1 x.2.2.2.2.2.1 x.2.2.2.2.2.2 = true)
    (hcall : ∀ mi nA rc rk mc ms nl T ivs as hp es, ZD[mi]? = some (nA, rc, rk, mc, ms, nl, T) → call mi ivs as hp = some es → z_MET SP bs l D cl tys tbl (Y mi) (CC mi) nl (RT mi) d rk mc ms ivs as hp es)
    (n : Nat) (w acc ex : List (Nat × zS)) (h : z_run SP ZD call RC RS nL sc DF TC T n w acc = some ex) (hK : ∀ z ∈ ex, z_K p l e R s m args below meth c Q D cl tys A H0 nL ρ0 ad0 z.1 z.2) : ∀ z ∈ w, z_K p l e R s m args below meth c Q D cl tys A H0 nL ρ0 ad0 z.1 z.2 := by
  obtain ⟨al1, al2, al3, al4⟩ := AL
  refine (z_run_ok (K := z_K p l e R s m args below meth c Q D cl tys A H0 nL ρ0 ad0) (fun pc S x q hat hst hq => ?_) n w acc ex h).2 hK
  obtain ⟨ivs, lo, sk, hp, nc, ns⟩ := S
  obtain ⟨⟨b, hb, hxb⟩, he⟩ := z_at_ok hat
  obtain ⟨hd, hlk⟩ := hT b hb x hxb
  rw [he] at hd
  have hok := fun mi nA rc rk mc ms nl T hz => (al3 mi nA rc rk mc ms nl T hz).1
  refine z_step_ok CX al2 hd hlk (fun y hy => ?_) (fun i g1 g2 g3 g4 => ?_) (fun i g1 g3 g4 => ?_) (fun i g1 g2 g3 g4 => ?_) (fun i g1 g2 g3 g4 => ?_) (fun i g1 g2 g3 g4 => ?_) hst hq
  · obtain ⟨⟨b2, hb2, hxb2⟩, he2⟩ := z_at_ok hy
    obtain ⟨hd2, hlk2⟩ := hT b2 hb2 y hxb2
    rw [he2] at hd2
    refine ⟨hd2, fun cd off ey => ?_⟩
    rw [ey] at hlk2
    exact z_beq hlk2
  · exact z_inv_ok (HN := HN) CX al1 hok hcall (Or.inl ⟨i, g1, g2, g3⟩) g4 hq
  · exact z_str_ok CX al1 al4 h2 g1 g3 g4 hq
  · exact z_inv_ok (HN := HN) CX al1 hok hcall (Or.inr (Or.inl ⟨i, g1, g2, g3⟩)) g4 hq
  · exact z_inv_ok (HN := HN) CX al1 hok hcall (Or.inr (Or.inr (Or.inl ⟨i, g1, g2, g3⟩))) g4 hq
  · exact z_inv_ok (HN := HN) CX al1 hok hcall (Or.inr (Or.inr (Or.inr ⟨i, g1, g2, g3⟩))) g4 hq
end ZW
