/-! ===== checks in pieces: trees of runs ===== -/
noncomputable def z_nth (w : List (Nat × zS)) (j : Nat) : List (Nat × zS) := match w[j]? with
  | some z => [z]
  | none => []
/-- first to some places, then on from each, however proved -/
theorem z_RUN.more {SP : zSP} {ZD : List zN} {call : zL} {RC RS nL : Nat} {sc : Option Nat} {DF : List (List Nat)} {TC : List Nat} {T : List (List zE)} {FU n : Nat} {stp : List Nat} {ok : Nat × zS → Bool} {w : List (Nat × zS)} (hl : (z_stg SP ZD call RC RS nL sc DF TC T FU stp (some w)).length = n + 1)
    (h : ∀ j, j < n + 1 → z_RUN SP ZD call RC RS nL sc DF TC T ok (z_nth (z_stg SP ZD call RC RS nL sc DF TC T FU stp (some w)) j)) : z_RUN SP ZD call RC RS nL sc DF TC T ok w := fun K hs hk => by
  have hl' := hl
  unfold z_stg at hl'
  dsimp only at hl'
  cases er : z_runS SP ZD call RC RS nL sc DF TC T stp FU w [] with
  | none =>
    rw [er] at hl'
    cases hl'
  | some ex =>
    refine (z_runS_ok hs FU w [] ex er).2 (fun z hz => ?_)
    obtain ⟨j, hj⟩ := List.getElem?_of_mem hz
    have ew : z_stg SP ZD call RC RS nL sc DF TC T FU stp (some w) = ex := by
      unfold z_stg
      dsimp only
      rw [er]
      rfl
    rw [ew] at hl h
    have h1 := h j (by rw [← hl]; exact (List.getElem?_eq_some_iff.mp hj).1)
    unfold z_nth at h1
    rw [hj] at h1
    exact h1 K hs hk z List.mem_cons_self
noncomputable def z_swj (cn : zCn) (js : List zJ) (j : Nat) : List (Nat × zS) := match js[j]? with
  | some J => [(0, (J, z_args 0 cn.1.2.1, [], cn.1.2.2, 0, 0))]
  | none => []
theorem z_RUN.st2 {SP : zSP} {ZD : List zN} {call : zL} {RC RS nL : Nat} {DF : List (List Nat)} {TC : List Nat} {T : List (List zE)} {n : Nat} {ok : Nat × zS → Bool} {cn : zCn} {js : List zJ} (hl : js.length = n) (h : ∀ j, j < n → z_RUN SP ZD call RC RS nL none DF TC T ok (z_swj cn js j)) : ∀ J ∈ js, z_RUN SP ZD call RC RS nL none DF TC T ok [(0, (J, z_args 0 cn.1.2.1, [], cn.1.2.2, 0, 0))] := fun J hJ => by
  obtain ⟨j, hj⟩ := List.getElem?_of_mem hJ
  have h1 := h j (by rw [← hl]; exact (List.getElem?_eq_some_iff.mp hj).1)
  unfold z_swj at h1
  rw [hj] at h1
  exact h1
/-! ===== states told in full ===== -/
noncomputable def z_eL {α : Type} (f : α → α → Bool) : List α → List α → Bool
  | [], [] => true
  | a :: as, b :: bs => f a b && z_eL f as bs
  | _, _ => false
theorem z_eL_ok {α : Type} {f : α → α → Bool} (hf : ∀ a b, f a b = true → a = b) : ∀ {as bs : List α}, z_eL f as bs = true → as = bs
  | [], [], _ => rfl
  | a :: as, b :: bs, h => by
    have h : (f a b && z_eL f as bs) = true := h
    rw [hf a b (z_and h).1, z_eL_ok hf (z_and h).2]
  | [], _ :: _, h => by cases h
  | _ :: _, [], h => by cases h
noncomputable def z_eV (a b : zV) : Bool := Nat.beq a.1 b.1 && (Nat.beq a.2.1 b.2.1 && z_ieq a.2.2 b.2.2)
theorem z_eV_ok : ∀ a b : zV, z_eV a b = true → a = b
  | (a1, a2, a3), (b1, b2, b3), h => by
    have h1 : a1 = b1 := z_beq (z_and h).1
    have h2 : a2 = b2 := z_beq (z_and (z_and h).2).1
    have h3 : a3 = b3 := z_ieq_ok (z_and (z_and h).2).2
    rw [h1, h2, h3]
noncomputable def z_eI (a b : zI) : Bool := z_ieq a.1 b.1 && z_ieq a.2 b.2
theorem z_eI_ok : ∀ a b : zI, z_eI a b = true → a = b
  | (a1, a2), (b1, b2), h => by
    have h1 : a1 = b1 := z_ieq_ok (z_and h).1
    have h2 : a2 = b2 := z_ieq_ok (z_and h).2
    rw [h1, h2]
noncomputable def z_eR (a b : zR) : Bool := Nat.beq a.1 b.1 && (Nat.beq a.2.1 b.2.1 && (Nat.beq a.2.2.1 b.2.2.1 && (Nat.beq a.2.2.2.1 b.2.2.2.1 && z_ieq a.2.2.2.2 b.2.2.2.2)))
theorem z_eR_ok : ∀ a b : zR, z_eR a b = true → a = b
  | (a1, a2, a3, a4, a5), (b1, b2, b3, b4, b5), h => by
    have h1 : a1 = b1 := z_beq (z_and h).1
    have h2 : a2 = b2 := z_beq (z_and (z_and h).2).1
    have h3 : a3 = b3 := z_beq (z_and (z_and (z_and h).2).2).1
    have h4 : a4 = b4 := z_beq (z_and (z_and (z_and (z_and h).2).2).2).1
    have h5 : a5 = b5 := z_ieq_ok (z_and (z_and (z_and (z_and h).2).2).2).2
    rw [h1, h2, h3, h4, h5]
noncomputable def z_eD (a b : zBd) : Bool := Nat.beq a.1 b.1 && (Nat.beq a.2.1 b.2.1 && (z_ieq a.2.2.1 b.2.2.1 && (Nat.beq a.2.2.2.1 b.2.2.2.1 && (z_ieq a.2.2.2.2.1 b.2.2.2.2.1 && z_ieq a.2.2.2.2.2 b.2.2.2.2.2))))
theorem z_eD_ok : ∀ a b : zBd, z_eD a b = true → a = b
  | (a1, a2, a3, a4, a5, a6), (b1, b2, b3, b4, b5, b6), h => by
    have h1 : a1 = b1 := z_beq (z_and h).1
    have h2 : a2 = b2 := z_beq (z_and (z_and h).2).1
    have h3 : a3 = b3 := z_ieq_ok (z_and (z_and (z_and h).2).2).1
    have h4 : a4 = b4 := z_beq (z_and (z_and (z_and (z_and h).2).2).2).1
    have h5 : a5 = b5 := z_ieq_ok (z_and (z_and (z_and (z_and (z_and h).2).2).2).2).1
    have h6 : a6 = b6 := z_ieq_ok (z_and (z_and (z_and (z_and (z_and h).2).2).2).2).2
    rw [h1, h2, h3, h4, h5, h6]
noncomputable def z_eC : zC → zC → Bool
  | .inl (n, l), .inl (n', l') => Nat.beq n n' && z_eL z_eV l l'
  | .inr (.inl (a, b, .inl q)), .inr (.inl (a', b', .inl q')) => Nat.beq a a' && (Nat.beq b b' && z_eI q q')
  | .inr (.inl (a, b, .inr (.inl l))), .inr (.inl (a', b', .inr (.inl l'))) => Nat.beq a a' && (Nat.beq b b' && z_eL z_eV l l')
  | .inr (.inl (a, b, .inr (.inr (x, y, l)))), .inr (.inl (a', b', .inr (.inr (x', y', l')))) => Nat.beq a a' && (Nat.beq b b' && (z_ieq x x' && (z_ieq y y' && z_eL z_eD l l')))
  | .inr (.inr (n, l)), .inr (.inr (n', l')) => Nat.beq n n' && z_eL z_eV l l'
  | _, _ => false
theorem z_eC_ok : ∀ a b : zC, z_eC a b = true → a = b := by
  intro a b h
  unfold z_eC at h
  split at h
  · rw [z_beq (z_and h).1, z_eL_ok z_eV_ok (z_and h).2]
  · rw [z_beq (z_and h).1, z_beq (z_and (z_and h).2).1, z_eI_ok _ _ (z_and (z_and h).2).2]
  · rw [z_beq (z_and h).1, z_beq (z_and (z_and h).2).1, z_eL_ok z_eV_ok (z_and (z_and h).2).2]
  · rw [z_beq (z_and h).1, z_beq (z_and (z_and h).2).1, z_ieq_ok (z_and (z_and (z_and h).2).2).1, z_ieq_ok (z_and (z_and (z_and (z_and h).2).2).2).1, z_eL_ok z_eD_ok (z_and (z_and (z_and (z_and h).2).2).2).2]
  · rw [z_beq (z_and h).1, z_eL_ok z_eV_ok (z_and h).2]
  · cases h
noncomputable def z_eO (a b : Nat × zV) : Bool := Nat.beq a.1 b.1 && z_eV a.2 b.2
theorem z_eO_ok : ∀ a b : Nat × zV, z_eO a b = true → a = b
  | (a1, a2), (b1, b2), h => by
    have h1 : a1 = b1 := z_beq (z_and h).1
    have h2 : a2 = b2 := z_eV_ok _ _ (z_and h).2
    rw [h1, h2]
noncomputable def z_eS (a b : Nat × zS) : Bool := Nat.beq a.1 b.1 && ((z_eL z_eI a.2.1.1 b.2.1.1 && z_eL z_eR a.2.1.2 b.2.1.2) && (z_eL z_eO a.2.2.1 b.2.2.1 && (z_eL z_eV a.2.2.2.1 b.2.2.2.1 && (z_eL z_eC a.2.2.2.2.1 b.2.2.2.2.1 && (Nat.beq a.2.2.2.2.2.1 b.2.2.2.2.2.1 && Nat.beq a.2.2.2.2.2.2 b.2.2.2.2.2.2)))))
theorem z_eS_ok : ∀ a b : Nat × zS, z_eS a b = true → a = b
  | (a0, (a1, a2), a3, a4, a5, a6, a7), (b0, (b1, b2), b3, b4, b5, b6, b7), h => by
    have h0 : a0 = b0 := z_beq (z_and h).1
    have h1 : a1 = b1 := z_eL_ok z_eI_ok (z_and (z_and (z_and h).2).1).1
    have h2 : a2 = b2 := z_eL_ok z_eR_ok (z_and (z_and (z_and h).2).1).2
    have h3 : a3 = b3 := z_eL_ok z_eO_ok (z_and (z_and (z_and h).2).2).1
    have h4 : a4 = b4 := z_eL_ok z_eV_ok (z_and (z_and (z_and (z_and h).2).2).2).1
    have h5 : a5 = b5 := z_eL_ok z_eC_ok (z_and (z_and (z_and (z_and (z_and h).2).2).2).2).1
    have h6 : a6 = b6 := z_beq (z_and (z_and (z_and (z_and (z_and (z_and h).2).2).2).2).2).1
    have h7 : a7 = b7 := z_beq (z_and (z_and (z_and (z_and (z_and (z_and h).2).2).2).2).2).2
    rw [h0, h1, h2, h3, h4, h5, h6, h7]
theorem z_eW {a b : List (Nat × zS)} (h : z_eL z_eS a b = true) : a = b := z_eL_ok z_eS_ok h
/-! ===== a long way, told in full at its end ===== -/
noncomputable def z_chn (SP : zSP) (ZD : List zN) (call : zL) (RC RS nL : Nat) (sc : Option Nat) (DF : List (List Nat)) (TC : List Nat) (T : List (List zE)) (FU : Nat) (stp0 : List Nat) (ok : Nat × zS → Bool) : List (List Nat × Nat) → List (Nat × zS) → Option (List (Nat × zS))
  | [], w => some w
  | (stp, j) :: cs, w => match z_runS SP ZD call RC RS nL sc DF TC T stp FU w [] with
    | some ex => match ex.drop j, z_exR SP ZD call RC RS nL sc DF TC T FU stp0 ok (ex.take j ++ ex.drop (j + 1)) with
      | z :: _, true => z_chn SP ZD call RC RS nL sc DF TC T FU stp0 ok cs [z]
      | _, _ => none
    | none => none
theorem z_RUN.chn {SP : zSP} {ZD : List zN} {call : zL} {RC RS nL : Nat} {sc : Option Nat} {DF : List (List Nat)} {TC : List Nat} {T : List (List zE)} {FU : Nat} {stp0 : List Nat} {ok : Nat × zS → Bool} {w' : List (Nat × zS)} (hr : z_RUN SP ZD call RC RS nL sc DF TC T ok w') : ∀ {cs : List (List Nat × Nat)} {w : List (Nat × zS)}, z_chn SP ZD call RC RS nL sc DF TC T FU stp0 ok cs w = some w' → z_RUN SP ZD call RC RS nL sc DF TC T ok w
  | [], w, h => by
    cases h
    exact hr
  | (stp, j) :: cs, w, h => by
    unfold z_chn at h
    split at h
    · rename_i ex er
      split at h
      · rename_i z tl e1 e2
        have ih := z_RUN.chn hr h
        intro K hs hk
        refine (z_runS_ok hs FU w [] ex er).2 (fun y hy => ?_)
        have es : ex = ex.take j ++ ex.drop j := (List.take_append_drop j ex).symm
        rw [es] at hy
        have e3 : ex.drop (j + 1) = tl := by
          rw [← List.drop_drop, e1]
          rfl
        rcases List.mem_append.mp hy with hy | hy
        · exact z_RUN.one e2 K hs hk y (List.mem_append_left _ hy)
        · rw [e1] at hy
          rcases List.mem_cons.mp hy with rfl | hy
          · exact ih K hs hk _ List.mem_cons_self
          · exact z_RUN.one e2 K hs hk y (List.mem_append_right _ (by rw [e3]; exact hy))
      · cases h
    · cases h
noncomputable def z_chl (SP : zSP) (ZD : List zN) (call : zL) (RC RS nL : Nat) (sc : Option Nat) (DF : List (List Nat)) (TC : List Nat) (T : List (List zE)) (FU : Nat) (stp0 : List Nat) (ok : Nat × zS → Bool) (cs : List (List Nat × Nat)) (w lit : List (Nat × zS)) : Bool := match z_chn SP ZD call RC RS nL sc DF TC T FU stp0 ok cs w with
  | some w' => z_eL z_eS w' lit
  | none => false
theorem z_RUN.chl {SP : zSP} {ZD : List zN} {call : zL} {RC RS nL : Nat} {sc : Option Nat} {DF : List (List Nat)} {TC : List Nat} {T : List (List zE)} {FU : Nat} {stp0 : List Nat} {ok : Nat × zS → Bool} {cs : List (List Nat × Nat)} {w lit : List (Nat × zS)} (h : z_chl SP ZD call RC RS nL sc DF TC T FU stp0 ok cs w lit = true) (hr : z_RUN SP ZD call RC RS nL sc DF TC T ok lit) : z_RUN SP ZD call RC RS nL sc DF TC T ok w := by
  unfold z_chl at h
  split at h
  · rename_i w' e
    have := z_eW h
    subst this
    exact z_RUN.chn hr e
  · cases h
/-- a part of what a run comes to, told in full -/
noncomputable def z_prt (ls : List (List (Nat × zS))) (ok : Nat × zS → Bool) (chk : List (Nat × zS) → Bool) : List (Nat × zS) → Bool
  | [] => true
  | z :: zs => (ls.any (fun l => z_eL z_eS [z] l) || chk [z]) && z_prt ls ok chk zs
noncomputable def z_brn (SP : zSP) (ZD : List zN) (call : zL) (RC RS nL : Nat) (sc : Option Nat) (DF : List (List Nat)) (TC : List Nat) (T : List (List zE)) (FU : Nat) (stp0 : List Nat) (ok : Nat × zS → Bool) (stp : List Nat) (w : List (Nat × zS)) (ls : List (List (Nat × zS))) : Bool := match z_runS SP ZD call RC RS nL sc DF TC T stp FU w [] with
  | some ex => z_prt ls ok (z_exR SP ZD call RC RS nL sc DF TC T FU stp0 ok) ex
  | none => false
theorem z_prt_ok {ls : List (List (Nat × zS))} {ok : Nat × zS → Bool} {chk : List (Nat × zS) → Bool} {P : List (Nat × zS) → Prop} (hl : ∀ l ∈ ls, P l) (hc : ∀ l, chk l = true → P l) : ∀ {w : List (Nat × zS)}, z_prt ls ok chk w = true → ∀ z ∈ w, P [z]
  | [], _, z, hz => by cases hz
  | y :: ys, h, z, hz => by
    have h : ((ls.any (fun l => z_eL z_eS [y] l) || chk [y]) && z_prt ls ok chk ys) = true := h
    rcases List.mem_cons.mp hz with rfl | hz
    · rcases Bool.or_eq_true_iff.mp (z_and h).1 with q | q
      · obtain ⟨l, h1, h2⟩ := List.any_eq_true.mp q
        rw [z_eW h2]
        exact hl l h1
      · exact hc _ q
    · exact z_prt_ok hl hc (z_and h).2 z hz
theorem z_RUN.brn {SP : zSP} {ZD : List zN} {call : zL} {RC RS nL : Nat} {sc : Option Nat} {DF : List (List Nat)} {TC : List Nat} {T : List (List zE)} {FU : Nat} {stp0 : List Nat} {ok : Nat × zS → Bool} {stp : List Nat} {w : List (Nat × zS)} {ls : List (List (Nat × zS))} (h : z_brn SP ZD call RC RS nL sc DF TC T FU stp0 ok stp w ls = true) (hl : ∀ l ∈ ls, z_RUN SP ZD call RC RS nL sc DF TC T ok l) : z_RUN SP ZD call RC RS nL sc DF TC T ok w := fun K hs hk => by
  unfold z_brn at h
  split at h
  · rename_i ex er
    refine (z_runS_ok hs FU w [] ex er).2 (fun z hz => ?_)
    exact z_prt_ok (P := fun l => z_RUN SP ZD call RC RS nL sc DF TC T ok l) hl (fun l q => z_RUN.one q) h z hz K hs hk z List.mem_cons_self
  · cases h
noncomputable def z_sq (k a n : Nat) : List zV := (List.range' a n).map (fun x => (k, x, 0))
