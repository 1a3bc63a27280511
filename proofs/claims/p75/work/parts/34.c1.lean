/-! ===== a state split by bounds of a symbol; ends looked at by their bounds first ===== -/
noncomputable def z_okQ (rk mc ms n0 : Nat) (T : List (List zE)) (es : List zX) (z : Nat × zS) : Bool := match z_at T z.1 with
  | some x => match z_isr x.2.1 && (Nat.ble z.2.2.2.2.2.1 mc && Nat.ble z.2.2.2.2.2.2 ms) with
    | true => match z_end rk x.2.1 z.2 with
      | some E => es.any (fun F => z_fx n0 F.1.1 E.1.1 && (z_mS n0 (z_pX F) (z_pX E)).isSome)
      | none => false
    | false => false
  | none => false
theorem z_okQ_ok {rk mc ms n0 : Nat} {T : List (List zE)} {es : List zX} {z : Nat × zS} (h : z_okQ rk mc ms n0 T es z = true) : z_okE rk mc ms n0 T es z = true := by
  unfold z_okQ at h
  unfold z_okE
  split at h
  · rename_i x e
    rw [e]
    dsimp only
    split at h
    · rename_i e2
      rw [e2]
      dsimp only
      split at h
      · rename_i E e3
        rw [e3]
        dsimp only
        obtain ⟨F, h1, h2⟩ := List.any_eq_true.mp h
        exact List.any_eq_true.mpr ⟨F, h1, (z_and h2).2⟩
      · cases h
    · cases h
  · cases h
noncomputable def z_okSQ (rk mc ms : Nat) (T : List (List zE)) (cn : zCn) (cuts : List zCt) (z : Nat × zS) : Bool := z_okQ rk mc ms cn.1.1.1.length T cn.2 z || cuts.any (fun c' => Nat.beq c'.1 z.1 && (z_fx cn.1.1.1.length c'.2.1.1.1 z.2.1.1 && (z_mS cn.1.1.1.length c'.2.1 z.2).isSome))
noncomputable def z_okCQ (rk mc ms : Nat) (T : List (List zE)) (cn : zCn) (cuts : List zCt) (k : zCt) (z : Nat × zS) : Bool := z_okQ rk mc ms cn.1.1.1.length T cn.2 z || cuts.any (fun c' => Nat.beq c'.1 z.1 && (z_fx cn.1.1.1.length c'.2.1.1.1 z.2.1.1 && z_edge cn.1.1.1.length k.2.2 z.2 c'))
theorem z_okSQ_ok {rk mc ms : Nat} {T : List (List zE)} {cn : zCn} {cuts : List zCt} {z : Nat × zS} (h : z_okSQ rk mc ms T cn cuts z = true) : z_okS rk mc ms T cn cuts z = true := by
  unfold z_okSQ at h
  unfold z_okS
  rcases Bool.or_eq_true_iff.mp h with h | h
  · exact Bool.or_eq_true_iff.mpr (Or.inl (z_okQ_ok h))
  · obtain ⟨c', h1, h2⟩ := List.any_eq_true.mp h
    exact Bool.or_eq_true_iff.mpr (Or.inr (List.any_eq_true.mpr ⟨c', h1, Bool.and_eq_true_iff.mpr ⟨(z_and h2).1, (z_and (z_and h2).2).2⟩⟩))
theorem z_okCQ_ok {rk mc ms : Nat} {T : List (List zE)} {cn : zCn} {cuts : List zCt} {k : zCt} {z : Nat × zS} (h : z_okCQ rk mc ms T cn cuts k z = true) : z_okC rk mc ms T cn cuts k z = true := by
  unfold z_okCQ at h
  unfold z_okC
  rcases Bool.or_eq_true_iff.mp h with h | h
  · exact Bool.or_eq_true_iff.mpr (Or.inl (z_okQ_ok h))
  · obtain ⟨c', h1, h2⟩ := List.any_eq_true.mp h
    exact Bool.or_eq_true_iff.mpr (Or.inr (List.any_eq_true.mpr ⟨c', h1, Bool.and_eq_true_iff.mpr ⟨(z_and h2).1, (z_and (z_and h2).2).2⟩⟩))
theorem z_RUN.wk {SP : zSP} {ZD : List zN} {call : zL} {RC RS nL : Nat} {sc : Option Nat} {DF : List (List Nat)} {TC : List Nat} {T : List (List zE)} {ok ok2 : Nat × zS → Bool} {w : List (Nat × zS)} (h : ∀ z, ok z = true → ok2 z = true) (hr : z_RUN SP ZD call RC RS nL sc DF TC T ok w) : z_RUN SP ZD call RC RS nL sc DF TC T ok2 w := fun K hs hk => hr K hs (fun z hz => hk z (h z hz))
noncomputable def z_RUNs (SP : zSP) (ZD : List zN) (call : zL) (RC RS nL : Nat) (sc : Option Nat) (DF : List (List Nat)) (TC : List Nat) (T : List (List zE)) (ok : Nat × zS → Bool) (w : List (Nat × zS)) : Prop := ∀ K : Nat → zS → Prop,
  (∀ (pc : Nat) (S : zS) (x : zE) (q : List (Nat × zS)), z_at T pc = some x → z_step SP ZD call RC RS nL sc DF TC (z_at T (pc + 1)) pc x.2.1 x.2.2.2.1 x.2.2.2.2.1 x.2.2.2.2.2.2 S.1 S.2.1 S.2.2.1 S.2.2.2.1 S.2.2.2.2.1 S.2.2.2.2.2 = some q → (∀ z ∈ q, K z.1 z.2) → K pc S) → (∀ (pc : Nat) (S : zS) (x : Nat) (ps : List zI) (js : List zJ), z_starts S.1 (some (x, ps)) = some js → (∀ J ∈ js, K pc (J, S.2)) → K pc S) → (∀ z, ok z = true → K z.1 z.2) → ∀ z ∈ w, K z.1 z.2
theorem z_RUN.s {SP : zSP} {ZD : List zN} {call : zL} {RC RS nL : Nat} {sc : Option Nat} {DF : List (List Nat)} {TC : List Nat} {T : List (List zE)} {ok : Nat × zS → Bool} {w : List (Nat × zS)} (h : z_RUN SP ZD call RC RS nL sc DF TC T ok w) : z_RUNs SP ZD call RC RS nL sc DF TC T ok w := fun K hs _ hk => h K hs hk
theorem z_RUNs.spl {SP : zSP} {ZD : List zN} {call : zL} {RC RS nL : Nat} {sc : Option Nat} {DF : List (List Nat)} {TC : List Nat} {T : List (List zE)} {ok : Nat × zS → Bool} {pc x : Nat} {S : zS} {ps : List zI} {js : List zJ} (h : z_starts S.1 (some (x, ps)) = some js) (hj : ∀ J ∈ js, z_RUNs SP ZD call RC RS nL sc DF TC T ok [(pc, (J, S.2))]) : z_RUNs SP ZD call RC RS nL sc DF TC T ok [(pc, S)] := fun K hs hp hk z hz => by
  have := List.mem_singleton.mp hz
  subst this
  exact hp pc S x ps js h (fun J hJ => hj J hJ K hs hp hk _ List.mem_cons_self)
theorem z_RUNs.more {SP : zSP} {ZD : List zN} {call : zL} {RC RS nL : Nat} {sc : Option Nat} {DF : List (List Nat)} {TC : List Nat} {T : List (List zE)} {ok : Nat × zS → Bool} {FU n : Nat} {stp : List Nat} {w : List (Nat × zS)} (hl : (z_stg SP ZD call RC RS nL sc DF TC T FU stp (some w)).length = n + 1)
    (h : ∀ j, j < n + 1 → z_RUNs SP ZD call RC RS nL sc DF TC T ok (z_nth (z_stg SP ZD call RC RS nL sc DF TC T FU stp (some w)) j)) : z_RUNs SP ZD call RC RS nL sc DF TC T ok w := fun K hs hp hk => by
  have hl' := hl
  unfold z_stg at hl'
  dsimp only at hl'
  cases er : z_runS SP ZD call RC RS nL sc DF TC T stp FU w [] with
  | none =>
    rw [er] at hl'
    cases hl'
  | some ex =>
    refine (z_runS_ok hs FU w [] ex er).2 (fun z hz => ?_)
    obtain ⟨j, hj⟩ := List.getElem?_of_mem hz
    have ew : z_stg SP ZD call RC RS nL sc DF TC T FU stp (some w) = ex := by
      unfold z_stg
      dsimp only
      rw [er]
      rfl
    rw [ew] at hl h
    have h1 := h j (by rw [← hl]; exact (List.getElem?_eq_some_iff.mp hj).1)
    unfold z_nth at h1
    rw [hj] at h1
    exact h1 K hs hp hk z List.mem_cons_self
theorem z_RUNs.brn {SP : zSP} {ZD : List zN} {call : zL} {RC RS nL : Nat} {sc : Option Nat} {DF : List (List Nat)} {TC : List Nat} {T : List (List zE)} {ok : Nat × zS → Bool} {FU : Nat} {stp0 stp : List Nat} {w : List (Nat × zS)} {ls : List (List (Nat × zS))} (h : z_brn SP ZD call RC RS nL sc DF TC T FU stp0 ok stp w ls = true) (hl : ∀ l ∈ ls, z_RUNs SP ZD call RC RS nL sc DF TC T ok l) : z_RUNs SP ZD call RC RS nL sc DF TC T ok w := fun K hs hp hk => by
  unfold z_brn at h
  split at h
  · rename_i ex er
    refine (z_runS_ok hs FU w [] ex er).2 (fun z hz => ?_)
    exact z_prt_ok (P := fun l => z_RUNs SP ZD call RC RS nL sc DF TC T ok l) hl (fun l q => (z_RUN.one q).s) h z hz K hs hp hk z List.mem_cons_self
  · cases h
noncomputable def z_eJ (a b : zJ) : Bool := z_eL z_eI a.1 b.1 && z_eL z_eR a.2 b.2
theorem z_eJ_ok : ∀ a b : zJ, z_eJ a b = true → a = b
  | (a1, a2), (b1, b2), h => by
    have h1 : a1 = b1 := z_eL_ok z_eI_ok (z_and h).1
    have h2 : a2 = b2 := z_eL_ok z_eR_ok (z_and h).2
    rw [h1, h2]
noncomputable def z_stE (J : zJ) (x : Nat) (ps : List zI) (js : List zJ) : Bool := match z_starts J (some (x, ps)) with
  | some a => z_eL z_eJ a js
  | none => false
theorem z_stE_ok {J : zJ} {x : Nat} {ps : List zI} {js : List zJ} (h : z_stE J x ps js = true) : z_starts J (some (x, ps)) = some js := by
  unfold z_stE at h
  split at h
  · rename_i a e
    rw [e, z_eL_ok z_eJ_ok h]
  · cases h
section ZC7
variable {p : Program} {l : Launch} {e : Env} {R : Room} {s : State} {m : MethodId} {args : Array Value} {below : List Frame} {meth : Method} {c : Code} {Q : State → Prop} {D : va_G} {cl : List vw_C} {tys : List (ClassId × FieldType)} {A : Nat → Prop} {H0 : Heap} {nL : Nat} {ρ0 : List Int} {ad0 : List Nat}
theorem z_K_spl {pc x : Nat} {S : zS} {ps : List zI} {js : List zJ} (h : z_starts S.1 (some (x, ps)) = some js) (hj : ∀ J ∈ js, z_K p l e R s m args below meth c Q D cl tys A H0 nL ρ0 ad0 pc (J, S.2)) : z_K p l e R s m args below meth c Q D cl tys A H0 nL ρ0 ad0 pc S := fun ρ ws lv st H locs ls hg => by
  obtain ⟨J', h1, h2⟩ := z_starts_ok hg.2.1 h
  exact hj J' h1 ρ ws lv st H locs ls ⟨hg.1, h2, hg.2.2⟩
theorem z_cuts_okS {SP : zSP} {ZD : List zN} {call : zL} {RC RS : Nat} {sc : Option Nat} {DF : List (List Nat)} {TC : List Nat} {T : List (List zE)} {n0 B len : Nat} {okx : Nat × zS → Bool} {cuts : List zCt}
    (hs : ∀ ρ : List Int, ρ0 <+: ρ → ∀ (pc : Nat) (S : zS) (x : zE) (q : List (Nat × zS)), z_at T pc = some x → z_step SP ZD call RC RS nL sc DF TC (z_at T (pc + 1)) pc x.2.1 x.2.2.2.1 x.2.2.2.2.1 x.2.2.2.2.2.2 S.1 S.2.1 S.2.2.1 S.2.2.2.1 S.2.2.2.2.1 S.2.2.2.2.2 = some q → (∀ z ∈ q, z_K p l e R s m args below meth c Q D cl tys A H0 nL ρ ad0 z.1 z.2) → z_K p l e R s m args below meth c Q D cl tys A H0 nL ρ ad0 pc S)
    (hlen : ρ0.length = n0) (hn0 : 0 < n0) (hx : ∀ z, okx z = true → z_K p l e R s m args below meth c Q D cl tys A H0 nL ρ0 ad0 z.1 z.2) (hc : ∀ k ∈ cuts, (z_msB k.2.1.1 B k.2.2 = true ∧ k.2.2.length = len) ∧ ∃ w, z_wl SP ZD call RC RS nL sc DF TC T 1 [(k.1, k.2.1)] = some w ∧ z_RUNs SP ZD call RC RS nL sc DF TC T (fun z => okx z || cuts.any (fun c' => Nat.beq c'.1 z.1 && z_edge n0 k.2.2 z.2 c')) w) : ∀ k ∈ cuts, z_K p l e R s m args below meth c Q D cl tys A H0 nL ρ0 ad0 k.1 k.2.1 := by
  have main : ∀ N : Nat, ∀ k ∈ cuts, ∀ (ρ : List Int) (ws : va_W) (lv : List (Nat × Value)) (st : List Value) (H : Heap) (locs : List Loc) (ls : Array Slot), z_g D cl tys A H0 nL ρ0 ad0 k.2.1 ρ ws lv st H locs ls → z_enc B 0 (z_ms ρ k.2.2) < N → W p l e R s m args below meth c H locs k.2.1.2.2.2.2.1 k.2.1.2.2.2.2.2 Q (F0 m k.1 ls st) := by
    intro N
    induction N with
    | zero => intro k _ ρ ws lv st H locs ls _ h; exact absurd h (Nat.not_lt_zero _)
    | succ N ih =>
      intro k hk ρ ws lv st H locs ls hg hN
      obtain ⟨⟨f1, f2⟩, w, ew, hrun⟩ := hc k hk
      have hpre : ρ0 <+: ρ := hg.1.1
      have hJ : z_iv k.2.1.1 ρ := hg.2.1
      have hK : z_K p l e R s m args below meth c Q D cl tys A H0 nL ρ ad0 k.1 k.2.1 := by
        refine z_wl_ok (hs ρ hpre) 1 [(k.1, k.2.1)] w ew (hrun _ (hs ρ hpre) (fun _ _ _ _ _ h hj => z_K_spl h hj) (fun z g => ?_)) (k.1, k.2.1) List.mem_cons_self
        dsimp only at g
        rcases Bool.or_eq_true_iff.mp g with g | g
        · exact (hx z g).up hpre
        · obtain ⟨k', hk', g⟩ := List.any_eq_true.mp g
          have g1 := z_beq (z_and g).1
          have g2 := (z_and g).2
          unfold z_edge at g2
          split at g2
          · rename_i σ eσ
            intro ρ' ws' lv' st' H' locs' ls' hg'
            have hpre' : ρ <+: ρ' := hg'.1.1
            have hn : n0 ≤ ρ'.length := by
              have := (hpre.trans hpre').length_le
              omega
            obtain ⟨⟨lv2, hgP⟩, c1, c2, hq⟩ := z_mS_ok (hg'.base (hpre.trans hpre')) (by omega) hn hn0 eσ
            have hJ' : z_iv z.2.1 ρ' := hg'.2.1
            have hin := z_msB_in hJ f1
            have hin' : ∀ q ∈ k.2.2, ∃ w, ρ'[q.2]? = some w := fun q hm => by
              obtain ⟨w, hw⟩ := hin q hm
              exact ⟨w, z_pre hpre' hw⟩
            have hlx := z_dec_ok hJ' hn hq hin' g2
            rw [z_ms_pre hpre' hin] at hlx
            obtain ⟨⟨f1', f2'⟩, -⟩ := hc k' hk'
            have b1 := z_msB_ok hgP.2.1 f1'
            have b2 := z_msB_ok hJ f1
            have el : (z_ms (z_r2 n0 ρ' σ) k'.2.2).length = (z_ms ρ k.2.2).length := by
              unfold z_ms
              rw [List.length_map, List.length_map, f2, f2']
            have hen := z_lex_enc (p := 0) el b1 b2 hlx
            have hW := ih k' hk' (z_r2 n0 ρ' σ) ws' lv2 st' H' locs' ls' hgP (by omega)
            rw [g1] at hW
            exact W.widen c1 c2 hW
          · cases g2
      exact hK ρ ws lv st H locs ls (hg.base (List.prefix_refl _))
  intro k hk ρ ws lv st H locs ls hg
  exact main _ k hk ρ ws lv st H locs ls hg (Nat.lt_succ_self _)
end ZC7
