/-! ===== checks in pieces: a run by any number of runs ===== -/
noncomputable def z_RUN (SP : zSP) (ZD : List zN) (call : zL) (RC RS nL : Nat) (sc : Option Nat) (DF : List (List Nat)) (TC : List Nat) (T : List (List zE)) (ok : Nat × zS → Bool) (w : List (Nat × zS)) : Prop := ∀ K : Nat → zS → Prop,
  (∀ (pc : Nat) (S : zS) (x : zE) (q : List (Nat × zS)), z_at T pc = some x → z_step SP ZD call RC RS nL sc DF TC (z_at T (pc + 1)) pc x.2.1 x.2.2.2.1 x.2.2.2.2.1 x.2.2.2.2.2.2 S.1 S.2.1 S.2.2.1 S.2.2.2.1 S.2.2.2.2.1 S.2.2.2.2.2 = some q → (∀ z ∈ q, K z.1 z.2) → K pc S) → (∀ z, ok z = true → K z.1 z.2) → ∀ z ∈ w, K z.1 z.2
noncomputable def z_exR (SP : zSP) (ZD : List zN) (call : zL) (RC RS nL : Nat) (sc : Option Nat) (DF : List (List Nat)) (TC : List Nat) (T : List (List zE)) (FU : Nat) (stp : List Nat) (ok : Nat × zS → Bool) (w : List (Nat × zS)) : Bool := match z_runS SP ZD call RC RS nL sc DF TC T stp FU w [] with
  | some ex => ex.all ok
  | none => false
theorem z_RUN.one {SP : zSP} {ZD : List zN} {call : zL} {RC RS nL : Nat} {sc : Option Nat} {DF : List (List Nat)} {TC : List Nat} {T : List (List zE)} {FU : Nat} {stp : List Nat} {ok : Nat × zS → Bool} {w : List (Nat × zS)} (h : z_exR SP ZD call RC RS nL sc DF TC T FU stp ok w = true) : z_RUN SP ZD call RC RS nL sc DF TC T ok w := fun K hs hk => by
  unfold z_exR at h
  split at h
  · rename_i ex er
    exact (z_runS_ok hs FU w [] ex er).2 (fun z hz => hk z (List.all_eq_true.mp h z hz))
  · cases h
/-- first to some places, then on from each -/
noncomputable def z_stg (SP : zSP) (ZD : List zN) (call : zL) (RC RS nL : Nat) (sc : Option Nat) (DF : List (List Nat)) (TC : List Nat) (T : List (List zE)) (FU : Nat) (stp : List Nat) (w : Option (List (Nat × zS))) : List (Nat × zS) := match w with
  | some w => (z_runS SP ZD call RC RS nL sc DF TC T stp FU w []).getD []
  | none => []
noncomputable def z_pcg (SP : zSP) (ZD : List zN) (call : zL) (RC RS nL : Nat) (sc : Option Nat) (DF : List (List Nat)) (TC : List Nat) (T : List (List zE)) (FU : Nat) (stp : List Nat) (ok : Nat × zS → Bool) (w : List (Nat × zS)) (j : Nat) : Bool := match w[j]? with
  | some z => z_exR SP ZD call RC RS nL sc DF TC T FU stp ok [z]
  | none => true
theorem z_RUN.two {SP : zSP} {ZD : List zN} {call : zL} {RC RS nL : Nat} {sc : Option Nat} {DF : List (List Nat)} {TC : List Nat} {T : List (List zE)} {FU FU2 n : Nat} {stp stp2 : List Nat} {ok : Nat × zS → Bool} {w : List (Nat × zS)} (hl : (z_stg SP ZD call RC RS nL sc DF TC T FU stp (some w)).length = n + 1)
    (h : ∀ j, j < n + 1 → z_pcg SP ZD call RC RS nL sc DF TC T FU2 stp2 ok (z_stg SP ZD call RC RS nL sc DF TC T FU stp (some w)) j = true) : z_RUN SP ZD call RC RS nL sc DF TC T ok w := fun K hs hk => by
  have hl' := hl
  unfold z_stg at hl'
  dsimp only at hl'
  cases er : z_runS SP ZD call RC RS nL sc DF TC T stp FU w [] with
  | none =>
    rw [er] at hl'
    cases hl'
  | some ex =>
    refine (z_runS_ok hs FU w [] ex er).2 (fun z hz => ?_)
    obtain ⟨j, hj⟩ := List.getElem?_of_mem hz
    have ew : z_stg SP ZD call RC RS nL sc DF TC T FU stp (some w) = ex := by
      unfold z_stg
      dsimp only
      rw [er]
      rfl
    rw [ew] at hl h
    have h1 := h j (by rw [← hl]; exact (List.getElem?_eq_some_iff.mp hj).1)
    unfold z_pcg at h1
    rw [hj] at h1
    exact (z_RUN.one h1) K hs hk z List.mem_cons_self
section ZC5
variable {p : Program} {l : Launch} {e : Env} {R : Room} {s : State} {m : MethodId} {args : Array Value} {below : List Frame} {meth : Method} {c : Code} {Q : State → Prop} {D : va_G} {cl : List vw_C} {tys : List (ClassId × FieldType)} {A : Nat → Prop} {H0 : Heap} {nL : Nat} {ρ0 : List Int} {ad0 : List Nat}
theorem z_cuts_okP {SP : zSP} {ZD : List zN} {call : zL} {RC RS : Nat} {sc : Option Nat} {DF : List (List Nat)} {TC : List Nat} {T : List (List zE)} {n0 B len : Nat} {okx : Nat × zS → Bool} {cuts : List zCt}
    (hs : ∀ ρ : List Int, ρ0 <+: ρ → ∀ (pc : Nat) (S : zS) (x : zE) (q : List (Nat × zS)), z_at T pc = some x → z_step SP ZD call RC RS nL sc DF TC (z_at T (pc + 1)) pc x.2.1 x.2.2.2.1 x.2.2.2.2.1 x.2.2.2.2.2.2 S.1 S.2.1 S.2.2.1 S.2.2.2.1 S.2.2.2.2.1 S.2.2.2.2.2 = some q → (∀ z ∈ q, z_K p l e R s m args below meth c Q D cl tys A H0 nL ρ ad0 z.1 z.2) → z_K p l e R s m args below meth c Q D cl tys A H0 nL ρ ad0 pc S)
    (hlen : ρ0.length = n0) (hn0 : 0 < n0) (hx : ∀ z, okx z = true → z_K p l e R s m args below meth c Q D cl tys A H0 nL ρ0 ad0 z.1 z.2) (hc : ∀ k ∈ cuts, (z_msB k.2.1.1 B k.2.2 = true ∧ k.2.2.length = len) ∧ ∃ w, z_wl SP ZD call RC RS nL sc DF TC T 1 [(k.1, k.2.1)] = some w ∧ z_RUN SP ZD call RC RS nL sc DF TC T (fun z => okx z || cuts.any (fun c' => Nat.beq c'.1 z.1 && z_edge n0 k.2.2 z.2 c')) w) : ∀ k ∈ cuts, z_K p l e R s m args below meth c Q D cl tys A H0 nL ρ0 ad0 k.1 k.2.1 := by
  have main : ∀ N : Nat, ∀ k ∈ cuts, ∀ (ρ : List Int) (ws : va_W) (lv : List (Nat × Value)) (st : List Value) (H : Heap) (locs : List Loc) (ls : Array Slot), z_g D cl tys A H0 nL ρ0 ad0 k.2.1 ρ ws lv st H locs ls → z_enc B 0 (z_ms ρ k.2.2) < N → W p l e R s m args below meth c H locs k.2.1.2.2.2.2.1 k.2.1.2.2.2.2.2 Q (F0 m k.1 ls st) := by
    intro N
    induction N with
    | zero => intro k _ ρ ws lv st H locs ls _ h; exact absurd h (Nat.not_lt_zero _)
    | succ N ih =>
      intro k hk ρ ws lv st H locs ls hg hN
      obtain ⟨⟨f1, f2⟩, w, ew, hrun⟩ := hc k hk
      have hpre : ρ0 <+: ρ := hg.1.1
      have hJ : z_iv k.2.1.1 ρ := hg.2.1
      have hK : z_K p l e R s m args below meth c Q D cl tys A H0 nL ρ ad0 k.1 k.2.1 := by
        refine z_wl_ok (hs ρ hpre) 1 [(k.1, k.2.1)] w ew (hrun _ (hs ρ hpre) (fun z g => ?_)) (k.1, k.2.1) List.mem_cons_self
        dsimp only at g
        rcases Bool.or_eq_true_iff.mp g with g | g
        · exact (hx z g).up hpre
        · obtain ⟨k', hk', g⟩ := List.any_eq_true.mp g
          have g1 := z_beq (z_and g).1
          have g2 := (z_and g).2
          unfold z_edge at g2
          split at g2
          · rename_i σ eσ
            intro ρ' ws' lv' st' H' locs' ls' hg'
            have hpre' : ρ <+: ρ' := hg'.1.1
            have hn : n0 ≤ ρ'.length := by
              have := (hpre.trans hpre').length_le
              omega
            obtain ⟨⟨lv2, hgP⟩, c1, c2, hq⟩ := z_mS_ok (hg'.base (hpre.trans hpre')) (by omega) hn hn0 eσ
            have hJ' : z_iv z.2.1 ρ' := hg'.2.1
            have hin := z_msB_in hJ f1
            have hin' : ∀ q ∈ k.2.2, ∃ w, ρ'[q.2]? = some w := fun q hm => by
              obtain ⟨w, hw⟩ := hin q hm
              exact ⟨w, z_pre hpre' hw⟩
            have hlx := z_dec_ok hJ' hn hq hin' g2
            rw [z_ms_pre hpre' hin] at hlx
            obtain ⟨⟨f1', f2'⟩, -⟩ := hc k' hk'
            have b1 := z_msB_ok hgP.2.1 f1'
            have b2 := z_msB_ok hJ f1
            have el : (z_ms (z_r2 n0 ρ' σ) k'.2.2).length = (z_ms ρ k.2.2).length := by
              unfold z_ms
              rw [List.length_map, List.length_map, f2, f2']
            have hen := z_lex_enc (p := 0) el b1 b2 hlx
            have hW := ih k' hk' (z_r2 n0 ρ' σ) ws' lv2 st' H' locs' ls' hgP (by omega)
            rw [g1] at hW
            exact W.widen c1 c2 hW
          · cases g2
      exact hK ρ ws lv st H locs ls (hg.base (List.prefix_refl _))
  intro k hk ρ ws lv st H locs ls hg
  exact main _ k hk ρ ws lv st H locs ls hg (Nat.lt_succ_self _)end ZC5
noncomputable def z_okS (rk mc ms : Nat) (T : List (List zE)) (cn : zCn) (cuts : List zCt) (z : Nat × zS) : Bool := z_okE rk mc ms cn.1.1.1.length T cn.2 z || cuts.any (fun c' => Nat.beq c'.1 z.1 && (z_mS cn.1.1.1.length c'.2.1 z.2).isSome)
noncomputable def z_okC (rk mc ms : Nat) (T : List (List zE)) (cn : zCn) (cuts : List zCt) (k : zCt) (z : Nat × zS) : Bool := z_okE rk mc ms cn.1.1.1.length T cn.2 z || cuts.any (fun c' => Nat.beq c'.1 z.1 && z_edge cn.1.1.1.length k.2.2 z.2 c')
noncomputable def z_conP (SP : zSP) (ZD : List zN) (call : zL) (DF : List (List Nat)) (TC : List Nat) (B len rk mc ms nl : Nat) (T : List (List zE)) (cn : zCn) (sp : Option (Nat × List zI)) (cuts : List zCt) : Prop :=
  z_cats cn.1.2.1 ≤ nl ∧ 1 ≤ cn.1.1.1.length ∧ (∀ k ∈ cuts, (z_msB k.2.1.1 B k.2.2 = true ∧ k.2.2.length = len) ∧ ∃ w, z_wl SP ZD call mc ms nl none DF TC T 1 [(k.1, k.2.1)] = some w ∧ z_RUN SP ZD call mc ms nl none DF TC T (z_okC rk mc ms T cn cuts k) w) ∧
  ∃ js, z_starts cn.1.1 sp = some js ∧ ∀ J ∈ js, z_RUN SP ZD call mc ms nl none DF TC T (z_okS rk mc ms T cn cuts) [(0, (J, z_args 0 cn.1.2.1, [], cn.1.2.2, 0, 0))]
theorem z_metP {SP : zSP} {bs : List Int} {l : Launch} {D : va_G} {cl : List vw_C} {tys : List (ClassId × FieldType)} {tbl : List Cond} {TY : Nat → Nat → FieldType} {TC : List Nat} {DF : List (List Nat)} {Y : Nat → MethodName} {CC : Nat → ByteArray} {RT : Nat → Option FieldType} {VK : Nat → Nat} {INI : Nat → Bool} {HN : String} {ZD : List zN} {call : zL} {B len : Nat} (AL : z_ALL SP bs l D tys tbl cl TY TC DF Y CC RT VK INI HN ZD) (hTY : z_TYs cl TC tys)
    {d mi nA rc rk mc ms nl : Nat} {T : List (List zE)} {cn : zCn} {sp : Option (Nat × List zI)} {cuts : List zCt} (h2 : 3 ≤ d) (hcall : ∀ mi nA rc rk mc ms nl T ivs as hp es, ZD[mi]? = some (nA, rc, rk, mc, ms, nl, T) → call mi ivs as hp = some es → z_MET SP bs l D cl tys tbl (Y mi) (CC mi) nl (RT mi) d rk mc ms ivs as hp es)
    (hz : ZD[mi]? = some (nA, rc, rk, mc, ms, nl, T)) (h : z_conP SP ZD call DF TC B len rk mc ms nl T cn sp cuts) : z_MET SP bs l D cl tys tbl (Y mi) (CC mi) nl (RT mi) (d + 1) rk mc ms cn.1.1 cn.1.2.1 cn.1.2.2 cn.2 := by
  obtain ⟨ec, e1n, hcc, js, ejs, hent⟩ := h
  obtain ⟨k0, kini, kT⟩ := AL.2.2.1 mi nA rc rk mc ms nl T hz
  obtain ⟨k1, k2, k3, k4, k5, k6, -⟩ := k0
  intro ρ ws av sz eb e0 e1 e2 e3
  have hlen : ρ.length = cn.1.1.1.length := (z_F.len e1.1).symm
  refine z_ofW (cc := CC mi) (maxL := nl) (ret := RT mi) k1 rfl ?_
  intro p e s m args below meth c s₁ B0 hml hv
  obtain ⟨rfl, hsz, hP, hK, hD0, hSF⟩ := hv
  have hx := B0.exec
  have hb := B0.bytes
  have hr := B0.returns
  have hts0 := atoms_spec (ws := Cond.code (Y mi) (CC mi) nl (RT mi) :: tbl) B0.pre
  have hown : s.vm.findClass (Y mi).cls = some m.cls := findClass_of_methodNamed B0.named
  have hlocks := B0.notSynchronized
  have hnm : meth.name = (Y mi).name := (name_of_methodNamed B0.named B0.method).1
  subst hsz
  have hD := hD0.self (sz := s.heap.size)
  have CX : ∀ ρ' : List Int, ρ <+: ρ' → z_CX SP bs p (z_rm (d + 1) mc ms) s m av.toArray meth c (CC mi) nl (Y mi).cls (INI mi) D cl tys TC tbl (va_A ws s.heap.size) s.heap mc ms d none ρ' := fun ρ' hρ' => ⟨⟨hx, hb, hml, hown, fun w hw => hts0 w (List.mem_cons_of_mem _ hw)⟩, fun h => hnm.trans (kini h), hK, fun q h => Or.inr h, hTY, ⟨Nat.le_refl _, Nat.le_refl _, Nat.le_refl _, Nat.le_refl _⟩, trivial, ⟨eb.trans hρ', hSF, rfl⟩⟩
  have hl := lv_entry av (n := nl) (by rw [z_sl_len, z_cats_ok e2]; exact ec)
  rw [lg_entry_eq]
  generalize (lg_sl av ++ List.replicate (nl - (lg_sl av).length) Slot.unset).toArray = ls at hl ⊢
  have hs := fun (ρ' : List Int) (hρ' : ρ <+: ρ') => z_hs h2 (p := p) (l := l) (e := e) (below := below) (Q := MQ below (z_Qc rk D cl tys ρ ws cn.2 (va_A ws s.heap.size)) av.toArray s mc ms (va_A ws s.heap.size)) (ad0 := z_ad ws) (CX ρ' hρ') AL kT hcall
  have hexit : ∀ z, z_okE rk mc ms cn.1.1.1.length T cn.2 z = true → z_K p l e (z_rm (d + 1) mc ms) s m av.toArray below meth c (MQ below (z_Qc rk D cl tys ρ ws cn.2 (va_A ws s.heap.size)) av.toArray s mc ms (va_A ws s.heap.size)) D cl tys (va_A ws s.heap.size) s.heap nl ρ (z_ad ws) z.1 z.2 := by
    intro z hz'
    unfold z_okE at hz'
    split at hz'
    · rename_i x hat
      split at hz'
      · rename_i et
        split at hz'
        · rename_i E eE
          obtain ⟨F, hF, hm⟩ := List.any_eq_true.mp hz'
          obtain ⟨σ, eσ⟩ := Option.isSome_iff_exists.mp hm
          obtain ⟨⟨b, hb1, hxb⟩, he⟩ := z_at_ok hat
          obtain ⟨hd, hlk⟩ := kT b hb1 x hxb
          rw [he] at hd
          intro ρ' ws' lv' st' H' locs' ls' hg
          have hE := z_end_S eE
          have hgE : z_g D cl tys (va_A ws s.heap.size) s.heap nl ρ (z_ad ws) (z_pX E) ρ' ws' [] st' H' locs' ls' := by
            rw [hE]
            exact ⟨hg.1, hg.2.1, trivial, hg.2.2.2.1, hg.2.2.2.2.1, hg.xP, hg.xD, hg.xS, hg.xL.1, hg.xL.2.1, fun q hq => by cases hq⟩
          have hn : cn.1.1.1.length ≤ ρ'.length := by
            have := hg.1.1.length_le
            omega
          obtain ⟨⟨lv2, hgP⟩, -, -, -⟩ := z_mS_ok hgE (by omega) hn (by omega) eσ
          refine z_ret_ok (u1 := z_r2 cn.1.1.1.length ρ' σ) hx hb hr hlocks hK k6 hd (fun hi => ?_) eE hg ⟨F, hF, hgP.1.1, hg.1.2.1, hgP.2.1, hgP.2.2.2.1, hgP.2.2.2.2.1⟩ (Nat.le_of_ble_eq_true (z_and (z_and et).2).1) (Nat.le_of_ble_eq_true (z_and (z_and et).2).2)
          unfold z_isr at hi
          split at hi
          · rename_i ei
            rw [ei] at hlk
            exact z_beq hlk
          · rename_i ei
            rw [ei] at hlk
            exact z_beq hlk
          · rename_i ei
            rw [ei] at hlk
            exact z_beq hlk
          · cases hi
        · cases hz'
      · cases hz'
    · cases hz'
  have hcuts := z_cuts_okP (p := p) (l := l) (e := e) (below := below) (ad0 := z_ad ws) hs hlen (by omega) hexit hcc
  obtain ⟨J', hJ1, hJ2⟩ := z_starts_ok e1 ejs
  have main := hent J' hJ1 _ (hs ρ (List.prefix_refl _)) (fun z g => ?_) (0, (J', z_args 0 cn.1.2.1, [], cn.1.2.2, 0, 0)) List.mem_cons_self
  · exact main ρ ws (lv_args 0 av) [] s.heap [] ls ⟨⟨List.prefix_refl _, List.prefix_refl _, e0⟩, hJ2, z_args_ok 0 e2, trivial, e3, hP, hD, va_S.rf, hl⟩
  · unfold z_okS at g
    rcases Bool.or_eq_true_iff.mp g with g | g
    · exact hexit z g
    · obtain ⟨k', hk', g⟩ := List.any_eq_true.mp g
      have g1 := z_beq (z_and g).1
      obtain ⟨σ, eσ⟩ := Option.isSome_iff_exists.mp (z_and g).2
      intro ρ' ws' lv' st' H' locs' ls' hg
      have hn : cn.1.1.1.length ≤ ρ'.length := by
        have := hg.1.1.length_le
        omega
      obtain ⟨⟨lv2, hgP⟩, c1, c2, -⟩ := z_mS_ok hg (by omega) hn (by omega) eσ
      have hW := hcuts k' hk' _ ws' lv2 st' H' locs' ls' hgP
      rw [g1] at hW
      exact W.widen c1 c2 hW
theorem z_getD {α : Type} {o : Option (List α)} (h : o.isSome = true) : o = some (o.getD []) := by
  cases o with
  | none => cases h
  | some x => rfl
theorem z_fa.nil {α : Type} {P : α → Prop} : ∀ k ∈ ([] : List α), P k := fun k h => by cases h
theorem z_fa.cons {α : Type} {P : α → Prop} {a : α} {l : List α} (h : P a) (t : ∀ k ∈ l, P k) : ∀ k ∈ a :: l, P k := fun k hk => by
  rcases List.mem_cons.mp hk with rfl | hk
  · exact h
  · exact t k hk
noncomputable def z_pcS (SP : zSP) (ZD : List zN) (call : zL) (RC RS nL : Nat) (DF : List (List Nat)) (TC : List Nat) (T : List (List zE)) (FU : Nat) (stp : List Nat) (ok : Nat × zS → Bool) (cn : zCn) (js : List zJ) (j : Nat) : Bool := match js[j]? with
  | some J => z_exR SP ZD call RC RS nL none DF TC T FU stp ok [(0, (J, z_args 0 cn.1.2.1, [], cn.1.2.2, 0, 0))]
  | none => true
theorem z_RUN.st {SP : zSP} {ZD : List zN} {call : zL} {RC RS nL : Nat} {DF : List (List Nat)} {TC : List Nat} {T : List (List zE)} {FU n : Nat} {stp : List Nat} {ok : Nat × zS → Bool} {cn : zCn} {js : List zJ} (hl : js.length = n) (h : ∀ j, j < n → z_pcS SP ZD call RC RS nL DF TC T FU stp ok cn js j = true) : ∀ J ∈ js, z_RUN SP ZD call RC RS nL none DF TC T ok [(0, (J, z_args 0 cn.1.2.1, [], cn.1.2.2, 0, 0))] := fun J hJ => by
  obtain ⟨j, hj⟩ := List.getElem?_of_mem hJ
  have h1 := h j (by rw [← hl]; exact (List.getElem?_eq_some_iff.mp hj).1)
  unfold z_pcS at h1
  rw [hj] at h1
  exact z_RUN.one h1
