/-! ===== more room is room enough: a contract holds at every greater depth ===== -/
theorem z_room {s : State} {pl : Platform} {r r' : Room} (hf : r.frames ≤ r'.frames) (hl : r.locals ≤ r'.locals) (hc : r.cells ≤ r'.cells) (hs : r.slots ≤ r'.slots) (h : s.hasRoom pl r' = true) : s.hasRoom pl r = true := by
  simp only [State.hasRoom, Bool.and_eq_true, decide_eq_true_eq] at h ⊢
  obtain ⟨⟨⟨⟨h1, h2, h3, h4, h5, h6⟩, h7⟩, h8⟩, h9⟩ := h
  exact ⟨⟨⟨⟨by omega, by omega, by omega, by omega, by omega, h6⟩, by omega⟩, by omega⟩, h9⟩
theorem z_MET.deep {SP : zSP} {bs : List Int} {l : Launch} {D : va_G} {cl : List vw_C} {tys : List (ClassId × FieldType)} {tbl : List Cond} {y : MethodName} {cc : ByteArray} {nL : Nat} {ret : Option FieldType} {d d' rk mc ms : Nat} {ivs : zJ} {as : List zV} {hp : List zC} {es : List zX} (hM : z_MET SP bs l D cl tys tbl y cc nL ret d rk mc ms ivs as hp es) (hd : d ≤ d') : z_MET SP bs l D cl tys tbl y cc nL ret d' rk mc ms ivs as hp es := by
  intro ρ ws av sz eb e0 e1 e2 e3 p e ha hcs hk s m args below hfr happ hP hK
  obtain ⟨a1, a2, a3, a4, a5, a6, a7, a8⟩ := (Spec.appliesLoose_iff hfr).mp happ
  exact hM ρ ws av sz eb e0 e1 e2 e3 p e ha hcs hk s m args below hfr ((Spec.appliesLoose_iff hfr).mpr ⟨a1, a2, a3, a4, a5, a6, z_room (r' := z_rm d' mc ms) hd (Nat.mul_le_mul_left 40 hd) (Nat.le_refl _) (Nat.le_refl _) a7, a8⟩) hP hK
/-- a method run inline, over any calls that are sound a level below -/
theorem z_one_ok {SP : zSP} {bs : List Int} {l : Launch} {D : va_G} {cl : List vw_C} {tys : List (ClassId × FieldType)} {tbl : List Cond} {TY : Nat → Nat → FieldType} {TC : List Nat} {DF : List (List Nat)} {Y : Nat → MethodName} {CC : Nat → ByteArray} {RT : Nat → Option FieldType} {VK : Nat → Nat} {INI : Nat → Bool} {HN : String} {ZD : List zN} {FU : Nat} {call : zL} (AL : z_ALL SP bs l D tys tbl cl TY TC DF Y CC RT VK INI HN ZD) (hTY : z_TYs cl TC tys)
    {d mi nA rc rk mc ms nl : Nat} {T : List (List zE)} {ivs : zJ} {as : List zV} {hp : List zC} {ex : List (Nat × zS)} {es : List zX} (h2 : 3 ≤ d) (ih : ∀ mi nA rc rk mc ms nl T ivs as hp es, ZD[mi]? = some (nA, rc, rk, mc, ms, nl, T) → call mi ivs as hp = some es → z_MET SP bs l D cl tys tbl (Y mi) (CC mi) nl (RT mi) d rk mc ms ivs as hp es)
    (hz : ZD[mi]? = some (nA, rc, rk, mc, ms, nl, T)) (ec : z_cats as ≤ nl) (er : z_run SP ZD call mc ms nl none DF TC T FU [(0, (ivs, z_args 0 as, [], hp, 0, 0))] [] = some ex) (h : z_ends rk mc ms T ex = some es) : z_MET SP bs l D cl tys tbl (Y mi) (CC mi) nl (RT mi) (d + 1) rk mc ms ivs as hp es := by
  obtain ⟨k0, kini, kT⟩ := AL.2.2.1 mi nA rc rk mc ms nl T hz
  obtain ⟨k1, k2, k3, k4, k5, k6, -⟩ := k0
  intro ρ ws av sz eb e0 e1 e2 e3
  refine z_ofW (cc := CC mi) (maxL := nl) (ret := RT mi) k1 rfl ?_
  intro p e s m args below meth c s₁ B hml hv
  obtain ⟨rfl, hsz, hP, hK, hD0, hSF⟩ := hv
  have hx := B.exec
  have hb := B.bytes
  have hr := B.returns
  have hts0 := atoms_spec (ws := Cond.code (Y mi) (CC mi) nl (RT mi) :: tbl) B.pre
  have hown : s.vm.findClass (Y mi).cls = some m.cls := findClass_of_methodNamed B.named
  have hlocks := B.notSynchronized
  have hnm : meth.name = (Y mi).name := (name_of_methodNamed B.named B.method).1
  subst hsz
  have hD := hD0.self (sz := s.heap.size)
  have CX : z_CX SP bs p (z_rm (d + 1) mc ms) s m av.toArray meth c (CC mi) nl (Y mi).cls (INI mi) D cl tys TC tbl (va_A ws s.heap.size) s.heap mc ms d none ρ := by
    refine ⟨⟨hx, hb, hml, hown, fun w hw => hts0 w (List.mem_cons_of_mem _ hw)⟩, fun h => hnm.trans (kini h), hK, fun q h => Or.inr h, hTY, ⟨Nat.le_refl _, Nat.le_refl _, Nat.le_refl _, Nat.le_refl _⟩, trivial, ⟨eb, hSF, rfl⟩⟩
  have hl := lv_entry av (n := nl) (by rw [z_sl_len, z_cats_ok e2]; exact ec)
  rw [lg_entry_eq]
  generalize (lg_sl av ++ List.replicate (nl - (lg_sl av).length) Slot.unset).toArray = ls at hl ⊢
  have main := z_frame h2 (p := p) (e := e) (below := below) (Q := MQ below (z_Qc rk D cl tys ρ ws es (va_A ws s.heap.size)) av.toArray s mc ms (va_A ws s.heap.size)) (ad0 := z_ad ws) CX AL kT ih FU _ _ ex er (fun z hz' => ?_) (0, (ivs, z_args 0 as, [], hp, 0, 0)) List.mem_cons_self
  · exact main ρ ws (lv_args 0 av) [] s.heap [] ls ⟨⟨List.prefix_refl _, List.prefix_refl _, e0⟩, e1, z_args_ok 0 e2, trivial, e3, hP, hD, va_S.rf, hl⟩
  · obtain ⟨x, E, g1, g2, g3, g4, g5⟩ := z_ends_ok h z hz'
    obtain ⟨pc, ivs', lo', sk', hp', nc', ns'⟩ := z
    obtain ⟨⟨b, hb1, hxb⟩, he⟩ := z_at_ok g1
    obtain ⟨hd, hlk⟩ := kT b hb1 x hxb
    rw [he] at hd
    intro ρ' ws' lv' st' H' locs' ls' hg
    refine W.widen g2 g3 ?_
    have hK' := hK
    have hpo : ∀ rv, z_F (z_m ρ' (z_ad ws')) E.2.1 rv → E.1 = ivs' → E.2.2 = hp' → z_po tys ρ ws es rv (ρ', ws') := fun rv h1 h2 h3 => ⟨E, g5, hg.1.1, hg.1.2.1, by rw [h2]; exact hg.xiv, h1, by rw [h3]; exact hg.xhp⟩
    have hBo : ∀ t : State, t.heap = H' → s.WarmedH t.vm → z_Bo D cl tys (va_A ws s.heap.size) (ρ', ws') t := fun t ht hW => ⟨by rw [ht]; exact hg.xP, va_K.moved hW.alike hK', hg.xD⟩
    unfold z_end at g4
    split at g4
    · rename_i v c0 ei es0
      have es0 : sk' = [(0, v, c0)] := es0
      subst es0
      have hln : x.2.2.1 = 1 := by
        rw [ei] at hlk
        exact z_beq hlk
      rw [ei, hln] at hd
      obtain ⟨v1, st1, rfl, hv1, hs1⟩ := hg.xsk.c1
      have hs1 : st1 = [] := by
        cases st1 with
        | nil => rfl
        | cons _ _ => exact hs1.elim
      subst hs1
      obtain ⟨i, rfl, hi⟩ := id hv1
      split at g4
      · cases g4
        have hr : meth.sig.returnType = some .int := hr.trans k6
        exact W.iret hx hb hr (fun t ht hW => ⟨⟨i, (ρ', ws'), rfl, hpo [.int i] ⟨hv1, trivial⟩ rfl rfl, hBo t ht hW⟩, hg.xS.F ht⟩) hg.xS.2.2 hd
      · split at g4
        · rename_i ety
          cases g4
          have hr : meth.sig.returnType = some .boolean := hr.trans k6
          have htv := z_tyok_ok hg.xiv hv1 ety
          have hnn : narrow .boolean (.int i) = .int i := by
            rcases htv with h | h
            · cases h
              rfl
            · cases h
              rfl
          exact W.zret hx hb hr hnn (fun t ht hW => ⟨⟨i, (ρ', ws'), rfl, hpo [.int i] ⟨hv1, trivial⟩ rfl rfl, hBo t ht hW⟩, hg.xS.F ht⟩) hg.xS.2.2 hd
        · cases g4
      · cases g4
    · rename_i v c0 ei es0
      have es0 : sk' = [(1, v, c0)] := es0
      subst es0
      have hln : x.2.2.1 = 1 := by
        rw [ei] at hlk
        exact z_beq hlk
      rw [ei, hln] at hd
      obtain ⟨v1, st1, rfl, hv1, hs1⟩ := hg.xsk.c1
      have hs1 : st1 = [] := by
        cases st1 with
        | nil => rfl
        | cons _ _ => exact hs1.elim
      subst hs1
      obtain ⟨i, rfl, hi⟩ := id hv1
      split at g4
      · cases g4
        have hr : meth.sig.returnType = some .long := hr.trans k6
        exact W.lret hx hb hr (fun t ht hW => ⟨⟨i, (ρ', ws'), rfl, hpo [.long i] ⟨hv1, trivial⟩ rfl rfl, hBo t ht hW⟩, hg.xS.F ht⟩) hg.xS.2.2 hd
      · cases g4
    · rename_i ei es0
      have es0 : sk' = [] := es0
      subst es0
      have hln : x.2.2.1 = 1 := by
        rw [ei] at hlk
        exact z_beq hlk
      rw [ei, hln] at hd
      have hs1 : st' = [] := by
        have := hg.xsk
        cases st' with
        | nil => rfl
        | cons _ _ => exact this.elim
      subst hs1
      split at g4
      · cases g4
        have hr : meth.sig.returnType = none := hr.trans k6
        exact W.vret hx hb hr (fun t ht hW => ⟨⟨(ρ', ws'), rfl, hpo [] trivial rfl rfl, hBo t ht hW⟩, hg.xS.F ht⟩) hg.xS.2.2 hd
      · cases g4
    · cases g4
/-- calls: by contract where one fits, else inline -/
noncomputable def z_useC (nb : Nat) : List (Nat × zCn) → zL
  | [], _, _, _, _ => none
  | (k, cn) :: cs, mi, J, as, hp => match Nat.beq k mi with
    | true => match z_useF nb cn J as hp with
      | some es => some es
      | none => z_useC nb cs mi J as hp
    | false => z_useC nb cs mi J as hp
noncomputable def z_callC (nb : Nat) (cons : List (Nat × zCn)) (call : zL) : zL := fun mi J as hp => match z_useC nb cons mi J as hp with
  | some es => some es
  | none => call mi J as hp
noncomputable def z_runC (SP : zSP) (nb : Nat) (cons : List (Nat × zCn)) (ZD : List zN) (DF : List (List Nat)) (TC : List Nat) (FU : Nat) : Nat → zL
  | 0 => fun _ _ _ _ => none
  | d + 1 => fun mi ivs as hp => match z_nx ZD mi with
    | some (_, _, rk, mc, ms, nl, T) => match Nat.ble (z_cats as) nl with
      | true => match z_run SP ZD (z_callC nb cons (z_runC SP nb cons ZD DF TC FU d)) mc ms nl none DF TC T FU [(0, (ivs, z_args 0 as, [], hp, 0, 0))] [] with
        | some ex => z_ends rk mc ms T ex
        | none => none
      | false => none
    | none => none
section ZCC
variable {SP : zSP} {bs : List Int} {l : Launch} {D : va_G} {cl : List vw_C} {tys : List (ClassId × FieldType)} {tbl : List Cond} {TY : Nat → Nat → FieldType} {TC : List Nat} {DF : List (List Nat)} {Y : Nat → MethodName} {CC : Nat → ByteArray} {RT : Nat → Option FieldType} {VK : Nat → Nat} {INI : Nat → Bool} {HN : String} {ZD : List zN} {FU : Nat}
/-- contracts that hold, at a depth -/
noncomputable def z_CONS (SP : zSP) (bs : List Int) (l : Launch) (D : va_G) (cl : List vw_C) (tys : List (ClassId × FieldType)) (tbl : List Cond) (Y : Nat → MethodName) (CC : Nat → ByteArray) (RT : Nat → Option FieldType) (ZD : List zN) (dc : Nat) (cons : List (Nat × zCn)) : Prop := ∀ q ∈ cons, ∀ nA rc rk mc ms nl T, ZD[q.1]? = some (nA, rc, rk, mc, ms, nl, T) → z_MET SP bs l D cl tys tbl (Y q.1) (CC q.1) nl (RT q.1) dc rk mc ms q.2.1.1 q.2.1.2.1 q.2.1.2.2 q.2.2
theorem z_useC_ok (hb1 : 0 < bs.length) {dc : Nat} : ∀ {cons : List (Nat × zCn)}, z_CONS SP bs l D cl tys tbl Y CC RT ZD dc cons → ∀ mi nA rc rk mc ms nl T J as hp es, ZD[mi]? = some (nA, rc, rk, mc, ms, nl, T) → z_useC bs.length cons mi J as hp = some es → z_MET SP bs l D cl tys tbl (Y mi) (CC mi) nl (RT mi) dc rk mc ms J as hp es
  | [], _, mi, nA, rc, rk, mc, ms, nl, T, J, as, hp, es, _, h => by
    unfold z_useC at h
    cases h
  | (k, cn) :: cs, hc, mi, nA, rc, rk, mc, ms, nl, T, J, as, hp, es, hz, h => by
    have ih := z_useC_ok hb1 (cons := cs) (fun q hq => hc q (List.mem_cons_of_mem _ hq)) mi nA rc rk mc ms nl T J as hp es hz
    unfold z_useC at h
    split at h
    · rename_i e
      have e := z_beq e
      subst e
      split at h
      · rename_i es' eu
        cases h
        exact z_useF_ok hb1 (hc _ List.mem_cons_self nA rc rk mc ms nl T hz) eu
      · exact ih h
    · exact ih h
theorem z_runC_ok (hb1 : 0 < bs.length) {dc : Nat} {cons : List (Nat × zCn)} (h2 : 3 ≤ dc) (AL : z_ALL SP bs l D tys tbl cl TY TC DF Y CC RT VK INI HN ZD) (hTY : z_TYs cl TC tys) (hc : z_CONS SP bs l D cl tys tbl Y CC RT ZD dc cons) : ∀ (d mi nA rc rk mc ms nl : Nat) (T : List (List zE)) (J : zJ) (as : List zV) (hp : List zC) (es : List zX), ZD[mi]? = some (nA, rc, rk, mc, ms, nl, T) → z_callC bs.length cons (z_runC SP bs.length cons ZD DF TC FU d) mi J as hp = some es → z_MET SP bs l D cl tys tbl (Y mi) (CC mi) nl (RT mi) (dc + d) rk mc ms J as hp es
  | d, mi, nA, rc, rk, mc, ms, nl, T, J, as, hp, es, hz, h => by
    unfold z_callC at h
    split at h
    · rename_i es' eu
      cases h
      exact (z_useC_ok hb1 hc mi nA rc rk mc ms nl T J as hp _ hz eu).deep (by omega)
    · cases d with
      | zero =>
        unfold z_runC at h
        cases h
      | succ d =>
        have ih := z_runC_ok hb1 h2 AL hTY hc d
        unfold z_runC at h
        rw [z_nx_eq, hz] at h
        dsimp only at h
        split at h
        · rename_i ec
          have ec := Nat.le_of_ble_eq_true ec
          split at h
          · rename_i ex er
            exact z_one_ok AL hTY (Nat.le_trans h2 (Nat.le_add_right dc d)) ih hz ec er h
          · cases h
        · cases h
end ZCC
