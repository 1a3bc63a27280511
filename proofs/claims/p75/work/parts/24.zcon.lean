/-! ===== a method by contract: a pattern at its start, patterns at its ends, cuts between ===== -/
section ZZ
variable {p : Program} {l : Launch} {e : Env} {R : Room} {s : State} {m : MethodId} {args : Array Value} {below : List Frame} {meth : Method} {c : Code} {Q : State → Prop} {D : va_G} {cl : List vw_C} {tys : List (ClassId × FieldType)} {A : Nat → Prop} {H0 : Heap} {nL : Nat} {ρ0 : List Int} {ad0 : List Nat} {cc : ByteArray}
variable {SP : zSP} {bs : List Int} {tbl : List Cond} {TY : Nat → Nat → FieldType} {TC : List Nat} {DF : List (List Nat)} {Y : Nat → MethodName} {CC : Nat → ByteArray} {RT : Nat → Option FieldType} {VK : Nat → Nat} {INI : Nat → Bool} {HN own : String} {ini : Bool} {ZD : List zN} {RC RS d : Nat} {sc : Option Nat} {call : zL} {T : List (List zE)}
theorem z_hs (h2 : 3 ≤ d) (CX : z_CX SP bs p R s m args meth c cc nL own ini D cl tys TC tbl A H0 RC RS d sc ρ0) (AL : z_ALL SP bs l D tys tbl cl TY TC DF Y CC RT VK INI HN ZD)
    (hT : ∀ b ∈ T, ∀ x ∈ b, decode cc x.1 = .ok (x.2.1, x.2.2.1) ∧ z_lok SP tbl cl TY TC Y VK HN own ini x.2.1 x.2.2.1 x.2.2.2.1 x.2.2.2.2.1 x.2.2.2.2.2.1 x.2.2.2.2.2.2 = true)
    (hcall : ∀ mi nA rc rk mc ms nl T ivs as hp es, ZD[mi]? = some (nA, rc, rk, mc, ms, nl, T) → call mi ivs as hp = some es → z_MET SP bs l D cl tys tbl (Y mi) (CC mi) nl (RT mi) d rk mc ms ivs as hp es)
    (pc : Nat) (S : zS) (x : zE) (q : List (Nat × zS)) (hat : z_at T pc = some x) (hst : z_step SP ZD call RC RS nL sc DF TC (z_at T (pc + 1)) pc x.2.1 x.2.2.2.1 x.2.2.2.2.1 x.2.2.2.2.2.2 S.1 S.2.1 S.2.2.1 S.2.2.2.1 S.2.2.2.2.1 S.2.2.2.2.2 = some q) (hq : ∀ z ∈ q, z_K p l e R s m args below meth c Q D cl tys A H0 nL ρ0 ad0 z.1 z.2) : z_K p l e R s m args below meth c Q D cl tys A H0 nL ρ0 ad0 pc S := by
  obtain ⟨al1, al2, al3, al4⟩ := AL
  obtain ⟨ivs, lo, sk, hp, nc, ns⟩ := S
  obtain ⟨⟨b, hb, hxb⟩, he⟩ := z_at_ok hat
  obtain ⟨hd, hlk⟩ := hT b hb x hxb
  rw [he] at hd
  have hok := fun mi nA rc rk mc ms nl T hz => (al3 mi nA rc rk mc ms nl T hz).1
  refine z_step_ok CX al2 hd hlk (fun y hy => ?_) (fun i g1 g2 g3 g4 => ?_) (fun i g1 g3 g4 => ?_) (fun i g1 g2 g3 g4 => ?_) (fun i g1 g2 g3 g4 => ?_) (fun i g1 g2 g3 g4 => ?_) hst hq
  · obtain ⟨⟨b2, hb2, hxb2⟩, he2⟩ := z_at_ok hy
    obtain ⟨hd2, hlk2⟩ := hT b2 hb2 y hxb2
    rw [he2] at hd2
    refine ⟨hd2, fun cd off ey => ?_⟩
    rw [ey] at hlk2
    exact z_beq hlk2
  · exact z_inv_ok (HN := HN) CX al1 hok hcall (Or.inl ⟨i, g1, g2, g3⟩) g4 hq
  · exact z_str_ok CX al1 al4 h2 g1 g3 g4 hq
  · exact z_inv_ok (HN := HN) CX al1 hok hcall (Or.inr (Or.inl ⟨i, g1, g2, g3⟩)) g4 hq
  · exact z_inv_ok (HN := HN) CX al1 hok hcall (Or.inr (Or.inr (Or.inl ⟨i, g1, g2, g3⟩))) g4 hq
  · exact z_inv_ok (HN := HN) CX al1 hok hcall (Or.inr (Or.inr (Or.inr ⟨i, g1, g2, g3⟩))) g4 hq
/-- the end of a method -/
theorem z_ret_ok {ρ1 : List Int} {ws1 : va_W} {es : List zX} {E : zX} {rk mc ms pc ln : Nat} {ins : Jvm.ClassFile.Instr} {S : zS} {ret : Option FieldType} {ρ u1 : List Int} {ws : va_W} {lv : List (Nat × Value)} {st : List Value} {H : Heap} {locs : List Loc} {ls : Array Slot}
    (hx : p.tables.exec = Jvm.exec) (hb : c.code = cc) (hr : meth.sig.returnType = ret) (hlocks : meth.locks = false) (hK : va_K D cl tys s) (k6 : ret = z_rtt rk) (hd : decode cc pc = .ok (ins, ln)) (hln : z_isr ins = true → ln = 1) (he : z_end rk ins S = some E)
    (hg : z_g D cl tys (va_A ws1 s.heap.size) s.heap nL ρ0 ad0 S ρ ws lv st H locs ls) (hpo : z_po tys ρ1 ws1 es st (u1, ws)) (h1 : S.2.2.2.2.1 ≤ mc) (h2 : S.2.2.2.2.2 ≤ ms) :
    W p l e R s m args below meth c H locs S.2.2.2.2.1 S.2.2.2.2.2 (MQ below (z_Qc rk D cl tys ρ1 ws1 es (va_A ws1 s.heap.size)) args s mc ms (va_A ws1 s.heap.size)) (F0 m pc ls st) := by
  obtain ⟨J, lo, sk, hp, nc, ns⟩ := S
  refine W.widen h1 h2 ?_
  have hBo : ∀ t : State, t.heap = H → s.WarmedH t.vm → z_Bo D cl tys (va_A ws1 s.heap.size) (u1, ws) t := fun t ht hW => ⟨by rw [ht]; exact hg.xP, va_K.moved hW.alike hK, hg.xD⟩
  unfold z_end at he
  split at he
  · rename_i v c0 es0
    have es0 : sk = [(0, v, c0)] := es0
    subst es0
    have hln := hln rfl
    subst hln
    obtain ⟨v1, st1, rfl, hv1, hs1⟩ := hg.xsk.c1
    have hs1 : st1 = [] := by
      cases st1 with
      | nil => rfl
      | cons _ _ => exact hs1.elim
    subst hs1
    obtain ⟨i, rfl, hi⟩ := id hv1
    split at he
    · have hr : meth.sig.returnType = some .int := hr.trans k6
      exact W.iret hx hb hr (fun t ht hW => ⟨⟨i, (u1, ws), rfl, hpo, hBo t ht hW⟩, hg.xS.F ht⟩) hg.xS.2.2 hd
    · split at he
      · rename_i ety
        have hr : meth.sig.returnType = some .boolean := hr.trans k6
        have htv := z_tyok_ok hg.xiv hv1 ety
        have hnn : narrow .boolean (.int i) = .int i := by
          rcases htv with h | h
          · cases h
            rfl
          · cases h
            rfl
        exact W.zret hx hb hr hnn (fun t ht hW => ⟨⟨i, (u1, ws), rfl, hpo, hBo t ht hW⟩, hg.xS.F ht⟩) hg.xS.2.2 hd
      · cases he
    · cases he
  · rename_i v c0 es0
    have es0 : sk = [(1, v, c0)] := es0
    subst es0
    have hln := hln rfl
    subst hln
    obtain ⟨v1, st1, rfl, hv1, hs1⟩ := hg.xsk.c1
    have hs1 : st1 = [] := by
      cases st1 with
      | nil => rfl
      | cons _ _ => exact hs1.elim
    subst hs1
    obtain ⟨i, rfl, hi⟩ := id hv1
    split at he
    · have hr : meth.sig.returnType = some .long := hr.trans k6
      exact W.lret hx hb hr (fun t ht hW => ⟨⟨i, (u1, ws), rfl, hpo, hBo t ht hW⟩, hg.xS.F ht⟩) hg.xS.2.2 hd
    · cases he
  · rename_i es0
    have es0 : sk = [] := es0
    subst es0
    have hln := hln rfl
    subst hln
    have hs1 : st = [] := by
      have := hg.xsk
      cases st with
      | nil => rfl
      | cons _ _ => exact this.elim
    subst hs1
    split at he
    · have hr : meth.sig.returnType = none := hr.trans k6
      exact W.vret hx hb hr (fun t ht hW => ⟨⟨(u1, ws), rfl, hpo, hBo t ht hW⟩, hg.xS.F ht⟩) hg.xS.2.2 hd
    · cases he
  · cases he
end ZZ
noncomputable def z_pX (F : zX) : zS := (F.1, [], F.2.1, F.2.2, 0, 0)
noncomputable def z_okE (rk mc ms n0 : Nat) (T : List (List zE)) (es : List zX) (z : Nat × zS) : Bool := match z_at T z.1 with
  | some x => match z_isr x.2.1 && (Nat.ble z.2.2.2.2.2.1 mc && Nat.ble z.2.2.2.2.2.2 ms) with
    | true => match z_end rk x.2.1 z.2 with
      | some E => es.any (fun F => (z_mS n0 (z_pX F) (z_pX E)).isSome)
      | none => false
    | false => false
  | none => false
theorem z_end_S {rk : Nat} {ins : Jvm.ClassFile.Instr} {S : zS} {E : zX} (h : z_end rk ins S = some E) : E = (S.1, S.2.2.1, S.2.2.2.1) := by
  obtain ⟨J, lo, sk, hp, nc, ns⟩ := S
  unfold z_end at h
  split at h
  · rename_i es0
    have es0 : sk = _ := es0
    subst es0
    split at h
    · cases h; rfl
    · split at h
      · cases h; rfl
      · cases h
    · cases h
  · rename_i es0
    have es0 : sk = _ := es0
    subst es0
    split at h
    · cases h; rfl
    · cases h
  · rename_i es0
    have es0 : sk = _ := es0
    subst es0
    split at h
    · cases h; rfl
    · cases h
  · cases h
/-- a contract: at the start bounds, arguments, heap; the ends -/
abbrev zCn : Type := (zJ × List zV × List zC) × List zX
/-- a symbol's bounds in pieces that cover them -/
noncomputable def z_spl (J : zJ) (x : Nat) : List zI → List zJ
  | [] => []
  | p :: ps => match z_cut J x p.1 p.2 with
    | some J' => J' :: z_spl J x ps
    | none => z_spl J x ps
noncomputable def z_cov (h : Int) : Int → List zI → Bool
  | l, [] => z_ile (h + 1) l
  | l, p :: ps => z_ile p.1 l && z_cov h (p.2 + 1) ps
theorem z_spl_ok {J : zJ} {ρ : List Int} {x : Nat} {w h : Int} (hJ : z_iv J ρ) (hw : ρ[x]? = some w) (hh : w ≤ h) : ∀ {ps : List zI} {l : Int}, l ≤ w → z_cov h l ps = true → ∃ J' ∈ z_spl J x ps, z_iv J' ρ
  | [], l, h1, h2 => by
    have := z_ile_ok h2
    omega
  | p :: ps, l, h1, h2 => by
    have q1 := z_ile_ok (z_and h2).1
    by_cases hp : w ≤ p.2
    · obtain ⟨i, k1, k2⟩ := z_cut_ok (lo := p.1) (hi := p.2) hJ hw (by omega) hp
      refine ⟨i, ?_, k2⟩
      unfold z_spl
      rw [k1]
      exact List.mem_cons_self
    · obtain ⟨J', k1, k2⟩ := z_spl_ok hJ hw hh (ps := ps) (l := p.2 + 1) (by omega) (z_and h2).2
      refine ⟨J', ?_, k2⟩
      unfold z_spl
      split
      · exact List.mem_cons_of_mem _ k1
      · exact k1
/-- the starts of a contract: its bounds, or pieces of them -/
noncomputable def z_starts (J : zJ) (sp : Option (Nat × List zI)) : Option (List zJ) := match sp with
  | none => some [J]
  | some (x, ps) => match z_b J x 0 with
    | some (l, h) => match z_cov h l ps with
      | true => some (z_spl J x ps)
      | false => none
    | none => none
theorem z_starts_ok {J : zJ} {ρ : List Int} {sp : Option (Nat × List zI)} {js : List zJ} (hJ : z_iv J ρ) (h : z_starts J sp = some js) : ∃ J' ∈ js, z_iv J' ρ := by
  unfold z_starts at h
  split at h
  · cases h
    exact ⟨J, List.mem_singleton.mpr rfl, hJ⟩
  · rename_i x ps
    split at h
    · rename_i l u eb
      split at h
      · rename_i ec
        cases h
        obtain ⟨w, hw⟩ := z_sym hJ eb
        have hb := z_b_ok hJ (⟨w, hw, by omega⟩ : z_v ρ x 0 w) eb
        exact z_spl_ok hJ hw hb.2 hb.1 ec
      · cases h
    · cases h
noncomputable def z_conB (SP : zSP) (ZD : List zN) (call : zL) (DF : List (List Nat)) (TC : List Nat) (FU B len rk mc ms nl : Nat) (T : List (List zE)) (cn : zCn) (sp : Option (Nat × List zI)) (cuts : List zCt) : Bool :=
  Nat.ble (z_cats cn.1.2.1) nl && (Nat.ble 1 cn.1.1.1.length && (cuts.all (z_chkC SP ZD call mc ms nl none DF TC T FU cn.1.1.1.length B len (z_okE rk mc ms cn.1.1.1.length T cn.2) cuts) && (match z_starts cn.1.1 sp with
  | some js => match z_runS SP ZD call mc ms nl none DF TC T (cuts.map (fun c => c.1)) FU (js.map (fun J => (0, (J, z_args 0 cn.1.2.1, [], cn.1.2.2, 0, 0)))) [] with
    | some ex => ex.all (fun z => z_okE rk mc ms cn.1.1.1.length T cn.2 z || cuts.any (fun c' => Nat.beq c'.1 z.1 && (z_mS cn.1.1.1.length c'.2.1 z.2).isSome))
    | none => false
  | none => false)))
theorem z_metC {SP : zSP} {bs : List Int} {l : Launch} {D : va_G} {cl : List vw_C} {tys : List (ClassId × FieldType)} {tbl : List Cond} {TY : Nat → Nat → FieldType} {TC : List Nat} {DF : List (List Nat)} {Y : Nat → MethodName} {CC : Nat → ByteArray} {RT : Nat → Option FieldType} {VK : Nat → Nat} {INI : Nat → Bool} {HN : String} {ZD : List zN} {call : zL} {FU B len : Nat} (AL : z_ALL SP bs l D tys tbl cl TY TC DF Y CC RT VK INI HN ZD) (hTY : z_TYs cl TC tys)
    {d mi nA rc rk mc ms nl : Nat} {T : List (List zE)} {cn : zCn} {sp : Option (Nat × List zI)} {cuts : List zCt} (h2 : 3 ≤ d) (hcall : ∀ mi nA rc rk mc ms nl T ivs as hp es, ZD[mi]? = some (nA, rc, rk, mc, ms, nl, T) → call mi ivs as hp = some es → z_MET SP bs l D cl tys tbl (Y mi) (CC mi) nl (RT mi) d rk mc ms ivs as hp es)
    (hz : ZD[mi]? = some (nA, rc, rk, mc, ms, nl, T)) (h : z_conB SP ZD call DF TC FU B len rk mc ms nl T cn sp cuts = true) : z_MET SP bs l D cl tys tbl (Y mi) (CC mi) nl (RT mi) (d + 1) rk mc ms cn.1.1 cn.1.2.1 cn.1.2.2 cn.2 := by
  unfold z_conB at h
  have ec := Nat.le_of_ble_eq_true (z_and h).1
  have e1n := Nat.le_of_ble_eq_true (z_and (z_and h).2).1
  have hcc := (z_and (z_and (z_and h).2).2).1
  have hent := (z_and (z_and (z_and h).2).2).2
  obtain ⟨k0, kini, kT⟩ := AL.2.2.1 mi nA rc rk mc ms nl T hz
  obtain ⟨k1, k2, k3, k4, k5, k6, -⟩ := k0
  intro ρ ws av sz eb e0 e1 e2 e3
  have hlen : ρ.length = cn.1.1.1.length := (z_F.len e1.1).symm
  refine z_ofW (cc := CC mi) (maxL := nl) (ret := RT mi) k1 rfl ?_
  intro p e s m args below meth c s₁ B0 hml hv
  obtain ⟨rfl, hsz, hP, hK, hD0, hSF⟩ := hv
  have hx := B0.exec
  have hb := B0.bytes
  have hr := B0.returns
  have hts0 := atoms_spec (ws := Cond.code (Y mi) (CC mi) nl (RT mi) :: tbl) B0.pre
  have hown : s.vm.findClass (Y mi).cls = some m.cls := findClass_of_methodNamed B0.named
  have hlocks := B0.notSynchronized
  have hnm : meth.name = (Y mi).name := (name_of_methodNamed B0.named B0.method).1
  subst hsz
  have hD := hD0.self (sz := s.heap.size)
  have CX : ∀ ρ' : List Int, ρ <+: ρ' → z_CX SP bs p (z_rm (d + 1) mc ms) s m av.toArray meth c (CC mi) nl (Y mi).cls (INI mi) D cl tys TC tbl (va_A ws s.heap.size) s.heap mc ms d none ρ' := fun ρ' hρ' => ⟨⟨hx, hb, hml, hown, fun w hw => hts0 w (List.mem_cons_of_mem _ hw)⟩, fun h => hnm.trans (kini h), hK, fun q h => Or.inr h, hTY, ⟨Nat.le_refl _, Nat.le_refl _, Nat.le_refl _, Nat.le_refl _⟩, trivial, ⟨eb.trans hρ', hSF, rfl⟩⟩
  have hl := lv_entry av (n := nl) (by rw [z_sl_len, z_cats_ok e2]; exact ec)
  rw [lg_entry_eq]
  generalize (lg_sl av ++ List.replicate (nl - (lg_sl av).length) Slot.unset).toArray = ls at hl ⊢
  have hs := fun (ρ' : List Int) (hρ' : ρ <+: ρ') => z_hs h2 (p := p) (l := l) (e := e) (below := below) (Q := MQ below (z_Qc rk D cl tys ρ ws cn.2 (va_A ws s.heap.size)) av.toArray s mc ms (va_A ws s.heap.size)) (ad0 := z_ad ws) (CX ρ' hρ') AL kT hcall
  have hexit : ∀ z, z_okE rk mc ms cn.1.1.1.length T cn.2 z = true → z_K p l e (z_rm (d + 1) mc ms) s m av.toArray below meth c (MQ below (z_Qc rk D cl tys ρ ws cn.2 (va_A ws s.heap.size)) av.toArray s mc ms (va_A ws s.heap.size)) D cl tys (va_A ws s.heap.size) s.heap nl ρ (z_ad ws) z.1 z.2 := by
    intro z hz'
    unfold z_okE at hz'
    split at hz'
    · rename_i x hat
      split at hz'
      · rename_i et
        split at hz'
        · rename_i E eE
          obtain ⟨F, hF, hm⟩ := List.any_eq_true.mp hz'
          obtain ⟨σ, eσ⟩ := Option.isSome_iff_exists.mp hm
          obtain ⟨⟨b, hb1, hxb⟩, he⟩ := z_at_ok hat
          obtain ⟨hd, hlk⟩ := kT b hb1 x hxb
          rw [he] at hd
          intro ρ' ws' lv' st' H' locs' ls' hg
          have hE := z_end_S eE
          have hgE : z_g D cl tys (va_A ws s.heap.size) s.heap nl ρ (z_ad ws) (z_pX E) ρ' ws' [] st' H' locs' ls' := by
            rw [hE]
            exact ⟨hg.1, hg.2.1, trivial, hg.2.2.2.1, hg.2.2.2.2.1, hg.xP, hg.xD, hg.xS, hg.xL.1, hg.xL.2.1, fun q hq => by cases hq⟩
          have hn : cn.1.1.1.length ≤ ρ'.length := by
            have := hg.1.1.length_le
            omega
          obtain ⟨⟨lv2, hgP⟩, -, -, -⟩ := z_mS_ok hgE (by omega) hn (by omega) eσ
          refine z_ret_ok (u1 := z_r2 cn.1.1.1.length ρ' σ) hx hb hr hlocks hK k6 hd (fun hi => ?_) eE hg ⟨F, hF, hgP.1.1, hg.1.2.1, hgP.2.1, hgP.2.2.2.1, hgP.2.2.2.2.1⟩ (Nat.le_of_ble_eq_true (z_and (z_and et).2).1) (Nat.le_of_ble_eq_true (z_and (z_and et).2).2)
          unfold z_isr at hi
          split at hi
          · rename_i ei
            rw [ei] at hlk
            exact z_beq hlk
          · rename_i ei
            rw [ei] at hlk
            exact z_beq hlk
          · rename_i ei
            rw [ei] at hlk
            exact z_beq hlk
          · cases hi
        · cases hz'
      · cases hz'
    · cases hz'
  have hcuts := z_cuts_ok (p := p) (l := l) (e := e) (below := below) (ad0 := z_ad ws) hs hlen (by omega) hexit (fun k hk => List.all_eq_true.mp hcc k hk)
  split at hent
  · rename_i js ejs
    obtain ⟨J', hJ1, hJ2⟩ := z_starts_ok e1 ejs
    split at hent
    · rename_i ex er
      have main := (z_runS_ok (hs ρ (List.prefix_refl _)) FU _ [] ex er).2 (fun z hz' => ?_) (0, (J', z_args 0 cn.1.2.1, [], cn.1.2.2, 0, 0)) (List.mem_map.mpr ⟨J', hJ1, rfl⟩)
      · exact main ρ ws (lv_args 0 av) [] s.heap [] ls ⟨⟨List.prefix_refl _, List.prefix_refl _, e0⟩, hJ2, z_args_ok 0 e2, trivial, e3, hP, hD, va_S.rf, hl⟩
      · have g := List.all_eq_true.mp hent z hz'
        rcases Bool.or_eq_true_iff.mp g with g | g
        · exact hexit z g
        · obtain ⟨k', hk', g⟩ := List.any_eq_true.mp g
          have g1 := z_beq (z_and g).1
          obtain ⟨σ, eσ⟩ := Option.isSome_iff_exists.mp (z_and g).2
          intro ρ' ws' lv' st' H' locs' ls' hg
          have hn : cn.1.1.1.length ≤ ρ'.length := by
            have := hg.1.1.length_le
            omega
          obtain ⟨⟨lv2, hgP⟩, c1, c2, -⟩ := z_mS_ok hg (by omega) hn (by omega) eσ
          have hW := hcuts k' hk' _ ws' lv2 st' H' locs' ls' hgP
          rw [g1] at hW
          exact W.widen c1 c2 hW
    · cases hent
  · cases hent
theorem z_Met_imp {l : Launch} {y : MethodName} {ws : List Cond} {rm : Room} {Pc : Array Value → State → Prop} {Qc Qc' : Array Value → State → Outcome → State → Prop} {mc ms : Nat} {free : Addr → Prop} (h : Met l y ws rm Pc Qc mc ms free) (hq : ∀ a s o t, Qc a s o t → Qc' a s o t) : Met l y ws rm Pc Qc' mc ms free := by
  intro p e ha hc hk s m args below hf happ hP hK
  obtain ⟨n, o, h1, h2, h3, h4, h5⟩ := h p e ha hc hk s m args below hf happ hP hK
  exact ⟨n, o, h1, h2, h3, hq _ _ _ _ h4, h5⟩
