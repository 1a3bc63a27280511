/-! ===== calls ===== -/
noncomputable def z_rm (d mc ms : Nat) : Room := { frames := d, cells := mc, slots := ms, locals := 40 * d }
noncomputable def z_Pc (SP : zSP) (bs : List Int) (D : va_G) (cl : List vw_C) (tys : List (ClassId × FieldType)) (ws : va_W) (av : List Value) (sz : Nat) : Array Value → State → Prop := va_Pc av (fun U => U.heap.size = sz ∧ va_P D cl ws U.heap ∧ va_K D cl tys U ∧ va_D (fun _ => True) ws ∧ z_SF SP bs (va_A ws sz) U U.heap)
noncomputable def z_po (tys : List (ClassId × FieldType)) (ρ : List Int) (ws : va_W) (es : List zX) (rv : List Value) (u : List Int × va_W) : Prop := ∃ E ∈ es, ρ <+: u.1 ∧ z_ad ws <+: z_ad u.2 ∧ z_iv E.1 u.1 ∧ z_F (z_m u.1 (z_ad u.2)) E.2.1 rv ∧ z_F (z_H tys u.1 (z_ad u.2)) E.2.2 u.2
noncomputable def z_Bo (D : va_G) (cl : List vw_C) (tys : List (ClassId × FieldType)) (A : Nat → Prop) (u : List Int × va_W) (t : State) : Prop := va_P D cl u.2 t.heap ∧ va_K D cl tys t ∧ va_D A u.2
noncomputable def z_Qc (rk : Nat) (D : va_G) (cl : List vw_C) (tys : List (ClassId × FieldType)) (ρ : List Int) (ws : va_W) (es : List zX) (A : Nat → Prop) : Array Value → State → Outcome → State → Prop := match rk with
  | 2 => va_Ql (fun (r : Int64) u => z_po tys ρ ws es [.long r] u) (z_Bo D cl tys A) A
  | 3 => va_Qv (fun u => z_po tys ρ ws es [] u) (z_Bo D cl tys A) A
  | _ => va_Qi (fun (r : Int32) u => z_po tys ρ ws es [.int r] u) (z_Bo D cl tys A) A
/-- a method's contract, of any world that is as the run has it -/
noncomputable def z_MET (SP : zSP) (bs : List Int) (l : Launch) (D : va_G) (cl : List vw_C) (tys : List (ClassId × FieldType)) (tbl : List Cond) (y : MethodName) (cc : ByteArray) (nL : Nat) (ret : Option FieldType) (d rk mc ms : Nat) (ivs : zJ) (as : List zV) (hp : List zC) (es : List zX) : Prop :=
  ∀ (ρ : List Int) (ws : va_W) (av : List Value) (sz : Nat), bs <+: ρ → ρ[0]? = some 0 → z_iv ivs ρ → z_F (z_m ρ (z_ad ws)) as av → z_F (z_H tys ρ (z_ad ws)) hp ws → Met l y (Cond.code y cc nL ret :: tbl) (z_rm d mc ms) (z_Pc SP bs D cl tys ws av sz) (z_Qc rk D cl tys ρ ws es (va_A ws sz)) mc ms (va_A ws sz)
theorem z_SF.same {SP : zSP} {bs : List Int} {A : Nat → Prop} {u U : State} {H : Heap} (h : z_SF SP bs A u H) (hv : U.vm = u.vm) : z_SF SP bs A U H := by
  obtain ⟨adK, adV, h1, h2, h3, h4⟩ := h
  have ha : u.vm.Alike U.vm := by rw [hv]; exact Vm.Alike.refl u.vm
  exact ⟨adK, adV, h1, fun j q hj => (h2 j q hj).same hv, h3.moved ha, ⟨h4.1.moved ha, h4.2.moved ha⟩⟩
theorem z_blind {SP : zSP} {bs : List Int} {D : va_G} {cl : List vw_C} {tys : List (ClassId × FieldType)} {ws : va_W} {av : List Value} {sz : Nat} : FrameBlind (z_Pc SP bs D cl tys ws av sz) := fun a U g mk q => by
  obtain ⟨q0, q1, qP, qK, qD, qF⟩ := q
  exact ⟨q0, q1, qP, va_K.moved (u := U) (U := U.calling g mk a) (Vm.Alike.refl U.vm) qK, qD, qF.same rfl⟩
theorem z_pre1 {SP : zSP} {bs : List Int} {D : va_G} {cl : List vw_C} {tys : List (ClassId × FieldType)} {ws : va_W} {av : List Value} {s : State} {H H0 : Heap} {A : Nat → Prop} {locs : List Loc} (hK : va_K D cl tys s) (hP : va_P D cl ws H) (hD : va_D A ws) (hF : z_SF SP bs A s H0) (hS : va_S A H0 H locs) (hA : ∀ q, H0.size ≤ q → A q) : ∀ U : State, U.heap = H → s.WarmedH U.vm → z_Pc SP bs D cl tys ws av H.size av.toArray U := fun U hU hW => by
  refine ⟨rfl, by rw [hU], by rw [hU]; exact hP, va_K.moved hW.alike hK, hD.weaken (fun _ _ _ _ => trivial), ?_⟩
  rw [hU]
  refine hF.warm hW hS.2.1 (fun q hq => ?_)
  rcases hq with ⟨k, e0, hq⟩ | hq
  · exact hD.2 k (q, e0) hq
  · exact hA q (Nat.le_trans hS.1 hq)
/-- words that hold where the machine has gone on -/
noncomputable def z_wok (w : Cond) : Bool := match w with
  | .methodLinkNest _ _ _ _ => true
  | .fieldLinkNest _ _ _ _ _ _ => true
  | .arrayOver (.object _) => true
  | w => goodWord w
theorem z_wok_ok {w : Cond} (h : z_wok w = true) {args a' : Array Value} {s U : State} (hW : s.WarmedH U.vm) (hb : w.before args s = true) : w.before a' U = true := by
  unfold z_wok at h
  split at h
  · exact va_Nw.use rfl (va_Nw.warmM hW (va_Nw.of rfl hb))
  · exact va_Nw.use rfl (va_Nw.warmF hW (va_Nw.of rfl hb))
  · exact va_AO.use (va_AO.moved hW.alike (va_AO.of hb))
  · exact word_at hW (good_of_word h) hb
theorem z_F.revI {α β : Type} {R : α → β → Prop} {l : List α} {k : List β} (h : z_F R l.reverse k) : z_F R l k.reverse := by
  have := h.rev
  rw [List.reverse_reverse] at this
  exact this
theorem z_pops_ok : ∀ {n : Nat} {sk acc as rest : List zV}, z_pops n sk acc = some (as, rest) → ∃ x, sk = x ++ rest ∧ as = x.reverse ++ acc ∧ x.length = n
  | 0, sk, acc, as, rest, h => by
    cases h
    exact ⟨[], rfl, rfl, rfl⟩
  | n + 1, [], acc, as, rest, h => by cases h
  | n + 1, a :: sk, acc, as, rest, h => by
    obtain ⟨x, h1, h2, h3⟩ := z_pops_ok (n := n) (sk := sk) (acc := a :: acc) h
    refine ⟨a :: x, by rw [h1]; rfl, ?_, by rw [List.length_cons, h3]⟩
    rw [h2, List.reverse_cons, List.append_assoc]
    rfl
section ZV
variable {p : Program} {l : Launch} {e : Env} {R : Room} {s : State} {m : MethodId} {args : Array Value} {below : List Frame} {meth : Method} {c : Code} {Q : State → Prop} {D : va_G} {cl : List vw_C} {tys : List (ClassId × FieldType)} {A : Nat → Prop} {H0 : Heap} {nL : Nat} {ρ0 : List Int} {ad0 : List Nat}
variable {cc : ByteArray} {pc : Nat} {ivs : zJ} {lo : List (Nat × zV)} {sk : List zV} {hp : List zC} {nc ns : Nat} {q : List (Nat × zS)}
theorem z_g.call {ρ : List Int} {ws : va_W} {lv : List (Nat × Value)} {st rs rv : List Value} {H H1 : Heap} {locs locs1 : List Loc} {ls : Array Slot} {E : zX} {u : List Int × va_W} {rest : List zV} {nc' ns' : Nat} (hg : z_g D cl tys A H0 nL ρ0 ad0 (ivs, lo, sk, hp, nc, ns) ρ ws lv st H locs ls) (hr : z_F (z_m ρ (z_ad ws)) rest rs) (h1 : ρ <+: u.1) (h2 : z_ad ws <+: z_ad u.2) (h3 : z_iv E.1 u.1) (h4 : z_F (z_m u.1 (z_ad u.2)) E.2.1 rv) (h5 : z_F (z_H tys u.1 (z_ad u.2)) E.2.2 u.2) (hP : va_P D cl u.2 H1) (hD : va_D A u.2) (hS : va_S A H0 H1 locs1) :
    z_g D cl tys A H0 nL ρ0 ad0 (E.1, lo, E.2.1 ++ rest, E.2.2, nc', ns') u.1 u.2 lv (rv ++ rs) H1 locs1 ls := by
  obtain ⟨⟨a1, a3, a4⟩, b1, b3, b4, b5, b6, b7, b8, b9⟩ := hg
  exact ⟨⟨a1.trans h1, a3.trans h2, z_pre h1 a4⟩, h3, b3.mono (fun _ _ q => ⟨q.1, q.2.mono h1 h2⟩), z_F.app (hr.mono (fun _ _ q => q.mono h1 h2)) h4, h5, hP, hD, hS, b9⟩
theorem zs_inv {bs : List Int} {ZD : List zN} {call : zL} {RC RS mi nA rc rk mc ms nl : Nat} {T : List (List zE)} (hA : ∀ q, H0.size ≤ q → A q) (hbs : bs <+: ρ0) (hz : ZD[mi]? = some (nA, rc, rk, mc, ms, nl, T))
    (hrun : ∀ (es : List zX) (as : List zV) (ρ : List Int) (ws : va_W) (av rs : List Value) (H : Heap) (locs : List Loc) (ls : Array Slot) (lv : List (Nat × Value)), call mi ivs as hp = some es → bs <+: ρ → ρ[0]? = some 0 → z_iv ivs ρ → z_F (z_m ρ (z_ad ws)) as av → z_F (z_H tys ρ (z_ad ws)) hp ws → as.length = nA → z_rcv rc hp as = true → (rs.map fun v => v.category).sum ≤ 8 → nc + mc ≤ RC → ns + ms ≤ RS → va_P D cl ws H → va_D A ws → lv_has ls nL lv → va_S A H0 H locs →
      va_Run p l e R s m args below meth c H locs nc ns mc ms (F0 m pc ls (av.reverse ++ rs)) rs (z_Qc rk D cl tys ρ ws es (va_A ws H.size) av.toArray) (va_A ws H.size))
    (h : z_inv ZD call RC RS mi (pc + 3) ivs lo sk hp nc ns = some q) (kk : ∀ z ∈ q, z_K p l e R s m args below meth c Q D cl tys A H0 nL ρ0 ad0 z.1 z.2) : z_K p l e R s m args below meth c Q D cl tys A H0 nL ρ0 ad0 pc (ivs, lo, sk, hp, nc, ns) := by
  unfold z_inv at h
  rw [z_nx_eq, hz] at h
  dsimp only at h
  split at h
  · rename_i as rest ep
    split at h
    · rename_i et
      have e1 := Nat.le_of_ble_eq_true (z_and et).1
      have e2 := Nat.le_of_ble_eq_true (z_and (z_and et).2).1
      have e3 := Nat.le_of_ble_eq_true (z_and (z_and (z_and et).2).2).1
      have e4 := (z_and (z_and (z_and et).2).2).2
      split at h
      · rename_i es ec
        cases h
        obtain ⟨x, p1, p2, p3⟩ := z_pops_ok ep
        rw [List.append_nil] at p2
        intro ρ ws lv st H locs ls hg
        have hsk := hg.xsk
        rw [p1] at hsk
        obtain ⟨k1, rs, rfl, f1, f2⟩ := hsk.split
        have fas : z_F (z_m ρ (z_ad ws)) as k1.reverse := by rw [p2]; exact f1.rev
        have hr := hrun es as ρ ws k1.reverse rs H locs ls lv ec (hbs.trans hg.1.1) hg.zero hg.xiv fas hg.xhp (by rw [p2, List.length_reverse]; exact p3) e4 (by rw [z_cats_ok f2]; exact e3) e1 e2 hg.xP hg.xD hg.xL hg.xS
        rw [List.reverse_reverse] at hr
        have hF : ∀ q, va_A ws H.size q → A q := fun q hq => by
          rcases hq with ⟨k, e0, hq⟩ | hq
          · exact hg.xD.2 k (q, e0) hq
          · exact hA q (Nat.le_trans hg.xS.1 hq)
        have done : ∀ (rv : List Value) (u : List Int × va_W) (t : State) (H1 : Heap) (locs1 : List Loc), t.heap = H1 → z_po tys ρ ws es rv u → z_Bo D cl tys (va_A ws H.size) u t → va_S A H0 H1 locs1 → W p l e R s m args below meth c H1 locs1 (nc + mc) (ns + ms) Q (F0 m (pc + 3) ls (rv ++ rs)) := by
          intro rv u t H1 locs1 ht hpo hB hS1
          obtain ⟨E, hE, g1, g2, g3, g4, g5⟩ := hpo
          obtain ⟨j1, j2, j3⟩ := hB
          rw [ht] at j1
          exact kk (pc + 3, (E.1, lo, E.2.1 ++ rest, E.2.2, nc + mc, ns + ms)) (List.mem_map.mpr ⟨E, hE, rfl⟩) u.1 u.2 lv (rv ++ rs) H1 locs1 ls (hg.call f2 g1 g2 g3 g4 g5 j1 (j3.weaken (fun k q _ h => hF q.1 h)) hS1)
        unfold z_Qc at hr
        split at hr
        · exact va_calll hr hg.xS (fun q _ h => hF q h) hF (fun r u t H1 locs1 ht hvm hw hB hz1 hk1 hS1 => done [.long r] u t H1 locs1 ht hw hB hS1)
        · exact va_callv hr hg.xS (fun q _ h => hF q h) hF (fun u t H1 locs1 ht hvm hw hB hz1 hk1 hS1 => done [] u t H1 locs1 ht hw hB hS1)
        · exact va_calli hr hg.xS (fun q _ h => hF q h) hF (fun r u t H1 locs1 ht hvm hw hB hz1 hk1 hS1 => done [.int r] u t H1 locs1 ht hw hB hS1)
      · cases h
    · cases h
  · cases h
/-- what holds of a method that is called -/
noncomputable def z_rtt (rk : Nat) : Option FieldType := match rk with
  | 0 => some .int
  | 1 => some .boolean
  | 2 => some .long
  | _ => none
noncomputable def z_mok (tbl : List Cond) (cl : List vw_C) (y : MethodName) (cc : ByteArray) (nL : Nat) (ret : Option FieldType) (vk nA rc rk : Nat) : Prop :=
  plainFor y = true ∧ Cond.code y cc nL ret ∈ tbl ∧ Cond.initialized y.cls ∈ tbl ∧ (y.cls ≠ "java/lang/invoke/MethodHandle" ∧ y.cls ≠ "java/lang/invoke/VarHandle") ∧ nL ≤ 21 ∧ ret = z_rtt rk ∧
  (parseMethodDescriptor y.desc).map (fun d => d.parameters.length) = some (if vk = 1 then nA else nA - 1) ∧
  (vk = 0 → ∃ ci q, rc = ci + 1 ∧ cl[ci]? = some q ∧ q.1 = y.cls ∧ Cond.instanceMethod y ∈ tbl ∧ Cond.selects y.cls y y ∈ tbl) ∧
  (vk = 1 → Cond.static y ∈ tbl) ∧ (vk = 2 → y.name = "<init>" ∧ ret = none ∧ Cond.instanceMethod y ∈ tbl ∧ ∃ ci, rc = ci + 1)
theorem z_desc {y : MethodName} {n : Nat} (h : (parseMethodDescriptor y.desc).map (fun d => d.parameters.length) = some n) : ∀ sig, parseMethodDescriptor y.desc = some sig → n = sig.parameters.length := fun sig h1 => by
  rw [h1] at h
  exact (Option.some.inj h).symm
theorem z_rcv_ok {ρ : List Int} {ws : va_W} {hp : List zC} {as : List zV} {av : List Value} {ci : Nat} (hH : z_F (z_H tys ρ (z_ad ws)) hp ws) (ha : z_F (z_m ρ (z_ad ws)) as av) (h : z_rcv (ci + 1) hp as = true) : ∃ (b q0 : Nat) (As vs : List Value), av = .ref b :: As ∧ ws[q0]? = some (b, .inr (ci, vs)) := by
  unfold z_rcv at h
  dsimp only at h
  split at h
  · rename_i j o as
    split at h
    · rename_i ci' fs ec
      have e := z_beq h
      subst e
      obtain ⟨v, As, rfl, hv, -⟩ := ha.c1
      obtain ⟨b, ee, h1, rfl, vs, rfl, -⟩ := z_cell hH hv ec
      exact ⟨b, j, As, vs, rfl, h1⟩
    · cases h
  · cases h
theorem z_inv_ok {SP : zSP} {bs : List Int} {ZD : List zN} {call : zL} {RC RS d : Nat} {sc : Option Nat} {TC : List Nat} {Y : Nat → MethodName} {CC : Nat → ByteArray} {RT : Nat → Option FieldType} {VK : Nat → Nat} {HN own : String} {ini : Bool} {tbl : List Cond} {a : Nat}
    (CX : z_CX SP bs p R s m args meth c cc nL own ini D cl tys TC tbl A H0 RC RS d sc ρ0) (htb : ∀ w ∈ tbl, z_wok w = true)
    (hok : ∀ mi nA rc rk mc ms nl T, ZD[mi]? = some (nA, rc, rk, mc, ms, nl, T) → z_mok tbl cl (Y mi) (CC mi) nl (RT mi) (VK mi) nA rc rk)
    (hcall : ∀ mi nA rc rk mc ms nl T ivs as hp es, ZD[mi]? = some (nA, rc, rk, mc, ms, nl, T) → call mi ivs as hp = some es → z_MET SP bs l D cl tys tbl (Y mi) (CC mi) nl (RT mi) d rk mc ms ivs as hp es)
    (hl : (∃ i, decode cc pc = .ok (.invokevirtual i, 3) ∧ VK a = 0 ∧ Cond.methodLink own i (Y a) ∈ tbl) ∨ (∃ i, decode cc pc = .ok (.invokestatic i, 3) ∧ VK a = 1 ∧ Cond.methodLink own i (Y a) ∈ tbl) ∨ (∃ i, decode cc pc = .ok (.invokespecial i, 3) ∧ VK a = 2 ∧ Cond.methodLink own i (Y a) ∈ tbl) ∨ (∃ i, decode cc pc = .ok (.invokespecial i, 3) ∧ VK a = 2 ∧ Cond.methodLinkNest own i (Y a) HN ∈ tbl))
    (h : z_inv ZD call RC RS a (pc + 3) ivs lo sk hp nc ns = some q) (kk : ∀ z ∈ q, z_K p l e R s m args below meth c Q D cl tys A H0 nL ρ0 ad0 z.1 z.2) : z_K p l e R s m args below meth c Q D cl tys A H0 nL ρ0 ad0 pc (ivs, lo, sk, hp, nc, ns) := by
  obtain ⟨⟨hx, hb, hml, hown, hts⟩, hini, hK, hA, hTY, ⟨r1, r2, r3, r4⟩, hC, ⟨hbs, hSF, hH0⟩⟩ := CX
  cases hz : ZD[a]? with
  | none =>
    unfold z_inv at h
    rw [z_nx_eq, hz] at h
    cases h
  | some dta =>
    obtain ⟨nA, rc, rk, mc, ms, nl, T⟩ := dta
    obtain ⟨k1, k2, k3, k4, k5, k6, k7, k8, k9, k10⟩ := hok a nA rc rk mc ms nl T hz
    have hwm : ∀ w ∈ tbl, ∀ (a' : Array Value) (U : State), s.WarmedH U.vm → w.before a' U = true := fun w hw a' U hW => z_wok_ok (htb w hw) hW (hts w hw)
    have hws : ∀ w ∈ (Cond.code (Y a) (CC a) nl (RT a) :: tbl), ∀ (a' : Array Value) (U : State), s.WarmedH U.vm → w.before a' U = true := fun w hw => by
      rcases List.mem_cons.mp hw with rfl | hw
      · exact hwm _ k2
      · exact hwm _ hw
    refine zs_inv (nA := nA) (rc := rc) (rk := rk) (mc := mc) (ms := ms) (nl := nl) (T := T) hA hbs hz (fun es as ρ ws av rs H locs ls lv ec eb e0 e1 e2 e3 e4 e5 e6 e7 e8 hP hD hL hSS => ?_) h kk
    have hM := hcall a nA rc rk mc ms nl T ivs as hp es hz ec ρ ws av H.size eb e0 e1 e2 e3
    have hlen : av.length = nA := by rw [← e2.len]; exact e4
    rcases hl with ⟨i, g1, g2, g3⟩ | ⟨i, g1, g2, g3⟩ | ⟨i, g1, g2, g3⟩ | ⟨i, g1, g2, g3⟩
    · rw [g2] at k7
      obtain ⟨ci, q0, j1, j2, j3, j4, j5⟩ := k8 g2
      subst j1
      obtain ⟨b, q1, As, vs, rfl, w1⟩ := z_rcv_ok e3 e2 e5
      have hr := va_runV (C := (Y a).cls) (bytes := CC a) (maxL := nl) (ret := RT a) (n := nA - 1) (As := As) (rest := rs) (g := F0 m pc ls ((.ref b :: As).reverse ++ rs)) (locs := locs) (cells := nc) (slots := ns) (below := below) (e := e) (meth := meth) (R := R) ⟨hx, hb, hml, hown, hts⟩ hM ⟨⟨rfl, rfl, r3, by show 8 + (nl + 11) + 40 * d ≤ _; omega, hws, List.mem_cons_self, hts _ k2, hts _ k3, k4, z_desc k7, hts _ g3⟩, hts _ j4, hts _ j5⟩ ⟨z_blind, by rw [← j3]; exact va_recv hK hP j2 w1, z_pre1 hK hP hD hSF hSS hA⟩ rfl (by rw [List.length_cons] at hlen; omega) hL.1 (by rw [List.reverse_cons, List.append_assoc]; rfl) (lv_room e6) g1 ⟨by omega, by omega⟩
      exact hr
    · rw [g2] at k7
      have hr := va_runS (bytes := CC a) (maxL := nl) (ret := RT a) (n := nA) (As := av) (rest := rs) (g := F0 m pc ls (av.reverse ++ rs)) (locs := locs) (cells := nc) (slots := ns) (below := below) (e := e) (meth := meth) (R := R) ⟨hx, hb, hml, hown, hts⟩ hM ⟨⟨rfl, rfl, r3, by show 8 + (nl + 11) + 40 * d ≤ _; omega, hws, List.mem_cons_self, hts _ k2, hts _ k3, k4, z_desc k7, hts _ g3⟩, hts _ (k9 g2)⟩ ⟨z_blind, z_pre1 hK hP hD hSF hSS hA⟩ rfl hlen hL.1 rfl (lv_room e6) g1 ⟨by omega, by omega⟩
      exact hr
    · rw [g2] at k7
      obtain ⟨j1, j2, j3, ci, j4⟩ := k10 g2
      subst j4
      rw [j2] at hws hM k2
      obtain ⟨b, q1, As, vs, rfl, w1⟩ := z_rcv_ok e3 e2 e5
      have hr := va_runI (bytes := CC a) (maxL := nl) (n := nA - 1) (b := b) (As := As) (rest := rs) (g := F0 m pc ls ((.ref b :: As).reverse ++ rs)) (locs := locs) (cells := nc) (slots := ns) (below := below) (e := e) (meth := meth) (R := R) ⟨hx, hb, hml, hown, hts⟩ hM ⟨⟨rfl, rfl, r3, by show 8 + (nl + 11) + 40 * d ≤ _; omega, hws, List.mem_cons_self, hts _ k2, hts _ k3, k4, z_desc k7, hts _ g3⟩, j1, hts _ j3⟩ ⟨z_blind, z_pre1 hK hP hD hSF hSS hA⟩ rfl (by rw [List.length_cons] at hlen; omega) hL.1 (by rw [List.reverse_cons, List.append_assoc]; rfl) (lv_room e6) g1 ⟨by omega, by omega⟩
      exact hr
    · rw [g2] at k7
      obtain ⟨j1, j2, j3, ci, j4⟩ := k10 g2
      subst j4
      rw [j2] at hws hM k2
      obtain ⟨b, q1, As, vs, rfl, w1⟩ := z_rcv_ok e3 e2 e5
      have hr := va_runIN (host := HN) (bytes := CC a) (maxL := nl) (n := nA - 1) (b := b) (As := As) (rest := rs) (g := F0 m pc ls ((.ref b :: As).reverse ++ rs)) (locs := locs) (cells := nc) (slots := ns) (below := below) (e := e) (meth := meth) (R := R) ⟨hx, hb, hml, hown, hts⟩ hM ⟨⟨⟨rfl, rfl, r3, by show 8 + (nl + 11) + 40 * d ≤ _; omega, hws, List.mem_cons_self⟩, hts _ k2, hts _ k3, k4, z_desc k7, hts _ g3⟩, j1, hts _ j3⟩ ⟨z_blind, z_pre1 hK hP hD hSF hSS hA⟩ rfl (by rw [List.length_cons] at hlen; omega) hL.1 (by rw [List.reverse_cons, List.append_assoc]; rfl) (lv_room e6) g1 ⟨by omega, by omega⟩
      exact hr
/-- what holds of a method of texts -/
noncomputable def z_sok (tbl : List Cond) (y : MethodName) (cc : ByteArray) (nL : Nat) (ret : Option FieldType) (n : Nat) : Prop :=
  Cond.code y cc nL ret ∈ tbl ∧ Cond.initialized y.cls ∈ tbl ∧ (y.cls ≠ "java/lang/invoke/MethodHandle" ∧ y.cls ≠ "java/lang/invoke/VarHandle") ∧ nL ≤ 21 ∧
  (parseMethodDescriptor y.desc).map (fun d => d.parameters.length) = some n ∧ y.cls = "java/lang/String" ∧ Cond.instanceMethod y ∈ tbl ∧ Cond.selects y.cls y y ∈ tbl
/-- the two methods of texts, by contract -/
noncomputable def z_SM (SP : zSP) (bs : List Int) (l : Launch) (D : va_G) (cl : List vw_C) (tys : List (ClassId × FieldType)) (tbl : List Cond) : Prop :=
  (∃ (cc : ByteArray) (nL : Nat) (ret : Option FieldType), z_sok tbl (SP.2.2.2 0) cc nL ret 0 ∧ ∀ (y n q sz : Nat), SP.2.1[y]? = some n → y < SP.1.length → bs[y + 1]? = some (q : Int) →
    Met l (SP.2.2.2 0) (Cond.code (SP.2.2.2 0) cc nL ret :: tbl) (z_rm 3 0 0) (z_Pc SP bs D cl tys [] [.ref q] sz) (va_Qi (fun (r : Int32) (_ : Unit) => r.toInt = (n : Int)) (fun _ _ => True) (va_A [] sz)) 0 0 (va_A [] sz)) ∧
  (∃ (cc : ByteArray) (nL : Nat) (ret : Option FieldType), z_sok tbl (SP.2.2.2 1) cc nL ret 1 ∧ ∀ (y n q sz : Nat) (i : Int32), SP.2.1[y]? = some n → y < SP.1.length → bs[y + 1]? = some (q : Int) → vp_in i n →
    Met l (SP.2.2.2 1) (Cond.code (SP.2.2.2 1) cc nL ret :: tbl) (z_rm 3 0 0) (z_Pc SP bs D cl tys [] [.ref q, .int i] sz) (va_Qi (fun (r : Int32) (_ : Unit) => 0 ≤ r.toInt ∧ r.toInt ≤ 65535) (fun _ _ => True) (va_A [] sz)) 0 0 (va_A [] sz))
theorem z_nil_D {A : Nat → Prop} : va_D A [] := ⟨fun i j p q h => by simp at h, fun k q h => by simp at h⟩
theorem z_nil_P {D : va_G} {cl : List vw_C} {H : Heap} : va_P D cl [] H := fun k q h => by simp at h
theorem z_g.frame {ρ : List Int} {ws : va_W} {lv : List (Nat × Value)} {st : List Value} {H H1 : Heap} {locs locs1 : List Loc} {ls : Array Slot} (hg : z_g D cl tys A H0 nL ρ0 ad0 (ivs, lo, sk, hp, nc, ns) ρ ws lv st H locs ls) (hk : ∀ q : Nat, q < H.size → ¬ va_A [] H.size q → H1[q]? = H[q]?) (hS : va_S A H0 H1 locs1) : z_g D cl tys A H0 nL ρ0 ad0 (ivs, lo, sk, hp, nc, ns) ρ ws lv st H1 locs1 ls := by
  obtain ⟨a1, b1, b3, b4, b5, b6, b7, b8, b9⟩ := hg
  refine ⟨a1, b1, b3, b4, b5, b6.kept (fun k q hq => hk q.1 (b6 k q hq).lt (fun z => ?_)), b7, hS, b9⟩
  rcases z with ⟨k2, e, z⟩ | z
  · simp at z
  · have := (b6 k q hq).lt
    omega
theorem z_str_ok {SP : zSP} {bs : List Int} {RC RS d : Nat} {sc : Option Nat} {TC : List Nat} {own : String} {ini : Bool} {tbl : List Cond} {a i : Nat}
    (CX : z_CX SP bs p R s m args meth c cc nL own ini D cl tys TC tbl A H0 RC RS d sc ρ0) (htb : ∀ w ∈ tbl, z_wok w = true) (hSM : z_SM SP bs l D cl tys tbl) (h2 : 3 ≤ d) (hd : decode cc pc = .ok (.invokevirtual i, 3)) (hlk : Cond.methodLink own i (SP.2.2.2 a) ∈ tbl)
    (h : z_str SP RC RS a (pc + 3) ivs lo sk hp nc ns = some q) (kk : ∀ z ∈ q, z_K p l e R s m args below meth c Q D cl tys A H0 nL ρ0 ad0 z.1 z.2) : z_K p l e R s m args below meth c Q D cl tys A H0 nL ρ0 ad0 pc (ivs, lo, sk, hp, nc, ns) := by
  obtain ⟨⟨hx, hb, hml, hown, hts⟩, hini, hK, hA, hTY, ⟨r1, r2, r3, r4⟩, hC, ⟨hbs, hSF, hH0⟩⟩ := CX
  have hwm : ∀ w ∈ tbl, ∀ (a' : Array Value) (U : State), s.WarmedH U.vm → w.before a' U = true := fun w hw a' U hW => z_wok_ok (htb w hw) hW (hts w hw)
  obtain ⟨⟨cc0, nl0, ret0, ⟨k2, k3, k4, k5, k7, kS, j4, j5⟩, hM0⟩, ⟨cc1, nl1, ret1, ⟨k2', k3', k4', k5', k7', kS', j4', j5'⟩, hM1⟩⟩ := hSM
  have hfree : ∀ {H : Heap} {locs : List Loc}, va_S A H0 H locs → ∀ q, va_A [] H.size q → A q := fun hS q hq => by
    rcases hq with ⟨k, e0, hq⟩ | hq
    · simp at hq
    · exact hA q (Nat.le_trans hS.1 hq)
  unfold z_str at h
  split at h
  · rename_i y o sk
    split at h
    · rename_i n en et
      have e8 := Nat.le_of_ble_eq_true (z_and et).1
      have ey := Nat.le_of_ble_eq_true (z_and (z_and et).2).1
      have en1 := Nat.le_of_ble_eq_true (z_and (z_and (z_and et).2).2).1
      have en2 := Nat.le_of_ble_eq_true (z_and (z_and (z_and et).2).2).2
      cases h
      intro ρ ws lv st H locs ls hg
      obtain ⟨v1, st, rfl, hv1, hs⟩ := hg.xsk.c1
      obtain ⟨b, hb1, rfl⟩ := hv1
      obtain ⟨adK, adV, f1, f2, f3, f4⟩ := id hSF
      have hq0 := f1 y (by omega)
      rw [z_pre (hbs.trans hg.1.1) hq0] at hb1
      have eb : adK y = b := by
        have := Option.some.inj hb1
        omega
      subst eb
      have hM := hM0 y n (adK y) H.size en (by omega) hq0
      rw [hH0] at f3
      have hws : ∀ w ∈ (Cond.code (SP.2.2.2 0) cc0 nl0 ret0 :: tbl), ∀ (a' : Array Value) (U : State), s.WarmedH U.vm → w.before a' U = true := fun w hw => by
        rcases List.mem_cons.mp hw with rfl | hw
        · exact hwm _ k2
        · exact hwm _ hw
      have hSs : va_S A s.heap H locs := by rw [← hH0]; exact hg.xS
      have hr := va_runV (C := (SP.2.2.2 0).cls) (bytes := cc0) (maxL := nl0) (ret := ret0) (n := 0) (b := adK y) (As := []) (rest := st) (g := F0 m pc ls (.ref (adK y) :: st)) (locs := locs) (cells := nc) (slots := ns) (below := below) (e := e) (meth := meth) (R := R) ⟨hx, hb, hml, hown, hts⟩ hM ⟨⟨rfl, rfl, by show 3 + 1 ≤ _; omega, by show 8 + (nl0 + 11) + 40 * 3 ≤ _; omega, hws, List.mem_cons_self, hts _ k2, hts _ k3, k4, z_desc k7, hts _ hlk⟩, hts _ j4, hts _ j5⟩ ⟨z_blind, by rw [kS]; exact vk_recv f3 (by omega) hSs, z_pre1 hK z_nil_P z_nil_D hSF hg.xS hA⟩ rfl rfl hg.xL.1 rfl (lv_room (by rw [z_cats_ok hs]; exact e8)) hd ⟨by omega, by omega⟩
      refine va_calli hr hg.xS (fun q _ h => hfree hg.xS q h) (hfree hg.xS) (fun r u t H1 locs1 ht hvm hw hB hz1 hk1 hS1 => ?_)
      exact kk _ (List.mem_singleton.mpr rfl) ρ ws lv _ H1 locs1 ls (((hg.stk hs).frame hk1 hS1).stk ⟨⟨r, rfl, by rw [hw]; exact z_v.of0 hg.zero _⟩, hs⟩)
    · cases h
  · rename_i x c0 y o sk
    split at h
    · rename_i n en et
      have e8 := Nat.le_of_ble_eq_true (z_and et).1
      have ey := Nat.le_of_ble_eq_true (z_and (z_and et).2).1
      have en1 := Nat.le_of_ble_eq_true (z_and (z_and (z_and et).2).2).1
      have en2 := Nat.le_of_ble_eq_true (z_and (z_and (z_and et).2).2).2
      split at h
      · rename_i ei
        dsimp only at h
        cases h
        intro ρ ws lv st H locs ls hg
        obtain ⟨v2, v1, st, rfl, hv2, hv1, hs⟩ := hg.xsk.c2
        obtain ⟨ix, rfl, hix⟩ := hv2
        have hin := z_ix_ok hg.xiv hix ei
        obtain ⟨b, hb1, rfl⟩ := hv1
        obtain ⟨adK, adV, f1, f2, f3, f4⟩ := id hSF
        have hq0 := f1 y (by omega)
        rw [z_pre (hbs.trans hg.1.1) hq0] at hb1
        have eb : adK y = b := by
          have := Option.some.inj hb1
          omega
        subst eb
        have hM := hM1 y n (adK y) H.size ix en (by omega) hq0 hin.1
        rw [hH0] at f3
        have hws : ∀ w ∈ (Cond.code (SP.2.2.2 1) cc1 nl1 ret1 :: tbl), ∀ (a' : Array Value) (U : State), s.WarmedH U.vm → w.before a' U = true := fun w hw => by
          rcases List.mem_cons.mp hw with rfl | hw
          · exact hwm _ k2'
          · exact hwm _ hw
        have hSs : va_S A s.heap H locs := by rw [← hH0]; exact hg.xS
        have hr := va_runV (C := (SP.2.2.2 1).cls) (bytes := cc1) (maxL := nl1) (ret := ret1) (n := 1) (b := adK y) (As := [.int ix]) (rest := st) (g := F0 m pc ls (.int ix :: .ref (adK y) :: st)) (locs := locs) (cells := nc) (slots := ns) (below := below) (e := e) (meth := meth) (R := R) ⟨hx, hb, hml, hown, hts⟩ hM ⟨⟨rfl, rfl, by show 3 + 1 ≤ _; omega, by show 8 + (nl1 + 11) + 40 * 3 ≤ _; omega, hws, List.mem_cons_self, hts _ k2', hts _ k3', k4', z_desc k7', hts _ hlk⟩, hts _ j4', hts _ j5'⟩ ⟨z_blind, by rw [kS']; exact vk_recv f3 (by omega) hSs, z_pre1 hK z_nil_P z_nil_D hSF hg.xS hA⟩ rfl rfl hg.xL.1 rfl (lv_room (by rw [z_cats_ok hs]; exact e8)) hd ⟨by omega, by omega⟩
        refine va_calli hr hg.xS (fun q _ h => hfree hg.xS q h) (hfree hg.xS) (fun r u t H1 locs1 ht hvm hw hB hz1 hk1 hS1 => ?_)
        obtain ⟨r0, ρ', g1, g2, g3⟩ := z_new_ok (t := 0) (lo := 0) (hi := 65535) hg.xiv hg.zero hw.1 hw.2
        have hg' := ((hg.stk hs).frame hk1 hS1).more g1 g2
        exact kk _ (List.mem_singleton.mpr rfl) ρ' ws lv _ H1 locs1 ls (hg'.stk ⟨z_m.ofR (ρ := ρ) r0 g3, hg'.xsk⟩)
      · cases h
    · cases h
  · cases h
end ZV
