/-! THE CLAIM OUT OF ONE WALK OF THE LAW'S BODY. Your part is whole_start (and what it stands on); all else here is the same for every law, but numbers. -/
def R_law : String := "WaistcoatGreenLaw"
def lw_P (b : Addr) (xs : List Int32) (args : Array Value) (s : State) : Prop := args = #[.ref b] ∧ s.IntsAt b xs ∧ xs.length ≤ 3072 ∧ (Jvm.Cond.and given_1 narrow_1).before args s = true
def lw_Q (_ : Array Value) (s : State) (o : Outcome) (t : State) : Prop := o = .returned (some (.int 1)) ∧ Framed s o t [] 600000 7302250
def lw_Z (below : List Frame) (a : Array Value) (s : State) : State → Prop := fun t => ∃ o, t.status = .running ∧ Ended t below o ∧ lw_Q a s o t
/-- the law's own end, with 1 on the stack, nothing written that was there before, its room as the claim has it -/
theorem lw_ret {p : Program} {l : Launch} {e : Env} {s : State} {m : MethodId} {below : List Frame} {meth : Method} {c : Code} {b : Nat} (hx : p.tables.exec = Jvm.exec) (hb : c.code = code) (hr : meth.sig.returnType = ret) (hlocks : meth.locks = false) {pc : Nat} {H : Heap} {ls : Array Slot} (hdg : decode code pc = .ok (.ireturn, 1)) : W p l e room_1 s m #[Value.ref b] below meth c H [] 600000 7302250 (lw_Z below #[Value.ref b] s) (F0 m pc ls [.int 1]) := by
  intro T hT X
  obtain ⟨fs, hret, hrun, hended, hW, hframe⟩ := X.leave (v := some (.int 1)) (hlocks := hlocks) (fun h => by rw [hr] at h; cases h)
  have hmeth' : T.vm.method? m = some meth := X.method'
  refine ⟨T.setFrames fs, ?_, .returned (some (.int 1)), hrun, hended, rfl, ⟨_, rfl⟩, hW, hframe⟩
  jvm_step X.here [X.here.top, hx, hb, hdg, hmeth', hr, ret, narrow_b1]
  (try refine ⟨rfl, ?_⟩); (try refine ⟨rfl, ?_⟩)
  first | (intro acts; rw [hret _ acts rfl rfl rfl]) | rw [hret _ _ rfl rfl rfl]
  exact Steps.refl _
/-- what holds at the law's entry: the machine, the code, the tables' words (any of lw_tbl by 'hts w (by decide +kernel)'), the script of L ints xs at the cell b, what the Statement gives of the start (any of its parts by flat_of_before) -/
def lw_At (p : Program) (s : State) (m : MethodId) (meth : Method) (c : Code) (b L : Nat) (xs : Nat → Int32) : Prop :=
  p.tables.exec = Jvm.exec ∧ c.code = code ∧ meth.sig.returnType = ret ∧ c.maxLocals = 4 ∧ s.vm.findClass R_law = some m.cls ∧ (∀ w ∈ lw_tbl, w.before #[Value.ref b] s = true) ∧ va_X b L xs s s.heap ∧ b < s.heap.size ∧ meth.locks = false ∧ (Jvm.Cond.and given_1 narrow_1).before #[Value.ref b] s = true
/-! ===== the law's run gives its end ===== -/
noncomputable def z_r0 (ad : Nat → Nat) (L b : Nat) (G : Int) : List Int := zbs ad ++ [(L : Int), (b : Int), G]
theorem z_r0_len (ad : Nat → Nat) (L b : Nat) (G : Int) : (z_r0 ad L b G).length = 17 := by unfold z_r0; rw [List.length_append, zbs_len]; rfl
theorem z_r0_iv (ad : Nat → Nat) {L b : Nat} {G : Int} (hL : L ≤ 3072) : z_iv zS0L.1 (z_r0 ad L b G) := by
  refine ⟨⟨Or.inr ⟨Int.le_refl _, Int.le_refl _⟩, ⟨Or.inl (show (-1 : Int) < 0 by omega), ⟨Or.inl (show (-1 : Int) < 0 by omega), ⟨Or.inl (show (-1 : Int) < 0 by omega), ⟨Or.inl (show (-1 : Int) < 0 by omega), ⟨Or.inl (show (-1 : Int) < 0 by omega), ⟨Or.inl (show (-1 : Int) < 0 by omega), ⟨Or.inl (show (-1 : Int) < 0 by omega), ⟨Or.inl (show (-1 : Int) < 0 by omega), ⟨Or.inl (show (-1 : Int) < 0 by omega), ⟨Or.inl (show (-1 : Int) < 0 by omega), ⟨Or.inl (show (-1 : Int) < 0 by omega), ⟨Or.inl (show (-1 : Int) < 0 by omega), ⟨Or.inl (show (-1 : Int) < 0 by omega), ⟨Or.inr ⟨show (0 : Int) ≤ (L : Int) by omega, show (L : Int) ≤ 3072 by omega⟩, Or.inl (show (-1 : Int) < 0 by omega), Or.inl (show (-1 : Int) < 0 by omega), trivial⟩⟩⟩⟩⟩⟩⟩⟩⟩⟩⟩⟩⟩⟩⟩, fun r hr => by cases hr⟩
section ZL
variable {p : Program} {e : Env} {s : State} {m : MethodId} {below : List Frame} {meth : Method} {c : Code} {l : Launch} {b L : Nat} {G : Int} {ad : Nat → Nat} {D : va_G} {tys : List (ClassId × FieldType)}
noncomputable abbrev z_KL (p : Program) (l : Launch) (e : Env) (s : State) (m : MethodId) (below : List Frame) (meth : Method) (c : Code) (b L : Nat) (G : Int) (ad : Nat → Nat) (D : va_G) (tys : List (ClassId × FieldType)) (pc : Nat) (S : zS) : Prop := z_K p l e room_1 s m #[Value.ref b] below meth c (lw_Z below #[Value.ref b] s) D vwCl tys (fun q => s.heap.size ≤ q) s.heap 4 (z_r0 ad L b G) [] pc S
noncomputable abbrev z_CL (p : Program) (s : State) (m : MethodId) (meth : Method) (c : Code) (b : Nat) (ad : Nat → Nat) (D : va_G) (tys : List (ClassId × FieldType)) (ρ : List Int) : Prop := z_CX zSPd (zbs ad) p room_1 s m #[Value.ref b] meth c code 4 "WaistcoatGreenLaw" false D vwCl tys zTC zTb (fun q => s.heap.size ≤ q) s.heap 600000 7302250 (57 + 2) (some 14) ρ
theorem z_law_ok (CX : ∀ ρ : List Int, z_r0 ad L b G <+: ρ → z_CL p s m meth c b ad D tys ρ) (hTY : z_TYs vwCl zTC tys) (hr : meth.sig.returnType = ret) (hlocks : meth.locks = false) : z_KL p l e s m below meth c b L G ad D tys 0 zS0L := by
  have hH : zH (zbs ad) tys := ⟨zbs_len ad, hTY⟩
  have hcall := z_runC_ok (FU := 20000) (l := l) (D := D) (show 0 < (zbs ad).length by rw [zbs_len]; omega) (show 3 ≤ 57 by omega) (zAL (bs := zbs ad) (l := l) (D := D) (tys := tys)) hTY (zuL_ok hH) 2
  rw [zbs_len] at hcall
  have hs := fun (ρ' : List Int) (hρ' : z_r0 ad L b G <+: ρ') => z_hs (show 3 ≤ (57 + 2) by omega) (p := p) (l := l) (e := e) (below := below) (Q := lw_Z below #[Value.ref b] s) (ad0 := []) (CX ρ' hρ') zAL zTLok hcall
  have CX0 := CX _ (List.prefix_refl _)
  have hexit : ∀ z, z_ok1 zTLw z = true → z_KL p l e s m below meth c b L G ad D tys z.1 z.2 := by
    intro z h1
    obtain ⟨pc, ivs, lo, sk, hp, nc, ns⟩ := z
    unfold z_ok1 at h1
    split at h1
    · rename_i x hat
      obtain ⟨⟨b2, hb2, hxb2⟩, he2⟩ := z_at_ok hat
      obtain ⟨hd, hlk⟩ := zTLok b2 hb2 x hxb2
      rw [he2] at hd
      split at h1
      · rename_i ei es0
        have es0 : sk = [(0, 0, Int.ofNat 1)] := es0
        subst es0
        rw [ei] at hlk hd
        have hln : x.2.2.1 = 1 := z_beq hlk
        rw [hln] at hd
        have g1 := Nat.le_of_ble_eq_true (z_and h1).1
        have g2 := Nat.le_of_ble_eq_true (z_and h1).2
        intro ρ ws lv st H locs ls hg
        obtain ⟨v1, st1, rfl, hv1, hs1⟩ := hg.xsk.c1
        have hs1 : st1 = [] := by
          cases st1 with
          | nil => rfl
          | cons _ _ => exact hs1.elim
        subst hs1
        obtain ⟨i, rfl, hi⟩ := hv1
        have ei1 : i.toInt = 1 := z_v.const hg.zero hi
        have ei2 : i = 1 := Int32.toInt_inj.mp (by rw [ei1]; rfl)
        subst ei2
        refine va_forget (fun q hq => hg.xS.2.2 q hq) ?_
        refine W.widen g1 g2 ?_
        exact lw_ret CX0.1.1 CX0.1.2.1 hr hlocks hd
      · cases h1
    · cases h1
  have hcuts := z_cuts_okS (p := p) (l := l) (e := e) (below := below) (ad0 := []) hs (z_r0_len ad L b G) (by omega) hexit zLcP
  have hst := zLs_ok
  unfold zLs at hst
  split at hst
  · rename_i ex er
    refine (z_runS_ok (hs _ (List.prefix_refl _)) 20000 _ [] ex er).2 (fun z hz => ?_) (0, zS0L) List.mem_cons_self
    have g := List.all_eq_true.mp hst z hz
    have g1 := z_beq (z_and g).1
    obtain ⟨σ, eσ⟩ := Option.isSome_iff_exists.mp (z_and g).2
    intro ρ' ws' lv' st' H' locs' ls' hg
    have hn : 17 ≤ ρ'.length := by
      have := hg.1.1.length_le
      rw [z_r0_len] at this
      omega
    obtain ⟨⟨lv2, hgP⟩, c1, c2, -⟩ := z_mS_ok hg (by rw [z_r0_len]; exact Nat.le_refl _) hn (by omega) eσ
    have hW := hcuts (18, zPL, [(3073, 17)]) List.mem_cons_self _ ws' lv2 st' H' locs' ls' hgP
    rw [g1]
    exact W.widen c1 c2 hW
  · cases hst
end ZL
set_option maxHeartbeats 4000000 in
/-- from the entry, for every script of at most 3072 ints, the law comes to its end with true -/
theorem whole_start {p : Program} {e : Env} {s : State} {m : MethodId} {below : List Frame} {meth : Method} {c : Code} (l : Launch) {b L : Nat} {xs : Nat → Int32} (hL : L ≤ 3072) (C0 : lw_At p s m meth c b L xs) : W p l e room_1 s m #[Value.ref b] below meth c s.heap [] 0 0 (lw_Z below #[Value.ref b] s) (entryFrame m ([Value.ref b] : List Value).toArray 4) := by
  obtain ⟨hx, hb, hr, hml, hown, hts, hX, hbl, hlocks, hgv⟩ := C0
  have hts' : ∀ w ∈ zTb, w.before #[Value.ref b] s = true := fun w hw => hts w (List.mem_filter.mp hw).1
  obtain ⟨D, tys, hK, hTY⟩ := z_world hts'
  obtain ⟨ad, hSF⟩ := z_SF0 (A := fun q => s.heap.size ≤ q) hgv hts (fun a h => by omega)
  obtain ⟨G, hG⟩ := z_dg_ex L (fun j => (xs j).toInt) (fun j _ => z_rng (xs j))
  have CX : ∀ ρ : List Int, z_r0 ad L b G <+: ρ → z_CL p s m meth c b ad D tys ρ := fun ρ hρ => ⟨⟨hx, hb, hml, hown, hts'⟩, (fun h => by cases h), hK, fun q h => h, hTY, ⟨Nat.le_refl _, Nat.le_refl _, by decide, by decide⟩, ⟨b, L, xs, z_pre hρ rfl, z_pre hρ rfl, hX, hbl, by omega, by omega, G, z_pre hρ rfl, hG⟩, ⟨(List.prefix_append _ _).trans hρ, hSF, rfl⟩⟩
  have main : z_KL p l e s m below meth c b L G ad D tys 0 zS0L := z_law_ok CX hTY hr hlocks
  have hl := lv_entry ([.ref b]) (n := 4) (Nat.le_of_ble_eq_true rfl)
  rw [lg_entry_eq]
  generalize (lg_sl ([.ref b]) ++ List.replicate (4 - (lg_sl ([.ref b])).length) Slot.unset).toArray = ls at hl ⊢
  exact main (z_r0 ad L b G) [] (lv_args 0 [.ref b]) [] s.heap [] ls ⟨⟨List.prefix_refl _, List.prefix_refl _, rfl⟩, z_r0_iv ad hL, ⟨⟨rfl, b, rfl, rfl⟩, trivial⟩, trivial, trivial, z_nil_P, z_nil_D, va_S.rf, hl⟩
set_option maxHeartbeats 4000000 in
theorem lw_walk (l : Launch) (b : Addr) (xs : List Int32) : MetFree l x (headSpec (Jvm.Cond.code x code maxLocals ret :: tables_1) room_1) (lw_P b xs) (fun _ _ _ _ _ => True) lw_Q := by
  refine MetFree.of_bodyS (code := code) (maxLocals := maxLocals) (ret := ret) (by decide) ?_ ?_
  · intro args s m h hn
    obtain ⟨meth, c, h1, h2, h3, h4, h5, h6, -, -⟩ := Cond.code_spec hn (atoms_spec (ws := Jvm.Cond.code x code maxLocals ret :: tables_1) h _ List.mem_cons_self)
    exact ⟨meth, c, h1, h2, h3, h4, h5, h6⟩
  · intro p e s m args below meth c s₁ B hml0 hP _
    obtain ⟨rfl, hx, hbd, hgv⟩ := hP
    obtain ⟨scr, harrAt, hlist, hof, hsmall⟩ := hx
    obtain ⟨hcb, hkn, -, -⟩ := State.arrayAt?_spec harrAt
    have hown : s.vm.findClass R_law = some m.cls := findClass_of_methodNamed B.named
    have hts0 : ∀ c ∈ (Jvm.Cond.code x code maxLocals ret :: tables_1), c.before #[Value.ref b] s = true := atoms_spec (ws := Jvm.Cond.code x code maxLocals ret :: tables_1) B.pre
    have hts : ∀ w ∈ lw_tbl, w.before #[Value.ref b] s = true := k2_hts_sels lw_privs (fun w hw => hts0 w (List.mem_cons_of_mem _ hw)) lw_privs_ok
    have hml : c.maxLocals = 4 := B.maxLocals_eq (hts0 _ List.mem_cons_self)
    have X₀ : Stand p l e room_1 s m #[Value.ref b] below meth c s₁ [] 0 0 := Stand.of_body B
    have hh0 : s₁.heap = s.heap := by rw [B.state]; rfl
    have hsz : scr.slots.size = xs.length := by rw [← Array.length_toList, hlist, List.length_map]
    have hval : ∀ j : Nat, j < xs.length → scr.slots[j]? = some (.int (xs.getD j 0)) := fun j hj => by
      rw [← Array.getElem?_toList, hlist]
      simp [hj]
    have hbl : b < s.heap.size := (Array.getElem?_eq_some_iff.mp hcb).1
    have hX : va_X b xs.length (fun j => xs.getD j 0) s s.heap := ⟨scr, hcb, hof, hkn, hsz, hval⟩
    have K : W p l e room_1 s m #[Value.ref b] below meth c s₁.heap [] 0 0 (lw_Z below #[Value.ref b] s) (entryFrame m ([Value.ref b] : List Value).toArray 4) := by
      rw [hh0]
      exact whole_start l hbd ⟨B.exec, B.bytes, B.returns, hml, hown, hts, hX, hbl, B.notSynchronized, hgv⟩
    obtain ⟨t, a1, o, b1, b2, b3⟩ := K s₁ rfl X₀
    exact ⟨t, o, a1, b1, b2, b3⟩
theorem lw_pre_spec {args : Array Value} {s : State} (h : (Jvm.Cond.and given_1 narrow_1).before args s = true) (hr : rest_1_c.before args s = true) : ∃ (b : Addr) (xs : List Int32), lw_P b xs args s := by
  have hs := flat_of_before _ h
  have hq := flat_of_before _ hr
  have hc : (Cond.count 1).before args s = true := hs _ (by decide +kernel)
  have harr : (Cond.arrayOf (.arg 0) .int).before args s = true := hs _ (by decide +kernel)
  have hle : (Cond.le (.length (.arg 0)) (.int 3072)).before args s = true := hs _ (by decide +kernel)
  have hlen : (Cond.isInt (.length (.arg 0))).before args s = true := hq _ (by decide +kernel)
  have hall : (Cond.all (.arg 0) (.isInt (.elem (.arg 0) (.index 0)))).before args s = true := hq _ (by decide +kernel)
  obtain ⟨b, xs, hb, hx⟩ := State.ints_of_pre rfl harr hlen hall
  have hsm : xs.length < 2 ^ 31 := hx.choose_spec.2.2.2
  have hev : (Term.length (.arg 0)).eval args s none [] s = some (.int xs.length.toInt32) := hx.length_eval hb
  have hv := Cond.le_ints hev (show (Term.int 3072).eval args s none [] s = some (.int 3072) from rfl)
  have hd : xs.length.toInt32 ≤ 3072 := by
    simpa [Cond.before, Cond.holds, hv] using hle
  have hN : xs.length ≤ 3072 := (Int32.ofNat_le_ofNat hsm (by decide)).mp (show Int32.ofNat xs.length ≤ Int32.ofNat 3072 from hd)
  exact ⟨b, xs, Cond.one_arg hc (show args[0]? = some (.ref b) from hb), hx, hN, h⟩
theorem lw_comes (l : Launch) : Comes l x (Jvm.Cond.code x code maxLocals ret :: tables_1) room_1 (fun tb e args s => Calls_1 tb e args s ∧ rest_1 tb e args s ∧ Pre_1 tb e args s)
    (fun _ _ args s o t => lw_Q args s o t) := by
  intro p e ha hc hk s m args below hf hfit hheap happ hpre
  obtain ⟨b, xs, hP⟩ := lw_pre_spec hpre.2.2 hpre.2.1
  obtain ⟨k, o, h1, h2, h3, hQ⟩ := lw_walk l b xs p e ha hc hk s m args below hf ((Spec.applies_iff_loose hf).mp happ).1 hP trivial
  exact ⟨k, o, h1, h2, h3, hQ⟩
theorem lw_frame {s t : State} {o : Outcome} {args : Array Value} (h : Framed s o t [] 600000 7302250) :
    Framed s o t (fieldLocs frame_1_writes args s ++ arrayLocs frame_1_arrays args s ++ staticLocs frame_1_statics s) 600000 7302250 := h
theorem lw_limb (L : Cond) (hL : ∀ (args : Array Value) (s t : State), L.after args s (.returned (some (.int 1))) t = true) :
    ArmFor flags0 classFile x code maxLocals ret World_1 tables_1 room_1 Calls_1 rest_1 Pre_1
      (fun tb e a s o t => postC L tb e a s o t ∧ Framed s o t (fieldLocs frame_1_writes a s ++ arrayLocs frame_1_arrays a s ++ staticLocs frame_1_statics s) 600000 7302250) := by
  intro l _ _ _ p e ha hc hk s m args below hf hfit hheap happ hpre
  obtain ⟨k, o, h1, h2, h3, rfl, hF⟩ := lw_comes l p e ha hc hk s m args below hf hfit hheap happ hpre
  exact ⟨k, _, h1, h2, h3, hL args s _, lw_frame hF⟩
theorem i_vc : Claimed_1_1 ∧ Claimed_1_2 := ⟨lw_limb limb_1_1 (fun args s t => by simp [limb_1_1, Cond.after, Cond.holds, Cond.value]), lw_limb limb_1_2 (fun args s t => Cond.after_iff.mpr (by
  first | (rw [show limb_1_2 = Cond.eq .result (.int 1) from rfl, Cond.eq_ints (x := 1) (y := 1) rfl rfl]; simp; done) | (simp [limb_1_2, Cond.value, Term.eval]; done)))⟩
