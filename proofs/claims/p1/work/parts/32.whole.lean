/-! THE CLAIM OUT OF ONE WALK OF THE LAW'S BODY. Your part is whole_start (and what it stands on); all else here is the same for every law, but numbers. -/
def R_law : String := "WaistcoatGreenLaw"
def lw_P (b : Addr) (xs : List Int32) (args : Array Value) (s : State) : Prop := args = #[.ref b] ∧ s.IntsAt b xs ∧ xs.length ≤ 6 ∧ (Jvm.Cond.and given_1 narrow_1).before args s = true
def lw_Q (_ : Array Value) (s : State) (o : Outcome) (t : State) : Prop := o = .returned (some (.int 1)) ∧ Framed s o t [] 600000 7302250
def lw_Z (below : List Frame) (a : Array Value) (s : State) : State → Prop := fun t => ∃ o, t.status = .running ∧ Ended t below o ∧ lw_Q a s o t
/-- the law's own end, with 1 on the stack, nothing written that was there before, its room as the claim has it -/
theorem lw_ret {p : Program} {l : Launch} {e : Env} {s : State} {m : MethodId} {below : List Frame} {meth : Method} {c : Code} {b : Nat} (hx : p.tables.exec = Jvm.exec) (hb : c.code = code) (hr : meth.sig.returnType = ret) (hlocks : meth.locks = false) {pc : Nat} {H : Heap} {ls : Array Slot} (hdg : decode code pc = .ok (.ireturn, 1)) : W p l e room_1 s m #[Value.ref b] below meth c H [] 600000 7302250 (lw_Z below #[Value.ref b] s) (F0 m pc ls [.int 1]) := by
  intro T hT X
  obtain ⟨fs, hret, hrun, hended, hW, hframe⟩ := X.leave (v := some (.int 1)) (hlocks := hlocks) (fun h => by rw [hr] at h; cases h)
  have hmeth' : T.vm.method? m = some meth := X.method'
  refine ⟨T.setFrames fs, ?_, .returned (some (.int 1)), hrun, hended, rfl, ⟨_, rfl⟩, hW, hframe⟩
  jvm_step X.here [X.here.top, hx, hb, hdg, hmeth', hr, ret, narrow_b1]
  (try refine ⟨rfl, ?_⟩); (try refine ⟨rfl, ?_⟩)
  first | (intro acts; rw [hret _ acts rfl rfl rfl]) | rw [hret _ _ rfl rfl rfl]
  exact Steps.refl _
/-- what holds at the law's entry: the machine, the code, the tables' words (any of lw_tbl by 'hts w (by decide +kernel)'), the script of L ints xs at the cell b, what the Statement gives of the start (any of its parts by flat_of_before) -/
def lw_At (p : Program) (s : State) (m : MethodId) (meth : Method) (c : Code) (b L : Nat) (xs : Nat → Int32) : Prop :=
  p.tables.exec = Jvm.exec ∧ c.code = code ∧ meth.sig.returnType = ret ∧ c.maxLocals = 4 ∧ s.vm.findClass R_law = some m.cls ∧ (∀ w ∈ lw_tbl, w.before #[Value.ref b] s = true) ∧ va_X b L xs s s.heap ∧ b < s.heap.size ∧ meth.locks = false ∧ (Jvm.Cond.and given_1 narrow_1).before #[Value.ref b] s = true
/-! ===== the law's run gives its end ===== -/
theorem z_F.rep {α β : Type} {R : α → β → Prop} {a : α} : ∀ (l : List β), (∀ z ∈ l, R a z) → z_F R (List.replicate l.length a) l
  | [], _ => trivial
  | x :: l, h => ⟨h x List.mem_cons_self, z_F.rep l (fun z hz => h z (List.mem_cons_of_mem _ hz))⟩
def z_r0 (L b : Nat) (xs : Nat → Int32) : List Int := 0 :: ((List.range L).map (fun j => (xs j).toInt) ++ (List.replicate (6 - L) 0 ++ [(b : Int)]))
theorem z_r0_iv (L b : Nat) (xs : Nat → Int32) : z_iv (zS0 L).1 (z_r0 L b xs) := by
  refine ⟨Or.inr ⟨Int.le_refl _, Int.le_refl _⟩, z_F.app (z_F.app (l2 := [(0, -1)]) (k2 := [(b : Int)]) ⟨Or.inl (show (-1 : Int) < 0 by omega), trivial⟩ ?_) ?_⟩
  · have h := z_F.rep (R := fun (b : zI) (z : Int) => b.2 < b.1 ∨ (b.1 ≤ z ∧ z ≤ b.2)) (a := (0, 0)) (List.replicate (6 - L) (0 : Int)) (fun z hz => by
      have e := List.eq_of_mem_replicate hz
      subst e
      exact Or.inr ⟨Int.le_refl _, Int.le_refl _⟩)
    rw [List.length_replicate] at h
    exact h
  · have h := z_F.rep (R := fun (b : zI) (z : Int) => b.2 < b.1 ∨ (b.1 ≤ z ∧ z ≤ b.2)) (a := (-2147483648, 2147483647)) ((List.range L).map (fun j => (xs j).toInt)) (fun z hz => by
      obtain ⟨j, -, rfl⟩ := List.mem_map.mp hz
      exact Or.inr (z_rng (xs j)))
    rw [List.length_map, List.length_range] at h
    exact h
theorem z_r0_7 {L b : Nat} {xs : Nat → Int32} (hL : L ≤ 6) : (z_r0 L b xs)[7]? = some (b : Int) := by
  rcases (show L = 0 ∨ L = 1 ∨ L = 2 ∨ L = 3 ∨ L = 4 ∨ L = 5 ∨ L = 6 by omega) with rfl | rfl | rfl | rfl | rfl | rfl | rfl <;> rfl
theorem z_r0_j {L b : Nat} {xs : Nat → Int32} {j : Nat} (hj : j < L) : (z_r0 L b xs)[j + 1]? = some (xs j).toInt := by
  show ((List.range L).map (fun j => (xs j).toInt) ++ _)[j]? = _
  rw [List.getElem?_append_left (by rw [List.length_map, List.length_range]; exact hj), List.getElem?_map, List.getElem?_range hj]
  rfl
section ZL
variable {p : Program} {e : Env} {s : State} {m : MethodId} {below : List Frame} {meth : Method} {c : Code} {l : Launch} {b L : Nat} {xs : Nat → Int32} {D : va_G} {tys : List (ClassId × FieldType)}
abbrev z_KL (p : Program) (l : Launch) (e : Env) (s : State) (m : MethodId) (below : List Frame) (meth : Method) (c : Code) (b L : Nat) (xs : Nat → Int32) (D : va_G) (tys : List (ClassId × FieldType)) (pc : Nat) (S : zS) : Prop := z_K p l e room_1 s m #[Value.ref b] below meth c (lw_Z below #[Value.ref b] s) D vwCl tys (fun q => s.heap.size ≤ q) s.heap 4 (z_r0 L b xs) [] pc S
abbrev z_CL (p : Program) (s : State) (m : MethodId) (meth : Method) (c : Code) (b L : Nat) (xs : Nat → Int32) (D : va_G) (tys : List (ClassId × FieldType)) : Prop := z_CX p room_1 s m #[Value.ref b] meth c code 4 "WaistcoatGreenLaw" false D vwCl tys zTC zTb (fun q => s.heap.size ≤ q) s.heap 600000 7302250 6 (some L) (z_r0 L b xs)
theorem z_law_ok (CX : z_CL p s m meth c b L xs D tys) (hr : meth.sig.returnType = ret) (hlocks : meth.locks = false) {w : List (Nat × zS)} (h : zLw L w = true) : ∀ z ∈ w, z_KL p l e s m below meth c b L xs D tys z.1 z.2 := by
  have h : (match z_run zD (z_runM zD zDF zTC 20000 6) 600000 7302250 4 (some L) zDF zTC zTL 20000 w [] with
    | some ex => ex.all (z_ok1 zTL)
    | none => false) = true := h
  split at h
  · rename_i ex er
    refine z_frame (p := p) (l := l) (e := e) (below := below) CX zAL zTLok (z_runM_ok zAL CX.2.2.2.2.1 6) 20000 w [] ex er (fun z hz => ?_)
    have h1 := List.all_eq_true.mp h z hz
    obtain ⟨pc, ivs, lo, sk, hp, nc, ns⟩ := z
    unfold z_ok1 at h1
    split at h1
    · rename_i x hat
      obtain ⟨⟨b2, hb2, hxb2⟩, he2⟩ := z_at_ok hat
      obtain ⟨hd, hlk⟩ := zTLok b2 hb2 x hxb2
      rw [he2] at hd
      split at h1
      · rename_i ei es0
        have es0 : sk = [(0, 0, Int.ofNat 1)] := es0
        subst es0
        rw [ei] at hlk hd
        have hln : x.2.2.1 = 1 := z_beq hlk
        rw [hln] at hd
        have g1 := Nat.le_of_ble_eq_true (z_and h1).1
        have g2 := Nat.le_of_ble_eq_true (z_and h1).2
        intro ρ ws lv st H locs ls hg
        obtain ⟨v1, st1, rfl, hv1, hs1⟩ := hg.xsk.c1
        have hs1 : st1 = [] := by
          cases st1 with
          | nil => rfl
          | cons _ _ => exact hs1.elim
        subst hs1
        obtain ⟨i, rfl, hi⟩ := hv1
        have ei1 : i.toInt = 1 := z_v.const hg.zero hi
        have ei2 : i = 1 := Int32.toInt_inj.mp (by rw [ei1]; rfl)
        subst ei2
        refine va_forget (fun q hq => hg.xS.2.2 q hq) ?_
        refine W.widen g1 g2 ?_
        exact lw_ret CX.1.1 CX.1.2.1 hr hlocks hd
      · cases h1
    · cases h1
  · cases h
theorem z_six (CX : z_CL p s m meth c b 6 xs D tys) (hr : meth.sig.returnType = ret) (hlocks : meth.locks = false) : z_KL p l e s m below meth c b 6 xs D tys 0 (zS0 6) := by
  have hs := z_hs (p := p) (l := l) (e := e) (below := below) (Q := lw_Z below #[Value.ref b] s) (ad0 := []) CX zAL zTLok (z_runM_ok (FU := 20000) zAL CX.2.2.2.2.1 6)
  have hx2 : ∃ w, (z_r0 6 b xs)[2]? = some w ∧ (-2147483648 : Int) ≤ w ∧ w ≤ 2147483647 := ⟨_, z_r0_j (j := 1) (by omega), (z_rng (xs 1)).1, (z_rng (xs 1)).2⟩
  refine z_wl_ok hs 21 [(0, zS0 6)] [(33, zS1)] (z_eqO_ok zc1) (fun z hz => ?_) (0, zS0 6) List.mem_cons_self
  have ez := List.mem_singleton.mp hz
  subst ez
  have hq : zWl 6 1 [(33, zS1)] = some zq := by
    have hl := zk_len
    unfold zq at hl ⊢
    cases hw : zWl 6 1 [(33, zS1)] with
    | none =>
      rw [hw] at hl
      cases hl
    | some q => rfl
  refine z_wl_ok hs 1 [(33, zS1)] zq hq (fun z hz => ?_) (33, zS1) List.mem_cons_self
  obtain ⟨i, hi⟩ := List.getElem?_of_mem hz
  have hlt := (List.getElem?_eq_some_iff.mp hi).1
  rw [zk_len] at hlt
  have one : zqi i = true → z_KL p l e s m below meth c b 6 xs D tys z.1 z.2 := fun h => by
    unfold zqi at h
    rw [hi] at h
    exact z_law_ok CX hr hlocks h z List.mem_cons_self
  have cut : ∀ cs : List Int, (∀ j, j < cs.length + 1 → zqj i cs j = true) → z_KL p l e s m below meth c b 6 xs D tys z.1 z.2 := fun cs h => by
    refine z_pt_ok (cs := cs) hx2 (fun y hy => ?_)
    obtain ⟨j, hj⟩ := List.getElem?_of_mem hy
    have hjl := (List.getElem?_eq_some_iff.mp hj).1
    have hlen : ∀ (cs : List Int) (l0 : Int), (z_parts z.2.1 2 2147483647 l0 cs).length = cs.length + 1 := by
      intro cs
      induction cs with
      | nil => intro l0; rfl
      | cons c cs ih => intro l0; show (z_parts z.2.1 2 2147483647 (c + 1) cs).length + 1 = _; rw [ih]; rfl
    have h1 := h j (by
      have : (z_pt 2 (-2147483648) 2147483647 cs z).length = cs.length + 1 := by
        unfold z_pt
        rw [List.length_map]
        exact hlen cs _
      omega)
    unfold zqj zqp at h1
    rw [hi] at h1
    dsimp only at h1
    rw [hj] at h1
    exact z_law_ok CX hr hlocks h1 y List.mem_cons_self
  rcases Nat.lt_or_ge i 2 with h | h
  · exact one (z_rng_all zk_0 (by omega) (by omega))
  rcases Nat.lt_or_ge i 3 with h | h
  · have e : i = 2 := by omega
    subst e
    exact one zk_2
  rcases Nat.lt_or_ge i 47 with h | h
  · exact one (z_rng_all zk_3 (by omega) (by omega))
  rcases Nat.lt_or_ge i 69 with h | h
  · exact one (z_rng_all zk_47 (by omega) (by omega))
  rcases Nat.lt_or_ge i 70 with h | h
  · have e : i = 69 := by omega
    subst e
    refine cut [-1, 0, 1, 2] (fun j hj => ?_)
    have hj : j < 5 := hj
    rcases Nat.lt_or_ge j 2 with h | h
    · exact z_rng_all zk_69_0 (by omega) (by omega)
    rcases Nat.lt_or_ge j 3 with h | h
    · have e : j = 2 := by omega
      subst e
      exact zk_69_2
    exact z_rng_all zk_69_3 (by omega) (by omega)
  rcases Nat.lt_or_ge i 71 with h | h
  · have e : i = 70 := by omega
    subst e
    exact one zk_70
  rcases Nat.lt_or_ge i 72 with h | h
  · have e : i = 71 := by omega
    subst e
    refine cut [-1, 0, 1, 2, 3] (fun j hj => ?_)
    have hj : j < 6 := hj
    rcases Nat.lt_or_ge j 2 with h | h
    · exact z_rng_all zk_71_0 (by omega) (by omega)
    rcases Nat.lt_or_ge j 3 with h | h
    · have e : j = 2 := by omega
      subst e
      exact zk_71_2
    rcases Nat.lt_or_ge j 4 with h | h
    · have e : j = 3 := by omega
      subst e
      exact zk_71_3
    exact z_rng_all zk_71_4 (by omega) (by omega)
  exact one (z_rng_all zk_72 (by omega) (by omega))
end ZL
set_option maxHeartbeats 4000000 in
/-- from the entry, for every script of at most 6 ints, the law comes to its end with true -/
theorem whole_start {p : Program} {e : Env} {s : State} {m : MethodId} {below : List Frame} {meth : Method} {c : Code} (l : Launch) {b L : Nat} {xs : Nat → Int32} (hL : L ≤ 6) (C0 : lw_At p s m meth c b L xs) : W p l e room_1 s m #[Value.ref b] below meth c s.heap [] 0 0 (lw_Z below #[Value.ref b] s) (entryFrame m ([Value.ref b] : List Value).toArray 4) := by
  obtain ⟨hx, hb, hr, hml, hown, hts, hX, hbl, hlocks, hgv⟩ := C0
  have hts' : ∀ w ∈ zTb, w.before #[Value.ref b] s = true := fun w hw => hts w (List.mem_filter.mp hw).1
  obtain ⟨D, tys, hK, hTY⟩ := z_world hts'
  have CX : z_CL p s m meth c b L xs D tys := ⟨⟨hx, hb, hml, hown, hts'⟩, (fun h => by cases h), hK, fun q h => h, hTY, ⟨Nat.le_refl _, Nat.le_refl _, by decide, by decide⟩, b, xs, z_r0_7 hL, hX, hbl, by omega, fun j hj => z_r0_j hj⟩
  have main : z_KL p l e s m below meth c b L xs D tys 0 (zS0 L) := by
    rcases (show L = 0 ∨ L = 1 ∨ L = 2 ∨ L = 3 ∨ L = 4 ∨ L = 5 ∨ L = 6 by omega) with rfl | rfl | rfl | rfl | rfl | rfl | rfl
    · exact z_law_ok CX hr hlocks zs_0 _ List.mem_cons_self
    · exact z_law_ok CX hr hlocks zs_1 _ List.mem_cons_self
    · exact z_law_ok CX hr hlocks zs_2 _ List.mem_cons_self
    · exact z_law_ok CX hr hlocks zs_3 _ List.mem_cons_self
    · exact z_law_ok CX hr hlocks zs_4 _ List.mem_cons_self
    · exact z_law_ok CX hr hlocks zs_5 _ List.mem_cons_self
    · exact z_six CX hr hlocks
  have hl := lv_entry ([.ref b]) (n := 4) (Nat.le_of_ble_eq_true rfl)
  rw [lg_entry_eq]
  generalize (lg_sl ([.ref b]) ++ List.replicate (4 - (lg_sl ([.ref b])).length) Slot.unset).toArray = ls at hl ⊢
  exact main (z_r0 L b xs) [] (lv_args 0 [.ref b]) [] s.heap [] ls ⟨⟨List.prefix_refl _, List.prefix_refl _, rfl⟩, z_r0_iv L b xs, ⟨⟨rfl, b, z_r0_7 hL, rfl⟩, trivial⟩, trivial, trivial, (fun k q h => by cases h), ⟨(fun i j p q h => by cases h), (fun k q h => by cases h)⟩, va_S.rf, hl⟩
set_option maxHeartbeats 4000000 in
theorem lw_walk (l : Launch) (b : Addr) (xs : List Int32) : MetFree l x (headSpec (Jvm.Cond.code x code maxLocals ret :: tables_1) room_1) (lw_P b xs) (fun _ _ _ _ _ => True) lw_Q := by
  refine MetFree.of_bodyS (code := code) (maxLocals := maxLocals) (ret := ret) (by decide) ?_ ?_
  · intro args s m h hn
    obtain ⟨meth, c, h1, h2, h3, h4, h5, h6, -, -⟩ := Cond.code_spec hn (atoms_spec (ws := Jvm.Cond.code x code maxLocals ret :: tables_1) h _ List.mem_cons_self)
    exact ⟨meth, c, h1, h2, h3, h4, h5, h6⟩
  · intro p e s m args below meth c s₁ B hml0 hP _
    obtain ⟨rfl, hx, hbd, hgv⟩ := hP
    obtain ⟨scr, harrAt, hlist, hof, hsmall⟩ := hx
    obtain ⟨hcb, hkn, -, -⟩ := State.arrayAt?_spec harrAt
    have hown : s.vm.findClass R_law = some m.cls := findClass_of_methodNamed B.named
    have hts0 : ∀ c ∈ (Jvm.Cond.code x code maxLocals ret :: tables_1), c.before #[Value.ref b] s = true := atoms_spec (ws := Jvm.Cond.code x code maxLocals ret :: tables_1) B.pre
    have hts : ∀ w ∈ lw_tbl, w.before #[Value.ref b] s = true := k2_hts_sels lw_privs (fun w hw => hts0 w (List.mem_cons_of_mem _ hw)) lw_privs_ok
    have hml : c.maxLocals = 4 := B.maxLocals_eq (hts0 _ List.mem_cons_self)
    have X₀ : Stand p l e room_1 s m #[Value.ref b] below meth c s₁ [] 0 0 := Stand.of_body B
    have hh0 : s₁.heap = s.heap := by rw [B.state]; rfl
    have hsz : scr.slots.size = xs.length := by rw [← Array.length_toList, hlist, List.length_map]
    have hval : ∀ j : Nat, j < xs.length → scr.slots[j]? = some (.int (xs.getD j 0)) := fun j hj => by
      rw [← Array.getElem?_toList, hlist]
      simp [hj]
    have hbl : b < s.heap.size := (Array.getElem?_eq_some_iff.mp hcb).1
    have hX : va_X b xs.length (fun j => xs.getD j 0) s s.heap := ⟨scr, hcb, hof, hkn, hsz, hval⟩
    have K : W p l e room_1 s m #[Value.ref b] below meth c s₁.heap [] 0 0 (lw_Z below #[Value.ref b] s) (entryFrame m ([Value.ref b] : List Value).toArray 4) := by
      rw [hh0]
      exact whole_start l hbd ⟨B.exec, B.bytes, B.returns, hml, hown, hts, hX, hbl, B.notSynchronized, hgv⟩
    obtain ⟨t, a1, o, b1, b2, b3⟩ := K s₁ rfl X₀
    exact ⟨t, o, a1, b1, b2, b3⟩
theorem lw_pre_spec {args : Array Value} {s : State} (h : (Jvm.Cond.and given_1 narrow_1).before args s = true) (hr : rest_1_c.before args s = true) : ∃ (b : Addr) (xs : List Int32), lw_P b xs args s := by
  have hs := flat_of_before _ h
  have hq := flat_of_before _ hr
  have hc : (Cond.count 1).before args s = true := hs _ (by decide +kernel)
  have harr : (Cond.arrayOf (.arg 0) .int).before args s = true := hs _ (by decide +kernel)
  have hle : (Cond.le (.length (.arg 0)) (.int 6)).before args s = true := hs _ (by decide +kernel)
  have hlen : (Cond.isInt (.length (.arg 0))).before args s = true := hq _ (by decide +kernel)
  have hall : (Cond.all (.arg 0) (.isInt (.elem (.arg 0) (.index 0)))).before args s = true := hq _ (by decide +kernel)
  obtain ⟨b, xs, hb, hx⟩ := State.ints_of_pre rfl harr hlen hall
  have hsm : xs.length < 2 ^ 31 := hx.choose_spec.2.2.2
  have hev : (Term.length (.arg 0)).eval args s none [] s = some (.int xs.length.toInt32) := hx.length_eval hb
  have hv := Cond.le_ints hev (show (Term.int 6).eval args s none [] s = some (.int 6) from rfl)
  have hd : xs.length.toInt32 ≤ 6 := by
    simpa [Cond.before, Cond.holds, hv] using hle
  have hN : xs.length ≤ 6 := (Int32.ofNat_le_ofNat hsm (by decide)).mp (show Int32.ofNat xs.length ≤ Int32.ofNat 6 from hd)
  exact ⟨b, xs, Cond.one_arg hc (show args[0]? = some (.ref b) from hb), hx, hN, h⟩
theorem lw_comes (l : Launch) : Comes l x (Jvm.Cond.code x code maxLocals ret :: tables_1) room_1 (fun tb e args s => Calls_1 tb e args s ∧ rest_1 tb e args s ∧ Pre_1 tb e args s)
    (fun _ _ args s o t => lw_Q args s o t) := by
  intro p e ha hc hk s m args below hf hfit hheap happ hpre
  obtain ⟨b, xs, hP⟩ := lw_pre_spec hpre.2.2 hpre.2.1
  obtain ⟨k, o, h1, h2, h3, hQ⟩ := lw_walk l b xs p e ha hc hk s m args below hf ((Spec.applies_iff_loose hf).mp happ).1 hP trivial
  exact ⟨k, o, h1, h2, h3, hQ⟩
theorem lw_frame {s t : State} {o : Outcome} {args : Array Value} (h : Framed s o t [] 600000 7302250) :
    Framed s o t (fieldLocs frame_1_writes args s ++ arrayLocs frame_1_arrays args s ++ staticLocs frame_1_statics s) 600000 7302250 := h
theorem lw_limb (L : Cond) (hL : ∀ (args : Array Value) (s t : State), L.after args s (.returned (some (.int 1))) t = true) :
    ArmFor flags0 classFile x code maxLocals ret World_1 tables_1 room_1 Calls_1 rest_1 Pre_1
      (fun tb e a s o t => postC L tb e a s o t ∧ Framed s o t (fieldLocs frame_1_writes a s ++ arrayLocs frame_1_arrays a s ++ staticLocs frame_1_statics s) 600000 7302250) := by
  intro l _ _ _ p e ha hc hk s m args below hf hfit hheap happ hpre
  obtain ⟨k, o, h1, h2, h3, rfl, hF⟩ := lw_comes l p e ha hc hk s m args below hf hfit hheap happ hpre
  exact ⟨k, _, h1, h2, h3, hL args s _, lw_frame hF⟩
theorem i_vc : Claimed_1_1 ∧ Claimed_1_2 := ⟨lw_limb limb_1_1 (fun args s t => by simp [limb_1_1, Cond.after, Cond.holds, Cond.value]), lw_limb limb_1_2 (fun args s t => Cond.after_iff.mpr (by
  first | (rw [show limb_1_2 = Cond.eq .result (.int 1) from rfl, Cond.eq_ints (x := 1) (y := 1) rfl rfl]; simp; done) | (simp [limb_1_2, Cond.value, Term.eval]; done)))⟩
