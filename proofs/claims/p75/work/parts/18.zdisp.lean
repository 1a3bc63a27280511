/-! ===== every instruction but calls ===== -/
section ZU
variable {p : Program} {l : Launch} {e : Env} {R : Room} {s : State} {m : MethodId} {args : Array Value} {below : List Frame} {meth : Method} {c : Code} {Q : State → Prop} {D : va_G} {cl : List vw_C} {tys : List (ClassId × FieldType)} {A : Nat → Prop} {H0 : Heap} {nL : Nat} {ρ0 : List Int} {ad0 : List Nat}
variable {cc : ByteArray} {pc : Nat} {ivs : zJ} {lo : List (Nat × zV)} {sk : List zV} {hp : List zC} {nc ns : Nat} {q : List (Nat × zS)}
theorem z_lda_ok {i n : Nat} (row : ∀ (H : Heap) (locs : List Loc) (ls : Array Slot) (rest : List Value) (a : Nat), ls[i]? = some (.val (.ref a)) → W p l e R s m args below meth c H locs nc ns Q (F0 m n ls (.ref a :: rest)) → W p l e R s m args below meth c H locs nc ns Q (F0 m pc ls rest))
    (h : z_lda i n ivs lo sk hp nc ns = some q) (kk : ∀ z ∈ q, z_K p l e R s m args below meth c Q D cl tys A H0 nL ρ0 ad0 z.1 z.2) : z_K p l e R s m args below meth c Q D cl tys A H0 nL ρ0 ad0 pc (ivs, lo, sk, hp, nc, ns) := by
  unfold z_lda at h
  split at h
  · rename_i q' h'
    cases h
    refine zs_ld (t := 2) (i := i) (n := n) (fun H locs ls rest v hv hl k => ?_) h' kk
    obtain ⟨a, rfl⟩ := z_ref2 hv
    exact row H locs ls rest a hl k
  · refine zs_ld (t := 4) (i := i) (n := n) (fun H locs ls rest v hv hl k => ?_) h kk
    obtain ⟨a, rfl⟩ := z_ref4 hv
    exact row H locs ls rest a hl k
theorem z_step_ok {SP : zSP} {bs : List Int} {ZD : List zN} {call : zL} {RC RS d : Nat} {sc : Option Nat} {DF : List (List Nat)} {TC : List Nat} {TY : Nat → Nat → FieldType} {Y : Nat → MethodName} {VK : Nat → Nat} {HN own : String} {ini : Bool} {tbl : List Cond} {nx : Option zE} {ins : Jvm.ClassFile.Instr} {ln a b w : Nat} {k : Int}
    (CX : z_CX SP bs p R s m args meth c cc nL own ini D cl tys TC tbl A H0 RC RS d sc ρ0) (ST : z_ST tbl cl TY DF) (hd : decode cc pc = .ok (ins, ln)) (hlk : z_lok SP tbl cl TY TC Y VK HN own ini ins ln a b w k = true)
    (hnx : ∀ x, nx = some x → decode cc (pc + 1) = .ok (x.2.1, x.2.2.1) ∧ ∀ cd off, x.2.1 = .ifCond cd off → x.2.2.1 = 3)
    (hV : ∀ i, decode cc pc = .ok (.invokevirtual i, 3) → VK a = 0 → Cond.methodLink own i (Y a) ∈ tbl → z_inv ZD call RC RS a (pc + 3) ivs lo sk hp nc ns = some q → z_K p l e R s m args below meth c Q D cl tys A H0 nL ρ0 ad0 pc (ivs, lo, sk, hp, nc, ns))
    (hT : ∀ i, decode cc pc = .ok (.invokevirtual i, 3) → Cond.methodLink own i (SP.2.2.2 a) ∈ tbl → z_str SP RC RS a (pc + 3) ivs lo sk hp nc ns = some q → z_K p l e R s m args below meth c Q D cl tys A H0 nL ρ0 ad0 pc (ivs, lo, sk, hp, nc, ns))
    (hS : ∀ i, decode cc pc = .ok (.invokestatic i, 3) → VK a = 1 → Cond.methodLink own i (Y a) ∈ tbl → z_inv ZD call RC RS a (pc + 3) ivs lo sk hp nc ns = some q → z_K p l e R s m args below meth c Q D cl tys A H0 nL ρ0 ad0 pc (ivs, lo, sk, hp, nc, ns))
    (hI : ∀ i, decode cc pc = .ok (.invokespecial i, 3) → VK a = 2 → Cond.methodLink own i (Y a) ∈ tbl → z_inv ZD call RC RS a (pc + 3) ivs lo sk hp nc ns = some q → z_K p l e R s m args below meth c Q D cl tys A H0 nL ρ0 ad0 pc (ivs, lo, sk, hp, nc, ns))
    (hN : ∀ i, decode cc pc = .ok (.invokespecial i, 3) → VK a = 2 → Cond.methodLinkNest own i (Y a) HN ∈ tbl → z_inv ZD call RC RS a (pc + 3) ivs lo sk hp nc ns = some q → z_K p l e R s m args below meth c Q D cl tys A H0 nL ρ0 ad0 pc (ivs, lo, sk, hp, nc, ns))
    (h : z_step SP ZD call RC RS nL sc DF TC nx pc ins a b k ivs lo sk hp nc ns = some q) (kk : ∀ z ∈ q, z_K p l e R s m args below meth c Q D cl tys A H0 nL ρ0 ad0 z.1 z.2) : z_K p l e R s m args below meth c Q D cl tys A H0 nL ρ0 ad0 pc (ivs, lo, sk, hp, nc, ns) := by
  obtain ⟨⟨hx, hb, hml, hown, hts⟩, hini, hK, hA, ⟨ht1, ht2, ht3⟩, ⟨r1, r2, r3, r4⟩, hC, ⟨hbs, hSF, hH0⟩⟩ := CX
  obtain ⟨s1, s2, ⟨s3, s4, s5⟩, s6, s7⟩ := ST
  cases ins with
  | aload_n i =>
    have el : ln = 1 := z_beq hlk
    subst el
    exact z_lda_ok (fun H locs ls rest a hl k => lv_aload_n hx hb hd rfl hl k) h kk
  | aload i =>
    have el : ln = 2 := z_beq hlk
    subst el
    exact z_lda_ok (fun H locs ls rest a hl k => lv_aload hx hb hd hl k) h kk
  | iload_n i =>
    have el : ln = 1 := z_beq hlk
    subst el
    refine zs_ld (t := 0) (fun H locs ls rest v hv hl k => ?_) h kk
    obtain ⟨a, rfl⟩ := z_int0 hv
    exact lv_iload_n hx hb hd rfl hl k
  | iload i =>
    have el : ln = 2 := z_beq hlk
    subst el
    refine zs_ld (t := 0) (fun H locs ls rest v hv hl k => ?_) h kk
    obtain ⟨a, rfl⟩ := z_int0 hv
    exact lv_iload hx hb hd hl k
  | lload_n i =>
    have el : ln = 1 := z_beq hlk
    subst el
    refine zs_ld (t := 1) (fun H locs ls rest v hv hl k => ?_) h kk
    obtain ⟨a, rfl⟩ := z_int1 hv
    exact lv_lload_n hx hb hd rfl hl k
  | lload i =>
    have el : ln = 2 := z_beq hlk
    subst el
    refine zs_ld (t := 1) (fun H locs ls rest v hv hl k => ?_) h kk
    obtain ⟨a, rfl⟩ := z_int1 hv
    exact lv_lload hx hb hd hl k
  | iconst n =>
    have el : ln = 1 := z_beq hlk
    subst el
    exact zs_psh (fun ρ h0 ad => z_m.ci h0 _) (fun H locs ls rest k => lv_iconst hx hb hd rfl k) h kk
  | bipush n =>
    have el : ln = 2 := z_beq hlk
    subst el
    exact zs_psh (fun ρ h0 ad => z_m.ci h0 _) (fun H locs ls rest k => lv_bipush hx hb hd rfl k) h kk
  | sipush n =>
    have el : ln = 3 := z_beq hlk
    subst el
    exact zs_psh (fun ρ h0 ad => z_m.ci h0 _) (fun H locs ls rest k => lv_sipush hx hb hd rfl k) h kk
  | lconst n =>
    have el : ln = 1 := z_beq hlk
    subst el
    exact zs_psh (fun ρ h0 ad => z_m.cj h0 _) (fun H locs ls rest k => lv_lconst hx hb hd rfl k) h kk
  | ldc i =>
    have hlk : (Nat.beq ln 2 && (match Nat.beq b 7 with
      | true => z_lks SP own i a
      | false => z_wd tbl w (.constant own i (Int32.ofInt k)))) = true := hlk
    have el : ln = 2 := z_beq (z_and hlk).1
    have hw := (z_and hlk).2
    subst el
    have h : (match Nat.beq b 7 with
      | true => z_psh (4, a, 0) (pc + 2) ivs lo sk hp nc ns
      | false => z_psh (0, 0, (Int32.ofInt k).toInt) (pc + 2) ivs lo sk hp nc ns) = some q := h
    cases e7 : Nat.beq b 7 with
    | true =>
      rw [e7] at h hw
      obtain ⟨y, t, ey, et, g1, g2⟩ := z_lks_ok hw
      refine z_ldS (y := y) ey (List.getElem?_eq_some_iff.mp et).1 hbs hSF (fun H locs ls rest r t' e1 hr k => ?_) h kk
      rw [et] at e1
      cases e1
      rw [g1, g2] at hr
      exact va_ldcS hx hb hown hr hd k
    | false =>
      rw [e7] at h hw
      have hw := z_wd_ok hw
      exact zs_psh (fun ρ h0 ad => z_m.ci h0 _) (fun H locs ls rest k => lv_ldc hx hb hown (hts _ hw) hd k) h kk
  | ldc_w i =>
    have hlk : (Nat.beq ln 3 && z_wd tbl w (.constant own i (Int32.ofInt k))) = true := hlk
    have el : ln = 3 := z_beq (z_and hlk).1
    have hw := z_wd_ok (z_and hlk).2
    subst el
    exact zs_psh (fun ρ h0 ad => z_m.ci h0 _) (fun H locs ls rest k => lv_ldcw hx hb hown (hts _ hw) hd k) h kk
  | ldc2_w i =>
    have hlk : (Nat.beq ln 3 && z_wd tbl w (.constantLong own i (Int64.ofInt k))) = true := hlk
    have el : ln = 3 := z_beq (z_and hlk).1
    have hw := z_wd_ok (z_and hlk).2
    subst el
    exact zs_psh (fun ρ h0 ad => z_m.cj h0 _) (fun H locs ls rest k => lv_ldc2 hx hb hown (hts _ hw) hd k) h kk
  | istore_n i =>
    have el : ln = 1 := z_beq hlk
    subst el
    refine zs_sto (t := 0) (fun H locs ls rest v lv hv hl hi k => ?_) h kk
    obtain ⟨a, rfl⟩ := z_int0 hv
    exact lv_istore_n hx hb hd rfl hl hi rfl k
  | istore i =>
    have el : ln = 2 := z_beq hlk
    subst el
    refine zs_sto (t := 0) (fun H locs ls rest v lv hv hl hi k => ?_) h kk
    obtain ⟨a, rfl⟩ := z_int0 hv
    exact lv_istore hx hb hd hl hi rfl k
  | astore_n i =>
    have el : ln = 1 := z_beq hlk
    subst el
    refine zs_sto (t := 2) (fun H locs ls rest v lv hv hl hi k => ?_) h kk
    obtain ⟨a, rfl⟩ := z_ref2 hv
    exact lv_astore_n hx hb hd rfl hl hi rfl k
  | astore i =>
    have el : ln = 2 := z_beq hlk
    subst el
    refine zs_sto (t := 2) (fun H locs ls rest v lv hv hl hi k => ?_) h kk
    obtain ⟨a, rfl⟩ := z_ref2 hv
    exact lv_astore hx hb hd hl hi rfl k
  | lstore_n i =>
    have el : ln = 1 := z_beq hlk
    subst el
    exact zs_sto2 (fun H locs ls rest v lv hl hi k => lv_lstore_n hx hb hd rfl hl hi rfl k) h kk
  | lstore i =>
    have el : ln = 2 := z_beq hlk
    subst el
    exact zs_sto2 (fun H locs ls rest v lv hl hi k => lv_lstore hx hb hd hl hi rfl k) h kk
  | iinc i n =>
    have el : ln = 3 := z_beq hlk
    subst el
    exact zs_inc (z_rng _) (fun H locs ls rest x kk lv hl hk hi k => lv_iinc hx hb hd hl hk (by rw [Int32.ofInt_toInt]) hi rfl k) h kk
  | iadd =>
    have el : ln = 1 := z_beq hlk
    subst el
    exact zs_bin (f := fun x y => x + y) (G := fun _ => True) (fun ivs ρ x c y d X Y out h1 h2 h3 h4 h5 => ⟨trivial, z_add_ok h1 h2 h3 h4 (fun a b => by rw [Int32.toInt_add, z_bm a b]) (z_rng _) h5⟩) (fun H locs ls rest x y _ k => lv_iadd hx hb hd k) h kk
  | isub =>
    have el : ln = 1 := z_beq hlk
    subst el
    exact zs_bin (f := fun x y => x - y) (G := fun _ => True) (fun ivs ρ x c y d X Y out h1 h2 h3 h4 h5 => ⟨trivial, z_sub_ok h1 h2 h3 h4 (fun a b => by rw [Int32.toInt_sub, z_bm a b]) (z_rng _) h5⟩) (fun H locs ls rest x y _ k => lv_isub hx hb hd k) h kk
  | imul =>
    have el : ln = 1 := z_beq hlk
    subst el
    exact zs_bin (f := fun x y => x * y) (G := fun _ => True) (fun ivs ρ x c y d X Y out h1 h2 h3 h4 h5 => ⟨trivial, z_mul_ok h1 h2 h3 h4 (fun a b => by rw [Int32.toInt_mul, z_bm a b]) (z_rng _) h5⟩) (fun H locs ls rest x y _ k => lv_imul hx hb hd k) h kk
  | iand =>
    have el : ln = 1 := z_beq hlk
    subst el
    exact zs_bin (f := fun x y => x &&& y) (G := fun _ => True) (fun ivs ρ x c y d X Y out h1 h2 h3 h4 h5 => ⟨trivial, z_bb_ok (g := fun x y => x &&& y) z_fand_ok h1 h2 h3 h4 h5⟩) (fun H locs ls rest x y _ k => lv_iand hx hb hd k) h kk
  | ior =>
    have el : ln = 1 := z_beq hlk
    subst el
    exact zs_bin (f := fun x y => x ||| y) (G := fun _ => True) (fun ivs ρ x c y d X Y out h1 h2 h3 h4 h5 => ⟨trivial, z_bb_ok (g := fun x y => x ||| y) z_fior_ok h1 h2 h3 h4 h5⟩) (fun H locs ls rest x y _ k => lv_ior hx hb hd k) h kk
  | ixor =>
    have el : ln = 1 := z_beq hlk
    subst el
    exact zs_bin (f := fun x y => x ^^^ y) (G := fun _ => True) (fun ivs ρ x c y d X Y out h1 h2 h3 h4 h5 => ⟨trivial, z_opc_ok (g := fun x y => x ^^^ y) h1 h2 h3 h4 h5⟩) (fun H locs ls rest x y _ k => lv_ixor hx hb hd k) h kk
  | ishl =>
    have el : ln = 1 := z_beq hlk
    subst el
    exact zs_bin (f := fun x y => x <<< (y &&& 31)) (G := fun _ => True) (fun ivs ρ x c y d X Y out h1 h2 h3 h4 h5 => ⟨trivial, z_bb_ok (g := fun x y => x <<< (y &&& 31)) z_fshl_ok h1 h2 h3 h4 h5⟩) (fun H locs ls rest x y _ k => lv_ishl hx hb hd k) h kk
  | ishr =>
    have el : ln = 1 := z_beq hlk
    subst el
    exact zs_bin (f := fun x y => x >>> (y &&& 31)) (G := fun _ => True) (fun ivs ρ x c y d X Y out h1 h2 h3 h4 h5 => ⟨trivial, z_bb_ok (g := fun x y => x >>> (y &&& 31)) z_fshr_ok h1 h2 h3 h4 h5⟩) (fun H locs ls rest x y _ k => lv_ishr hx hb hd k) h kk
  | iushr =>
    have el : ln = 1 := z_beq hlk
    subst el
    exact zs_bin (f := fun x y => (x.toUInt32 >>> (y.toUInt32 &&& Int32.toUInt32 31)).toInt32) (G := fun _ => True) (fun ivs ρ x c y d X Y out h1 h2 h3 h4 h5 => ⟨trivial, z_opc_ok (g := fun x y => (x.toUInt32 >>> (y.toUInt32 &&& Int32.toUInt32 31)).toInt32) h1 h2 h3 h4 h5⟩) (fun H locs ls rest x y _ k => lv_iushr hx hb hd rfl k) h kk
  | idiv =>
    have el : ln = 1 := z_beq hlk
    subst el
    exact zs_bin (f := fun x y => x / y) (G := fun y => ¬ y = 0) (fun ivs ρ x c y d X Y out h1 h2 h3 h4 h5 => by
      have r := z_quo_ok h1 h2 h3 h4 h5
      rw [z_i32div r.1]
      exact ⟨z_i32ne r.1, r.2⟩) (fun H locs ls rest x y g k => lv_idiv hx hb hd g k) h kk
  | irem =>
    have el : ln = 1 := z_beq hlk
    subst el
    exact zs_bin (f := fun x y => x - x / y * y) (G := fun y => ¬ y = 0) (fun ivs ρ x c y d X Y out h1 h2 h3 h4 h5 => by
      have r := z_rem_ok h1 h2 h3 h4 h5
      rw [z_i32remG r.1]
      exact ⟨z_i32neG r.1, r.2⟩) (fun H locs ls rest x y g k => lv_irem hx hb hd g k) h kk
  | ldiv =>
    have el : ln = 1 := z_beq hlk
    subst el
    exact zs_binL (f := fun x y => x / y) (G := fun y => ¬ y = 0) (fun ivs ρ x c y d X Y out h1 h2 h3 h4 h5 => by
      have r := z_quo_ok h1 h2 h3 h4 h5
      rw [z_i64div r.1]
      exact ⟨z_i64ne r.1, r.2⟩) (fun H locs ls rest x y g k => lv_ldiv hx hb hd g k) h kk
  | lrem =>
    have el : ln = 1 := z_beq hlk
    subst el
    exact zs_binL (f := fun x y => x - x / y * y) (G := fun y => ¬ y = 0) (fun ivs ρ x c y d X Y out h1 h2 h3 h4 h5 => by
      have r := z_rem_ok h1 h2 h3 h4 h5
      rw [z_i64remG r.1]
      exact ⟨z_i64neG r.1, r.2⟩) (fun H locs ls rest x y g k => lv_lrem hx hb hd g k) h kk
  | ladd =>
    have el : ln = 1 := z_beq hlk
    subst el
    exact zs_binL (f := fun x y => x + y) (G := fun _ => True) (fun ivs ρ x c y d X Y out h1 h2 h3 h4 h5 => ⟨trivial, z_add_ok h1 h2 h3 h4 (fun a b => by rw [Int64.toInt_add, z_bmL a b]) (z_rngL _) h5⟩) (fun H locs ls rest x y _ k => lv_ladd hx hb hd k) h kk
  | lsub =>
    have el : ln = 1 := z_beq hlk
    subst el
    exact zs_binL (f := fun x y => x - y) (G := fun _ => True) (fun ivs ρ x c y d X Y out h1 h2 h3 h4 h5 => ⟨trivial, z_sub_ok h1 h2 h3 h4 (fun a b => by rw [Int64.toInt_sub, z_bmL a b]) (z_rngL _) h5⟩) (fun H locs ls rest x y _ k => lv_lsub hx hb hd k) h kk
  | lmul =>
    have el : ln = 1 := z_beq hlk
    subst el
    exact zs_binL (f := fun x y => x * y) (G := fun _ => True) (fun ivs ρ x c y d X Y out h1 h2 h3 h4 h5 => ⟨trivial, z_mul_ok h1 h2 h3 h4 (fun a b => by rw [Int64.toInt_mul, z_bmL a b]) (z_rngL _) h5⟩) (fun H locs ls rest x y _ k => lv_lmul hx hb hd k) h kk
  | land =>
    have el : ln = 1 := z_beq hlk
    subst el
    exact zs_binL (f := fun x y => x &&& y) (G := fun _ => True) (fun ivs ρ x c y d X Y out h1 h2 h3 h4 h5 => ⟨trivial, z_opcL_ok (g := fun x y => x &&& y) h1 h2 h3 h4 h5⟩) (fun H locs ls rest x y _ k => lv_land hx hb hd k) h kk
  | lor =>
    have el : ln = 1 := z_beq hlk
    subst el
    exact zs_binL (f := fun x y => x ||| y) (G := fun _ => True) (fun ivs ρ x c y d X Y out h1 h2 h3 h4 h5 => ⟨trivial, z_opcL_ok (g := fun x y => x ||| y) h1 h2 h3 h4 h5⟩) (fun H locs ls rest x y _ k => lv_lor hx hb hd k) h kk
  | lshl =>
    have el : ln = 1 := z_beq hlk
    subst el
    exact zs_lsh (fun H locs ls rest x y k => lv_lshl hx hb hd rfl (k _)) h kk
  | i2l =>
    have el : ln = 1 := z_beq hlk
    subst el
    refine zs_un (t := 0) (t' := 1) (by decide) (fun ivs ρ x cx v z out h1 h2 h3 h4 h5 => ?_) h kk
    obtain ⟨i, rfl, rfl⟩ := h4
    have r := z_rng i
    have ho := z_cst_ok (t := 1) (r := i.toInt) h1 h3 (fun _ _ => rfl) r h5
    exact ⟨.long i.toInt64, i.toInt, ⟨_, rfl, Int32.toInt_toInt64 i⟩, ⟨rfl, ho.2⟩, fun H locs ls rest k => lv_i2l hx hb hd rfl k⟩
  | l2i =>
    have el : ln = 1 := z_beq hlk
    subst el
    refine zs_un (t := 1) (t' := 0) (by decide) (fun ivs ρ x cx v z out h1 h2 h3 h4 h5 => ?_) h kk
    obtain ⟨i, rfl, rfl⟩ := h4
    have ho := z_cst_ok (t := 0) (r := i.toInt32.toInt) h1 h3 (z_l2i i).1 (z_l2i i).2 h5
    exact ⟨.int i.toInt32, i.toInt32.toInt, ⟨_, rfl, rfl⟩, ⟨rfl, ho.2⟩, fun H locs ls rest k => lv_l2i hx hb hd rfl k⟩
  | i2b =>
    have el : ln = 1 := z_beq hlk
    subst el
    refine zs_un (t := 0) (t' := 0) (by decide) (fun ivs ρ x cx v z out h1 h2 h3 h4 h5 => ?_) h kk
    obtain ⟨i, rfl, rfl⟩ := h4
    have ho := z_cst_ok (t := 0) (r := i.toInt8.toInt32.toInt) h1 h3 (z_i2b i).1 (z_i2b i).2 h5
    exact ⟨.int i.toInt8.toInt32, _, ⟨_, rfl, rfl⟩, ⟨rfl, ho.2⟩, fun H locs ls rest k => lv_i2b hx hb hd rfl k⟩
  | i2s =>
    have el : ln = 1 := z_beq hlk
    subst el
    refine zs_un (t := 0) (t' := 0) (by decide) (fun ivs ρ x cx v z out h1 h2 h3 h4 h5 => ?_) h kk
    obtain ⟨i, rfl, rfl⟩ := h4
    have ho := z_cst_ok (t := 0) (r := i.toInt16.toInt32.toInt) h1 h3 (z_i2s i).1 (z_i2s i).2 h5
    exact ⟨.int i.toInt16.toInt32, _, ⟨_, rfl, rfl⟩, ⟨rfl, ho.2⟩, fun H locs ls rest k => lv_i2s hx hb hd rfl k⟩
  | lcmp =>
    have el : ln = 1 := z_beq hlk
    subst el
    have h : z_lcm nx pc ivs lo sk hp nc ns = some q := h
    unfold z_lcm at h
    split at h
    · rename_i x0 cd off x1 x2
      obtain ⟨n1, n2⟩ := hnx _ rfl
      have n2 := n2 cd off rfl
      rw [n2] at n1
      split at h
      · rename_i t et
        exact zs_br2L (fun H locs ls rest x y k1 k2 => z_lcmp hx hb hd n1 (z_tg_ok et) k1 k2) h kk
      · cases h
    · cases h
  | ifCond cd off =>
    have el : ln = 3 := z_beq hlk
    subst el
    have h : (match z_tg pc off with
      | some t => z_br1 cd t (pc + 3) ivs lo sk hp nc ns
      | none => none) = some q := h
    split at h
    · rename_i t et
      exact zs_br1 (fun H locs ls rest x k1 k2 => z_if hx hb hd (z_tg_ok et) k1 k2) h kk
    · cases h
  | if_icmp cd off =>
    have el : ln = 3 := z_beq hlk
    subst el
    have h : (match z_tg pc off with
      | some t => z_br2 0 true cd t (pc + 3) ivs lo sk hp nc ns
      | none => none) = some q := h
    split at h
    · rename_i t et
      exact zs_br2 (fun H locs ls rest x y k1 k2 => z_icmp hx hb hd (z_tg_ok et) k1 k2) h kk
    · cases h
  | goto off =>
    have el : ln = 3 := z_beq hlk
    subst el
    exact zs_gt (fun t H locs ls rest et k => lv_goto hx hb hd (z_tg_ok et) k) h kk
  | tableswitch d0 x0 y0 offs =>
    exact zs_tsw (fun dt H locs ls rest x h1 h2 k => lv_tableOut hx hb hd h2 h1 k) (fun t o H locs ls rest x h1 h2 h3 h4 k => lv_tableIn hx hb hd h2 h3 h4 h1 k) h kk
  | dup =>
    have el : ln = 1 := z_beq hlk
    subst el
    exact zs_dup (fun H locs ls rest v hv k => lv_dup hx hb hd hv k) h kk
  | dup2 =>
    have el : ln = 1 := z_beq hlk
    subst el
    exact zs_dup2 (fun H locs ls rest v w hv hw k => lv_dup2_11 hx hb hd hv hw k) h kk
  | pop =>
    have el : ln = 1 := z_beq hlk
    subst el
    exact zs_pop (fun H locs ls rest v hv k => lv_pop hx hb hd hv k) h kk
  | pop2 =>
    have el : ln = 1 := z_beq hlk
    subst el
    exact zs_pop2 (fun H locs ls rest v hv k => lv_pop2 hx hb hd hv k) h kk
  | lneg =>
    have el : ln = 1 := z_beq hlk
    subst el
    have h : z_un 1 1 (fun J x c => z_sub 1 J 0 0 x c) (pc + 1) ivs lo sk hp nc ns = some q := h
    refine zs_un (t := 1) (t' := 1) (by decide) (fun ivs ρ x cx v z out h1 h2 h3 h4 h5 => ?_) h kk
    obtain ⟨i, rfl, rfl⟩ := h4
    have ho := z_sub_ok (t := 1) (r := (-i).toInt) h1 h2 (z_v.of0 h2 0) h3 (fun a b => by rw [Int64.toInt_neg, ← Int.zero_sub, z_bmL a b]) (z_rngL _) h5
    exact ⟨.long (-i), (-i).toInt, ⟨_, rfl, rfl⟩, ⟨rfl, ho.2⟩, fun H locs ls rest k => lv_lneg hx hb hd k⟩
  | getfield i =>
    have hlk : (match cl[a]? with
      | some q => Nat.beq ln 3 && (Nat.ble (b + 1) q.2.2 && z_wd tbl w (.fieldLink own i (q.2.1 b).1 (q.2.1 b).2.1 (q.2.1 b).2.2.1))
      | none => false) = true := hlk
    split at hlk
    · rename_i q0 eq0
      have el : ln = 3 := z_beq (z_and hlk).1
      subst el
      have e2 := Nat.le_of_ble_eq_true (z_and (z_and hlk).2).1
      have e3 := z_wd_ok (z_and (z_and hlk).2).2
      exact zs_gf (fun ws H locs ls rest a0 q1 vs v hP h1 h2 k => va_get (D := D) (ci := a) (C := q0.1) (T := q0.2.1) (N := q0.2.2) hx hb hts (s1 a q0 eq0).1 hown hK hP q1 h1 eq0 b e2 (hts _ e3) (fun _ h9 => h9) h2 hd k) h kk
    · cases hlk
  | putfield i =>
    have hlk : (match cl[a]? with
      | some q => Nat.beq ln 3 && (Nat.ble (b + 1) q.2.2 && (z_wd tbl w (.fieldLink own i (q.2.1 b).1 (q.2.1 b).2.1 (q.2.1 b).2.2.1) && ((Nat.beq (z_ftc (TY a b)) k.toNat && Nat.ble k.toNat 8) && (match (q.2.1 b).2.2.2 with
        | true => ini && decide ((q.2.1 b).1 = own)
        | false => true))))
      | none => false) = true := hlk
    split at hlk
    · rename_i q0 eq0
      have el : ln = 3 := z_beq (z_and hlk).1
      subst el
      have e2 := Nat.le_of_ble_eq_true (z_and (z_and hlk).2).1
      have e3 := z_wd_ok (z_and (z_and (z_and hlk).2).2).1
      have e4 := z_beq (z_and (z_and (z_and (z_and (z_and hlk).2).2).2).1).1
      have e5 := Nat.le_of_ble_eq_true (z_and (z_and (z_and (z_and (z_and hlk).2).2).2).1).2
      have e6 := (z_and (z_and (z_and (z_and hlk).2).2).2).2
      refine zs_pf (fun ws H locs ls rest a0 q1 vs v hP hD hS h1 h2 hv k => ?_) h kk
      rw [← e4] at hv
      have hf := z_ftc_ok hv (by omega)
      split at e6
      · rename_i ef
        have g1 := hini (z_and e6).1
        have g2 := of_decide_eq_true (z_and e6).2
        exact va_putF (D := D) (ci := a) (C := q0.1) (T := q0.2.1) (N := q0.2.2) (ty := TY a b) hx hb hts (s1 a q0 eq0).1 (TY a) (s1 a q0 eq0).2.1 (s1 a q0 eq0).2.2 hown hK hP hD hS q1 h1 eq0 b e2 (hts _ e3) (fun _ h9 => h9) ef g1 g2 ((s1 a q0 eq0).2.1 b e2) hf.1 hf.2 h2 hd k
      · rename_i ef
        exact va_put (D := D) (ci := a) (C := q0.1) (T := q0.2.1) (N := q0.2.2) (ty := TY a b) hx hb hts (s1 a q0 eq0).1 (TY a) (s1 a q0 eq0).2.1 (s1 a q0 eq0).2.2 hown hK hP hD hS q1 h1 eq0 b e2 (hts _ e3) (fun _ h9 => h9) ef ((s1 a q0 eq0).2.1 b e2) hf.1 hf.2 h2 hd k
    · cases hlk
  | iaload =>
    have el : ln = 1 := z_beq hlk
    subst el
    have h : (match z_isc sk with
      | true => z_sl sc (pc + 1) ivs lo sk hp nc ns
      | false => z_alM a z_okI 0 (pc + 1) ivs lo sk hp nc ns) = some q := h
    split at h
    · exact zs_sl hC (fun b L xs H locs ls rest i c2 c3 c4 hS hi k => va_sld hx hb c2 c3 c4 hS hi hd k) h kk
    · have row : ∀ (ws : va_W) (H : Heap) (locs : List Loc) (ls : Array Slot) (rest : List Value) (a q0 t0 n0 : Nat) (cA : ClassId) (ty : FieldType) (f : Nat → Int32) (i : Int32), va_P D cl ws H → ws[q0]? = some (a, .inl (cA, n0, .inl f)) → tys[t0]? = some (cA, ty) → z_okI t0 = true → vp_in i n0 → W p l e R s m args below meth c H locs nc ns Q (F0 m (pc + 1) ls (.int (f i.toNatClampNeg) :: rest)) → W p l e R s m args below meth c H locs nc ns Q (F0 m pc ls (.int i :: .ref a :: rest)) := fun ws H locs ls rest a0 q0 t0 n0 cA ty f i hP h1 h2 h3 h4 k => by
        have e0 : t0 = 0 := z_beq h3
        subst e0
        obtain ⟨cB, e1⟩ := ht1 0 (by omega)
        rw [h2] at e1
        cases e1
        exact va_iald hx hb hK hP q0 0 h1 h2 h4 hd k
      unfold z_alM at h
      split at h
      · split at h
        · rename_i J hp' em
          exact zs_mat em (zs_al (ok := z_okI) (fun t ht => by have := z_beq ht; omega) row h kk)
        · cases h
      · exact zs_al (ok := z_okI) (fun t ht => by have := z_beq ht; omega) row h kk
  | baload =>
    have el : ln = 1 := z_beq hlk
    subst el
    refine zs_al (ok := z_okB) (fun t ht => by rcases Bool.or_eq_true_iff.mp ht with q | q <;> have := z_beq q <;> omega) (fun ws H locs ls rest a0 q0 t0 n0 cA ty f i hP h1 h2 h3 h4 k => ?_) h kk
    rcases Bool.or_eq_true_iff.mp h3 with e0 | e0
    · have e0 : t0 = 1 := z_beq e0
      subst e0
      obtain ⟨cB, e1⟩ := ht1 1 (by omega)
      rw [h2] at e1
      cases e1
      exact va_zald hx hb hK hP q0 1 h1 h2 h4 hd k
    · have e0 : t0 = 2 := z_beq e0
      subst e0
      obtain ⟨cB, e1⟩ := ht1 2 (by omega)
      rw [h2] at e1
      cases e1
      exact va_bald hx hb hK hP q0 2 h1 h2 h4 hd k
  | laload =>
    have el : ln = 1 := z_beq hlk
    subst el
    have row : ∀ (ws : va_W) (H : Heap) (locs : List Loc) (ls : Array Slot) (rest : List Value) (a q0 n0 : Nat) (cA : ClassId) (ty : FieldType) (f : Nat → Int64) (i : Int32), va_P D cl ws H → ws[q0]? = some (a, .inl (cA, n0, .inr (.inl f))) → tys[3]? = some (cA, ty) → vp_in i n0 → W p l e R s m args below meth c H locs nc ns Q (F0 m (pc + 1) ls (.long (f i.toNatClampNeg) :: rest)) → W p l e R s m args below meth c H locs nc ns Q (F0 m pc ls (.int i :: .ref a :: rest)) := fun ws H locs ls rest a0 q0 n0 cA ty f i hP h1 h2 h4 k => by
      obtain ⟨cB, e1⟩ := ht1 3 (by omega)
      rw [h2] at e1
      cases e1
      exact va_lald hx hb hK hP q0 3 h1 h2 h4 hd k
    have h : (match Nat.beq a 3 with
      | true => z_al3 b k (pc + 1) ivs lo sk hp nc ns
      | false => z_alM a (fun t => Nat.beq t 3) 1 (pc + 1) ivs lo sk hp nc ns) = some q := h
    split at h
    · exact zs_al3 row h kk
    · unfold z_alM at h
      split at h
      · split at h
        · rename_i J hp' em
          exact zs_mat em (zs_alL row h kk)
        · cases h
      · exact zs_alL row h kk
  | aaload =>
    have el : ln = 1 := z_beq hlk
    subst el
    refine zs_ar (fun ws H locs ls rest a0 q0 t0 n0 cA ty f i hP h1 h3 h2 h4 k => ?_) h kk
    have hl := (List.getElem?_eq_some_iff.mp h2).1
    rw [ht3] at hl
    obtain ⟨cB, q1, e0, e1⟩ := ht2 (t0 - 4) _ (List.getElem?_eq_getElem (show t0 - 4 < TC.length by omega))
    rw [show 4 + (t0 - 4) = t0 by omega, h2] at e1
    cases e1
    exact va_aldq hx hb hK hP q0 t0 h1 h2 h4 hd k
  | iastore =>
    have el : ln = 1 := z_beq hlk
    subst el
    refine zs_as (two := Nat.beq a 2) (ok := z_stI) (fun t _ _ ht => by have := z_beq ht; omega) (fun ws H locs ls rest a0 q0 t0 n0 cA ty f i x vl vh hP hD hS h1 h2 h3 h4 h5 h6 k => ?_) h kk
    have e0 : t0 = 0 := z_beq h3
    subst e0
    obtain ⟨cB, e1⟩ := ht1 0 (by omega)
    rw [h2] at e1
    cases e1
    exact va_iast hx hb hK hP hD hS q0 0 h1 h2 h6 hd k
  | bastore =>
    have el : ln = 1 := z_beq hlk
    subst el
    refine zs_as (two := false) (ok := z_stB) (fun t _ _ ht => by rcases Bool.or_eq_true_iff.mp ht with q | q <;> have := z_beq (z_and q).1 <;> omega) (fun ws H locs ls rest a0 q0 t0 n0 cA ty f i x vl vh hP hD hS h1 h2 h3 h4 h5 h6 k => ?_) h kk
    rcases Bool.or_eq_true_iff.mp h3 with e0 | e0
    · have f1 := z_ile_ok (z_and (z_and e0).2).1
      have f2 := z_ile_ok (z_and (z_and e0).2).2
      have e0 : t0 = 1 := z_beq (z_and e0).1
      subst e0
      obtain ⟨cB, e1⟩ := ht1 1 (by omega)
      rw [h2] at e1
      cases e1
      have hn := z_nar1 (x := x) (by omega) (by omega)
      exact va_zast hx hb hK hP hD hS q0 1 h1 h2 h6 hd (fun H1 locs1 => by rw [hn]; exact k H1 locs1)
    · have f1 := z_ile_ok (z_and (z_and e0).2).1
      have f2 := z_ile_ok (z_and (z_and e0).2).2
      have e0 : t0 = 2 := z_beq (z_and e0).1
      subst e0
      obtain ⟨cB, e1⟩ := ht1 2 (by omega)
      rw [h2] at e1
      cases e1
      have hn := z_nar2 (x := x) (by omega) (by omega)
      exact va_bast hx hb hK hP hD hS q0 2 h1 h2 h6 hd (fun H1 locs1 => by rw [hn]; exact k H1 locs1)
  | lastore =>
    have el : ln = 1 := z_beq hlk
    subst el
    refine zs_asL (fun ws H locs ls rest a0 q0 n0 cA ty f i x hP hD hS h1 h2 h6 k => ?_) h kk
    obtain ⟨cB, e1⟩ := ht1 3 (by omega)
    rw [h2] at e1
    cases e1
    exact va_last hx hb hK hP hD hS q0 3 h1 h2 h6 hd k
  | aastore =>
    have el : ln = 1 := z_beq hlk
    subst el
    refine zs_sr (ok := z_okR TC) (fun ws H locs ls rest a0 q0 t0 n0 v qk ci cA ty f vs i hP hD hS h1 h2 h3 h4 h5 h6 k => ?_) h kk
    unfold z_okR at h4
    split at h4
    · rename_i x ex
      have e0 := z_beq h4
      subst e0
      obtain ⟨cB, q1, e0, e1⟩ := ht2 _ _ ex
      rw [show 4 + (t0 - 4) = t0 by omega, h2] at e1
      cases e1
      exact va_astq hx hb hK hP hD hS q0 t0 qk x h1 h2 h3 e0 h6 hd k
    · cases h4
  | arraylength =>
    have el : ln = 1 := z_beq hlk
    subst el
    have h : (match z_isc sk with
      | true => z_sn sc (pc + 1) ivs lo sk hp nc ns
      | false => z_len (pc + 1) ivs lo sk hp nc ns) = some q := h
    split at h
    · exact zs_sn hC (fun b L xs H locs ls rest c2 c3 c4 hS k => va_slen hx hb c2 c3 c4 hS hd k) h kk
    · exact zs_len (fun ws H locs ls rest a0 q0 t0 cA ty x hP h1 h2 k => va_alen hx hb hK hP q0 t0 h1 h2 rfl hd k) h kk
  | new i =>
    have hlk : (match cl[a]? with
      | some q => Nat.beq ln 3 && (z_wd tbl w (.classLink own i q.1) && (z_wd tbl b (.instantiable q.1 q.2.2) && z_wd tbl k.toNat (.initialized q.1)))
      | none => false) = true := hlk
    split at hlk
    · rename_i q0 eq0
      have el : ln = 3 := z_beq (z_and hlk).1
      subst el
      have e2 := z_wd_ok (z_and (z_and hlk).2).1
      have e3 := z_wd_ok (z_and (z_and (z_and hlk).2).2).1
      have e4 := z_wd_ok (z_and (z_and (z_and hlk).2).2).2
      have h : (match DF[a]? with
        | some dc => z_nw RC RS a dc (pc + 3) ivs lo sk hp nc ns
        | none => none) = some q := h
      split at h
      · rename_i dc edc
        obtain ⟨q1, g0, g1, g2⟩ := s2 a dc edc
        rw [eq0] at g0
        cases g0
        refine zs_nw (fun ws H locs ls rest hP hD hS h1 h2 k => ?_) h kk
        rw [g1] at h2 k
        exact va_new (ci := a) (C := q0.1) (T := q0.2.1) (N := q0.2.2) hx hb hts (s1 a q0 eq0).1 (TY a) (s1 a q0 eq0).2.1 hown (hts _ e2) (hts _ e3) (hts _ e4) hK hP hD hS hA eq0 g2 (Nat.le_trans h1 r1) (Nat.le_trans h2 r2) hd k
      · cases h
    · cases hlk
  | newarray ty0 =>
    have hlk : (Nat.beq ln 2 && (decide (newarray.typeOf ty0 = z_tt a) && (Nat.ble a 3 && z_wd tbl w (.arrayClass (z_tt a))))) = true := hlk
    have el : ln = 2 := z_beq (z_and hlk).1
    have e2 := of_decide_eq_true (z_and (z_and hlk).2).1
    have e3 := Nat.le_of_ble_eq_true (z_and (z_and (z_and hlk).2).2).1
    have e4 := z_wd_ok (z_and (z_and (z_and hlk).2).2).2
    subst el
    refine zs_na (fun ws H locs ls rest i n hP hD hS h1 h2 h3 h4 h5 k => ?_) h kk
    obtain ⟨cA, eA⟩ := ht1 a e3
    have hcb : ∀ t, componentBytes (z_tt t) ≤ 8 := fun t => by
      unfold z_tt
      split <;> decide
    have hn : i.toNatClampNeg = n := by show i.toInt.toNat = n; omega
    refine va_newa (a0 := z_a0 a n) hx hb (by rw [e2]; exact hts _ e4) e2 hK hP hD hS hA (fun cA => ?_) (fun q => by have := Int32.lt_iff_toInt_lt.mp q; have h0 : (0 : Int32).toInt = 0 := rfl; omega) hn (Nat.le_trans (Nat.mul_le_mul h2 (hcb a)) (by decide)) (Nat.le_trans h4 r1) (Nat.le_trans h5 r2) hd (fun q cB H1 hK1 hP1 hD1 hS1 => ?_)
    · rcases (show a = 0 ∨ a = 1 ∨ a = 2 ∨ a = 3 by omega) with rfl | rfl | rfl | rfl <;> rfl
    · have k1 := (hK1.2 tys.length (cB, z_tt a) (by rw [List.getElem?_append_right (Nat.le_refl _), Nat.sub_self]; rfl)).2
      have k2 := (hK.2 a _ eA).2
      have ec : cB = cA := by
        rcases (show a = 0 ∨ a = 1 ∨ a = 2 ∨ a = 3 by omega) with rfl | rfl | rfl | rfl <;> exact Option.some.inj (k1.symm.trans k2)
      subst ec
      exact k q cB _ H1 eA hP1 hD1 hS1
  | anewarray i =>
    have hlk : (match TC[a - 4]? with
      | some ci => match cl[ci]? with
        | some q => Nat.beq ln 3 && (Nat.ble 4 a && (z_wd tbl w (.classLink own i q.1) && z_wd tbl b (.arrayOver (.object q.1))))
        | none => false
      | none => false) = true := hlk
    split at hlk
    · rename_i ci eci
      split at hlk
      · rename_i q0 eq0
        have el : ln = 3 := z_beq (z_and hlk).1
        subst el
        have e1 := Nat.le_of_ble_eq_true (z_and (z_and hlk).2).1
        have e2 := z_wd_ok (z_and (z_and (z_and hlk).2).2).1
        have e3 := z_wd_ok (z_and (z_and (z_and hlk).2).2).2
        obtain ⟨cA, q1, g0, g1⟩ := ht2 _ _ eci
        rw [eq0] at g0
        cases g0
        rw [show 4 + (a - 4) = a by omega] at g1
        refine zs_nr (fun ws H locs ls rest i n hP hD hS h1 h2 h3 h4 h5 k => ?_) h kk
        have hn : i.toNatClampNeg = n := by show i.toInt.toNat = n; omega
        refine va_newq (C := q0.1) hx hb hown (hts _ e2) (va_AO.of (hts _ e3)) hK hP hD hS hA (fun q => by have := Int32.lt_iff_toInt_lt.mp q; have h0 : (0 : Int32).toInt = 0 := rfl; omega) hn (by omega) (Nat.le_trans h4 r1) (Nat.le_trans h5 r2) hd (fun q cB H1 hK1 hP1 hD1 hS1 => ?_)
        have k1 := (hK1.2 tys.length (cB, .object q0.1) (by rw [List.getElem?_append_right (Nat.le_refl _), Nat.sub_self]; rfl)).2
        have k2 := (hK.2 a _ g1).2
        obtain ⟨_, _, _, _, _, k1⟩ := k1
        obtain ⟨_, _, _, _, _, k2⟩ := k2
        have ec : cB = cA := Option.some.inj (k1.symm.trans k2)
        subst ec
        exact k q cB _ H1 g1 hP1 hD1 hS1
      · cases hlk
    · cases hlk
  | invokevirtual i =>
    have hlk : (Nat.beq ln 3 && (match Nat.beq b 6 with
      | true => z_wd tbl w (.methodLink own i (SP.2.2.2 a))
      | false => Nat.beq (VK a) 0 && z_wd tbl w (.methodLink own i (Y a)))) = true := hlk
    have el : ln = 3 := z_beq (z_and hlk).1
    have hlk2 := (z_and hlk).2
    subst el
    have h : (match Nat.beq b 6 with
      | true => z_str SP RC RS a (pc + 3) ivs lo sk hp nc ns
      | false => z_inv ZD call RC RS a (pc + 3) ivs lo sk hp nc ns) = some q := h
    cases e6 : Nat.beq b 6 with
    | true =>
      rw [e6] at h hlk2
      exact hT i hd (z_wd_ok hlk2) h
    | false =>
      rw [e6] at h hlk2
      exact hV i hd (z_beq (z_and hlk2).1) (z_wd_ok (z_and hlk2).2) h
  | invokestatic i =>
    have hlk : (Nat.beq ln 3 && (match Nat.beq b 5 with
      | true => z_wd tbl w (.methodLink own i arraycopyName)
      | false => Nat.beq (VK a) 1 && z_wd tbl w (.methodLink own i (Y a)))) = true := hlk
    have el : ln = 3 := z_beq (z_and hlk).1
    have hlk2 := (z_and hlk).2
    subst el
    have h : (match Nat.beq b 5 with
      | true => z_cpy (pc + 3) ivs lo sk hp nc ns
      | false => z_inv ZD call RC RS a (pc + 3) ivs lo sk hp nc ns) = some q := h
    cases e5 : Nat.beq b 5 with
    | true =>
      rw [e5] at h hlk2
      have e2 := z_wd_ok hlk2
      have h : z_cpy (pc + 3) ivs lo sk hp nc ns = some q := h
      unfold z_cpy at h
      split at h
      · rename_i e6
        have e6 := Nat.le_of_ble_eq_true e6
        have nn : ∀ z : Int32, 0 ≤ z.toInt → ¬ z < 0 := fun z hz q => by
          have := Int32.lt_iff_toInt_lt.mp q
          have h0 : (0 : Int32).toInt = 0 := rfl
          omega
        refine zs_cp (fun ws H locs ls rest a0 a1 q0 q1 n0 n1 cA ty f g kn kd ko lv hP hD hS hl h1 h2 h3 h4 h5 h6 h7 h8 h9 k => ?_) (fun ws H locs ls rest a0 a1 q0 q1 n0 n1 cA ty f g kn kd ko lv hP hD hS hl h1 h2 h3 h4 h5 h6 h7 h8 h9 k => ?_) h kk
        rotate_left
        · have er : rest = [] := List.eq_nil_of_length_eq_zero (by omega)
          subst er
          obtain ⟨cB, eB⟩ := ht1 3 (by omega)
          rw [h3] at eB
          cases eB
          exact va_copyl (R := R) hx hb (by rw [hml]; exact hl.1.symm) hown (hts _ e2) (hts _ s3) (hts _ s4) (hts _ s5) hK hP hD hS q0 q1 3 3 h1 h2 h3 h3 rfl (nn _ h6) (nn _ h5) (nn _ h4) h7 h8 (fun i _ => rfl) (by omega) (by show 0 + (5 + 2 + 11) ≤ _; omega) hd k
        have er : rest = [] := List.eq_nil_of_length_eq_zero (by omega)
        subst er
        obtain ⟨cB, eB⟩ := ht1 0 (by omega)
        rw [h3] at eB
        cases eB
        exact va_copyi (R := R) hx hb (by rw [hml]; exact hl.1.symm) hown (hts _ e2) (hts _ s3) (hts _ s4) (hts _ s5) hK hP hD hS q0 q1 0 0 h1 h2 h3 h3 rfl (nn _ h6) (nn _ h5) (nn _ h4) h7 h8 (fun i _ => rfl) (by omega) (by show 0 + (5 + 2 + 11) ≤ _; omega) hd k
      · cases h
    | false =>
      rw [e5] at h hlk2
      exact hS i hd (z_beq (z_and hlk2).1) (z_wd_ok (z_and hlk2).2) h
  | invokespecial i =>
    have hlk : (Nat.beq ln 3 && (match Nat.beq b 4 with
      | true => z_wd tbl w (.methodLink own i Lib.objectInit)
      | false => Nat.beq (VK a) 2 && (match Nat.beq b 3 with
        | true => z_wd tbl w (.methodLinkNest own i (Y a) HN)
        | false => z_wd tbl w (.methodLink own i (Y a))))) = true := hlk
    have el : ln = 3 := z_beq (z_and hlk).1
    have hlk2 := (z_and hlk).2
    subst el
    have h : (match Nat.beq b 4 with
      | true => z_oi (pc + 3) ivs lo sk hp nc ns
      | false => z_inv ZD call RC RS a (pc + 3) ivs lo sk hp nc ns) = some q := h
    cases e4 : Nat.beq b 4 with
    | true =>
      rw [e4] at h hlk2
      have e2 := z_wd_ok hlk2
      refine zs_oi (fun H locs ls rest a0 lv hl hc k => ?_) h kk
      exact W.objInit (R := R) hx hb hown (hts _ e2) (hts _ s6) (hts _ s7) rfl (by rw [hml]; exact hl.1) rfl hd (by omega) (by show 2 * 0 + _ + 12 ≤ _; omega) k
    | false =>
      rw [e4] at h hlk2
      cases e3 : Nat.beq b 3 with
      | true =>
        rw [e3] at hlk2
        exact hN i hd (z_beq (z_and hlk2).1) (z_wd_ok (z_and hlk2).2) h
      | false =>
        rw [e3] at hlk2
        exact hI i hd (z_beq (z_and hlk2).1) (z_wd_ok (z_and hlk2).2) h
  | _ => cases (show (none : zQ) = some q from h)
end ZU
