/-! ===== numbers: what is known of a result ===== -/
noncomputable def z_opc (t : Nat) (f : Int → Int → Int) (ivs : zJ) (x : Nat) (c : Int) (y : Nat) (d : Int) : Option (zV × zJ) := match Nat.beq x 0 && Nat.beq y 0 with
  | true => some ((t, 0, f c d), ivs)
  | false => some (z_top t ivs)
theorem z_opc_ok {g : Int32 → Int32 → Int32} {ivs : zJ} {ρ : List Int} {x y : Nat} {c d : Int} {X Y : Int32} {out : zV × zJ} (h : z_iv ivs ρ) (h0 : ρ[0]? = some 0) (hx : z_v ρ x c X.toInt) (hy : z_v ρ y d Y.toInt) (e : z_opc 0 (fun a b => (g (Int32.ofInt a) (Int32.ofInt b)).toInt) ivs x c y d = some out) : z_R 0 ρ out (g X Y).toInt := by
  unfold z_opc at e
  split at e
  · rename_i et
    have e1 := z_beq (z_and et).1
    have e2 := z_beq (z_and et).2
    subst e1
    subst e2
    cases e
    have f1 := z_v.const h0 hx
    have f2 := z_v.const h0 hy
    subst f1
    subst f2
    dsimp only
    rw [Int32.ofInt_toInt, Int32.ofInt_toInt]
    exact z_R.same h (z_v.of0 h0 _)
  · cases e
    exact z_top_ok h (z_rng _).1 (z_rng _).2
theorem z_opcL_ok {g : Int64 → Int64 → Int64} {ivs : zJ} {ρ : List Int} {x y : Nat} {c d : Int} {X Y : Int64} {out : zV × zJ} (h : z_iv ivs ρ) (h0 : ρ[0]? = some 0) (hx : z_v ρ x c X.toInt) (hy : z_v ρ y d Y.toInt) (e : z_opc 1 (fun a b => (g (Int64.ofInt a) (Int64.ofInt b)).toInt) ivs x c y d = some out) : z_R 1 ρ out (g X Y).toInt := by
  unfold z_opc at e
  split at e
  · rename_i et
    have e1 := z_beq (z_and et).1
    have e2 := z_beq (z_and et).2
    subst e1
    subst e2
    cases e
    have f1 := z_v.const h0 hx
    have f2 := z_v.const h0 hy
    subst f1
    subst f2
    dsimp only
    rw [Int64.ofInt_toInt, Int64.ofInt_toInt]
    exact z_R.same h (z_v.of0 h0 _)
  · cases e
    exact z_top_ok h (z_rngL _).1 (z_rngL _).2
/-- a number as it is, in another width, where it fits; else between bounds -/
noncomputable def z_cst (t : Nat) (a b : Int) (ivs : zJ) (x : Nat) (c : Int) : Option (zV × zJ) := match z_b ivs x c with
  | some (l, h) => match z_ile a l && z_ile h b with
    | true => some ((t, x, c), ivs)
    | false => some ((t, ivs.1.length, 0), (ivs.1 ++ [(a, b)], ivs.2))
  | none => none
theorem z_cst_ok {t : Nat} {a b : Int} {ivs : zJ} {ρ : List Int} {x : Nat} {c z r : Int} {out : zV × zJ} (h : z_iv ivs ρ) (hv : z_v ρ x c z) (h1 : a ≤ z → z ≤ b → r = z) (h2 : a ≤ r ∧ r ≤ b) (e : z_cst t a b ivs x c = some out) : z_R t ρ out r := by
  unfold z_cst at e
  split at e
  · rename_i l u eb
    have hb := z_b_ok h hv eb
    split at e
    · rename_i et
      have e1 := z_ile_ok (z_and et).1
      have e2 := z_ile_ok (z_and et).2
      cases e
      have er := h1 (by omega) (by omega)
      subst er
      exact z_R.same h hv
    · cases e
      exact ⟨rfl, ρ ++ [r], z_app_pre _ _, h.app (b := (a, b)) h2.1 h2.2, h.last r⟩
  · cases e
/-! ===== a step ===== -/
abbrev zE : Type := Nat × Jvm.ClassFile.Instr × Nat × Nat × Nat × Nat × Int
abbrev zX : Type := zJ × List zV × List zC
/-- of a method: how many it is called with, whose it is (0: nobody's), what it answers, cells and slots that it makes, its locals, its code -/
abbrev zN : Type := Nat × Nat × Nat × Nat × Nat × Nat × List (List zE)
abbrev zL : Type := Nat → zJ → List zV → List zC → Option (List zX)
noncomputable def z_cats (sk : List zV) : Nat := match sk with
  | [] => 0
  | a :: sk => match Nat.beq a.1 1 with
    | true => z_cats sk + 2
    | false => z_cats sk + 1
noncomputable def z_pops (n : Nat) (sk acc : List zV) : Option (List zV × List zV) := match n with
  | 0 => some (acc, sk)
  | n + 1 => match sk with
    | a :: sk => z_pops n sk (a :: acc)
    | [] => none
noncomputable def z_rcv (rc : Nat) (hp : List zC) (as : List zV) : Bool := match rc with
  | 0 => true
  | ci + 1 => match as with
    | (2, j, _) :: _ => match hp[j]? with
      | some (.inl (ci', _)) => Nat.beq ci' ci
      | _ => false
    | _ => false
noncomputable def z_inv (ZD : List zN) (call : zL) (RC RS mi : Nat) (pc : Nat) (ivs : zJ) (lo : List (Nat × zV)) (sk : List zV) (hp : List zC) (nc ns : Nat) : zQ := match z_nx ZD mi with
  | some (nA, rc, _, mc, ms, _, _) => match z_pops nA sk [] with
    | some (as, rest) => match Nat.ble (nc + mc) RC && (Nat.ble (ns + ms) RS && (Nat.ble (z_cats rest) 8 && z_rcv rc hp as)) with
      | true => match call mi ivs as hp with
        | some es => some (es.map (fun E => (pc, (E.1, lo, E.2.1 ++ rest, E.2.2, nc + mc, ns + ms))))
        | none => none
      | false => none
    | none => none
  | none => none
noncomputable def z_lda (i : Nat) (pc : Nat) (ivs : zJ) (lo : List (Nat × zV)) (sk : List zV) (hp : List zC) (nc ns : Nat) : zQ := match z_ld 2 i pc ivs lo sk hp nc ns with
  | some q => some q
  | none => z_ld 4 i pc ivs lo sk hp nc ns
noncomputable def z_sta (nL i : Nat) (pc : Nat) (ivs : zJ) (lo : List (Nat × zV)) (sk : List zV) (hp : List zC) (nc ns : Nat) : zQ := z_sto 2 nL i pc ivs lo sk hp nc ns
/-- which symbol was read there before -/
noncomputable def z_fs (x g : Nat) (c : Int) : List zR → Option Nat
  | [] => none
  | (7, e, y, g', c') :: rs => match Nat.beq y x && (Nat.beq g' g && z_ieq c' c) with
    | true => some e
    | false => z_fs x g c rs
  | _ :: rs => z_fs x g c rs
theorem z_fs_ok {ρ : List Int} {x g e : Nat} {c : Int} : ∀ {rs : List zR}, (∀ r ∈ rs, z_rh ρ r) → z_fs x g c rs = some e → ∃ u v w, ρ[e]? = some u ∧ ρ[x]? = some v ∧ ρ[g]? = some w ∧ u = z_dg (v + c).toNat w
  | [], _, h => by cases h
  | (7, e', y, g', c') :: rs, hr, h => by
    have h : (match Nat.beq y x && (Nat.beq g' g && z_ieq c' c) with
      | true => some e'
      | false => z_fs x g c rs) = some e := h
    split at h
    · rename_i et
      have e1 := z_beq (z_and et).1
      have e2 := z_beq (z_and (z_and et).2).1
      have e3 := z_ieq_ok (z_and (z_and et).2).2
      have e4 : e' = e := Option.some.inj h
      subst e1
      subst e2
      subst e3
      subst e4
      exact hr _ List.mem_cons_self
    · exact z_fs_ok (fun r hm => hr r (List.mem_cons_of_mem _ hm)) h
  | (0, _, _, _, _) :: rs, hr, h => z_fs_ok (rs := rs) (fun r hm => hr r (List.mem_cons_of_mem _ hm)) h
  | (1, _, _, _, _) :: rs, hr, h => z_fs_ok (rs := rs) (fun r hm => hr r (List.mem_cons_of_mem _ hm)) h
  | (2, _, _, _, _) :: rs, hr, h => z_fs_ok (rs := rs) (fun r hm => hr r (List.mem_cons_of_mem _ hm)) h
  | (3, _, _, _, _) :: rs, hr, h => z_fs_ok (rs := rs) (fun r hm => hr r (List.mem_cons_of_mem _ hm)) h
  | (4, _, _, _, _) :: rs, hr, h => z_fs_ok (rs := rs) (fun r hm => hr r (List.mem_cons_of_mem _ hm)) h
  | (5, _, _, _, _) :: rs, hr, h => z_fs_ok (rs := rs) (fun r hm => hr r (List.mem_cons_of_mem _ hm)) h
  | (6, _, _, _, _) :: rs, hr, h => z_fs_ok (rs := rs) (fun r hm => hr r (List.mem_cons_of_mem _ hm)) h
  | (_ + 8, _, _, _, _) :: rs, hr, h => z_fs_ok (rs := rs) (fun r hm => hr r (List.mem_cons_of_mem _ hm)) h
/-- the script: symbol L is its length, the next one where it lies: a number of it, its length -/
noncomputable def z_sl (sc : Option Nat) (pc : Nat) (ivs : zJ) (lo : List (Nat × zV)) (sk : List zV) (hp : List zC) (nc ns : Nat) : zQ := match sc, sk with
  | some L, (0, x, c) :: (4, y, _) :: sk => match Nat.beq y (L + 1) && (z_imp ivs 0 0 x c 0 && z_imp ivs x c L 0 (-1)) with
    | true => match z_fs x (L + 2) c ivs.2 with
      | some e => some [(pc, (ivs, lo, (0, e, 0) :: sk, hp, nc, ns))]
      | none => match z_newr 0 (-2147483648) 2147483647 (7, ivs.1.length, x, L + 2, c) ivs with
        | (r, ivs') => some [(pc, (ivs', lo, r :: sk, hp, nc, ns))]
    | false => none
  | _, _ => none
noncomputable def z_sn (sc : Option Nat) (pc : Nat) (ivs : zJ) (lo : List (Nat × zV)) (sk : List zV) (hp : List zC) (nc ns : Nat) : zQ := match sc, sk with
  | some L, (4, y, _) :: sk => match Nat.beq y (L + 1) with
    | true => some [(pc, (ivs, lo, (0, L, 0) :: sk, hp, nc, ns))]
    | false => none
  | _, _ => none
noncomputable def z_isc (sk : List zV) : Bool := match sk with
  | (4, _, _) :: _ => true
  | _ :: (4, _, _) :: _ => true
  | _ => false
noncomputable def z_lsh (pc : Nat) (ivs : zJ) (lo : List (Nat × zV)) (sk : List zV) (hp : List zC) (nc ns : Nat) : zQ := match sk with
  | (0, _, _) :: (1, _, _) :: sk => match z_top 1 ivs with
    | (r, ivs') => some [(pc, (ivs', lo, r :: sk, hp, nc, ns))]
  | _ => none
noncomputable def z_oi (pc : Nat) (ivs : zJ) (lo : List (Nat × zV)) (sk : List zV) (hp : List zC) (nc ns : Nat) : zQ := match sk with
  | (2, _, _) :: sk => match Nat.ble (z_cats sk) 8 with
    | true => some [(pc, (ivs, lo, sk, hp, nc, ns))]
    | false => none
  | _ => none
noncomputable def z_cpy (pc : Nat) (ivs : zJ) (lo : List (Nat × zV)) (sk : List zV) (hp : List zC) (nc ns : Nat) : zQ := match Nat.ble sk.length 5 with
  | true => z_cp pc ivs lo sk hp nc ns
  | false => none
noncomputable def z_okI (t : Nat) : Bool := Nat.beq t 0
noncomputable def z_okB (t : Nat) : Bool := Nat.beq t 1 || Nat.beq t 2
noncomputable def z_stI (t : Nat) (_ _ : Int) : Bool := Nat.beq t 0
noncomputable def z_stB (t : Nat) (a b : Int) : Bool := (Nat.beq t 1 && (z_ile 0 a && z_ile b 1)) || (Nat.beq t 2 && (z_ile (-128) a && z_ile b 127))
noncomputable def z_okR (TC : List Nat) (t ci : Nat) : Bool := match TC[t - 4]? with
  | some x => Nat.beq x ci
  | none => false
noncomputable def z_lcm (nx : Option zE) (pc : Nat) (ivs : zJ) (lo : List (Nat × zV)) (sk : List zV) (hp : List zC) (nc ns : Nat) : zQ := match nx with
  | some (_, .ifCond cd off, _) => match z_tg (pc + 1) off with
    | some t => z_br2 1 true cd t (pc + 4) ivs lo sk hp nc ns
    | none => none
  | _ => none
/-- texts: whose they are, which entry, what they say; their lengths, their bytes; the two methods -/
abbrev zSP : Type := List (String × Nat × String) × List Nat × List (List Int32) × (Nat → MethodName)
/-- length() and charAt(): of a text whose place is a symbol -/
noncomputable def z_str (SP : zSP) (RC RS : Nat) (a : Nat) (pc : Nat) (ivs : zJ) (lo : List (Nat × zV)) (sk : List zV) (hp : List zC) (nc ns : Nat) : zQ := match a, sk with
  | 0, (4, y + 1, _) :: sk => match SP.2.1[y]?, Nat.ble (z_cats sk) 8 && (Nat.ble (y + 1) SP.1.length && (Nat.ble nc RC && Nat.ble ns RS)) with
    | some n, true => some [(pc, (ivs, lo, (0, 0, Int.ofNat n) :: sk, hp, nc, ns))]
    | _, _ => none
  | 1, (0, x, c) :: (4, y + 1, _) :: sk => match SP.2.1[y]?, Nat.ble (z_cats sk) 8 && (Nat.ble (y + 1) SP.1.length && (Nat.ble nc RC && Nat.ble ns RS)) with
    | some n, true => match z_ix ivs x c n with
      | true => match z_new 0 0 65535 ivs with
        | (r, ivs') => some [(pc, (ivs', lo, r :: sk, hp, nc, ns))]
      | false => none
    | _, _ => none
  | _, _ => none
noncomputable def z_pop2 (pc : Nat) (ivs : zJ) (lo : List (Nat × zV)) (sk : List zV) (hp : List zC) (nc ns : Nat) : zQ := match sk with
  | a :: sk => match Nat.beq a.1 1 with
    | true => some [(pc, (ivs, lo, sk, hp, nc, ns))]
    | false => none
  | _ => none
/-- a load, behind its array made place by place where that is asked for -/
noncomputable def z_alM (fl : Nat) (ok : Nat → Bool) (rt : Nat) (pc : Nat) (ivs : zJ) (lo : List (Nat × zV)) (sk : List zV) (hp : List zC) (nc ns : Nat) : zQ := match Nat.beq fl 1 with
  | true => match z_mat rt ivs sk hp with
    | some (J, hp') => z_al ok rt pc J lo sk hp' nc ns
    | none => none
  | false => z_al ok rt pc ivs lo sk hp nc ns
noncomputable def z_step (SP : zSP) (ZD : List zN) (call : zL) (RC RS nL : Nat) (sc : Option Nat) (DF : List (List Nat)) (TC : List Nat) (nx : Option zE) (pc : Nat) (ins : Jvm.ClassFile.Instr) (a b : Nat) (k : Int) (ivs : zJ) (lo : List (Nat × zV)) (sk : List zV) (hp : List zC) (nc ns : Nat) : zQ := match ins with
  | .aload_n i => z_lda i.val (pc + 1) ivs lo sk hp nc ns
  | .iload_n i => z_ld 0 i.val (pc + 1) ivs lo sk hp nc ns
  | .getfield _ => z_gf a b (pc + 3) ivs lo sk hp nc ns
  | .iconst n => z_psh (0, 0, (Int32.ofInt n).toInt) (pc + 1) ivs lo sk hp nc ns
  | .bipush n => z_psh (0, 0, (Int8.ofInt n).toInt32.toInt) (pc + 2) ivs lo sk hp nc ns
  | .sipush n => z_psh (0, 0, (Int16.ofInt n).toInt32.toInt) (pc + 3) ivs lo sk hp nc ns
  | .lconst n => z_psh (1, 0, (Int64.ofNat n.val).toInt) (pc + 1) ivs lo sk hp nc ns
  | .ldc _ => match Nat.beq b 7 with
    | true => z_psh (4, a, 0) (pc + 2) ivs lo sk hp nc ns
    | false => z_psh (0, 0, (Int32.ofInt k).toInt) (pc + 2) ivs lo sk hp nc ns
  | .ldc_w _ => z_psh (0, 0, (Int32.ofInt k).toInt) (pc + 3) ivs lo sk hp nc ns
  | .ldc2_w _ => z_psh (1, 0, (Int64.ofInt k).toInt) (pc + 3) ivs lo sk hp nc ns
  | .iload i => z_ld 0 i (pc + 2) ivs lo sk hp nc ns
  | .lload_n i => z_ld 1 i.val (pc + 1) ivs lo sk hp nc ns
  | .lload i => z_ld 1 i (pc + 2) ivs lo sk hp nc ns
  | .aload i => z_lda i (pc + 2) ivs lo sk hp nc ns
  | .istore_n i => z_sto 0 nL i.val (pc + 1) ivs lo sk hp nc ns
  | .istore i => z_sto 0 nL i (pc + 2) ivs lo sk hp nc ns
  | .lstore_n i => z_sto2 nL i.val (pc + 1) ivs lo sk hp nc ns
  | .lstore i => z_sto2 nL i (pc + 2) ivs lo sk hp nc ns
  | .astore_n i => z_sta nL i.val (pc + 1) ivs lo sk hp nc ns
  | .astore i => z_sta nL i (pc + 2) ivs lo sk hp nc ns
  | .iinc i n => z_inc nL i (Int32.ofInt n).toInt (pc + 3) ivs lo sk hp nc ns
  | .iadd => z_bin 0 (z_add 0) (pc + 1) ivs lo sk hp nc ns
  | .isub => z_bin 0 (z_sub 0) (pc + 1) ivs lo sk hp nc ns
  | .imul => z_bin 0 (z_mul 0) (pc + 1) ivs lo sk hp nc ns
  | .iand => z_bin 0 (z_bb 0 z_fand (fun a b => (Int32.ofInt a &&& Int32.ofInt b).toInt)) (pc + 1) ivs lo sk hp nc ns
  | .ior => z_bin 0 (z_bb 0 z_fior (fun a b => (Int32.ofInt a ||| Int32.ofInt b).toInt)) (pc + 1) ivs lo sk hp nc ns
  | .ixor => z_bin 0 (z_opc 0 (fun a b => (Int32.ofInt a ^^^ Int32.ofInt b).toInt)) (pc + 1) ivs lo sk hp nc ns
  | .ishl => z_bin 0 (z_bb 0 z_fshl (fun a b => (Int32.ofInt a <<< (Int32.ofInt b &&& 31)).toInt)) (pc + 1) ivs lo sk hp nc ns
  | .ishr => z_bin 0 (z_bb 0 z_fshr (fun a b => (Int32.ofInt a >>> (Int32.ofInt b &&& 31)).toInt)) (pc + 1) ivs lo sk hp nc ns
  | .iushr => z_bin 0 (z_opc 0 (fun a b => ((Int32.ofInt a).toUInt32 >>> ((Int32.ofInt b).toUInt32 &&& Int32.toUInt32 31)).toInt32.toInt)) (pc + 1) ivs lo sk hp nc ns
  | .idiv => z_bin 0 (z_quo 0) (pc + 1) ivs lo sk hp nc ns
  | .irem => z_bin 0 (z_rem 0) (pc + 1) ivs lo sk hp nc ns
  | .ldiv => z_bin 1 (z_quo 1) (pc + 1) ivs lo sk hp nc ns
  | .lrem => z_bin 1 (z_rem 1) (pc + 1) ivs lo sk hp nc ns
  | .ladd => z_bin 1 (z_add 1) (pc + 1) ivs lo sk hp nc ns
  | .lsub => z_bin 1 (z_sub 1) (pc + 1) ivs lo sk hp nc ns
  | .lmul => z_bin 1 (z_mul 1) (pc + 1) ivs lo sk hp nc ns
  | .land => z_bin 1 (z_opc 1 (fun a b => (Int64.ofInt a &&& Int64.ofInt b).toInt)) (pc + 1) ivs lo sk hp nc ns
  | .lor => z_bin 1 (z_opc 1 (fun a b => (Int64.ofInt a ||| Int64.ofInt b).toInt)) (pc + 1) ivs lo sk hp nc ns
  | .lshl => z_lsh (pc + 1) ivs lo sk hp nc ns
  | .i2l => z_un 0 1 (z_cst 1 (-2147483648) 2147483647) (pc + 1) ivs lo sk hp nc ns
  | .l2i => z_un 1 0 (z_cst 0 (-2147483648) 2147483647) (pc + 1) ivs lo sk hp nc ns
  | .i2b => z_un 0 0 (z_cst 0 (-128) 127) (pc + 1) ivs lo sk hp nc ns
  | .i2s => z_un 0 0 (z_cst 0 (-32768) 32767) (pc + 1) ivs lo sk hp nc ns
  | .lcmp => z_lcm nx pc ivs lo sk hp nc ns
  | .ifCond cd off => match z_tg pc off with
    | some t => z_br1 cd t (pc + 3) ivs lo sk hp nc ns
    | none => none
  | .if_icmp cd off => match z_tg pc off with
    | some t => z_br2 0 true cd t (pc + 3) ivs lo sk hp nc ns
    | none => none
  | .goto off => z_gt (z_tg pc off) ivs lo sk hp nc ns
  | .tableswitch d x y offs => z_tsw d x y offs.toList pc ivs lo sk hp nc ns
  | .dup => z_dup (pc + 1) ivs lo sk hp nc ns
  | .dup2 => z_dup2 (pc + 1) ivs lo sk hp nc ns
  | .pop => z_pop (pc + 1) ivs lo sk hp nc ns
  | .pop2 => z_pop2 (pc + 1) ivs lo sk hp nc ns
  | .lneg => z_un 1 1 (fun J x c => z_sub 1 J 0 0 x c) (pc + 1) ivs lo sk hp nc ns
  | .putfield _ => z_pf a b k.toNat (pc + 3) ivs lo sk hp nc ns
  | .iaload => match z_isc sk with
    | true => z_sl sc (pc + 1) ivs lo sk hp nc ns
    | false => z_alM a z_okI 0 (pc + 1) ivs lo sk hp nc ns
  | .baload => z_al z_okB 0 (pc + 1) ivs lo sk hp nc ns
  | .laload => match Nat.beq a 3 with
    | true => z_al3 b k (pc + 1) ivs lo sk hp nc ns
    | false => z_alM a (fun t => Nat.beq t 3) 1 (pc + 1) ivs lo sk hp nc ns
  | .aaload => z_ar (pc + 1) ivs lo sk hp nc ns
  | .iastore => z_as (Nat.beq a 2) 0 z_stI (pc + 1) ivs lo sk hp nc ns
  | .bastore => z_as false 0 z_stB (pc + 1) ivs lo sk hp nc ns
  | .lastore => z_asL (pc + 1) ivs lo sk hp nc ns
  | .aastore => z_sr (z_okR TC) (pc + 1) ivs lo sk hp nc ns
  | .arraylength => match z_isc sk with
    | true => z_sn sc (pc + 1) ivs lo sk hp nc ns
    | false => z_len (pc + 1) ivs lo sk hp nc ns
  | .new _ => match DF[a]? with
    | some dc => z_nw RC RS a dc (pc + 3) ivs lo sk hp nc ns
    | none => none
  | .newarray _ => z_na RC RS a (pc + 2) ivs lo sk hp nc ns
  | .anewarray _ => z_nr RC RS a (pc + 3) ivs lo sk hp nc ns
  | .invokevirtual _ => match Nat.beq b 6 with
    | true => z_str SP RC RS a (pc + 3) ivs lo sk hp nc ns
    | false => z_inv ZD call RC RS a (pc + 3) ivs lo sk hp nc ns
  | .invokestatic _ => match Nat.beq b 5 with
    | true => z_cpy (pc + 3) ivs lo sk hp nc ns
    | false => z_inv ZD call RC RS a (pc + 3) ivs lo sk hp nc ns
  | .invokespecial _ => match Nat.beq b 4 with
    | true => z_oi (pc + 3) ivs lo sk hp nc ns
    | false => z_inv ZD call RC RS a (pc + 3) ivs lo sk hp nc ns
  | _ => none
