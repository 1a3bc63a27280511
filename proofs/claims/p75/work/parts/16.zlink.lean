/-! ===== what a step rests on: links, tables, a frame ===== -/
noncomputable def z_tt (t : Nat) : FieldType := match t with
  | 0 => .int
  | 1 => .boolean
  | 2 => .byte
  | _ => .long
noncomputable def z_ftc (ty : FieldType) : Nat := match ty with
  | .int => 0
  | .boolean => 1
  | .long => 2
  | .object _ => 3
  | .array _ => 3
  | _ => 9
theorem z_ftc_ok {ty : FieldType} {v : Value} (h : z_tv (z_ftc ty) v) (h9 : z_ftc ty < 9) : narrow ty v = v ∧ fits ty v = true := by
  cases ty <;> (try (exact absurd h9 (by decide)))
  · obtain ⟨i, rfl⟩ := h
    exact ⟨rfl, rfl⟩
  · obtain ⟨i, rfl⟩ := h
    exact ⟨rfl, rfl⟩
  · rcases h with rfl | rfl
    · exact ⟨rfl, rfl⟩
    · exact ⟨rfl, rfl⟩
  · obtain ⟨i, rfl⟩ := h
    exact ⟨rfl, rfl⟩
  · obtain ⟨i, rfl⟩ := h
    exact ⟨rfl, rfl⟩
noncomputable def z_wd (tbl : List Cond) (w : Nat) (x : Cond) : Bool := decide (z_nx tbl w = some x)
theorem z_wd_ok {tbl : List Cond} {w : Nat} {x : Cond} (h : z_wd tbl w x = true) : x ∈ tbl := List.mem_of_getElem? ((z_nx_eq tbl w).symm.trans (of_decide_eq_true h))
noncomputable def z_lks (SP : zSP) (own : String) (i a : Nat) : Bool := match a with
  | 0 => false
  | y + 1 => match SP.1[y]? with
    | some q => decide (q.1 = own) && Nat.beq q.2.1 i
    | none => false
theorem z_lks_ok {SP : zSP} {own : String} {i a : Nat} (h : z_lks SP own i a = true) : ∃ y t, a = y + 1 ∧ SP.1[y]? = some t ∧ t.1 = own ∧ t.2.1 = i := by
  cases a with
  | zero => cases h
  | succ y =>
    unfold z_lks at h
    dsimp only at h
    split at h
    · rename_i t et
      exact ⟨y, t, rfl, et, of_decide_eq_true (z_and h).1, z_beq (z_and h).2⟩
    · cases h
noncomputable def z_lok (SP : zSP) (tbl : List Cond) (cl : List vw_C) (TY : Nat → Nat → FieldType) (TC : List Nat) (Y : Nat → MethodName) (VK : Nat → Nat) (HN own : String) (ini : Bool) (ins : Jvm.ClassFile.Instr) (ln a b w : Nat) (k : Int) : Bool := match ins with
  | .bipush _ => Nat.beq ln 2
  | .iload _ => Nat.beq ln 2
  | .lload _ => Nat.beq ln 2
  | .aload _ => Nat.beq ln 2
  | .istore _ => Nat.beq ln 2
  | .lstore _ => Nat.beq ln 2
  | .astore _ => Nat.beq ln 2
  | .newarray ty => Nat.beq ln 2 && (decide (newarray.typeOf ty = z_tt a) && (Nat.ble a 3 && z_wd tbl w (.arrayClass (z_tt a))))
  | .ldc i => Nat.beq ln 2 && (match Nat.beq b 7 with
    | true => z_lks SP own i a
    | false => z_wd tbl w (.constant own i (Int32.ofInt k)))
  | .ldc_w i => Nat.beq ln 3 && z_wd tbl w (.constant own i (Int32.ofInt k))
  | .ldc2_w i => Nat.beq ln 3 && z_wd tbl w (.constantLong own i (Int64.ofInt k))
  | .sipush _ => Nat.beq ln 3
  | .ifCond _ _ => Nat.beq ln 3
  | .if_icmp _ _ => Nat.beq ln 3
  | .goto _ => Nat.beq ln 3
  | .iinc _ _ => Nat.beq ln 3
  | .getfield i => match cl[a]? with
    | some q => Nat.beq ln 3 && (Nat.ble (b + 1) q.2.2 && z_wd tbl w (.fieldLink own i (q.2.1 b).1 (q.2.1 b).2.1 (q.2.1 b).2.2.1))
    | none => false
  | .putfield i => match cl[a]? with
    | some q => Nat.beq ln 3 && (Nat.ble (b + 1) q.2.2 && (z_wd tbl w (.fieldLink own i (q.2.1 b).1 (q.2.1 b).2.1 (q.2.1 b).2.2.1) && ((Nat.beq (z_ftc (TY a b)) k.toNat && Nat.ble k.toNat 8) && (match (q.2.1 b).2.2.2 with
      | true => ini && decide ((q.2.1 b).1 = own)
      | false => true))))
    | none => false
  | .new i => match cl[a]? with
    | some q => Nat.beq ln 3 && (z_wd tbl w (.classLink own i q.1) && (z_wd tbl b (.instantiable q.1 q.2.2) && z_wd tbl k.toNat (.initialized q.1)))
    | none => false
  | .anewarray i => match TC[a - 4]? with
    | some ci => match cl[ci]? with
      | some q => Nat.beq ln 3 && (Nat.ble 4 a && (z_wd tbl w (.classLink own i q.1) && z_wd tbl b (.arrayOver (.object q.1))))
      | none => false
    | none => false
  | .invokevirtual i => Nat.beq ln 3 && (match Nat.beq b 6 with
    | true => z_wd tbl w (.methodLink own i (SP.2.2.2 a))
    | false => Nat.beq (VK a) 0 && z_wd tbl w (.methodLink own i (Y a)))
  | .invokestatic i => Nat.beq ln 3 && (match Nat.beq b 5 with
    | true => z_wd tbl w (.methodLink own i arraycopyName)
    | false => Nat.beq (VK a) 1 && z_wd tbl w (.methodLink own i (Y a)))
  | .invokespecial i => Nat.beq ln 3 && (match Nat.beq b 4 with
    | true => z_wd tbl w (.methodLink own i Lib.objectInit)
    | false => Nat.beq (VK a) 2 && (match Nat.beq b 3 with
      | true => z_wd tbl w (.methodLinkNest own i (Y a) HN)
      | false => z_wd tbl w (.methodLink own i (Y a))))
  | .tableswitch _ _ _ _ => true
  | _ => Nat.beq ln 1
noncomputable def z_TYs (cl : List vw_C) (TC : List Nat) (tys : List (ClassId × FieldType)) : Prop := (∀ t, t ≤ 3 → ∃ cA, tys[t]? = some (cA, z_tt t)) ∧ (∀ i ci, TC[i]? = some ci → ∃ cA q, cl[ci]? = some q ∧ tys[4 + i]? = some (cA, .object q.1)) ∧ tys.length = 4 + TC.length
/-- what the tables say of the classes -/
noncomputable def z_ST (tbl : List Cond) (cl : List vw_C) (TY : Nat → Nat → FieldType) (DF : List (List Nat)) : Prop :=
  (∀ ci q, cl[ci]? = some q → (∀ w ∈ u_ws q.1 q.2.1 q.2.2, w ∈ tbl) ∧ (∀ k, k < q.2.2 → parseFieldDescriptor (q.2.1 k).2.2.1 = some (TY ci k)) ∧ (∀ a, a < q.2.2 → ∀ b, b < q.2.2 → a ≠ b → (q.2.1 a).2.1 ≠ (q.2.1 b).2.1)) ∧
  (∀ ci dc, DF[ci]? = some dc → ∃ q, cl[ci]? = some q ∧ dc.length = q.2.2 ∧ ∀ j, j < q.2.2 → defaultValue (TY ci j) = vp_V (dc.map z_dv) j) ∧
  (Cond.native arraycopyName ∈ tbl ∧ Cond.static arraycopyName ∈ tbl ∧ Cond.initialized "java/lang/System" ∈ tbl) ∧ Cond.instanceMethod Lib.objectInit ∈ tbl ∧ Cond.code Lib.objectInit ⟨#[0xb1]⟩ 1 none ∈ tbl
noncomputable def z_SC (sc : Option Nat) (ρ0 : List Int) (A : Nat → Prop) (H0 : Heap) (s : State) : Prop := match sc with
  | none => True
  | some L => ∃ (b n : Nat) (xs : Nat → Int32), ρ0[L]? = some (n : Int) ∧ ρ0[L + 1]? = some (b : Int) ∧ va_X b n xs s H0 ∧ b < H0.size ∧ ¬ A b ∧ n ≤ 2147483647 ∧ ∃ G : Int, ρ0[L + 2]? = some G ∧ ∀ j, j < n → z_dg j G = (xs j).toInt
/-- the texts lie where the first symbols say, and stay -/
noncomputable def z_SF (SP : zSP) (bs : List Int) (A : Nat → Prop) (U : State) (H : Heap) : Prop := ∃ adK adV : Nat → Nat, (∀ j, j < SP.1.length → bs[j + 1]? = some (adK j : Int)) ∧ (∀ j q, SP.1[j]? = some q → vk_R q.1 q.2.1 q.2.2 (adK j) U) ∧ vk_S SP.1.length SP.2.1 SP.2.2.1 adK adV A U H ∧ (va_Z "java/lang/String" "COMPACT_STRINGS" "Z" (.int 1) A U H ∧ va_Zq "jdk/internal/util/Preconditions" "SIOOBE_FORMATTER" "Ljava/util/function/BiFunction;" A U H)
theorem z_SF.warm {SP : zSP} {bs : List Int} {A B : Nat → Prop} {s U : State} {H H1 : Heap} (h : z_SF SP bs A s H) (hW : s.WarmedH U.vm) (hq : ∀ a : Nat, a < H.size → ¬ A a → H1[a]? = H[a]?) (hAB : ∀ q, B q → A q) : z_SF SP bs B U H1 := by
  obtain ⟨adK, adV, h1, h2, h3, h4⟩ := h
  exact ⟨adK, adV, h1, fun j q hj => (h2 j q hj).warm hW, ((h3.moved hW.alike).kept hq).narrow hAB, ⟨((h4.1.moved hW.alike).kept hq).narrow hAB, ((h4.2.moved hW.alike).kept hq).narrow hAB⟩⟩
/-- a frame: the machine, its code, its tables' words, its room -/
noncomputable def z_CX (SP : zSP) (bs : List Int) (p : Program) (R : Room) (s : State) (m : MethodId) (args : Array Value) (meth : Method) (c : Code) (cc : ByteArray) (nL : Nat) (own : String) (ini : Bool) (D : va_G) (cl : List vw_C) (tys : List (ClassId × FieldType)) (TC : List Nat) (tbl : List Cond) (A : Nat → Prop) (H0 : Heap) (RC RS d : Nat) (sc : Option Nat) (ρ0 : List Int) : Prop :=
  (p.tables.exec = Jvm.exec ∧ c.code = cc ∧ c.maxLocals = nL ∧ s.vm.findClass own = some m.cls ∧ ∀ w ∈ tbl, w.before args s = true) ∧ (ini = true → meth.name = "<init>") ∧ va_K D cl tys s ∧ (∀ q, H0.size ≤ q → A q) ∧ z_TYs cl TC tys ∧ (RC ≤ R.cells ∧ RS ≤ R.slots ∧ d + 1 ≤ R.frames ∧ 40 * (d + 1) ≤ R.locals) ∧ z_SC sc ρ0 A H0 s ∧ (bs <+: ρ0 ∧ z_SF SP bs A s H0 ∧ H0 = s.heap)
/-! branches, all kinds -/
theorem z_eqI {x y : Int32} : x = y ↔ x.toInt = y.toInt := Int32.toInt_inj.symm
section ZR
variable {p : Program} {l : Launch} {e : Env} {R : Room} {s : State} {m : MethodId} {args : Array Value} {below : List Frame} {meth : Method} {c : Code} {Q : State → Prop} {H : Heap} {locs : List Loc} {ls : Array Slot} {nc ns pc tgt : Nat} {rest : List Value} {cc : ByteArray} {off : Int}
theorem z_if (hx : p.tables.exec = Jvm.exec) (hb : c.code = cc) {cd : Jvm.ClassFile.Cond} {x : Int32} (hd : decode cc pc = .ok (.ifCond cd off, 3)) (ht : (pc : Int) + off = (tgt : Int)) (k1 : z_hd cd x.toInt 0 → W p l e R s m args below meth c H locs nc ns Q (F0 m tgt ls rest)) (k2 : z_hd (z_neg cd) x.toInt 0 → W p l e R s m args below meth c H locs nc ns Q (F0 m (pc + 3) ls rest)) : W p l e R s m args below meth c H locs nc ns Q (F0 m pc ls (.int x :: rest)) := by
  have h0 : (0 : Int32).toInt = 0 := rfl
  cases cd with
  | eq => exact lv_if_eq hx hb hd ht (fun h => k1 (by rw [h]; rfl)) (fun h => k2 (fun q => h (z_eqI.mpr (q.trans h0.symm))))
  | ne => exact lv_if_ne hx hb hd ht (fun h => k1 (fun q => h (z_eqI.mpr (q.trans h0.symm)))) (fun h => k2 (by rw [h]; rfl))
  | lt => exact lv_if_lt hx hb hd ht (fun h => k1 (Int32.lt_iff_toInt_lt.mp h)) (fun h => k2 (Int.not_lt.mp (fun q => h (Int32.lt_iff_toInt_lt.mpr q))))
  | ge => exact lv_if_ge hx hb hd ht (fun h => k1 (Int32.le_iff_toInt_le.mp h)) (fun h => k2 (Int.not_le.mp (fun q => h (Int32.le_iff_toInt_le.mpr q))))
  | gt => exact lv_if_gt hx hb hd ht (fun h => k1 (Int32.lt_iff_toInt_lt.mp h)) (fun h => k2 (Int.not_lt.mp (fun q => h (Int32.lt_iff_toInt_lt.mpr q))))
  | le => exact lv_if_le hx hb hd ht (fun h => k1 (Int32.le_iff_toInt_le.mp h)) (fun h => k2 (Int.not_le.mp (fun q => h (Int32.le_iff_toInt_le.mpr q))))
theorem z_icmp (hx : p.tables.exec = Jvm.exec) (hb : c.code = cc) {cd : Jvm.ClassFile.Cond} {x y : Int32} (hd : decode cc pc = .ok (.if_icmp cd off, 3)) (ht : (pc : Int) + off = (tgt : Int)) (k1 : z_hd cd x.toInt y.toInt → W p l e R s m args below meth c H locs nc ns Q (F0 m tgt ls rest)) (k2 : z_hd (z_neg cd) x.toInt y.toInt → W p l e R s m args below meth c H locs nc ns Q (F0 m (pc + 3) ls rest)) : W p l e R s m args below meth c H locs nc ns Q (F0 m pc ls (.int y :: .int x :: rest)) := by
  cases cd with
  | eq => exact lv_icmp_eq hx hb hd ht (fun h => k1 (by rw [h]; rfl)) (fun h => k2 (fun q => h (z_eqI.mpr q)))
  | ne => exact lv_icmp_ne hx hb hd ht (fun h => k1 (fun q => h (z_eqI.mpr q))) (fun h => k2 (by rw [h]; rfl))
  | lt => exact lv_icmp_lt hx hb hd ht (fun h => k1 (Int32.lt_iff_toInt_lt.mp h)) (fun h => k2 (Int.not_lt.mp (fun q => h (Int32.lt_iff_toInt_lt.mpr q))))
  | ge => exact lv_icmp_ge hx hb hd ht (fun h => k1 (Int32.le_iff_toInt_le.mp h)) (fun h => k2 (Int.not_le.mp (fun q => h (Int32.le_iff_toInt_le.mpr q))))
  | gt => exact lv_icmp_gt hx hb hd ht (fun h => k1 (Int32.lt_iff_toInt_lt.mp h)) (fun h => k2 (Int.not_lt.mp (fun q => h (Int32.lt_iff_toInt_lt.mpr q))))
  | le => exact lv_icmp_le hx hb hd ht (fun h => k1 (Int32.le_iff_toInt_le.mp h)) (fun h => k2 (Int.not_le.mp (fun q => h (Int32.le_iff_toInt_le.mpr q))))
theorem z_lcmp (hx : p.tables.exec = Jvm.exec) (hb : c.code = cc) {cd : Jvm.ClassFile.Cond} {x y : Int64} (hd0 : decode cc pc = .ok (.lcmp, 1)) (hd : decode cc (pc + 1) = .ok (.ifCond cd off, 3)) (ht : ((pc + 1 : Nat) : Int) + off = (tgt : Int)) (k1 : z_hd cd x.toInt y.toInt → W p l e R s m args below meth c H locs nc ns Q (F0 m tgt ls rest)) (k2 : z_hd (z_neg cd) x.toInt y.toInt → W p l e R s m args below meth c H locs nc ns Q (F0 m (pc + 4) ls rest)) : W p l e R s m args below meth c H locs nc ns Q (F0 m pc ls (.long y :: .long x :: rest)) := by
  refine W.lcmp hx hb hd0 ?_
  cases cd with
  | eq => exact lv_if_eq hx hb hd ht (fun h => k1 (by rw [(lg_cmp_eq x y).mp h]; rfl)) (fun h => k2 (fun q => h ((lg_cmp_eq x y).mpr (Int64.toInt_inj.mp q))))
  | ne => exact lv_if_ne hx hb hd ht (fun h => k1 (fun q => h ((lg_cmp_eq x y).mpr (Int64.toInt_inj.mp q)))) (fun h => k2 (by rw [(lg_cmp_eq x y).mp h]; rfl))
  | lt => exact lv_if_lt hx hb hd ht (fun h => k1 (Int64.lt_iff_toInt_lt.mp ((lg_cmp_lt x y).mp h))) (fun h => k2 (Int.not_lt.mp (fun q => h ((lg_cmp_lt x y).mpr (Int64.lt_iff_toInt_lt.mpr q)))))
  | ge => exact lv_if_ge hx hb hd ht (fun h => k1 (Int64.le_iff_toInt_le.mp ((lg_cmp_ge x y).mp h))) (fun h => k2 (Int.not_le.mp (fun q => h ((lg_cmp_ge x y).mpr (Int64.le_iff_toInt_le.mpr q)))))
  | gt => exact lv_if_gt hx hb hd ht (fun h => k1 (Int64.lt_iff_toInt_lt.mp ((lg_cmp_gt x y).mp h))) (fun h => k2 (Int.not_lt.mp (fun q => h ((lg_cmp_gt x y).mpr (Int64.lt_iff_toInt_lt.mpr q)))))
  | le => exact lv_if_le hx hb hd ht (fun h => k1 (Int64.le_iff_toInt_le.mp ((lg_cmp_le x y).mp h))) (fun h => k2 (Int.not_le.mp (fun q => h ((lg_cmp_le x y).mpr (Int64.le_iff_toInt_le.mpr q)))))
end ZR
/-! the widths of numbers -/
theorem z_i2b (x : Int32) : (-128 ≤ x.toInt → x.toInt ≤ 127 → x.toInt8.toInt32.toInt = x.toInt) ∧ -128 ≤ x.toInt8.toInt32.toInt ∧ x.toInt8.toInt32.toInt ≤ 127 := by
  have h1 := Int8.le_toInt x.toInt8
  have h2 := Int8.toInt_lt x.toInt8
  rw [Int8.toInt_toInt32]
  refine ⟨fun a b => ?_, by omega, by omega⟩
  rw [Int32.toInt_toInt8, Int.bmod_eq_of_le (by omega) (by omega)]
theorem z_i2s (x : Int32) : (-32768 ≤ x.toInt → x.toInt ≤ 32767 → x.toInt16.toInt32.toInt = x.toInt) ∧ -32768 ≤ x.toInt16.toInt32.toInt ∧ x.toInt16.toInt32.toInt ≤ 32767 := by
  have h1 := Int16.le_toInt x.toInt16
  have h2 := Int16.toInt_lt x.toInt16
  rw [Int16.toInt_toInt32]
  refine ⟨fun a b => ?_, by omega, by omega⟩
  rw [Int32.toInt_toInt16, Int.bmod_eq_of_le (by omega) (by omega)]
theorem z_l2i (x : Int64) : (-2147483648 ≤ x.toInt → x.toInt ≤ 2147483647 → x.toInt32.toInt = x.toInt) ∧ -2147483648 ≤ x.toInt32.toInt ∧ x.toInt32.toInt ≤ 2147483647 := by
  have h1 := Int32.le_toInt x.toInt32
  have h2 := Int32.toInt_lt x.toInt32
  refine ⟨fun a b => ?_, by omega, by omega⟩
  rw [Int64.toInt_toInt32, Int.bmod_eq_of_le (by omega) (by omega)]
theorem z_nar1 {x : Int32} (h1 : 0 ≤ x.toInt) (h2 : x.toInt ≤ 1) : vp_nar .boolean x = x := by
  rcases z_01 h1 h2 with rfl | rfl
  · rfl
  · rfl
theorem z_nar2 {x : Int32} (h1 : -128 ≤ x.toInt) (h2 : x.toInt ≤ 127) : vp_nar .byte x = x := by
  rw [vp_nar_byte]
  exact Int32.toInt_inj.mp ((z_i2b x).1 h1 h2)
