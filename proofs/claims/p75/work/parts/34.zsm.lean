/-! ===== the texts: length and charAt, and what they call ===== -/
theorem zt_narrow {A : Nat → Prop} {s : State} {bs : List Int} {SP : zSP} {y q : Nat} (hSF : z_SF SP bs A s s.heap) (hy : y < SP.1.length) (hq : bs[y + 1]? = some (q : Int)) : ∃ adV : Nat → Nat, (∃ cell : Cell, s.heap[q]? = some cell ∧ cell.vm.isStatics = false ∧ s.vm.findClass "java/lang/String" = some cell.cls) ∧ va_OF "java/lang/String" "coder" "B" (.int 0) q A s s.heap ∧ va_OF "java/lang/String" "value" "[B" (.ref (adV y)) q A s s.heap ∧ va_T .byte (adV y) (SP.2.1.getD y 0) (fun j => .int ((SP.2.2.1.getD y []).getD j 0)) A s s.heap ∧ va_Z "java/lang/String" "COMPACT_STRINGS" "Z" (.int 1) A s s.heap := by
  obtain ⟨adK, adV, f1, f2, f3, f4, f5⟩ := hSF
  have hq0 := f1 y hy
  rw [hq] at hq0
  have eb : q = adK y := by
    have := Option.some.inj hq0
    omega
  subst eb
  exact ⟨adV, vk_recv f3 hy va_S.rf, (f3.1 y hy).2.1, (f3.1 y hy).2.2.1, (f3.1 y hy).2.2.2, f4⟩
theorem zt_A {sz : Nat} : ∀ q : Nat, sz ≤ q → va_A [] sz q := fun _ h => Or.inr h
section ZSM
variable {SP : zSP} {bs : List Int} {l : Launch} {D : va_G} {cl : List vw_C} {tys : List (ClassId × FieldType)} {tbl : List Cond}
theorem zt_coder (w1 : Cond.fieldLink RJ0 38 "java/lang/String" "COMPACT_STRINGS" "Z" ∈ tbl) (w2 : Cond.fieldLink RJ0 15 "java/lang/String" "coder" "B" ∈ tbl) {y q : Nat} (sz : Nat) (hy : y < SP.1.length) (hq : bs[y + 1]? = some (q : Int)) :
    Met l yJ0_coder_7d493 (Cond.code yJ0_coder_7d493 cJ0_coder_7d493 1 (some .byte) :: tbl) (z_rm 0 0 0) (z_Pc SP bs D cl tys [] [.ref q] sz) (va_Qi (fun (r : Int32) (_ : Unit) => r = 0) (fun _ _ => True) (va_A [] sz)) 0 0 (va_A [] sz) := by
  refine z_ofW (cc := cJ0_coder_7d493) (maxL := 1) (ret := some .byte) (by decide +kernel) rfl ?_
  intro p e s m args below meth c s₁ B0 hml hv
  obtain ⟨rfl, hsz, hP, hK, hD0, hSF⟩ := hv
  subst hsz
  have hx := B0.exec
  have hb := B0.bytes
  have hr := B0.returns
  have hts := atoms_spec (ws := Cond.code yJ0_coder_7d493 cJ0_coder_7d493 1 (some .byte) :: tbl) B0.pre
  have hown : s.vm.findClass RJ0 = some m.cls := findClass_of_methodNamed B0.named
  have hlocks := B0.notSynchronized
  obtain ⟨adV, g0, g1, g2, g3, g4⟩ := zt_narrow hSF hy hq
  have hl := lv_entry [.ref q] (n := 1) (Nat.le_refl 1)
  rw [lg_entry_eq]
  generalize (lg_sl [Value.ref q] ++ List.replicate (1 - (lg_sl [Value.ref q]).length) Slot.unset).toArray = ls at hl ⊢
  refine va_gets hx hb (index := 38) g4 va_S.rf hown (hts _ (List.mem_cons_of_mem _ w1)) (fun _ h => h) (by decide +kernel) ?_
  refine lv_if_eq hx hb (off := 10) (tgt := 13) (by decide +kernel) (by decide) (fun h => absurd h (by decide)) (fun _ => ?_)
  refine lv_aload_n hx hb (k := 0) (i := 0) (by decide +kernel) rfl (lv_at hl 0 rfl) ?_
  refine vk_getf hx hb (index := 15) g1 va_S.rf hown (hts _ (List.mem_cons_of_mem _ w2)) (fun _ h => h) (by decide +kernel) ?_
  refine lv_goto hx hb (off := 4) (tgt := 14) (by decide +kernel) (by decide) ?_
  exact W.zret hx hb hr (by decide) (fun t ht hW => ⟨⟨0, (), rfl, rfl, trivial⟩, va_S.rf.F ht⟩) (fun q hq => by cases hq) (by decide +kernel)
theorem zt_latin (w1 : Cond.fieldLink RJ0 38 "java/lang/String" "COMPACT_STRINGS" "Z" ∈ tbl) (w2 : Cond.fieldLink RJ0 15 "java/lang/String" "coder" "B" ∈ tbl) {y q : Nat} (sz : Nat) (hy : y < SP.1.length) (hq : bs[y + 1]? = some (q : Int)) :
    Met l yJ0_isLatin1_aae02 (Cond.code yJ0_isLatin1_aae02 cJ0_isLatin1_aae02 1 (some .boolean) :: tbl) (z_rm 0 0 0) (z_Pc SP bs D cl tys [] [.ref q] sz) (va_Qi (fun (r : Int32) (_ : Unit) => r = 1) (fun _ _ => True) (va_A [] sz)) 0 0 (va_A [] sz) := by
  refine z_ofW (cc := cJ0_isLatin1_aae02) (maxL := 1) (ret := some .boolean) (by decide +kernel) rfl ?_
  intro p e s m args below meth c s₁ B0 hml hv
  obtain ⟨rfl, hsz, hP, hK, hD0, hSF⟩ := hv
  subst hsz
  have hx := B0.exec
  have hb := B0.bytes
  have hr := B0.returns
  have hts := atoms_spec (ws := Cond.code yJ0_isLatin1_aae02 cJ0_isLatin1_aae02 1 (some .boolean) :: tbl) B0.pre
  have hown : s.vm.findClass RJ0 = some m.cls := findClass_of_methodNamed B0.named
  have hlocks := B0.notSynchronized
  obtain ⟨adV, g0, g1, g2, g3, g4⟩ := zt_narrow hSF hy hq
  have hl := lv_entry [.ref q] (n := 1) (Nat.le_refl 1)
  rw [lg_entry_eq]
  generalize (lg_sl [Value.ref q] ++ List.replicate (1 - (lg_sl [Value.ref q]).length) Slot.unset).toArray = ls at hl ⊢
  refine va_gets hx hb (index := 38) g4 va_S.rf hown (hts _ (List.mem_cons_of_mem _ w1)) (fun _ h => h) (by decide +kernel) ?_
  refine lv_if_eq hx hb (off := 14) (tgt := 17) (by decide +kernel) (by decide) (fun h => absurd h (by decide)) (fun _ => ?_)
  refine lv_aload_n hx hb (k := 0) (i := 0) (by decide +kernel) rfl (lv_at hl 0 rfl) ?_
  refine vk_getf hx hb (index := 15) g1 va_S.rf hown (hts _ (List.mem_cons_of_mem _ w2)) (fun _ h => h) (by decide +kernel) ?_
  refine lv_if_ne hx hb (off := 7) (tgt := 17) (by decide +kernel) (by decide) (fun h => absurd rfl h) (fun _ => ?_)
  refine lv_iconst hx hb (n := 1) (v := 1) (by decide +kernel) (by decide) ?_
  refine lv_goto hx hb (off := 4) (tgt := 18) (by decide +kernel) (by decide) ?_
  exact W.zret hx hb hr (by decide) (fun t ht hW => ⟨⟨1, (), rfl, rfl, trivial⟩, va_S.rf.F ht⟩) (fun q hq => by cases hq) (by decide +kernel)
theorem zt_pre3 {i n : Int32} {v : Value} (hv1 : v.category = 1) (sz : Nat) (h0 : ¬ i < 0) (h1 : i < n) :
    Met l yJ3_checkIndex_8e157 (Cond.code yJ3_checkIndex_8e157 cJ3_checkIndex_8e157 3 (some .int) :: tbl) (z_rm 0 0 0) (z_Pc SP bs D cl tys [] [.int i, .int n, v] sz) (va_Qi (fun (_ : Int32) (_ : Unit) => True) (fun _ _ => True) (va_A [] sz)) 0 0 (va_A [] sz) := by
  refine z_ofW (cc := cJ3_checkIndex_8e157) (maxL := 3) (ret := some .int) (by decide +kernel) rfl ?_
  intro p e s m args below meth c s₁ B0 hml hv
  obtain ⟨rfl, hsz, hP, hK, hD0, hSF⟩ := hv
  subst hsz
  have hx := B0.exec
  have hb := B0.bytes
  have hr := B0.returns
  have hlocks := B0.notSynchronized
  have hl := lv_entry [.int i, .int n, v] (n := 3) (by rw [z_sl_len]; show 1 + (1 + (v.category + 0)) ≤ 3; omega)
  rw [lg_entry_eq]
  generalize (lg_sl [Value.int i, Value.int n, v] ++ List.replicate (3 - (lg_sl [Value.int i, Value.int n, v]).length) Slot.unset).toArray = ls at hl ⊢
  refine lv_iload_n hx hb (k := 0) (i := 0) (by decide +kernel) rfl (lv_at hl 0 rfl) ?_
  refine lv_if_lt hx hb (off := 8) (tgt := 9) (by decide +kernel) (by decide) (fun h => absurd h h0) (fun _ => ?_)
  refine lv_iload_n hx hb (k := 0) (i := 0) (by decide +kernel) rfl (lv_at hl 0 rfl) ?_
  refine lv_iload_n hx hb (k := 1) (i := 1) (by decide +kernel) rfl (lv_at hl 1 rfl) ?_
  refine lv_icmp_lt hx hb (off := 10) (tgt := 16) (by decide +kernel) (by decide) (fun _ => ?_) (fun h => absurd h1 h)
  refine lv_iload_n hx hb (k := 0) (i := 0) (by decide +kernel) rfl (lv_at hl 0 rfl) ?_
  exact W.iret hx hb hr (fun t ht hW => ⟨⟨i, (), rfl, trivial, trivial⟩, va_S.rf.F ht⟩) (fun q hq => by cases hq) (by decide +kernel)
/-- what holds of a static method that is called -/
noncomputable def zt_sok (tbl : List Cond) (y : MethodName) (cc : ByteArray) (nL : Nat) (ret : Option FieldType) (own : String) (i : Nat) : Prop := Cond.code y cc nL ret ∈ tbl ∧ Cond.initialized y.cls ∈ tbl ∧ Cond.static y ∈ tbl ∧ Cond.methodLink own i y ∈ tbl
noncomputable def zt_vok (tbl : List Cond) (y : MethodName) (cc : ByteArray) (nL : Nat) (ret : Option FieldType) (own : String) (i : Nat) : Prop := Cond.code y cc nL ret ∈ tbl ∧ Cond.initialized y.cls ∈ tbl ∧ Cond.instanceMethod y ∈ tbl ∧ Cond.selects y.cls y y ∈ tbl ∧ Cond.methodLink own i y ∈ tbl
theorem zt_ci (htb : ∀ w ∈ tbl, z_wok w = true) (w1 : Cond.fieldLink RJ0 1053 "jdk/internal/util/Preconditions" "SIOOBE_FORMATTER" "Ljava/util/function/BiFunction;" ∈ tbl) (w2 : zt_sok tbl yJ3_checkIndex_8e157 cJ3_checkIndex_8e157 3 (some .int) RJ0 1059) {i n : Int32} (sz : Nat) (h0 : ¬ i < 0) (h1 : i < n) :
    Met l yJ0_checkIndex_df160 (Cond.code yJ0_checkIndex_df160 cJ0_checkIndex_df160 2 none :: tbl) (z_rm 1 0 0) (z_Pc SP bs D cl tys [] [.int i, .int n] sz) (va_Qv (fun (_ : Unit) => True) (fun _ _ => True) (va_A [] sz)) 0 0 (va_A [] sz) := by
  refine z_ofW (cc := cJ0_checkIndex_df160) (maxL := 2) (ret := none) (by decide +kernel) rfl ?_
  intro p e s m args below meth c s₁ B0 hml hv
  obtain ⟨rfl, hsz, hP, hK, hD0, hSF⟩ := hv
  subst hsz
  have hx := B0.exec
  have hb := B0.bytes
  have hr := B0.returns
  have hts0 := atoms_spec (ws := Cond.code yJ0_checkIndex_df160 cJ0_checkIndex_df160 2 none :: tbl) B0.pre
  have hts : ∀ w ∈ tbl, w.before [Value.int i, Value.int n].toArray s = true := fun w hw => hts0 w (List.mem_cons_of_mem _ hw)
  have hown : s.vm.findClass RJ0 = some m.cls := findClass_of_methodNamed B0.named
  have hlocks := B0.notSynchronized
  have hl := lv_entry [.int i, .int n] (n := 2) (Nat.le_refl 2)
  rw [lg_entry_eq]
  generalize (lg_sl [Value.int i, Value.int n] ++ List.replicate (2 - (lg_sl [Value.int i, Value.int n]).length) Slot.unset).toArray = ls at hl ⊢
  obtain ⟨k2, k3, k4, k5⟩ := w2
  have hws : ∀ w ∈ (Cond.code yJ3_checkIndex_8e157 cJ3_checkIndex_8e157 3 (some .int) :: tbl), ∀ (a' : Array Value) (U : State), s.WarmedH U.vm → w.before a' U = true := fun w hw a' U hW => by
    rcases List.mem_cons.mp hw with rfl | hw
    · exact z_wok_ok (htb _ k2) hW (hts _ k2)
    · exact z_wok_ok (htb _ hw) hW (hts _ hw)
  refine lv_iload_n hx hb (k := 0) (i := 0) (by decide +kernel) rfl (lv_at hl 0 rfl) ?_
  refine lv_iload_n hx hb (k := 1) (i := 1) (by decide +kernel) rfl (lv_at hl 1 rfl) ?_
  have go : ∀ v : Value, v.category = 1 → va_Z "jdk/internal/util/Preconditions" "SIOOBE_FORMATTER" "Ljava/util/function/BiFunction;" v (va_A [] s.heap.size) s s.heap → W p l e (z_rm 1 0 0) s m [Value.int i, Value.int n].toArray below meth c s.heap [] 0 0 (MQ below (va_Qv (fun (_ : Unit) => True) (fun _ _ => True) (va_A [] s.heap.size)) [Value.int i, Value.int n].toArray s 0 0 (va_A [] s.heap.size)) (F0 m (0 + 1 + 1) ls [.int n, .int i]) := fun v hv1 hZ => by
    refine va_gets hx hb (index := 1053) hZ va_S.rf hown (hts _ w1) (fun _ h => h) (by decide +kernel) ?_
    have hM := zt_pre3 (SP := SP) (bs := bs) (l := l) (D := D) (cl := cl) (tys := tys) (tbl := tbl) (i := i) (n := n) hv1 s.heap.size h0 h1
    have hc := va_runS (bytes := cJ3_checkIndex_8e157) (maxL := 3) (ret := some .int) (n := 3) (As := [.int i, .int n, v]) (rest := []) (g := F0 m (0 + 1 + 1 + 3) ls [v, .int n, .int i]) (locs := []) (cells := 0) (slots := 0) (below := below) (e := e) (meth := meth) (R := z_rm 1 0 0) ⟨hx, hb, hml, hown, hts⟩ hM ⟨⟨rfl, rfl, by show 0 + 1 ≤ 1; omega, by show 8 + (3 + 11) + 40 * 0 ≤ 40 * 1; omega, hws, List.mem_cons_self, hts _ k2, hts _ k3, by decide, z_desc (by decide +kernel), hts _ k5⟩, hts _ k4⟩ ⟨z_blind, z_pre1 hK z_nil_P z_nil_D hSF va_S.rf zt_A⟩ rfl rfl hl.1 rfl (lv_room (by decide)) (show decode cJ0_checkIndex_df160 5 = .ok (.invokestatic 1059, 3) by decide +kernel) ⟨by show 0 + 0 ≤ 0; omega, by show 0 + 0 ≤ 0; omega⟩
    refine va_calli hc va_S.rf (fun q _ h => h) (fun q h => h) (fun r u t H1 locs1 ht hvm hw hB hz1 hk1 hS1 => ?_)
    refine lv_pop hx hb (by decide +kernel) rfl ?_
    exact W.vret hx hb hr (fun t ht hW => ⟨⟨(), rfl, trivial, trivial⟩, hS1.F ht⟩) hS1.2.2 (by decide +kernel)
  obtain ⟨adK, adV, f1, f2, f3, f4, f5⟩ := id hSF
  rcases f5 with f5 | ⟨t, f5⟩
  · exact go _ rfl f5
  · exact go _ rfl f5
theorem zt_byte (x : Int32) : ∃ v : Int32, ((x &&& 255).toUInt32 % 65536).toInt32 = v ∧ 0 ≤ v.toInt ∧ v.toInt ≤ 65535 ∧ narrow .char (.int v) = .int v := by
  refine ⟨_, rfl, ?_⟩
  have h : ((x &&& 255).toUInt32 % 65536).toNat < 65536 := by
    rw [UInt32.toNat_mod]
    exact Nat.mod_lt _ (by decide)
  generalize (x &&& 255).toUInt32 % 65536 = u at h
  have e : u.toInt32.toInt = (u.toNat : Int) := by
    show (u.toBitVec).toInt = _
    rw [BitVec.toInt_eq_toNat_of_lt (by show 2 * u.toNat < 2 ^ 32; omega)]
    rfl
  refine ⟨by omega, by omega, ?_⟩
  have e2 : u % 65536 = u := by
    apply UInt32.toNat_inj.mp
    rw [UInt32.toNat_mod]
    exact Nat.mod_eq_of_lt h
  show Value.int (u.toInt32.toUInt32 % 65536).toInt32 = _
  have e3 : u.toInt32.toUInt32 = u := by simp
  rw [e3, e2]
/-- the byte array of a text, too -/
noncomputable def zt_P2 (SP : zSP) (bs : List Int) (D : va_G) (cl : List vw_C) (tys : List (ClassId × FieldType)) (av : List Value) (sz t n : Nat) (f : Nat → Int32) : Array Value → State → Prop := fun v U => z_Pc SP bs D cl tys [] av sz v U ∧ va_T .byte t n (fun j => .int (f j)) (va_A [] sz) U U.heap
theorem zt_P2b {av : List Value} {sz t n : Nat} {f : Nat → Int32} : FrameBlind (zt_P2 SP bs D cl tys av sz t n f) := fun a U g mk q => ⟨z_blind a U g mk q.1, va_T.moved (u := U) (U := U.calling g mk a) (Vm.Alike.refl U.vm) q.2⟩
theorem zt_l1 (htb : ∀ w ∈ tbl, z_wok w = true) (w1 : Cond.fieldLink RJ0 1053 "jdk/internal/util/Preconditions" "SIOOBE_FORMATTER" "Ljava/util/function/BiFunction;" ∈ tbl) (w2 : zt_sok tbl yJ3_checkIndex_8e157 cJ3_checkIndex_8e157 3 (some .int) RJ0 1059) (w3 : zt_sok tbl yJ0_checkIndex_df160 cJ0_checkIndex_df160 2 none RJ1 9) {i : Int32} {a n : Nat} {f : Nat → Int32} (sz : Nat) (hin : vp_in i n) (hn : n ≤ 1000) :
    Met l yJ1_charAt_3b067 (Cond.code yJ1_charAt_3b067 cJ1_charAt_3b067 2 (some .char) :: tbl) (z_rm 2 0 0) (zt_P2 SP bs D cl tys [.ref a, .int i] sz a n f) (va_Qi (fun (r : Int32) (_ : Unit) => 0 ≤ r.toInt ∧ r.toInt ≤ 65535 ∧ narrow .char (.int r) = .int r) (fun _ _ => True) (va_A [] sz)) 0 0 (va_A [] sz) := by
  refine z_ofW (cc := cJ1_charAt_3b067) (maxL := 2) (ret := some .char) (by decide +kernel) rfl ?_
  intro p e s m args below meth c s₁ B0 hml hv
  obtain ⟨⟨rfl, hsz, hP, hK, hD0, hSF⟩, hT⟩ := hv
  subst hsz
  have hx := B0.exec
  have hb := B0.bytes
  have hr := B0.returns
  have hts0 := atoms_spec (ws := Cond.code yJ1_charAt_3b067 cJ1_charAt_3b067 2 (some .char) :: tbl) B0.pre
  have hts : ∀ w ∈ tbl, w.before [Value.ref a, Value.int i].toArray s = true := fun w hw => hts0 w (List.mem_cons_of_mem _ hw)
  have hown : s.vm.findClass RJ1 = some m.cls := findClass_of_methodNamed B0.named
  have hlocks := B0.notSynchronized
  have hl := lv_entry [.ref a, .int i] (n := 2) (Nat.le_refl 2)
  rw [lg_entry_eq]
  generalize (lg_sl [Value.ref a, Value.int i] ++ List.replicate (2 - (lg_sl [Value.ref a, Value.int i]).length) Slot.unset).toArray = ls at hl ⊢
  obtain ⟨k2, k3, k4, k5⟩ := id w3
  have hws : ∀ w ∈ (Cond.code yJ0_checkIndex_df160 cJ0_checkIndex_df160 2 none :: tbl), ∀ (a' : Array Value) (U : State), s.WarmedH U.vm → w.before a' U = true := fun w hw a' U hW => by
    rcases List.mem_cons.mp hw with rfl | hw
    · exact z_wok_ok (htb _ k2) hW (hts _ k2)
    · exact z_wok_ok (htb _ hw) hW (hts _ hw)
  have hi := vp_in_iff.mp hin
  have h0 : ¬ i < 0 := fun h => hin (Or.inl h)
  have h1 : i < Int32.ofNat n := by
    rw [Int32.lt_iff_toInt_lt, z_ofN (by omega)]
    omega
  refine lv_iload_n hx hb (k := 1) (i := 1) (by decide +kernel) rfl (lv_at hl 1 rfl) ?_
  refine lv_aload_n hx hb (k := 0) (i := 0) (by decide +kernel) rfl (lv_at hl 0 rfl) ?_
  refine va_tlen hx hb hT va_S.rf (v := Int32.ofNat n) rfl (by decide +kernel) ?_
  have hM := zt_ci (SP := SP) (bs := bs) (l := l) (D := D) (cl := cl) (tys := tys) (tbl := tbl) htb w1 w2 (i := i) (n := Int32.ofNat n) s.heap.size h0 h1
  have hc := va_runS (bytes := cJ0_checkIndex_df160) (maxL := 2) (ret := none) (n := 2) (As := [.int i, .int (Int32.ofNat n)]) (rest := []) (g := F0 m (0 + 1 + 1 + 1) ls [.int (Int32.ofNat n), .int i]) (locs := []) (cells := 0) (slots := 0) (below := below) (e := e) (meth := meth) (R := z_rm 2 0 0) ⟨hx, hb, hml, hown, hts⟩ hM ⟨⟨rfl, rfl, by show 1 + 1 ≤ 2; omega, by show 8 + (2 + 11) + 40 * 1 ≤ 40 * 2; omega, hws, List.mem_cons_self, hts _ k2, hts _ k3, by decide, z_desc (by decide +kernel), hts _ k5⟩, hts _ k4⟩ ⟨z_blind, z_pre1 hK z_nil_P z_nil_D hSF va_S.rf zt_A⟩ rfl rfl hl.1 rfl (lv_room (by decide)) (show decode cJ1_charAt_3b067 3 = .ok (.invokestatic 9, 3) by decide +kernel) ⟨by show 0 + 0 ≤ 0; omega, by show 0 + 0 ≤ 0; omega⟩
  refine va_callv hc va_S.rf (fun q _ h => h) (fun q h => h) (fun u t H1 locs1 ht hvm hw hB hz1 hk1 hS1 => ?_)
  refine lv_aload_n hx hb (k := 0) (i := 0) (by decide +kernel) rfl (lv_at hl 0 rfl) ?_
  refine lv_iload_n hx hb (k := 1) (i := 1) (by decide +kernel) rfl (lv_at hl 1 rfl) ?_
  refine va_tb hx hb hT hS1 hin rfl (by decide +kernel) ?_
  refine lv_sipush hx hb (n := 255) (v := 255) (by decide +kernel) (by decide) ?_
  refine lv_iand hx hb (by decide +kernel) ?_
  obtain ⟨v, hv, hv0, hv1, hv2⟩ := zt_byte (f i.toNatClampNeg)
  refine lv_i2c hx hb (by decide +kernel) hv ?_
  exact W.zret hx hb hr hv2 (fun t ht hW => ⟨⟨v, (), rfl, ⟨hv0, hv1, hv2⟩, trivial⟩, hS1.F ht⟩) hS1.2.2 (by decide +kernel)
theorem zt_len (htb : ∀ w ∈ tbl, z_wok w = true) (w1 : Cond.fieldLink RJ0 38 "java/lang/String" "COMPACT_STRINGS" "Z" ∈ tbl) (w2 : Cond.fieldLink RJ0 15 "java/lang/String" "coder" "B" ∈ tbl) (w3 : Cond.fieldLink RJ0 9 "java/lang/String" "value" "[B" ∈ tbl) (w4 : zt_vok tbl yJ0_coder_7d493 cJ0_coder_7d493 1 (some .byte) RJ0 335) {y n q : Nat} (sz : Nat) (hn : SP.2.1[y]? = some n) (hy : y < SP.1.length) (hq : bs[y + 1]? = some (q : Int)) (hn1 : n ≤ 1000) :
    Met l yJ0_length_8abf5 (Cond.code yJ0_length_8abf5 cJ0_length_8abf5 1 (some .int) :: tbl) (z_rm 3 0 0) (z_Pc SP bs D cl tys [] [.ref q] sz) (va_Qi (fun (r : Int32) (_ : Unit) => r.toInt = (n : Int)) (fun _ _ => True) (va_A [] sz)) 0 0 (va_A [] sz) := by
  refine z_ofW (cc := cJ0_length_8abf5) (maxL := 1) (ret := some .int) (by decide +kernel) rfl ?_
  intro p e s m args below meth c s₁ B0 hml hv
  obtain ⟨rfl, hsz, hP, hK, hD0, hSF⟩ := hv
  subst hsz
  have hx := B0.exec
  have hb := B0.bytes
  have hr := B0.returns
  have hts0 := atoms_spec (ws := Cond.code yJ0_length_8abf5 cJ0_length_8abf5 1 (some .int) :: tbl) B0.pre
  have hts : ∀ w ∈ tbl, w.before [Value.ref q].toArray s = true := fun w hw => hts0 w (List.mem_cons_of_mem _ hw)
  have hown : s.vm.findClass RJ0 = some m.cls := findClass_of_methodNamed B0.named
  have hlocks := B0.notSynchronized
  obtain ⟨adV, g0, g1, g2, g3, g4⟩ := zt_narrow hSF hy hq
  have en : SP.2.1.getD y 0 = n := by rw [List.getD_eq_getElem?_getD, hn]; rfl
  rw [en] at g3
  have hl := lv_entry [.ref q] (n := 1) (Nat.le_refl 1)
  rw [lg_entry_eq]
  generalize (lg_sl [Value.ref q] ++ List.replicate (1 - (lg_sl [Value.ref q]).length) Slot.unset).toArray = ls at hl ⊢
  obtain ⟨k2, k3, k4, k5, k6⟩ := id w4
  have hws : ∀ w ∈ (Cond.code yJ0_coder_7d493 cJ0_coder_7d493 1 (some .byte) :: tbl), ∀ (a' : Array Value) (U : State), s.WarmedH U.vm → w.before a' U = true := fun w hw a' U hW => by
    rcases List.mem_cons.mp hw with rfl | hw
    · exact z_wok_ok (htb _ k2) hW (hts _ k2)
    · exact z_wok_ok (htb _ hw) hW (hts _ hw)
  refine lv_aload_n hx hb (k := 0) (i := 0) (by decide +kernel) rfl (lv_at hl 0 rfl) ?_
  refine vk_getf hx hb (index := 9) g2 va_S.rf hown (hts _ w3) (fun _ h => h) (by decide +kernel) ?_
  refine va_tlen hx hb g3 va_S.rf (v := Int32.ofNat n) rfl (by decide +kernel) ?_
  refine lv_aload_n hx hb (k := 0) (i := 0) (by decide +kernel) rfl (lv_at hl 0 rfl) ?_
  have hM := zt_coder (SP := SP) (bs := bs) (l := l) (D := D) (cl := cl) (tys := tys) (tbl := tbl) w1 w2 s.heap.size hy hq
  have hc := va_runV (C := RJ0) (bytes := cJ0_coder_7d493) (maxL := 1) (ret := some .byte) (n := 0) (b := q) (As := []) (rest := [.int (Int32.ofNat n)]) (g := F0 m (0 + 1 + 3 + 1 + 1) ls [.ref q, .int (Int32.ofNat n)]) (locs := []) (cells := 0) (slots := 0) (below := below) (e := e) (meth := meth) (R := z_rm 3 0 0) ⟨hx, hb, hml, hown, hts⟩ hM ⟨⟨rfl, rfl, by show 0 + 1 ≤ 3; omega, by show 8 + (1 + 11) + 40 * 0 ≤ 40 * 3; omega, hws, List.mem_cons_self, hts _ k2, hts _ k3, by decide, z_desc (by decide +kernel), hts _ k6⟩, hts _ k4, hts _ k5⟩ ⟨z_blind, g0, z_pre1 hK z_nil_P z_nil_D hSF va_S.rf zt_A⟩ rfl rfl hl.1 rfl (lv_room (by show 1 + 0 ≤ 8; omega)) (show decode cJ0_length_8abf5 6 = .ok (.invokevirtual 335, 3) by decide +kernel) ⟨by show 0 + 0 ≤ 0; omega, by show 0 + 0 ≤ 0; omega⟩
  refine va_calli hc va_S.rf (fun q _ h => h) (fun q h => h) (fun r u t H1 locs1 ht hvm hw hB hz1 hk1 hS1 => ?_)
  subst hw
  refine lv_ishr hx hb (by decide +kernel) ?_
  refine W.iret hx hb hr (fun t ht hW => ⟨⟨_, (), rfl, ?_, trivial⟩, hS1.F ht⟩) hS1.2.2 (by decide +kernel)
  show (Int32.ofNat n >>> (0 &&& 31)).toInt = (n : Int)
  have e1 : ∀ x : Int32, x >>> (0 &&& 31 : Int32) = x := fun x => by
    have e2 : (0 &&& 31 : Int32) = 0 := by decide
    rw [e2]
    exact Int32.shiftRight_zero
  rw [e1, z_ofN (by omega)]
theorem zt_chr (htb : ∀ w ∈ tbl, z_wok w = true) (w1 : Cond.fieldLink RJ0 38 "java/lang/String" "COMPACT_STRINGS" "Z" ∈ tbl) (w2 : Cond.fieldLink RJ0 15 "java/lang/String" "coder" "B" ∈ tbl) (w3 : Cond.fieldLink RJ0 9 "java/lang/String" "value" "[B" ∈ tbl) (w4 : zt_vok tbl yJ0_isLatin1_aae02 cJ0_isLatin1_aae02 1 (some .boolean) RJ0 492)
    (w5 : Cond.fieldLink RJ0 1053 "jdk/internal/util/Preconditions" "SIOOBE_FORMATTER" "Ljava/util/function/BiFunction;" ∈ tbl) (w6 : zt_sok tbl yJ3_checkIndex_8e157 cJ3_checkIndex_8e157 3 (some .int) RJ0 1059) (w7 : zt_sok tbl yJ0_checkIndex_df160 cJ0_checkIndex_df160 2 none RJ1 9) (w8 : zt_sok tbl yJ1_charAt_3b067 cJ1_charAt_3b067 2 (some .char) RJ0 495)
    {y n q : Nat} {i : Int32} (sz : Nat) (hn : SP.2.1[y]? = some n) (hy : y < SP.1.length) (hq : bs[y + 1]? = some (q : Int)) (hin : vp_in i n) (hn1 : n ≤ 1000) :
    Met l yJ0_charAt_5068e (Cond.code yJ0_charAt_5068e cJ0_charAt_5068e 2 (some .char) :: tbl) (z_rm 3 0 0) (z_Pc SP bs D cl tys [] [.ref q, .int i] sz) (va_Qi (fun (r : Int32) (_ : Unit) => 0 ≤ r.toInt ∧ r.toInt ≤ 65535) (fun _ _ => True) (va_A [] sz)) 0 0 (va_A [] sz) := by
  refine z_ofW (cc := cJ0_charAt_5068e) (maxL := 2) (ret := some .char) (by decide +kernel) rfl ?_
  intro p e s m args below meth c s₁ B0 hml hv
  obtain ⟨rfl, hsz, hP, hK, hD0, hSF⟩ := hv
  subst hsz
  have hx := B0.exec
  have hb := B0.bytes
  have hr := B0.returns
  have hts0 := atoms_spec (ws := Cond.code yJ0_charAt_5068e cJ0_charAt_5068e 2 (some .char) :: tbl) B0.pre
  have hts : ∀ w ∈ tbl, w.before [Value.ref q, Value.int i].toArray s = true := fun w hw => hts0 w (List.mem_cons_of_mem _ hw)
  have hown : s.vm.findClass RJ0 = some m.cls := findClass_of_methodNamed B0.named
  have hlocks := B0.notSynchronized
  obtain ⟨adV, g0, g1, g2, g3, g4⟩ := zt_narrow hSF hy hq
  have en : SP.2.1.getD y 0 = n := by rw [List.getD_eq_getElem?_getD, hn]; rfl
  rw [en] at g3
  have hl := lv_entry [.ref q, .int i] (n := 2) (Nat.le_refl 2)
  rw [lg_entry_eq]
  generalize (lg_sl [Value.ref q, Value.int i] ++ List.replicate (2 - (lg_sl [Value.ref q, Value.int i]).length) Slot.unset).toArray = ls at hl ⊢
  obtain ⟨k2, k3, k4, k5, k6⟩ := id w4
  obtain ⟨j2, j3, j4, j5⟩ := id w8
  have hws : ∀ (x : Cond), x ∈ tbl → ∀ w ∈ (x :: tbl), ∀ (a' : Array Value) (U : State), s.WarmedH U.vm → w.before a' U = true := fun x hx0 w hw a' U hW => by
    rcases List.mem_cons.mp hw with rfl | hw
    · exact z_wok_ok (htb _ hx0) hW (hts _ hx0)
    · exact z_wok_ok (htb _ hw) hW (hts _ hw)
  refine lv_aload_n hx hb (k := 0) (i := 0) (by decide +kernel) rfl (lv_at hl 0 rfl) ?_
  have hM := zt_latin (SP := SP) (bs := bs) (l := l) (D := D) (cl := cl) (tys := tys) (tbl := tbl) w1 w2 s.heap.size hy hq
  have hc := va_runV (C := RJ0) (bytes := cJ0_isLatin1_aae02) (maxL := 1) (ret := some .boolean) (n := 0) (b := q) (As := []) (rest := []) (g := F0 m (0 + 1) ls [.ref q]) (locs := []) (cells := 0) (slots := 0) (below := below) (e := e) (meth := meth) (R := z_rm 3 0 0) ⟨hx, hb, hml, hown, hts⟩ hM ⟨⟨rfl, rfl, by show 0 + 1 ≤ 3; omega, by show 8 + (1 + 11) + 40 * 0 ≤ 40 * 3; omega, hws _ k2, List.mem_cons_self, hts _ k2, hts _ k3, by decide, z_desc (by decide +kernel), hts _ k6⟩, hts _ k4, hts _ k5⟩ ⟨z_blind, g0, z_pre1 hK z_nil_P z_nil_D hSF va_S.rf zt_A⟩ rfl rfl hl.1 rfl (lv_room (by decide)) (show decode cJ0_charAt_5068e 1 = .ok (.invokevirtual 492, 3) by decide +kernel) ⟨by show 0 + 0 ≤ 0; omega, by show 0 + 0 ≤ 0; omega⟩
  refine va_calli hc va_S.rf (fun q _ h => h) (fun q h => h) (fun r u t H1 locs1 ht hvm hw hB hz1 hk1 hS1 => ?_)
  subst hw
  refine lv_if_eq hx hb (off := 12) (tgt := 16) (by decide +kernel) (by decide) (fun h => absurd h (by decide)) (fun _ => ?_)
  refine lv_aload_n hx hb (k := 0) (i := 0) (by decide +kernel) rfl (lv_at hl 0 rfl) ?_
  refine vk_getf hx hb (index := 9) g2 hS1 hown (hts _ w3) (fun _ h => h) (by decide +kernel) ?_
  refine lv_iload_n hx hb (k := 1) (i := 1) (by decide +kernel) rfl (lv_at hl 1 rfl) ?_
  have hM2 := zt_l1 (SP := SP) (bs := bs) (l := l) (D := D) (cl := cl) (tys := tys) (tbl := tbl) (a := adV y) (f := fun j => (SP.2.2.1.getD y []).getD j 0) htb w5 w6 w7 H1.size hin hn1
  have hpre : ∀ U : State, U.heap = H1 → s.WarmedH U.vm → zt_P2 SP bs D cl tys [.ref (adV y), .int i] H1.size (adV y) n (fun j => (SP.2.2.1.getD y []).getD j 0) [Value.ref (adV y), Value.int i].toArray U := fun U hU hW => by
    refine ⟨z_pre1 hK z_nil_P z_nil_D hSF hS1 zt_A U hU hW, ?_⟩
    rw [hU]
    refine ((va_T.moved hW.alike g3).kept hS1.2.1).narrow (fun q hq => ?_)
    rcases hq with ⟨k, e0, hq⟩ | hq
    · simp at hq
    · exact Or.inr (Nat.le_trans hS1.1 hq)
  have hc2 := va_runS (bytes := cJ1_charAt_3b067) (maxL := 2) (ret := some .char) (n := 2) (As := [.ref (adV y), .int i]) (rest := []) (g := F0 m (0 + 1 + 3 + 3 + 1 + 3 + 1) ls [.int i, .ref (adV y)]) (locs := locs1) (cells := 0 + 0) (slots := 0 + 0) (below := below) (e := e) (meth := meth) (R := z_rm 3 0 0) ⟨hx, hb, hml, hown, hts⟩ hM2 ⟨⟨rfl, rfl, by show 2 + 1 ≤ 3; omega, by show 8 + (2 + 11) + 40 * 2 ≤ 40 * 3; omega, hws _ j2, List.mem_cons_self, hts _ j2, hts _ j3, by decide, z_desc (by decide +kernel), hts _ j5⟩, hts _ j4⟩ ⟨zt_P2b, hpre⟩ rfl rfl hl.1 rfl (lv_room (by decide)) (show decode cJ0_charAt_5068e 12 = .ok (.invokestatic 495, 3) by decide +kernel) ⟨by show 0 + 0 + 0 ≤ 0; omega, by show 0 + 0 + 0 ≤ 0; omega⟩
  have hsub : ∀ q : Nat, va_A [] H1.size q → va_A [] s.heap.size q := fun q hq => by
    rcases hq with ⟨k, e0, hq⟩ | hq
    · simp at hq
    · exact Or.inr (Nat.le_trans hS1.1 hq)
  refine va_calli hc2 hS1 (fun q _ h => hsub q h) hsub (fun r u t H2 locs2 ht hvm hw hB hz2 hk2 hS2 => ?_)
  exact W.zret hx hb hr hw.2.2 (fun t ht hW => ⟨⟨r, (), rfl, ⟨hw.1, hw.2.1⟩, trivial⟩, hS2.F ht⟩) hS2.2.2 (by decide +kernel)
end ZSM
/-! ===== the words that the texts' methods rest on; the two contracts ===== -/
theorem zt_htb : ∀ w ∈ zTb, z_wok w = true := fun w hw => (List.mem_filter.mp hw).2
theorem zt_w1 : Cond.fieldLink RJ0 38 "java/lang/String" "COMPACT_STRINGS" "Z" ∈ zTb := by decide +kernel
theorem zt_w2 : Cond.fieldLink RJ0 15 "java/lang/String" "coder" "B" ∈ zTb := by decide +kernel
theorem zt_w3 : Cond.fieldLink RJ0 9 "java/lang/String" "value" "[B" ∈ zTb := by decide +kernel
theorem zt_i0 : Cond.initialized RJ0 ∈ zTb := by decide +kernel
theorem zt_i1 : Cond.initialized RJ1 ∈ zTb := by decide +kernel
theorem zt_i3 : Cond.initialized RJ3 ∈ zTb := by decide +kernel
theorem zt_w4 : zt_vok zTb yJ0_coder_7d493 cJ0_coder_7d493 1 (some .byte) RJ0 335 := ⟨by decide +kernel, zt_i0, by decide +kernel, by decide +kernel, by decide +kernel⟩
theorem zt_w5 : zt_vok zTb yJ0_isLatin1_aae02 cJ0_isLatin1_aae02 1 (some .boolean) RJ0 492 := ⟨by decide +kernel, zt_i0, by decide +kernel, by decide +kernel, by decide +kernel⟩
theorem zt_w6 : Cond.fieldLink RJ0 1053 "jdk/internal/util/Preconditions" "SIOOBE_FORMATTER" "Ljava/util/function/BiFunction;" ∈ zTb := by decide +kernel
theorem zt_w7 : zt_sok zTb yJ3_checkIndex_8e157 cJ3_checkIndex_8e157 3 (some .int) RJ0 1059 := ⟨by decide +kernel, zt_i3, by decide +kernel, by decide +kernel⟩
theorem zt_w8 : zt_sok zTb yJ0_checkIndex_df160 cJ0_checkIndex_df160 2 none RJ1 9 := ⟨by decide +kernel, zt_i0, by decide +kernel, by decide +kernel⟩
theorem zt_w9 : zt_sok zTb yJ1_charAt_3b067 cJ1_charAt_3b067 2 (some .char) RJ0 495 := ⟨by decide +kernel, zt_i1, by decide +kernel, by decide +kernel⟩
theorem zt_n {y n : Nat} (h : zSPd.2.1[y]? = some n) : n ≤ 1000 := by
  have h1 : ∀ x ∈ zSPd.2.1, x ≤ 1000 := by decide +kernel
  exact h1 n (List.mem_of_getElem? h)
theorem zt_SM {bs : List Int} {l : Launch} {D : va_G} {cl : List vw_C} {tys : List (ClassId × FieldType)} : z_SM zSPd bs l D cl tys zTb := by
  refine ⟨⟨cJ0_length_8abf5, 1, some .int, ⟨by decide +kernel, zt_i0, by decide, by decide, by decide +kernel, rfl, by decide +kernel, by decide +kernel⟩, fun y n q sz hn hy hq => ?_⟩, ⟨cJ0_charAt_5068e, 2, some .char, ⟨by decide +kernel, zt_i0, by decide, by decide, by decide +kernel, rfl, by decide +kernel, by decide +kernel⟩, fun y n q sz i hn hy hq hin => ?_⟩⟩
  · exact zt_len zt_htb zt_w1 zt_w2 zt_w3 zt_w4 sz hn hy hq (zt_n hn)
  · exact zt_chr zt_htb zt_w1 zt_w2 zt_w3 zt_w5 zt_w6 zt_w7 zt_w8 zt_w9 sz hn hy hq hin (zt_n hn)
