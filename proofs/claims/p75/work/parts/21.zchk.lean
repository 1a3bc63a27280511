/-! ===== what a program decides of the methods ===== -/
noncomputable def z_vkB (tbl : List Cond) (cl : List vw_C) (y : MethodName) (ret : Option FieldType) (vk rc w3 w4 : Nat) : Bool := match vk, rc with
  | 0, ci + 1 => match cl[ci]? with
    | some q => decide (q.1 = y.cls) && (z_wd tbl w3 (.instanceMethod y) && z_wd tbl w4 (.selects y.cls y y))
    | none => false
  | 1, _ => z_wd tbl w3 (.static y)
  | 2, _ + 1 => decide (y.name = "<init>") && (decide (ret = none) && z_wd tbl w3 (.instanceMethod y))
  | _, _ => false
noncomputable def z_mokB (tbl : List Cond) (cl : List vw_C) (y : MethodName) (cc : ByteArray) (nL : Nat) (ret : Option FieldType) (vk nA rc rk w1 w2 w3 w4 : Nat) : Bool :=
  plainFor y && (z_wd tbl w1 (.code y cc nL ret) && (z_wd tbl w2 (.initialized y.cls) && (decide (y.cls ≠ "java/lang/invoke/MethodHandle") && (decide (y.cls ≠ "java/lang/invoke/VarHandle") && (Nat.ble nL 21 && (decide (ret = z_rtt rk) && (decide ((parseMethodDescriptor y.desc).map (fun d => d.parameters.length) = some (if vk = 1 then nA else nA - 1)) && z_vkB tbl cl y ret vk rc w3 w4)))))))
theorem z_vkB_ok {tbl : List Cond} {cl : List vw_C} {y : MethodName} {ret : Option FieldType} {vk rc w3 w4 : Nat} (h : z_vkB tbl cl y ret vk rc w3 w4 = true) : (vk = 0 → ∃ ci q, rc = ci + 1 ∧ cl[ci]? = some q ∧ q.1 = y.cls ∧ Cond.instanceMethod y ∈ tbl ∧ Cond.selects y.cls y y ∈ tbl) ∧
    (vk = 1 → Cond.static y ∈ tbl) ∧ (vk = 2 → y.name = "<init>" ∧ ret = none ∧ Cond.instanceMethod y ∈ tbl ∧ ∃ ci, rc = ci + 1) := by
  unfold z_vkB at h
  split at h
  · rename_i ci
    split at h
    · rename_i q eq0
      obtain ⟨g1, g⟩ := z_and h
      obtain ⟨g2, g3⟩ := z_and g
      exact ⟨fun _ => ⟨ci, q, rfl, eq0, of_decide_eq_true g1, z_wd_ok g2, z_wd_ok g3⟩, (fun q => by omega), (fun q => by omega)⟩
    · cases h
  · exact ⟨(fun q => by omega), fun _ => z_wd_ok h, (fun q => by omega)⟩
  · rename_i ci
    obtain ⟨g1, g⟩ := z_and h
    obtain ⟨g2, g3⟩ := z_and g
    exact ⟨(fun q => by omega), (fun q => by omega), fun _ => ⟨of_decide_eq_true g1, of_decide_eq_true g2, z_wd_ok g3, ci, rfl⟩⟩
  · cases h
theorem z_mokB_ok {tbl : List Cond} {cl : List vw_C} {y : MethodName} {cc : ByteArray} {nL : Nat} {ret : Option FieldType} {vk nA rc rk w1 w2 w3 w4 : Nat} (h : z_mokB tbl cl y cc nL ret vk nA rc rk w1 w2 w3 w4 = true) : z_mok tbl cl y cc nL ret vk nA rc rk := by
  obtain ⟨h1, h⟩ := z_and h
  obtain ⟨h2, h⟩ := z_and h
  obtain ⟨h3, h⟩ := z_and h
  obtain ⟨h4, h⟩ := z_and h
  obtain ⟨h5, h⟩ := z_and h
  obtain ⟨h6, h⟩ := z_and h
  obtain ⟨h7, h⟩ := z_and h
  obtain ⟨h8, h⟩ := z_and h
  exact ⟨h1, z_wd_ok h2, z_wd_ok h3, ⟨of_decide_eq_true h4, of_decide_eq_true h5⟩, Nat.le_of_ble_eq_true h6, of_decide_eq_true h7, of_decide_eq_true h8, z_vkB_ok h⟩
noncomputable def z_tok (SP : zSP) (tbl : List Cond) (cl : List vw_C) (TY : Nat → Nat → FieldType) (TC : List Nat) (Y : Nat → MethodName) (VK : Nat → Nat) (HN own : String) (ini : Bool) (cc : ByteArray) (T : List (List zE)) : Bool :=
  T.all (fun b => b.all (fun x => decide (decode cc x.1 = .ok (x.2.1, x.2.2.1)) && z_lok SP tbl cl TY TC Y VK HN own ini x.2.1 x.2.2.1 x.2.2.2.1 x.2.2.2.2.1 x.2.2.2.2.2.1 x.2.2.2.2.2.2))
theorem z_tok_ok {SP : zSP} {tbl : List Cond} {cl : List vw_C} {TY : Nat → Nat → FieldType} {TC : List Nat} {Y : Nat → MethodName} {VK : Nat → Nat} {HN own : String} {ini : Bool} {cc : ByteArray} {T : List (List zE)} (h : z_tok SP tbl cl TY TC Y VK HN own ini cc T = true) :
    ∀ b ∈ T, ∀ x ∈ b, decode cc x.1 = .ok (x.2.1, x.2.2.1) ∧ z_lok SP tbl cl TY TC Y VK HN own ini x.2.1 x.2.2.1 x.2.2.2.1 x.2.2.2.2.1 x.2.2.2.2.2.1 x.2.2.2.2.2.2 = true := fun b hb x hx => by
  have h1 := List.all_eq_true.mp (List.all_eq_true.mp h b hb) x hx
  have h2 := z_and h1
  exact ⟨of_decide_eq_true h2.1, h2.2⟩
noncomputable def z_B (SP : zSP) (tbl : List Cond) (cl : List vw_C) (TY : Nat → Nat → FieldType) (TC : List Nat) (Y : Nat → MethodName) (CC : Nat → ByteArray) (RT : Nat → Option FieldType) (VK : Nat → Nat) (INI : Nat → Bool) (HN : String) (ZD : List zN) (WS : List (Nat × Nat × Nat × Nat)) (mi : Nat) : Bool := match ZD[mi]?, WS[mi]? with
  | some (nA, rc, rk, _, _, nl, T), some (w1, w2, w3, w4) => z_mokB tbl cl (Y mi) (CC mi) nl (RT mi) (VK mi) nA rc rk w1 w2 w3 w4 && ((!(INI mi) || decide ((Y mi).name = "<init>")) && z_tok SP tbl cl TY TC Y VK HN (Y mi).cls (INI mi) (CC mi) T)
  | _, _ => false
theorem z_B_ok {SP : zSP} {tbl : List Cond} {cl : List vw_C} {TY : Nat → Nat → FieldType} {TC : List Nat} {Y : Nat → MethodName} {CC : Nat → ByteArray} {RT : Nat → Option FieldType} {VK : Nat → Nat} {INI : Nat → Bool} {HN : String} {ZD : List zN} {WS : List (Nat × Nat × Nat × Nat)} (h : ∀ mi, mi < ZD.length → z_B SP tbl cl TY TC Y CC RT VK INI HN ZD WS mi = true) :
    ∀ mi nA rc rk mc ms nl T, ZD[mi]? = some (nA, rc, rk, mc, ms, nl, T) → z_mok tbl cl (Y mi) (CC mi) nl (RT mi) (VK mi) nA rc rk ∧ (INI mi = true → (Y mi).name = "<init>") ∧ ∀ b ∈ T, ∀ x ∈ b, decode (CC mi) x.1 = .ok (x.2.1, x.2.2.1) ∧ z_lok SP tbl cl TY TC Y VK HN (Y mi).cls (INI mi) x.2.1 x.2.2.1 x.2.2.2.1 x.2.2.2.2.1 x.2.2.2.2.2.1 x.2.2.2.2.2.2 = true := by
  intro mi nA rc rk mc ms nl T hz
  have h1 := h mi (List.getElem?_eq_some_iff.mp hz).1
  unfold z_B at h1
  rw [hz] at h1
  split at h1
  · rename_i e1 e2
    cases e1
    obtain ⟨g1, g⟩ := z_and h1
    obtain ⟨g2, g3⟩ := z_and g
    refine ⟨z_mokB_ok g1, fun hi => ?_, z_tok_ok g3⟩
    rw [hi] at g2
    exact of_decide_eq_true g2
  · cases h1
theorem z_rng_all {f : Nat → Bool} {a n i : Nat} (h : (List.range' a n).all f = true) (h1 : a ≤ i) (h2 : i < a + n) : f i = true := List.all_eq_true.mp h i (List.mem_range'_1.mpr ⟨h1, h2⟩)
