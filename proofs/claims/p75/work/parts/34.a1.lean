/-! ===== the methods' checks once more: the code's word compared byte by byte along the lists ===== -/
noncomputable def z_bl : List UInt8 → List UInt8 → Bool
  | [], [] => true
  | a :: l, b :: k => match Nat.beq a.toNat b.toNat with
    | true => z_bl l k
    | false => false
  | [], _ :: _ => false
  | _ :: _, [] => false
theorem z_bl_ok : ∀ {l k : List UInt8}, z_bl l k = true → l = k
  | [], [], _ => rfl
  | a :: l, b :: k, h => by
    unfold z_bl at h
    split at h
    · rename_i e
      rw [UInt8.toNat_inj.mp (z_beq e), z_bl_ok h]
    · cases h
  | [], _ :: _, h => by cases h
  | _ :: _, [], h => by cases h
theorem z_ba_ok {a b : ByteArray} (h : z_bl a.data.toList b.data.toList = true) : a = b := by
  have h1 := z_bl_ok h
  cases a with
  | mk a =>
    cases b with
    | mk b =>
      have h2 : a = b := Array.toList_inj.mp h1
      rw [h2]
noncomputable def z_wcd (tbl : List Cond) (w : Nat) (y : MethodName) (cc : ByteArray) (nL : Nat) (ret : Option FieldType) : Bool := match z_nx tbl w with
  | some (.code y' cc' nL' ret') => decide (y' = y) && (z_bl cc'.data.toList cc.data.toList && (Nat.beq nL' nL && decide (ret' = ret)))
  | _ => false
theorem z_wcd_ok {tbl : List Cond} {w : Nat} {y : MethodName} {cc : ByteArray} {nL : Nat} {ret : Option FieldType} (h : z_wcd tbl w y cc nL ret = true) : Cond.code y cc nL ret ∈ tbl := by
  unfold z_wcd at h
  rw [z_nx_eq] at h
  split at h
  · rename_i y' cc' nL' ret' e
    obtain ⟨h1, h⟩ := z_and h
    obtain ⟨h2, h⟩ := z_and h
    obtain ⟨h3, h4⟩ := z_and h
    have e1 := of_decide_eq_true h1
    have e2 := z_ba_ok h2
    have e3 := z_beq h3
    have e4 := of_decide_eq_true h4
    subst e1 e2 e3 e4
    exact List.mem_of_getElem? e
  · cases h
noncomputable def z_mokB2 (tbl : List Cond) (cl : List vw_C) (y : MethodName) (cc : ByteArray) (nL : Nat) (ret : Option FieldType) (vk nA rc rk w1 w2 w3 w4 : Nat) : Bool :=
  plainFor y && (z_wcd tbl w1 y cc nL ret && (z_wd tbl w2 (.initialized y.cls) && (decide (y.cls ≠ "java/lang/invoke/MethodHandle") && (decide (y.cls ≠ "java/lang/invoke/VarHandle") && (Nat.ble nL 21 && (decide (ret = z_rtt rk) && (decide ((parseMethodDescriptor y.desc).map (fun d => d.parameters.length) = some (if vk = 1 then nA else nA - 1)) && z_vkB tbl cl y ret vk rc w3 w4)))))))
theorem z_mokB2_ok {tbl : List Cond} {cl : List vw_C} {y : MethodName} {cc : ByteArray} {nL : Nat} {ret : Option FieldType} {vk nA rc rk w1 w2 w3 w4 : Nat} (h : z_mokB2 tbl cl y cc nL ret vk nA rc rk w1 w2 w3 w4 = true) : z_mok tbl cl y cc nL ret vk nA rc rk := by
  obtain ⟨h1, h⟩ := z_and h
  obtain ⟨h2, h⟩ := z_and h
  obtain ⟨h3, h⟩ := z_and h
  obtain ⟨h4, h⟩ := z_and h
  obtain ⟨h5, h⟩ := z_and h
  obtain ⟨h6, h⟩ := z_and h
  obtain ⟨h7, h⟩ := z_and h
  obtain ⟨h8, h⟩ := z_and h
  exact ⟨h1, z_wcd_ok h2, z_wd_ok h3, ⟨of_decide_eq_true h4, of_decide_eq_true h5⟩, Nat.le_of_ble_eq_true h6, of_decide_eq_true h7, of_decide_eq_true h8, z_vkB_ok h⟩
noncomputable def z_B2 (SP : zSP) (tbl : List Cond) (cl : List vw_C) (TY : Nat → Nat → FieldType) (TC : List Nat) (Y : Nat → MethodName) (CC : Nat → ByteArray) (RT : Nat → Option FieldType) (VK : Nat → Nat) (INI : Nat → Bool) (HN : String) (ZD : List zN) (WS : List (Nat × Nat × Nat × Nat)) (mi : Nat) : Bool := match z_nx ZD mi, z_nx WS mi with
  | some (nA, rc, rk, _, _, nl, T), some (w1, w2, w3, w4) => z_mokB2 tbl cl (Y mi) (CC mi) nl (RT mi) (VK mi) nA rc rk w1 w2 w3 w4 && ((!(INI mi) || decide ((Y mi).name = "<init>")) && z_tok SP tbl cl TY TC Y VK HN (Y mi).cls (INI mi) (CC mi) T)
  | _, _ => false
theorem z_B2_ok {SP : zSP} {tbl : List Cond} {cl : List vw_C} {TY : Nat → Nat → FieldType} {TC : List Nat} {Y : Nat → MethodName} {CC : Nat → ByteArray} {RT : Nat → Option FieldType} {VK : Nat → Nat} {INI : Nat → Bool} {HN : String} {ZD : List zN} {WS : List (Nat × Nat × Nat × Nat)} (h : ∀ mi, mi < ZD.length → z_B2 SP tbl cl TY TC Y CC RT VK INI HN ZD WS mi = true) :
    ∀ mi nA rc rk mc ms nl T, ZD[mi]? = some (nA, rc, rk, mc, ms, nl, T) → z_mok tbl cl (Y mi) (CC mi) nl (RT mi) (VK mi) nA rc rk ∧ (INI mi = true → (Y mi).name = "<init>") ∧ ∀ b ∈ T, ∀ x ∈ b, decode (CC mi) x.1 = .ok (x.2.1, x.2.2.1) ∧ z_lok SP tbl cl TY TC Y VK HN (Y mi).cls (INI mi) x.2.1 x.2.2.1 x.2.2.2.1 x.2.2.2.2.1 x.2.2.2.2.2.1 x.2.2.2.2.2.2 = true := by
  intro mi nA rc rk mc ms nl T hz
  have h1 := h mi (List.getElem?_eq_some_iff.mp hz).1
  unfold z_B2 at h1
  rw [z_nx_eq, z_nx_eq, hz] at h1
  split at h1
  · rename_i e1 e2
    cases e1
    obtain ⟨g1, g⟩ := z_and h1
    obtain ⟨g2, g3⟩ := z_and g
    refine ⟨z_mokB2_ok g1, fun hi => ?_, z_tok_ok g3⟩
    rw [hi] at g2
    exact of_decide_eq_true g2
  · cases h1
noncomputable def zBC (mi : Nat) : Bool := z_B2 zSPd zTb vwCl zTY zTC zY zCC zRT zVK zINI zHN zD zWs mi
