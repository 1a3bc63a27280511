/-! ===== the law's frame ===== -/
section ZZ
variable {p : Program} {l : Launch} {e : Env} {R : Room} {s : State} {m : MethodId} {args : Array Value} {below : List Frame} {meth : Method} {c : Code} {Q : State → Prop} {D : va_G} {cl : List vw_C} {tys : List (ClassId × FieldType)} {A : Nat → Prop} {H0 : Heap} {nL : Nat} {ρ0 : List Int} {ad0 : List Nat} {cc : ByteArray}
variable {tbl : List Cond} {TY : Nat → Nat → FieldType} {TC : List Nat} {DF : List (List Nat)} {Y : Nat → MethodName} {CC : Nat → ByteArray} {RT : Nat → Option FieldType} {VK : Nat → Nat} {INI : Nat → Bool} {HN own : String} {ini : Bool} {ZD : List zN} {RC RS d : Nat} {sc : Option Nat} {call : zL} {T : List (List zE)}
theorem z_hs (CX : z_CX p R s m args meth c cc nL own ini D cl tys TC tbl A H0 RC RS d sc ρ0) (AL : z_ALL tbl cl TY TC DF Y CC RT VK INI HN ZD)
    (hT : ∀ b ∈ T, ∀ x ∈ b, decode cc x.1 = .ok (x.2.1, x.2.2.1) ∧ z_lok tbl cl TY TC Y VK HN own ini x.2.1 x.2.2.1 x.2.2.2.1 x.2.2.2.2.1 x.2.2.2.2.2.1 x.2.2.2.2.2.2 = true)
    (hcall : ∀ mi nA rc rk mc ms nl T ivs as hp es, ZD[mi]? = some (nA, rc, rk, mc, ms, nl, T) → call mi ivs as hp = some es → z_MET l D cl tys tbl (Y mi) (CC mi) nl (RT mi) d rk mc ms ivs as hp es)
    (pc : Nat) (S : zS) (x : zE) (q : List (Nat × zS)) (hat : z_at T pc = some x) (hst : z_step ZD call RC RS nL sc DF TC (z_at T (pc + 1)) pc x.2.1 x.2.2.2.1 x.2.2.2.2.1 x.2.2.2.2.2.2 S.1 S.2.1 S.2.2.1 S.2.2.2.1 S.2.2.2.2.1 S.2.2.2.2.2 = some q) (hq : ∀ z ∈ q, z_K p l e R s m args below meth c Q D cl tys A H0 nL ρ0 ad0 z.1 z.2) : z_K p l e R s m args below meth c Q D cl tys A H0 nL ρ0 ad0 pc S := by
  obtain ⟨al1, al2, al3⟩ := AL
  obtain ⟨ivs, lo, sk, hp, nc, ns⟩ := S
  obtain ⟨⟨b, hb, hxb⟩, he⟩ := z_at_ok hat
  obtain ⟨hd, hlk⟩ := hT b hb x hxb
  rw [he] at hd
  have hok := fun mi nA rc rk mc ms nl T hz => (al3 mi nA rc rk mc ms nl T hz).1
  refine z_step_ok CX al2 hd hlk (fun y hy => ?_) (fun i g1 g2 g3 g4 => ?_) (fun i g1 g2 g3 g4 => ?_) (fun i g1 g2 g3 g4 => ?_) (fun i g1 g2 g3 g4 => ?_) hst hq
  · obtain ⟨⟨b2, hb2, hxb2⟩, he2⟩ := z_at_ok hy
    obtain ⟨hd2, hlk2⟩ := hT b2 hb2 y hxb2
    rw [he2] at hd2
    refine ⟨hd2, fun cd off ey => ?_⟩
    rw [ey] at hlk2
    exact z_beq hlk2
  · exact z_inv_ok (HN := HN) CX al1 hok hcall (Or.inl ⟨i, g1, g2, g3⟩) g4 hq
  · exact z_inv_ok (HN := HN) CX al1 hok hcall (Or.inr (Or.inl ⟨i, g1, g2, g3⟩)) g4 hq
  · exact z_inv_ok (HN := HN) CX al1 hok hcall (Or.inr (Or.inr (Or.inl ⟨i, g1, g2, g3⟩))) g4 hq
  · exact z_inv_ok (HN := HN) CX al1 hok hcall (Or.inr (Or.inr (Or.inr ⟨i, g1, g2, g3⟩))) g4 hq
end ZZ
theorem z_arrP {s : State} {args : Array Value} {ty : FieldType} (h : (Cond.arrayClass ty).before args s = true) : ∃ cA, ArrOfT s cA ty ∧ s.vm.findClass ("[" ++ ty.toString) = some cA := by
  obtain ⟨cA, kA, comp, h1, h2, h3⟩ := Cond.arrayClass_spec h
  exact ⟨cA, fun n z => ⟨fun k h => (by cases h), kA, h2, comp, h3⟩, h1⟩
theorem z_arrO {s : State} {args : Array Value} {C : String} (h : (Cond.arrayOver (.object C)).before args s = true) : ∃ cA, ArrOfT s cA (.object C) ∧ va_RA s cA (.object C) := by
  obtain ⟨comp, cA, kA, h1, h2, h3, h4, h5⟩ := Cond.arrayOver_spec h
  exact ⟨cA, fun n z => ⟨fun k h => (by cases h), kA, h3, comp, h4⟩, kA, comp, h3, h4, h1, h5⟩

set_option maxRecDepth 100000 in
theorem iX0 : ∀ w ∈ u_ws RX0 TX0 18, w ∈ zTb := by decide +kernel
set_option maxRecDepth 100000 in
theorem dfX0 : ∀ j, j < 18 → defaultValue (tyX0 j) = vp_V (([0, 0, 0, 0, 0, 0, 0, 0, 0, 0, 0, 3, 3, 3, 3, 3, 3, 3] : List Nat).map z_dv) j := by decide +kernel
set_option maxRecDepth 100000 in
theorem inX0 : Cond.instantiable RX0 18 ∈ zTb := by decide +kernel
set_option maxRecDepth 100000 in
theorem iX1 : ∀ w ∈ u_ws RX1 TX1 4, w ∈ zTb := by decide +kernel
set_option maxRecDepth 100000 in
theorem dfX1 : ∀ j, j < 4 → defaultValue (tyX1 j) = vp_V (([3, 0, 0, 0] : List Nat).map z_dv) j := by decide +kernel
set_option maxRecDepth 100000 in
theorem inX1 : Cond.instantiable RX1 4 ∈ zTb := by decide +kernel
set_option maxRecDepth 100000 in
theorem iX2 : ∀ w ∈ u_ws RX2 TX2 5, w ∈ zTb := by decide +kernel
set_option maxRecDepth 100000 in
theorem dfX2 : ∀ j, j < 5 → defaultValue (tyX2 j) = vp_V (([3, 3, 0, 0, 0] : List Nat).map z_dv) j := by decide +kernel
set_option maxRecDepth 100000 in
theorem inX2 : Cond.instantiable RX2 5 ∈ zTb := by decide +kernel
set_option maxRecDepth 100000 in
theorem iX3 : ∀ w ∈ u_ws RX3 TX3 8, w ∈ zTb := by decide +kernel
set_option maxRecDepth 100000 in
theorem dfX3 : ∀ j, j < 8 → defaultValue (tyX3 j) = vp_V (([3, 0, 0, 0, 0, 0, 0, 0] : List Nat).map z_dv) j := by decide +kernel
set_option maxRecDepth 100000 in
theorem inX3 : Cond.instantiable RX3 8 ∈ zTb := by decide +kernel
set_option maxRecDepth 100000 in
theorem iX4 : ∀ w ∈ u_ws RX4 TX4 4, w ∈ zTb := by decide +kernel
set_option maxRecDepth 100000 in
theorem dfX4 : ∀ j, j < 4 → defaultValue (tyX4 j) = vp_V (([3, 0, 0, 0] : List Nat).map z_dv) j := by decide +kernel
set_option maxRecDepth 100000 in
theorem inX4 : Cond.instantiable RX4 4 ∈ zTb := by decide +kernel
set_option maxRecDepth 100000 in
theorem iX5 : ∀ w ∈ u_ws RX5 TX5 12, w ∈ zTb := by decide +kernel
set_option maxRecDepth 100000 in
theorem dfX5 : ∀ j, j < 12 → defaultValue (tyX5 j) = vp_V (([3, 0, 0, 0, 3, 3, 3, 3, 3, 3, 3, 3] : List Nat).map z_dv) j := by decide +kernel
set_option maxRecDepth 100000 in
theorem inX5 : Cond.instantiable RX5 12 ∈ zTb := by decide +kernel
set_option maxRecDepth 100000 in
theorem iX6 : ∀ w ∈ u_ws RX6 TX6 11, w ∈ zTb := by decide +kernel
set_option maxRecDepth 100000 in
theorem dfX6 : ∀ j, j < 11 → defaultValue (tyX6 j) = vp_V (([3, 3, 3, 3, 3, 3, 3, 3, 3, 3, 3] : List Nat).map z_dv) j := by decide +kernel
set_option maxRecDepth 100000 in
theorem inX6 : Cond.instantiable RX6 11 ∈ zTb := by decide +kernel
set_option maxRecDepth 100000 in
theorem iX7 : ∀ w ∈ u_ws RX7 TX7 47, w ∈ zTb := by decide +kernel
set_option maxRecDepth 100000 in
theorem dfX7 : ∀ j, j < 47 → defaultValue (tyX7 j) = vp_V (([0, 3, 3, 3, 3, 3, 0, 0, 0, 0, 0, 1, 0, 0, 0, 0, 3, 3, 3, 3, 3, 3, 3, 0, 0, 0, 0, 0, 3, 3, 3, 3, 3, 3, 0, 0, 0, 0, 3, 3, 3, 0, 0, 0, 0, 0, 3] : List Nat).map z_dv) j := by decide +kernel
set_option maxRecDepth 100000 in
theorem inX7 : Cond.instantiable RX7 47 ∈ zTb := by decide +kernel
set_option maxRecDepth 100000 in
theorem zmw_0 : Cond.native arraycopyName ∈ zTb := by decide +kernel
set_option maxRecDepth 100000 in
theorem zmw_1 : Cond.static arraycopyName ∈ zTb := by decide +kernel
set_option maxRecDepth 100000 in
theorem zmw_2 : Cond.initialized "java/lang/System" ∈ zTb := by decide +kernel
set_option maxRecDepth 100000 in
theorem zmw_3 : Cond.instanceMethod Lib.objectInit ∈ zTb := by decide +kernel
set_option maxRecDepth 100000 in
theorem zmw_4 : Cond.code Lib.objectInit ⟨#[0xb1]⟩ 1 none ∈ zTb := by decide +kernel
set_option maxRecDepth 100000 in
theorem zmw_5 : Cond.arrayClass .int ∈ zTb := by decide +kernel
set_option maxRecDepth 100000 in
theorem zmw_6 : Cond.arrayClass .boolean ∈ zTb := by decide +kernel
set_option maxRecDepth 100000 in
theorem zmw_7 : Cond.arrayClass .byte ∈ zTb := by decide +kernel
set_option maxRecDepth 100000 in
theorem zmw_8 : Cond.arrayClass .long ∈ zTb := by decide +kernel
set_option maxRecDepth 100000 in
theorem zmw_9 : Cond.arrayOver (.object RX4) ∈ zTb := by decide +kernel
set_option maxRecDepth 100000 in
theorem zmw_10 : Cond.arrayOver (.object RX0) ∈ zTb := by decide +kernel
theorem zST : z_ST zTb vwCl zTY zDF := by
  refine ⟨fun ci q h => ?_, fun ci dc h => ?_, ⟨zmw_0, zmw_1, zmw_2⟩, zmw_3, zmw_4⟩
  · match ci, h with
    | 0, h =>
      cases h
      exact ⟨iX0, tyX0_ok, nmX0⟩
    | 1, h =>
      cases h
      exact ⟨iX1, tyX1_ok, nmX1⟩
    | 2, h =>
      cases h
      exact ⟨iX2, tyX2_ok, nmX2⟩
    | 3, h =>
      cases h
      exact ⟨iX3, tyX3_ok, nmX3⟩
    | 4, h =>
      cases h
      exact ⟨iX4, tyX4_ok, nmX4⟩
    | 5, h =>
      cases h
      exact ⟨iX5, tyX5_ok, nmX5⟩
    | 6, h =>
      cases h
      exact ⟨iX6, tyX6_ok, nmX6⟩
    | 7, h =>
      cases h
      exact ⟨iX7, tyX7_ok, nmX7⟩
    | n + 8, h => cases (show (none : Option vw_C) = some q from h)
  · match ci, h with
    | 0, h =>
      cases h
      exact ⟨_, rfl, rfl, dfX0⟩
    | 1, h =>
      cases h
      exact ⟨_, rfl, rfl, dfX1⟩
    | 2, h =>
      cases h
      exact ⟨_, rfl, rfl, dfX2⟩
    | 3, h =>
      cases h
      exact ⟨_, rfl, rfl, dfX3⟩
    | 4, h =>
      cases h
      exact ⟨_, rfl, rfl, dfX4⟩
    | 5, h =>
      cases h
      exact ⟨_, rfl, rfl, dfX5⟩
    | 6, h =>
      cases h
      exact ⟨_, rfl, rfl, dfX6⟩
    | 7, h =>
      cases h
      exact ⟨_, rfl, rfl, dfX7⟩
    | n + 8, h => cases (show (none : Option (List Nat)) = some dc from h)
theorem zAL : z_ALL zTb vwCl zTY zTC zDF zY zCC zRT zVK zINI zHN zD := ⟨fun w hw => (List.mem_filter.mp hw).2, zST, z_B_ok (WS := zWs) (fun mi h => zb_all mi h)⟩
theorem zTLok : ∀ b ∈ zTL, ∀ x ∈ b, decode code x.1 = .ok (x.2.1, x.2.2.1) ∧ z_lok zTb vwCl zTY zTC zY zVK zHN "WaistcoatGreenLaw" false x.2.1 x.2.2.1 x.2.2.2.1 x.2.2.2.2.1 x.2.2.2.2.2.1 x.2.2.2.2.2.2 = true := fun b hb x hx => by
  obtain ⟨k, hk⟩ := List.getElem?_of_mem hb
  have h := zl_all k (List.getElem?_eq_some_iff.mp hk).1
  unfold zLB at h
  rw [hk] at h
  have h2 := z_and (List.all_eq_true.mp h x hx)
  exact ⟨of_decide_eq_true h2.1, h2.2⟩
theorem z_world {s : State} {args : Array Value} (hts : ∀ w ∈ zTb, w.before args s = true) : ∃ (D : va_G) (tys : List (ClassId × FieldType)), va_K D vwCl tys s ∧ z_TYs vwCl zTC tys := by
  obtain ⟨c0, i0, k0⟩ := u_known hts iX0 (hts _ inX0)
  obtain ⟨c1, i1, k1⟩ := u_known hts iX1 (hts _ inX1)
  obtain ⟨c2, i2, k2⟩ := u_known hts iX2 (hts _ inX2)
  obtain ⟨c3, i3, k3⟩ := u_known hts iX3 (hts _ inX3)
  obtain ⟨c4, i4, k4⟩ := u_known hts iX4 (hts _ inX4)
  obtain ⟨c5, i5, k5⟩ := u_known hts iX5 (hts _ inX5)
  obtain ⟨c6, i6, k6⟩ := u_known hts iX6 (hts _ inX6)
  obtain ⟨c7, i7, k7⟩ := u_known hts iX7 (hts _ inX7)
  obtain ⟨a0, p0, n0⟩ := z_arrP (hts _ zmw_5)
  obtain ⟨a1, p1, n1⟩ := z_arrP (hts _ zmw_6)
  obtain ⟨a2, p2, n2⟩ := z_arrP (hts _ zmw_7)
  obtain ⟨a3, p3, n3⟩ := z_arrP (hts _ zmw_8)
  obtain ⟨a4, p4, n4⟩ := z_arrO (hts _ zmw_9)
  obtain ⟨a5, p5, n5⟩ := z_arrO (hts _ zmw_10)
  refine ⟨(fun k => match k with
    | 0 => c0
    | 1 => c1
    | 2 => c2
    | 3 => c3
    | 4 => c4
    | 5 => c5
    | 6 => c6
    | _ => c7, fun k => match k with
    | 0 => i0
    | 1 => i1
    | 2 => i2
    | 3 => i3
    | 4 => i4
    | 5 => i5
    | 6 => i6
    | _ => i7), [(a0, .int), (a1, .boolean), (a2, .byte), (a3, .long), (a4, .object RX4), (a5, .object RX0)], ⟨fun c q h => ?_, fun k q h => ?_⟩, fun t ht => ?_, fun i ci h => ?_, rfl⟩
  · match c, h with
    | 0, h =>
      cases h
      exact k0
    | 1, h =>
      cases h
      exact k1
    | 2, h =>
      cases h
      exact k2
    | 3, h =>
      cases h
      exact k3
    | 4, h =>
      cases h
      exact k4
    | 5, h =>
      cases h
      exact k5
    | 6, h =>
      cases h
      exact k6
    | 7, h =>
      cases h
      exact k7
    | n + 8, h => cases (show (none : Option vw_C) = some q from h)
  · match k, h with
    | 0, h =>
      cases h
      exact ⟨p0, n0⟩
    | 1, h =>
      cases h
      exact ⟨p1, n1⟩
    | 2, h =>
      cases h
      exact ⟨p2, n2⟩
    | 3, h =>
      cases h
      exact ⟨p3, n3⟩
    | 4, h =>
      cases h
      exact ⟨p4, n4⟩
    | 5, h =>
      cases h
      exact ⟨p5, n5⟩
    | n + 6, h => cases (show (none : Option (ClassId × FieldType)) = some q from h)
  · match t, ht with
    | 0, _ => exact ⟨a0, rfl⟩
    | 1, _ => exact ⟨a1, rfl⟩
    | 2, _ => exact ⟨a2, rfl⟩
    | 3, _ => exact ⟨a3, rfl⟩
  · match i, h with
    | 0, h =>
      cases h
      exact ⟨a4, (RX4, TX4, 4), rfl, rfl⟩
    | 1, h =>
      cases h
      exact ⟨a5, (RX0, TX0, 18), rfl, rfl⟩
    | n + 2, h => cases (show (none : Option Nat) = some ci from h)

