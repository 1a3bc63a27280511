/-! ===== a step is a step of the machine ===== -/
section ZP2
variable {p : Program} {l : Launch} {e : Env} {R : Room} {s : State} {m : MethodId} {args : Array Value} {below : List Frame} {meth : Method} {c : Code} {Q : State → Prop} {H : Heap} {locs : List Loc} {cells slots : Nat} {cc : ByteArray} {pc : Nat} {ls : Array Slot} {rest : List Value}
theorem lv_pop2 (hexec : p.tables.exec = Jvm.exec) (hb : c.code = cc) {va : Value} (hdg : decode cc pc = .ok (.pop2, 1)) (hva : va.category = 2)
    (k : W p l e R s m args below meth c H locs cells slots Q (F0 m (pc + 1) ls (rest))) : W p l e R s m args below meth c H locs cells slots Q (F0 m pc ls (va :: rest)) := by
  intro T hT X
  obtain ⟨t, a, b⟩ := k T hT X
  refine ⟨t, ?_, b⟩
  jvm_step X.here [X.here.top, hexec, hb, hdg, hva]
  exact a
end ZP2
section ZT
variable {p : Program} {l : Launch} {e : Env} {R : Room} {s : State} {m : MethodId} {args : Array Value} {below : List Frame} {meth : Method} {c : Code} {Q : State → Prop} {D : va_G} {cl : List vw_C} {tys : List (ClassId × FieldType)} {A : Nat → Prop} {H0 : Heap} {nL : Nat} {ρ0 : List Int} {ad0 : List Nat}
variable {cc : ByteArray} {pc : Nat} {ivs : zJ} {lo : List (Nat × zV)} {sk : List zV} {hp : List zC} {nc ns : Nat} {q : List (Nat × zS)}
theorem zs_sl {sc : Option Nat} {n : Nat} (hC : z_SC sc ρ0 A H0 s) (row : ∀ (b L : Nat) (xs : Nat → Int32) (H : Heap) (locs : List Loc) (ls : Array Slot) (rest : List Value) (i : Int32), va_X b L xs s H0 → b < H0.size → ¬ A b → va_S A H0 H locs → vp_in i L → W p l e R s m args below meth c H locs nc ns Q (F0 m n ls (.int (xs i.toNatClampNeg) :: rest)) → W p l e R s m args below meth c H locs nc ns Q (F0 m pc ls (.int i :: .ref b :: rest)))
    (h : z_sl sc n ivs lo sk hp nc ns = some q) (kk : ∀ z ∈ q, z_K p l e R s m args below meth c Q D cl tys A H0 nL ρ0 ad0 z.1 z.2) : z_K p l e R s m args below meth c Q D cl tys A H0 nL ρ0 ad0 pc (ivs, lo, sk, hp, nc, ns) := by
  unfold z_sl at h
  split at h
  · rename_i L x c0 y o sk
    split at h
    · rename_i et
      have e1 := z_beq (z_and et).1
      have e2 := (z_and (z_and et).2).1
      have e3 := (z_and (z_and et).2).2
      subst e1
      obtain ⟨b, n1, xs, c1, c2, c3, c4, c5, c6, G, c7, c8⟩ := hC
      intro ρ ws lv st H locs ls hg
      obtain ⟨v2, v1, st, rfl, hv2, hv1, hs⟩ := hg.xsk.c2
      obtain ⟨i, rfl, hi⟩ := hv2
      obtain ⟨b', hb1, rfl⟩ := hv1
      rw [z_pre hg.1.1 c2] at hb1
      have eb : b = b' := by
        have := Option.some.inj hb1
        omega
      subst eb
      have i1 := z_imp_ok hg.xiv (z_v.of0 hg.zero 0) hi e2
      have i2 := z_imp_ok hg.xiv hi (⟨(n1 : Int), z_pre hg.1.1 c1, by omega⟩ : z_v ρ L 0 (n1 : Int)) e3
      have hin : vp_in i n1 := vp_in_iff.mpr ⟨by omega, by omega⟩
      have hlt : i.toNatClampNeg < n1 := Nat.not_le.mp fun q => hin (Or.inr q)
      have hiN : (i.toInt).toNat = i.toNatClampNeg := rfl
      obtain ⟨u0, hu0, hu1⟩ := id hi
      refine row b n1 xs H locs ls st i c3 c4 c5 hg.xS hin ?_
      split at h
      · rename_i e' ef
        cases h
        obtain ⟨u, v, w, f1, f2, f3, f4⟩ := z_fs_ok hg.xiv.2 ef
        rw [f2] at hu0
        cases hu0
        rw [z_pre hg.1.1 c7] at f3
        cases f3
        rw [← hu1, hiN, c8 _ hlt] at f4
        exact kk _ (List.mem_singleton.mpr rfl) ρ ws lv _ H locs ls (hg.stk ⟨⟨_, rfl, u, f1, by rw [f4]; omega⟩, hs⟩)
      · dsimp only at h
        cases h
        have hlen : ρ.length = ivs.1.length := (z_F.len hg.xiv.1).symm
        obtain ⟨r1, ρ', g1, g2, g3⟩ := z_newr_ok (t := 0) (z := (xs i.toNatClampNeg).toInt) (r := (7, ivs.1.length, x, L + 2, c0)) hg.xiv hg.zero (z_rng (xs i.toNatClampNeg)).1 (z_rng (xs i.toNatClampNeg)).2 ⟨(xs i.toNatClampNeg).toInt, u0, G, by rw [← hlen]; simp, z_pre (z_app_pre _ _) hu0, z_pre (z_app_pre _ _) (z_pre hg.1.1 c7), by rw [← hu1, hiN, c8 _ hlt]⟩
        have hg' := (hg.stk hs).more g1 g2
        exact kk _ (List.mem_singleton.mpr rfl) ρ' ws lv _ H locs ls (hg'.stk ⟨z_m.ofR (ρ := ρ) r1 g3, hg'.xsk⟩)
    · cases h
  · cases h
theorem zs_sn {sc : Option Nat} {n : Nat} (hC : z_SC sc ρ0 A H0 s) (row : ∀ (b L : Nat) (xs : Nat → Int32) (H : Heap) (locs : List Loc) (ls : Array Slot) (rest : List Value), va_X b L xs s H0 → b < H0.size → ¬ A b → va_S A H0 H locs → W p l e R s m args below meth c H locs nc ns Q (F0 m n ls (.int (Int32.ofNat L) :: rest)) → W p l e R s m args below meth c H locs nc ns Q (F0 m pc ls (.ref b :: rest)))
    (h : z_sn sc n ivs lo sk hp nc ns = some q) (kk : ∀ z ∈ q, z_K p l e R s m args below meth c Q D cl tys A H0 nL ρ0 ad0 z.1 z.2) : z_K p l e R s m args below meth c Q D cl tys A H0 nL ρ0 ad0 pc (ivs, lo, sk, hp, nc, ns) := by
  unfold z_sn at h
  split at h
  · rename_i L y o sk
    split at h
    · rename_i el
      have e1 := z_beq el
      subst e1
      cases h
      obtain ⟨b, n1, xs, c1, c2, c3, c4, c5, c6, -⟩ := hC
      intro ρ ws lv st H locs ls hg
      obtain ⟨v1, st, rfl, hv1, hs⟩ := hg.xsk.c1
      obtain ⟨b', hb1, rfl⟩ := hv1
      rw [z_pre hg.1.1 c2] at hb1
      have eb : b = b' := by
        have := Option.some.inj hb1
        omega
      subst eb
      exact row b n1 xs H locs ls st c3 c4 c5 hg.xS (kk _ (List.mem_singleton.mpr rfl) ρ ws lv _ H locs ls (hg.stk ⟨⟨_, rfl, ⟨(n1 : Int), z_pre hg.1.1 c1, by rw [z_ofN c6]; omega⟩⟩, hs⟩))
    · cases h
  · cases h
theorem zs_pop2 {n : Nat} (row : ∀ (H : Heap) (locs : List Loc) (ls : Array Slot) (rest : List Value) (v : Value), v.category = 2 → W p l e R s m args below meth c H locs nc ns Q (F0 m n ls rest) → W p l e R s m args below meth c H locs nc ns Q (F0 m pc ls (v :: rest)))
    (h : z_pop2 n ivs lo sk hp nc ns = some q) (kk : ∀ z ∈ q, z_K p l e R s m args below meth c Q D cl tys A H0 nL ρ0 ad0 z.1 z.2) : z_K p l e R s m args below meth c Q D cl tys A H0 nL ρ0 ad0 pc (ivs, lo, sk, hp, nc, ns) := by
  unfold z_pop2 at h
  split at h
  · rename_i a sk
    split at h
    · rename_i e1
      cases h
      intro ρ ws lv st H locs ls hg
      obtain ⟨v1, st, rfl, hv1, hs⟩ := hg.xsk.c1
      have h1 := z_m.cat hv1
      have e1 := z_beq e1
      rw [e1] at h1
      exact row H locs ls st v1 (eq_of_beq h1) (kk _ (List.mem_singleton.mpr rfl) ρ ws lv _ H locs ls (hg.stk hs))
    · cases h
  · cases h
theorem z_ldS {n a : Nat} {SP : zSP} {bs : List Int} {y : Nat} (ha : a = y + 1) (hy : y < SP.1.length) (hb : bs <+: ρ0) (hF : z_SF SP bs A s H0) (row : ∀ (H : Heap) (locs : List Loc) (ls : Array Slot) (rest : List Value) (r : Nat) (t : String × Nat × String), SP.1[y]? = some t → vk_R t.1 t.2.1 t.2.2 r s → W p l e R s m args below meth c H locs nc ns Q (F0 m n ls (.ref r :: rest)) → W p l e R s m args below meth c H locs nc ns Q (F0 m pc ls rest))
    (h : z_psh (4, a, 0) n ivs lo sk hp nc ns = some q) (kk : ∀ z ∈ q, z_K p l e R s m args below meth c Q D cl tys A H0 nL ρ0 ad0 z.1 z.2) : z_K p l e R s m args below meth c Q D cl tys A H0 nL ρ0 ad0 pc (ivs, lo, sk, hp, nc, ns) := by
  subst ha
  unfold z_psh at h
  cases h
  intro ρ ws lv st H locs ls hg
  obtain ⟨adK, adV, f1, f2, f3, f4⟩ := hF
  have e1 : SP.1[y]? = some SP.1[y] := List.getElem?_eq_getElem hy
  refine row H locs ls st (adK y) _ e1 (f2 y _ e1) (kk _ (List.mem_singleton.mpr rfl) ρ ws lv _ H locs ls (hg.stk ⟨⟨adK y, ?_, rfl⟩, hg.xsk⟩))
  exact z_pre (hb.trans hg.1.1) (f1 y hy)
theorem zs_lsh {n : Nat} (row : ∀ (H : Heap) (locs : List Loc) (ls : Array Slot) (rest : List Value) (x : Int64) (y : Int32), (∀ v : Int64, W p l e R s m args below meth c H locs nc ns Q (F0 m n ls (.long v :: rest))) → W p l e R s m args below meth c H locs nc ns Q (F0 m pc ls (.int y :: .long x :: rest)))
    (h : z_lsh n ivs lo sk hp nc ns = some q) (kk : ∀ z ∈ q, z_K p l e R s m args below meth c Q D cl tys A H0 nL ρ0 ad0 z.1 z.2) : z_K p l e R s m args below meth c Q D cl tys A H0 nL ρ0 ad0 pc (ivs, lo, sk, hp, nc, ns) := by
  unfold z_lsh at h
  split at h
  · rename_i x1 x2 y1 y2 sk
    cases h
    intro ρ ws lv st H locs ls hg
    obtain ⟨v2, v1, st, rfl, hv2, hv1, hs⟩ := hg.xsk.c2
    obtain ⟨i, rfl, -⟩ := hv2
    obtain ⟨j, rfl, -⟩ := hv1
    refine row H locs ls st j i (fun v => ?_)
    obtain ⟨r1, ρ', g1, g2, g3⟩ := z_top_ok (t := 1) hg.xiv (z_rngL v).1 (z_rngL v).2
    have hg' := (hg.stk hs).more g1 g2
    exact kk _ (List.mem_singleton.mpr rfl) ρ' ws lv _ H locs ls (hg'.stk ⟨z_m.ofRL (ρ := ρ) r1 g3, hg'.xsk⟩)
  · cases h
theorem z_cats_ok {ρ : List Int} {ad : List Nat} : ∀ {sk : List zV} {st : List Value}, z_F (z_m ρ ad) sk st → (st.map fun v => v.category).sum = z_cats sk
  | [], [], _ => rfl
  | a :: sk, v :: st, h => by
    have ih := z_cats_ok h.2
    rw [List.map_cons, List.sum_cons, ih]
    cases e : Nat.beq a.1 1 with
    | true =>
      have e2 : z_cats (a :: sk) = z_cats sk + 2 := by
        show (match Nat.beq a.1 1 with | true => z_cats sk + 2 | false => z_cats sk + 1) = _
        rw [e]
      have h1 := z_m.cat h.1
      have e := z_beq e
      rw [e] at h1
      have h2 : v.category = 2 := eq_of_beq h1
      omega
    | false =>
      have e2 : z_cats (a :: sk) = z_cats sk + 1 := by
        show (match Nat.beq a.1 1 with | true => z_cats sk + 2 | false => z_cats sk + 1) = _
        rw [e]
      have h1 := z_cat1 h.1 e
      omega
  | [], _ :: _, h => h.elim
  | _ :: _, [], h => h.elim
theorem zs_oi {n : Nat} (row : ∀ (H : Heap) (locs : List Loc) (ls : Array Slot) (rest : List Value) (a : Nat) (lv : List (Nat × Value)), lv_has ls nL lv → (rest.map fun v => v.category).sum ≤ 8 → W p l e R s m args below meth c H locs nc ns Q (F0 m n ls rest) → W p l e R s m args below meth c H locs nc ns Q (F0 m pc ls (.ref a :: rest)))
    (h : z_oi n ivs lo sk hp nc ns = some q) (kk : ∀ z ∈ q, z_K p l e R s m args below meth c Q D cl tys A H0 nL ρ0 ad0 z.1 z.2) : z_K p l e R s m args below meth c Q D cl tys A H0 nL ρ0 ad0 pc (ivs, lo, sk, hp, nc, ns) := by
  unfold z_oi at h
  split at h
  · rename_i x y sk
    split at h
    · rename_i el
      have el := Nat.le_of_ble_eq_true el
      cases h
      intro ρ ws lv st H locs ls hg
      obtain ⟨v1, st, rfl, hv1, hs⟩ := hg.xsk.c1
      obtain ⟨a, -, rfl⟩ := hv1
      exact row H locs ls st a lv hg.xL (by rw [z_cats_ok hs]; exact el) (kk _ (List.mem_singleton.mpr rfl) ρ ws lv _ H locs ls (hg.stk hs))
    · cases h
  · cases h
end ZT
theorem z_ref2 {v : Value} (h : ∃ (ρ : List Int) (ad : List Nat) (x : Nat) (y : Int), z_m ρ ad (2, x, y) v) : ∃ a : Nat, v = .ref a := by
  obtain ⟨_, _, _, _, a, -, h⟩ := h
  exact ⟨a, h⟩
theorem z_ref4 {v : Value} (h : ∃ (ρ : List Int) (ad : List Nat) (x : Nat) (y : Int), z_m ρ ad (4, x, y) v) : ∃ a : Nat, v = .ref a := by
  obtain ⟨_, _, _, _, a, -, h⟩ := h
  exact ⟨a, h⟩
theorem z_int0 {v : Value} (h : ∃ (ρ : List Int) (ad : List Nat) (x : Nat) (y : Int), z_m ρ ad (0, x, y) v) : ∃ a : Int32, v = .int a := by
  obtain ⟨_, _, _, _, a, h, -⟩ := h
  exact ⟨a, h⟩
theorem z_int1 {v : Value} (h : ∃ (ρ : List Int) (ad : List Nat) (x : Nat) (y : Int), z_m ρ ad (1, x, y) v) : ∃ a : Int64, v = .long a := by
  obtain ⟨_, _, _, _, a, h, -⟩ := h
  exact ⟨a, h⟩
theorem z_m.ci {ρ : List Int} {ad : List Nat} (h0 : ρ[0]? = some 0) (i : Int32) : z_m ρ ad (0, 0, i.toInt) (.int i) := ⟨i, rfl, z_v.of0 h0 _⟩
theorem z_m.cj {ρ : List Int} {ad : List Nat} (h0 : ρ[0]? = some 0) (i : Int64) : z_m ρ ad (1, 0, i.toInt) (.long i) := ⟨i, rfl, z_v.of0 h0 _⟩
