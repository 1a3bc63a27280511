/-! ===== more steps: the stack, jumps, switches, lengths, new cells, copies ===== -/
theorem z_cat1 {ρ : List Int} {ad : List Nat} {a : zV} {v : Value} (h : z_m ρ ad a v) (e : Nat.beq a.1 1 = false) : v.category = 1 := by
  have h1 := z_m.cat h
  have h2 : (a.1 == 1) = false := by
    cases hq : (a.1 == 1)
    · rfl
    · rw [eq_of_beq hq] at e
      cases e
  rw [h2] at h1
  rcases lv_cat v with h3 | h3
  · exact h3
  · rw [h3] at h1
    cases h1
noncomputable def z_tg (pc : Nat) (off : Int) : Option Nat := match z_ile 0 (Int.ofNat pc + off) with
  | true => some (Int.ofNat pc + off).toNat
  | false => none
theorem z_tg_ok {pc t : Nat} {off : Int} (h : z_tg pc off = some t) : (pc : Int) + off = (t : Int) := by
  unfold z_tg at h
  split at h
  · rename_i e
    have e := z_ile_ok e
    cases h
    have e1 : (Int.ofNat pc + off) = (pc : Int) + off := rfl
    rw [e1] at e ⊢
    omega
  · cases h
section ZC
variable {p : Program} {l : Launch} {e : Env} {R : Room} {s : State} {m : MethodId} {args : Array Value} {below : List Frame} {meth : Method} {c : Code} {Q : State → Prop} {D : va_G} {cl : List vw_C} {tys : List (ClassId × FieldType)} {A : Nat → Prop} {H0 : Heap} {nL : Nat} {ρ0 : List Int} {ad0 : List Nat}
variable {cc : ByteArray} {pc : Nat} {ivs : zJ} {lo : List (Nat × zV)} {sk : List zV} {hp : List zC} {nc ns : Nat} {q : List (Nat × zS)}
variable {ρ : List Int} {ws : va_W} {lv : List (Nat × Value)} {st st' : List Value} {H : Heap} {locs : List Loc} {ls : Array Slot} {sk' : List zV}
noncomputable def z_dup (pc : Nat) (ivs : zJ) (lo : List (Nat × zV)) (sk : List zV) (hp : List zC) (nc ns : Nat) : zQ := match sk with
  | a :: sk => match Nat.beq a.1 1 with
    | true => none
    | false => some [(pc, (ivs, lo, a :: a :: sk, hp, nc, ns))]
  | [] => none
theorem zs_dup {n : Nat} (row : ∀ (H : Heap) (locs : List Loc) (ls : Array Slot) (rest : List Value) (v : Value), v.category = 1 → W p l e R s m args below meth c H locs nc ns Q (F0 m n ls (v :: v :: rest)) → W p l e R s m args below meth c H locs nc ns Q (F0 m pc ls (v :: rest)))
    (h : z_dup n ivs lo sk hp nc ns = some q) (k : ∀ z ∈ q, z_K p l e R s m args below meth c Q D cl tys A H0 nL ρ0 ad0 z.1 z.2) : z_K p l e R s m args below meth c Q D cl tys A H0 nL ρ0 ad0 pc (ivs, lo, sk, hp, nc, ns) := by
  unfold z_dup at h
  split at h
  · rename_i a sk
    split at h
    · cases h
    · rename_i ea
      cases h
      intro ρ ws lv st H locs ls hg
      obtain ⟨v, st, rfl, hv, hs⟩ := hg.xsk.c1
      exact row H locs ls st v (z_cat1 hv ea) (k _ (List.mem_singleton.mpr rfl) ρ ws lv _ H locs ls (hg.stk ⟨hv, hv, hs⟩))
  · cases h
noncomputable def z_dup2 (pc : Nat) (ivs : zJ) (lo : List (Nat × zV)) (sk : List zV) (hp : List zC) (nc ns : Nat) : zQ := match sk with
  | a :: b :: sk => match Nat.beq a.1 1 || Nat.beq b.1 1 with
    | true => none
    | false => some [(pc, (ivs, lo, a :: b :: a :: b :: sk, hp, nc, ns))]
  | _ => none
theorem zs_dup2 {n : Nat} (row : ∀ (H : Heap) (locs : List Loc) (ls : Array Slot) (rest : List Value) (v w : Value), v.category = 1 → w.category = 1 → W p l e R s m args below meth c H locs nc ns Q (F0 m n ls (v :: w :: v :: w :: rest)) → W p l e R s m args below meth c H locs nc ns Q (F0 m pc ls (v :: w :: rest)))
    (h : z_dup2 n ivs lo sk hp nc ns = some q) (k : ∀ z ∈ q, z_K p l e R s m args below meth c Q D cl tys A H0 nL ρ0 ad0 z.1 z.2) : z_K p l e R s m args below meth c Q D cl tys A H0 nL ρ0 ad0 pc (ivs, lo, sk, hp, nc, ns) := by
  unfold z_dup2 at h
  split at h
  · rename_i a b sk
    split at h
    · cases h
    · rename_i ea
      have ea := Bool.or_eq_false_iff.mp ea
      cases h
      intro ρ ws lv st H locs ls hg
      obtain ⟨v, w, st, rfl, hv, hw, hs⟩ := hg.xsk.c2
      exact row H locs ls st v w (z_cat1 hv ea.1) (z_cat1 hw ea.2) (k _ (List.mem_singleton.mpr rfl) ρ ws lv _ H locs ls (hg.stk ⟨hv, hw, hv, hw, hs⟩))
  · cases h
noncomputable def z_pop (pc : Nat) (ivs : zJ) (lo : List (Nat × zV)) (sk : List zV) (hp : List zC) (nc ns : Nat) : zQ := match sk with
  | a :: sk => match Nat.beq a.1 1 with
    | true => none
    | false => some [(pc, (ivs, lo, sk, hp, nc, ns))]
  | _ => none
theorem zs_pop {n : Nat} (row : ∀ (H : Heap) (locs : List Loc) (ls : Array Slot) (rest : List Value) (v : Value), v.category = 1 → W p l e R s m args below meth c H locs nc ns Q (F0 m n ls rest) → W p l e R s m args below meth c H locs nc ns Q (F0 m pc ls (v :: rest)))
    (h : z_pop n ivs lo sk hp nc ns = some q) (k : ∀ z ∈ q, z_K p l e R s m args below meth c Q D cl tys A H0 nL ρ0 ad0 z.1 z.2) : z_K p l e R s m args below meth c Q D cl tys A H0 nL ρ0 ad0 pc (ivs, lo, sk, hp, nc, ns) := by
  unfold z_pop at h
  split at h
  · rename_i a sk
    split at h
    · cases h
    · rename_i ea
      cases h
      intro ρ ws lv st H locs ls hg
      obtain ⟨v, st, rfl, hv, hs⟩ := hg.xsk.c1
      exact row H locs ls st v (z_cat1 hv ea) (k _ (List.mem_singleton.mpr rfl) ρ ws lv _ H locs ls (hg.stk hs))
  · cases h
noncomputable def z_gt (t : Option Nat) (ivs : zJ) (lo : List (Nat × zV)) (sk : List zV) (hp : List zC) (nc ns : Nat) : zQ := match t with
  | some t => some [(t, (ivs, lo, sk, hp, nc, ns))]
  | none => none
theorem zs_gt {t : Option Nat} (row : ∀ (t' : Nat) (H : Heap) (locs : List Loc) (ls : Array Slot) (rest : List Value), t = some t' → W p l e R s m args below meth c H locs nc ns Q (F0 m t' ls rest) → W p l e R s m args below meth c H locs nc ns Q (F0 m pc ls rest))
    (h : z_gt t ivs lo sk hp nc ns = some q) (k : ∀ z ∈ q, z_K p l e R s m args below meth c Q D cl tys A H0 nL ρ0 ad0 z.1 z.2) : z_K p l e R s m args below meth c Q D cl tys A H0 nL ρ0 ad0 pc (ivs, lo, sk, hp, nc, ns) := by
  unfold z_gt at h
  split at h
  · rename_i t' 
    cases h
    intro ρ ws lv st H locs ls hg
    exact row t' H locs ls st rfl (k _ (List.mem_singleton.mpr rfl) ρ ws lv _ H locs ls hg)
  · cases h
/-- a table of ways -/
noncomputable def z_tsw (dflt a b : Int) (offs : List Int) (pc : Nat) (ivs : zJ) (lo : List (Nat × zV)) (sk : List zV) (hp : List zC) (nc ns : Nat) : zQ := match sk with
  | (0, x, c) :: sk => match z_tg pc dflt, z_ieq (Int.ofNat offs.length + a) (b + 1) && offs.all (fun o => z_ile 0 (Int.ofNat pc + o)) with
    | some dt, true => some (((List.range offs.length).flatMap (fun k => match offs[k]? with
        | some o => z_go (z_asm false .eq ivs x c 0 (a + Int.ofNat k)) (Int.ofNat pc + o).toNat lo sk hp nc ns
        | none => [])) ++ (z_go (z_asm false .lt ivs x c 0 a) dt lo sk hp nc ns ++ z_go (z_asm false .gt ivs x c 0 b) dt lo sk hp nc ns))
    | _, _ => none
  | _ => none
theorem zs_tsw {dflt a b : Int} {offs : Array Int} (rowO : ∀ (dt : Nat) (H : Heap) (locs : List Loc) (ls : Array Slot) (rest : List Value) (x : Int32), (pc : Int) + dflt = (dt : Int) → x.toInt < a ∨ b < x.toInt → W p l e R s m args below meth c H locs nc ns Q (F0 m dt ls rest) → W p l e R s m args below meth c H locs nc ns Q (F0 m pc ls (.int x :: rest)))
    (rowI : ∀ (t : Nat) (o : Int) (H : Heap) (locs : List Loc) (ls : Array Slot) (rest : List Value) (x : Int32), (pc : Int) + o = (t : Int) → ¬ x.toInt < a → ¬ b < x.toInt → offs[(x.toInt - a).toNat]? = some o → W p l e R s m args below meth c H locs nc ns Q (F0 m t ls rest) → W p l e R s m args below meth c H locs nc ns Q (F0 m pc ls (.int x :: rest)))
    (h : z_tsw dflt a b offs.toList pc ivs lo sk hp nc ns = some q) (k : ∀ z ∈ q, z_K p l e R s m args below meth c Q D cl tys A H0 nL ρ0 ad0 z.1 z.2) : z_K p l e R s m args below meth c Q D cl tys A H0 nL ρ0 ad0 pc (ivs, lo, sk, hp, nc, ns) := by
  unfold z_tsw at h
  split at h
  · rename_i x c0 sk
    split at h
    · rename_i dt ed et
      have e1 := z_ieq_ok (z_and et).1
      have e2 := (z_and et).2
      have ed := z_tg_ok ed
      cases h
      intro ρ ws lv st H locs ls hg
      obtain ⟨v, st, rfl, hv, hs⟩ := hg.xsk.c1
      obtain ⟨X, rfl, hX⟩ := hv
      by_cases h1 : X.toInt < a
      · obtain ⟨i, g1, g2⟩ := z_asm_ok (both := false) (cd := .lt) (d := a) (Y := a) hg.xiv hX (z_v.of0 hg.zero _) h1
        exact rowO dt H locs ls st X ed (Or.inl h1) (k (dt, (i, lo, sk, hp, nc, ns)) (List.mem_append_right _ (List.mem_append_left _ (List.mem_map.mpr ⟨i, g1, rfl⟩))) ρ ws lv st H locs ls ((hg.stk hs).more (List.prefix_refl _) g2))
      · by_cases h2 : b < X.toInt
        · obtain ⟨i, g1, g2⟩ := z_asm_ok (both := false) (cd := .gt) (d := b) (Y := b) hg.xiv hX (z_v.of0 hg.zero _) h2
          exact rowO dt H locs ls st X ed (Or.inr h2) (k (dt, (i, lo, sk, hp, nc, ns)) (List.mem_append_right _ (List.mem_append_right _ (List.mem_map.mpr ⟨i, g1, rfl⟩))) ρ ws lv st H locs ls ((hg.stk hs).more (List.prefix_refl _) g2))
        · have e1 : ((offs.toList.length : Nat) : Int) + a = b + 1 := e1
          have hlt : (X.toInt - a).toNat < offs.toList.length := by omega
          have eo : offs.toList[(X.toInt - a).toNat]? = some offs.toList[(X.toInt - a).toNat] := List.getElem?_eq_getElem hlt
          generalize offs.toList[(X.toInt - a).toNat] = o at eo
          have ho := z_ile_ok (List.all_eq_true.mp e2 o (List.mem_of_getElem? eo))
          have et : (pc : Int) + o = (((Int.ofNat pc + o).toNat : Nat) : Int) := by
            have e3 : (Int.ofNat pc + o) = (pc : Int) + o := rfl
            rw [e3] at ho ⊢
            omega
          have ek : X.toInt = a + Int.ofNat (X.toInt - a).toNat := by
            show X.toInt = a + (((X.toInt - a).toNat : Nat) : Int)
            omega
          obtain ⟨i, g1, g2⟩ := z_asm_ok (both := false) (cd := .eq) (d := a + Int.ofNat (X.toInt - a).toNat) (Y := a + Int.ofNat (X.toInt - a).toNat) hg.xiv hX (z_v.of0 hg.zero _) ek
          refine rowI _ o H locs ls st X et h1 h2 (by rw [← Array.getElem?_toList]; exact eo) (k ((Int.ofNat pc + o).toNat, (i, lo, sk, hp, nc, ns)) (List.mem_append_left _ (List.mem_flatMap.mpr ⟨(X.toInt - a).toNat, List.mem_range.mpr hlt, ?_⟩)) ρ ws lv st H locs ls ((hg.stk hs).more (List.prefix_refl _) g2))
          rw [eo]
          exact List.mem_map.mpr ⟨i, g1, rfl⟩
    · cases h
  · cases h
/-- how long an array is -/
noncomputable def z_len (pc : Nat) (ivs : zJ) (lo : List (Nat × zV)) (sk : List zV) (hp : List zC) (nc ns : Nat) : zQ := match sk with
  | (2, j, _) :: sk => match hp[j]? with
    | some (.inr (.inl (_, n, _))) => match Nat.ble n 2147483647 with
      | true => some [(pc, (ivs, lo, (0, 0, Int.ofNat n) :: sk, hp, nc, ns))]
      | false => none
    | some (.inr (.inr (_, es))) => match Nat.ble es.length 2147483647 with
      | true => some [(pc, (ivs, lo, (0, 0, Int.ofNat es.length) :: sk, hp, nc, ns))]
      | false => none
    | _ => none
  | _ => none
theorem z_ofN {n : Nat} (h : n ≤ 2147483647) : (Int32.ofNat n).toInt = (n : Int) := nI_toInt (show n < 2 ^ 31 by omega)
theorem zs_len {n : Nat} (row : ∀ (ws : va_W) (H : Heap) (locs : List Loc) (ls : Array Slot) (rest : List Value) (a q0 t0 : Nat) (cA : ClassId) (ty : FieldType) (x : vp_A), va_P D cl ws H → ws[q0]? = some (a, .inl (cA, x)) → tys[t0]? = some (cA, ty) → W p l e R s m args below meth c H locs nc ns Q (F0 m n ls (.int (Int32.ofNat x.1) :: rest)) → W p l e R s m args below meth c H locs nc ns Q (F0 m pc ls (.ref a :: rest)))
    (h : z_len n ivs lo sk hp nc ns = some q) (kk : ∀ z ∈ q, z_K p l e R s m args below meth c Q D cl tys A H0 nL ρ0 ad0 z.1 z.2) : z_K p l e R s m args below meth c Q D cl tys A H0 nL ρ0 ad0 pc (ivs, lo, sk, hp, nc, ns) := by
  unfold z_len at h
  split at h
  · rename_i j o sk
    split at h
    · rename_i t n0 K ec
      split at h
      · rename_i en
        have en := Nat.le_of_ble_eq_true en
        cases h
        intro ρ ws lv st H locs ls hg
        obtain ⟨v1, st, rfl, hv1, hs⟩ := hg.xsk.c1
        obtain ⟨ad, ee, h1, rfl, h2⟩ := z_cell hg.xhp hv1 ec
        obtain ⟨cA, ty, ht, ⟨-, f, rfl, -⟩ | ⟨-, f, rfl, -⟩⟩ := h2
        · exact row ws H locs ls st ad j t cA ty _ hg.xP h1 ht (kk _ (List.mem_singleton.mpr rfl) ρ ws lv _ H locs ls (hg.stk ⟨⟨_, rfl, by rw [z_ofN en]; exact z_v.of0 hg.zero _⟩, hs⟩))
        · exact row ws H locs ls st ad j t cA ty _ hg.xP h1 ht (kk _ (List.mem_singleton.mpr rfl) ρ ws lv _ H locs ls (hg.stk ⟨⟨_, rfl, by rw [z_ofN en]; exact z_v.of0 hg.zero _⟩, hs⟩))
      · cases h
    · rename_i t es ec
      split at h
      · rename_i en
        have en := Nat.le_of_ble_eq_true en
        cases h
        intro ρ ws lv st H locs ls hg
        obtain ⟨v1, st, rfl, hv1, hs⟩ := hg.xsk.c1
        obtain ⟨ad, ee, h1, rfl, h2⟩ := z_cell hg.xhp hv1 ec
        obtain ⟨cA, ty, ht, -, f, rfl, -⟩ := h2
        · exact row ws H locs ls st ad j t cA ty _ hg.xP h1 ht (kk _ (List.mem_singleton.mpr rfl) ρ ws lv _ H locs ls (hg.stk ⟨⟨_, rfl, by rw [z_ofN en]; exact z_v.of0 hg.zero _⟩, hs⟩))
      · cases h
    · cases h
  · cases h
/-- a new object -/
noncomputable def z_dv (t : Nat) : Value := match t with
  | 0 => .int 0
  | 1 => .long 0
  | _ => .null
noncomputable def z_da (t : Nat) : zV := match t with
  | 0 => (0, 0, 0)
  | 1 => (1, 0, 0)
  | _ => (3, 0, 0)
theorem z_dF {ρ : List Int} {ad : List Nat} (h0 : ρ[0]? = some 0) : ∀ dc : List Nat, z_F (z_m ρ ad) (dc.map z_da) (dc.map z_dv)
  | [] => trivial
  | t :: dc => by
    refine ⟨?_, z_dF h0 dc⟩
    match t with
    | 0 => exact ⟨0, rfl, z_v.of0 h0 0⟩
    | 1 => exact ⟨0, rfl, z_v.of0 h0 0⟩
    | _ + 2 => exact rfl
noncomputable def z_nw (RC RS ci : Nat) (dc : List Nat) (pc : Nat) (ivs : zJ) (lo : List (Nat × zV)) (sk : List zV) (hp : List zC) (nc ns : Nat) : zQ := match Nat.ble (nc + 1) RC && Nat.ble (ns + dc.length) RS with
  | true => some [(pc, (ivs, lo, (2, hp.length, 0) :: sk, hp ++ [.inl (ci, dc.map z_da)], nc + 1, ns + dc.length))]
  | false => none
theorem zs_nw {n RC RS ci : Nat} {dc : List Nat} (row : ∀ (ws : va_W) (H : Heap) (locs : List Loc) (ls : Array Slot) (rest : List Value), va_P D cl ws H → va_D A ws → va_S A H0 H locs → nc + 1 ≤ RC → ns + dc.length ≤ RS →
      (∀ (a : Nat) (H1 : Heap), va_P D cl (ws ++ [(a, .inr (ci, dc.map z_dv))]) H1 → va_D A (ws ++ [(a, .inr (ci, dc.map z_dv))]) → va_S A H0 H1 locs → W p l e R s m args below meth c H1 locs (nc + 1) (ns + dc.length) Q (F0 m n ls (.ref a :: rest))) → W p l e R s m args below meth c H locs nc ns Q (F0 m pc ls rest))
    (h : z_nw RC RS ci dc n ivs lo sk hp nc ns = some q) (kk : ∀ z ∈ q, z_K p l e R s m args below meth c Q D cl tys A H0 nL ρ0 ad0 z.1 z.2) : z_K p l e R s m args below meth c Q D cl tys A H0 nL ρ0 ad0 pc (ivs, lo, sk, hp, nc, ns) := by
  unfold z_nw at h
  split at h
  · rename_i et
    have e1 := Nat.le_of_ble_eq_true (z_and et).1
    have e2 := Nat.le_of_ble_eq_true (z_and et).2
    cases h
    intro ρ ws lv st H locs ls hg
    refine row ws H locs ls st hg.xP hg.xD hg.xS e1 e2 (fun a H1 hP hD hS => ?_)
    exact kk _ (List.mem_singleton.mpr rfl) ρ _ lv _ H1 locs ls (hg.push (cell := .inl (ci, dc.map z_da)) ⟨_, rfl, z_dF hg.zero dc⟩ hP hD hS)
  · cases h
/-- a new array of numbers: the kind's number, its length known -/
noncomputable def z_na (RC RS t : Nat) (pc : Nat) (ivs : zJ) (lo : List (Nat × zV)) (sk : List zV) (hp : List zC) (nc ns : Nat) : zQ := match sk with
  | (0, 0, .ofNat n) :: sk => match Nat.ble (nc + 1) RC && (Nat.ble (ns + n) RS && (Nat.ble n 1000000 && Nat.ble t 3)) with
    | true => some [(pc, (ivs, lo, (2, hp.length, 0) :: sk, hp ++ [match Nat.ble n 5 && Nat.ble t 2 with
      | true => .inr (.inl (t, n, .inr (.inl (List.replicate n (0, 0, 0)))))
      | false => .inr (.inl (t, n, .inl (0, 0)))], nc + 1, ns + n))]
    | false => none
  | _ => none
noncomputable def z_a0 (t n : Nat) : vp_A := match t with
  | 3 => (n, .inr (.inl (fun _ => 0)))
  | _ => (n, .inl (fun _ => 0))
theorem zs_na {n RC RS t : Nat} (row : ∀ (ws : va_W) (H : Heap) (locs : List Loc) (ls : Array Slot) (rest : List Value) (i : Int32) (k : Nat), va_P D cl ws H → va_D A ws → va_S A H0 H locs → t ≤ 3 → k ≤ 1000000 → i.toInt = (k : Int) → nc + 1 ≤ RC → ns + k ≤ RS →
      (∀ (a : Nat) (cA : ClassId) (ty : FieldType) (H1 : Heap), tys[t]? = some (cA, ty) → va_P D cl (ws ++ [(a, .inl (cA, z_a0 t k))]) H1 → va_D A (ws ++ [(a, .inl (cA, z_a0 t k))]) → va_S A H0 H1 locs → W p l e R s m args below meth c H1 locs (nc + 1) (ns + k) Q (F0 m n ls (.ref a :: rest))) → W p l e R s m args below meth c H locs nc ns Q (F0 m pc ls (.int i :: rest)))
    (h : z_na RC RS t n ivs lo sk hp nc ns = some q) (kk : ∀ z ∈ q, z_K p l e R s m args below meth c Q D cl tys A H0 nL ρ0 ad0 z.1 z.2) : z_K p l e R s m args below meth c Q D cl tys A H0 nL ρ0 ad0 pc (ivs, lo, sk, hp, nc, ns) := by
  unfold z_na at h
  split at h
  · rename_i k0 sk
    split at h
    · rename_i et
      have e1 := Nat.le_of_ble_eq_true (z_and et).1
      have e2 := Nat.le_of_ble_eq_true (z_and (z_and et).2).1
      have e3 := Nat.le_of_ble_eq_true (z_and (z_and (z_and et).2).2).1
      have e4 := Nat.le_of_ble_eq_true (z_and (z_and (z_and et).2).2).2
      cases h
      intro ρ ws lv st H locs ls hg
      obtain ⟨v, st, rfl, hv, hs⟩ := hg.xsk.c1
      obtain ⟨i, rfl, hi⟩ := hv
      have ei : i.toInt = (k0 : Int) := z_v.const hg.zero hi
      refine row ws H locs ls st i k0 hg.xP hg.xD hg.xS e4 e3 ei e1 e2 (fun a cA ty H1 ht hP hD hS => ?_)
      refine kk _ (List.mem_singleton.mpr rfl) ρ _ lv _ H1 locs ls ((hg.stk hs).push ?_ hP hD hS)
      split
      · rename_i eb
        have eb1 := Nat.le_of_ble_eq_true (z_and eb).2
        refine ⟨cA, ty, ht, Or.inl ⟨by omega, fun _ => 0, ?_, fun j hj => ⟨(0, 0, 0), ?_, z_v.of0 hg.zero 0⟩⟩⟩
        · unfold z_a0
          split
          · omega
          · rfl
        · rw [List.getElem?_replicate, if_pos hj]
      · refine ⟨cA, ty, ht, ?_⟩
        unfold z_a0
        split
        · exact Or.inr ⟨rfl, fun _ => 0, rfl, fun j hj => ⟨Int.le_refl _, Int.le_refl _⟩⟩
        · rename_i hne
          refine Or.inl ⟨?_, fun _ => 0, rfl, fun j hj => ⟨Int.le_refl _, Int.le_refl _⟩⟩
          have : t ≠ 3 := fun q => hne q
          omega
    · cases h
  · cases h
/-- a new array of references -/
noncomputable def z_nr (RC RS t : Nat) (pc : Nat) (ivs : zJ) (lo : List (Nat × zV)) (sk : List zV) (hp : List zC) (nc ns : Nat) : zQ := match sk with
  | (0, 0, .ofNat n) :: sk => match Nat.ble (nc + 1) RC && (Nat.ble (ns + n) RS && (Nat.ble n 1000000 && Nat.ble 4 t)) with
    | true => some [(pc, (ivs, lo, (2, hp.length, 0) :: sk, hp ++ [.inr (.inr (t, List.replicate n (3, 0, 0)))], nc + 1, ns + n))]
    | false => none
  | _ => none
theorem zs_nr {n RC RS t : Nat} (row : ∀ (ws : va_W) (H : Heap) (locs : List Loc) (ls : Array Slot) (rest : List Value) (i : Int32) (k : Nat), va_P D cl ws H → va_D A ws → va_S A H0 H locs → 4 ≤ t → k ≤ 1000000 → i.toInt = (k : Int) → nc + 1 ≤ RC → ns + k ≤ RS →
      (∀ (a : Nat) (cA : ClassId) (ty : FieldType) (H1 : Heap), tys[t]? = some (cA, ty) → va_P D cl (ws ++ [(a, .inl (cA, k, .inr (.inr (.inr (.inr (fun _ => none))))))]) H1 → va_D A (ws ++ [(a, .inl (cA, k, .inr (.inr (.inr (.inr (fun _ => none))))))]) → va_S A H0 H1 locs → W p l e R s m args below meth c H1 locs (nc + 1) (ns + k) Q (F0 m n ls (.ref a :: rest))) → W p l e R s m args below meth c H locs nc ns Q (F0 m pc ls (.int i :: rest)))
    (h : z_nr RC RS t n ivs lo sk hp nc ns = some q) (kk : ∀ z ∈ q, z_K p l e R s m args below meth c Q D cl tys A H0 nL ρ0 ad0 z.1 z.2) : z_K p l e R s m args below meth c Q D cl tys A H0 nL ρ0 ad0 pc (ivs, lo, sk, hp, nc, ns) := by
  unfold z_nr at h
  split at h
  · rename_i k0 sk
    split at h
    · rename_i et
      have e1 := Nat.le_of_ble_eq_true (z_and et).1
      have e2 := Nat.le_of_ble_eq_true (z_and (z_and et).2).1
      have e3 := Nat.le_of_ble_eq_true (z_and (z_and (z_and et).2).2).1
      have e4 := Nat.le_of_ble_eq_true (z_and (z_and (z_and et).2).2).2
      cases h
      intro ρ ws lv st H locs ls hg
      obtain ⟨v, st, rfl, hv, hs⟩ := hg.xsk.c1
      obtain ⟨i, rfl, hi⟩ := hv
      have ei : i.toInt = (k0 : Int) := z_v.const hg.zero hi
      refine row ws H locs ls st i k0 hg.xP hg.xD hg.xS e4 e3 ei e1 e2 (fun a cA ty H1 ht hP hD hS => ?_)
      refine kk _ (List.mem_singleton.mpr rfl) ρ _ lv _ H1 locs ls ((hg.stk hs).push ?_ hP hD hS)
      refine ⟨cA, ty, ht, by omega, fun _ => none, ?_, fun j a0 ha => ?_⟩
      · rw [List.length_replicate]
      · rw [List.getElem?_replicate] at ha
        split at ha
        · cases ha
          exact rfl
        · cases ha
    · cases h
  · cases h
/-- numbers copied from an array to another -/
noncomputable def z_cp (pc : Nat) (ivs : zJ) (lo : List (Nat × zV)) (sk : List zV) (hp : List zC) (nc ns : Nat) : zQ := match sk with
  | (0, xn, cn) :: (0, xd, cd) :: (2, j, _) :: (0, xo, co) :: (2, i, _) :: sk => match hp[i]?, hp[j]? with
    | some (.inr (.inl (t0, n0, .inl (l0, h0)))), some (.inr (.inl (t1, n1, .inl (l1, h1)))) => match (Nat.beq t0 t1 && (Nat.beq t0 0 || Nat.beq t0 3)) && ((z_imp ivs 0 0 xn cn 0 && (z_imp ivs 0 0 xd cd 0 && z_imp ivs 0 0 xo co 0)) && (z_o5 ivs xo xn (Int.ofNat n0 - co - cn) && z_o5 ivs xd xn (Int.ofNat n1 - cd - cn))) with
      | true => some [(pc, (ivs, lo, sk, hp.set j (.inr (.inl (t1, n1, .inl (z_min l1 l0, z_max h1 h0)))), nc, ns))]
      | false => none
    | _, _ => none
  | _ => none
theorem z_cpy_kz {ρ : List Int} {l0 h0 l1 h1 : Int} {n0 n1 ko kd kn : Nat} {f g : Nat → Int} (hf : ∀ j, j < n0 → z_kz ρ (.inl (l0, h0)) j (f j)) (hg : ∀ j, j < n1 → z_kz ρ (.inl (l1, h1)) j (g j)) (e1 : ko + kn ≤ n0) : ∀ j, j < n1 → z_kz ρ (.inl (z_min l1 l0, z_max h1 h0)) j (va_cpy f g ko kd kn j) := fun j hj => by
  by_cases hq : kd ≤ j ∧ j < kd + kn
  · rw [pk_cpy_in hq.1 hq.2]
    exact z_hull (Or.inr (hf (ko + (j - kd)) (by omega)))
  · rw [pk_cpy_out (by omega)]
    exact z_hull (Or.inl (hg j hj))
theorem z_cpy_map {α β : Type} (F : α → β) (f g : Nat → α) (a b n j : Nat) : F (va_cpy f g a b n j) = va_cpy (fun i => F (f i)) (fun i => F (g i)) a b n j := by
  unfold va_cpy
  split
  · rfl
  · rfl
theorem zs_cp {n : Nat} (rowI : ∀ (ws : va_W) (H : Heap) (locs : List Loc) (ls : Array Slot) (rest : List Value) (a0 a q0 q1 : Nat) (n0 n1 : Nat) (cA : ClassId) (ty : FieldType) (f g : Nat → Int32) (kn kd ko : Int32) (lv : List (Nat × Value)), va_P D cl ws H → va_D A ws → va_S A H0 H locs → lv_has ls nL lv → ws[q0]? = some (a0, .inl (cA, n0, .inl f)) → ws[q1]? = some (a, .inl (cA, n1, .inl g)) → tys[0]? = some (cA, ty) → 0 ≤ kn.toInt → 0 ≤ kd.toInt → 0 ≤ ko.toInt → ko.toNatClampNeg + kn.toNatClampNeg ≤ n0 → kd.toNatClampNeg + kn.toNatClampNeg ≤ n1 → rest.length + 5 = sk.length →
      (∀ (H1 : Heap) (locs1 : List Loc), va_P D cl (ws.set q1 (a, .inl (cA, n1, .inl (va_cpy f g ko.toNatClampNeg kd.toNatClampNeg kn.toNatClampNeg)))) H1 → va_D A (ws.set q1 (a, .inl (cA, n1, .inl (va_cpy f g ko.toNatClampNeg kd.toNatClampNeg kn.toNatClampNeg)))) → va_S A H0 H1 locs1 → W p l e R s m args below meth c H1 locs1 nc ns Q (F0 m n ls rest)) → W p l e R s m args below meth c H locs nc ns Q (F0 m pc ls (.int kn :: .int kd :: .ref a :: .int ko :: .ref a0 :: rest)))
    (rowL : ∀ (ws : va_W) (H : Heap) (locs : List Loc) (ls : Array Slot) (rest : List Value) (a0 a q0 q1 : Nat) (n0 n1 : Nat) (cA : ClassId) (ty : FieldType) (f g : Nat → Int64) (kn kd ko : Int32) (lv : List (Nat × Value)), va_P D cl ws H → va_D A ws → va_S A H0 H locs → lv_has ls nL lv → ws[q0]? = some (a0, .inl (cA, n0, .inr (.inl f))) → ws[q1]? = some (a, .inl (cA, n1, .inr (.inl g))) → tys[3]? = some (cA, ty) → 0 ≤ kn.toInt → 0 ≤ kd.toInt → 0 ≤ ko.toInt → ko.toNatClampNeg + kn.toNatClampNeg ≤ n0 → kd.toNatClampNeg + kn.toNatClampNeg ≤ n1 → rest.length + 5 = sk.length →
      (∀ (H1 : Heap) (locs1 : List Loc), va_P D cl (ws.set q1 (a, .inl (cA, n1, .inr (.inl (va_cpy f g ko.toNatClampNeg kd.toNatClampNeg kn.toNatClampNeg))))) H1 → va_D A (ws.set q1 (a, .inl (cA, n1, .inr (.inl (va_cpy f g ko.toNatClampNeg kd.toNatClampNeg kn.toNatClampNeg))))) → va_S A H0 H1 locs1 → W p l e R s m args below meth c H1 locs1 nc ns Q (F0 m n ls rest)) → W p l e R s m args below meth c H locs nc ns Q (F0 m pc ls (.int kn :: .int kd :: .ref a :: .int ko :: .ref a0 :: rest)))
    (h : z_cp n ivs lo sk hp nc ns = some q) (kk : ∀ z ∈ q, z_K p l e R s m args below meth c Q D cl tys A H0 nL ρ0 ad0 z.1 z.2) : z_K p l e R s m args below meth c Q D cl tys A H0 nL ρ0 ad0 pc (ivs, lo, sk, hp, nc, ns) := by
  unfold z_cp at h
  split at h
  · rename_i xn cn xd cd j oj xo co i oi sk
    split at h
    · rename_i t0 n0 l0 h0 t1 n1 l1 h1 eI eJ
      split at h
      · rename_i et
        have e0 : t0 = t1 := z_beq (z_and (z_and et).1).1
        have e1 := (z_and (z_and et).1).2
        have e2 := (z_and (z_and et).2).1
        have e3 := (z_and (z_and et).2).2
        subst e0
        cases h
        intro ρ ws lv st H locs ls hg
        obtain ⟨v5, v4, v3, st, rfl, hv5, hv4, hv3, hs⟩ := hg.xsk.c3
        obtain ⟨v2, v1, st2, rfl, hv2, hv1, hs2⟩ := hs.c2
        obtain ⟨In, rfl, hn⟩ := hv5
        obtain ⟨Id, rfl, hd⟩ := hv4
        obtain ⟨Io, rfl, ho⟩ := hv2
        obtain ⟨a0, ee0, g1, rfl, g2⟩ := z_cell hg.xhp hv1 eI
        obtain ⟨a1, ee1, g3, rfl, g4⟩ := z_cell hg.xhp hv3 eJ
        have p1 := z_imp_ok hg.xiv (z_v.of0 hg.zero 0) hn (z_and e2).1
        have p2 := z_imp_ok hg.xiv (z_v.of0 hg.zero 0) hd (z_and (z_and e2).2).1
        have p3 := z_imp_ok hg.xiv (z_v.of0 hg.zero 0) ho (z_and (z_and e2).2).2
        obtain ⟨wn, q1, q2⟩ := hn
        obtain ⟨wd, q3, q4⟩ := hd
        obtain ⟨wo, q5, q6⟩ := ho
        have p4 := z_o5_ok hg.xiv q5 q1 (z_and e3).1
        have p5 := z_o5_ok hg.xiv q3 q1 (z_and e3).2
        have en : (In.toNatClampNeg : Int) = In.toInt := by show ((In.toInt.toNat : Nat) : Int) = _; omega
        have ed : (Id.toNatClampNeg : Int) = Id.toInt := by show ((Id.toInt.toNat : Nat) : Int) = _; omega
        have eo : (Io.toNatClampNeg : Int) = Io.toInt := by show ((Io.toInt.toNat : Nat) : Int) = _; omega
        have n0e : Int.ofNat n0 = (n0 : Int) := rfl
        have n1e : Int.ofNat n1 = (n1 : Int) := rfl
        have s1 : Io.toNatClampNeg + In.toNatClampNeg ≤ n0 := by omega
        have s2 : Id.toNatClampNeg + In.toNatClampNeg ≤ n1 := by omega
        have hlen : st2.length + 5 = ((0, xn, cn) :: (0, xd, cd) :: (2, j, oj) :: (0, xo, co) :: (2, i, oi) :: sk).length := by
          have := hs2.len
          simp only [List.length_cons]
          omega
        rcases Bool.or_eq_true_iff.mp e1 with e1 | e1
        · have e1 : t0 = 0 := z_beq e1
          subst e1
          obtain ⟨cA, ty, ht, ⟨-, f, rfl, hb⟩ | ⟨h3, -⟩⟩ := g2
          · obtain ⟨cB, ty2, ht2, ⟨-, g, rfl, hb2⟩ | ⟨h3, -⟩⟩ := g4
            · rw [ht] at ht2
              cases ht2
              refine rowI ws H locs ls st2 a0 a1 i j n0 n1 cA ty f g In Id Io lv hg.xP hg.xD hg.xS hg.xL g1 g3 ht (by omega) (by omega) (by omega) s1 s2 hlen (fun H1 locs1 hP hD hS => ?_)
              have hc : z_c tys ρ (z_ad ws) (.inr (.inl (0, n1, .inl (z_min l1 l0, z_max h1 h0)))) (.inl (cA, n1, .inl (va_cpy f g Io.toNatClampNeg Id.toNatClampNeg In.toNatClampNeg))) := by
                refine ⟨cA, ty, ht, Or.inl ⟨by omega, _, rfl, fun jj hj => ?_⟩⟩
                rw [z_cpy_map (fun v : Int32 => v.toInt)]
                exact z_cpy_kz hb hb2 s1 jj hj
              exact kk _ (List.mem_singleton.mpr rfl) ρ _ lv st2 H1 locs1 ls ((hg.stk hs2).set g3 hc hP hD hS)
            · omega
          · omega
        · have e1 : t0 = 3 := z_beq e1
          subst e1
          obtain ⟨cA, ty, ht, ⟨h3, -⟩ | ⟨-, f, rfl, hb⟩⟩ := g2
          · omega
          · obtain ⟨cB, ty2, ht2, ⟨h3, -⟩ | ⟨-, g, rfl, hb2⟩⟩ := g4
            · omega
            · rw [ht] at ht2
              cases ht2
              refine rowL ws H locs ls st2 a0 a1 i j n0 n1 cA ty f g In Id Io lv hg.xP hg.xD hg.xS hg.xL g1 g3 ht (by omega) (by omega) (by omega) s1 s2 hlen (fun H1 locs1 hP hD hS => ?_)
              have hc : z_c tys ρ (z_ad ws) (.inr (.inl (3, n1, .inl (z_min l1 l0, z_max h1 h0)))) (.inl (cA, n1, .inr (.inl (va_cpy f g Io.toNatClampNeg Id.toNatClampNeg In.toNatClampNeg)))) := by
                refine ⟨cA, ty, ht, Or.inr ⟨rfl, _, rfl, fun jj hj => ?_⟩⟩
                rw [z_cpy_map (fun v : Int64 => v.toInt)]
                exact z_cpy_kz hb hb2 s1 jj hj
              exact kk _ (List.mem_singleton.mpr rfl) ρ _ lv st2 H1 locs1 ls ((hg.stk hs2).set g3 hc hP hD hS)
      · cases h
    · cases h
  · cases h
end ZC
