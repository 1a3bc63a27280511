/-! ===== a run in pieces ===== -/
noncomputable def z_wl (SP : zSP) (ZD : List zN) (call : zL) (RC RS nL : Nat) (sc : Option Nat) (DF : List (List Nat)) (TC : List Nat) (T : List (List zE)) : Nat → List (Nat × zS) → Option (List (Nat × zS))
  | 0, w => some w
  | _ + 1, [] => some []
  | n + 1, (pc, S) :: w => match z_at T pc with
    | some x => match z_step SP ZD call RC RS nL sc DF TC (z_at T (pc + 1)) pc x.2.1 x.2.2.2.1 x.2.2.2.2.1 x.2.2.2.2.2.2 S.1 S.2.1 S.2.2.1 S.2.2.2.1 S.2.2.2.2.1 S.2.2.2.2.2 with
      | some q => z_wl SP ZD call RC RS nL sc DF TC T n (q ++ w)
      | none => none
    | none => none
theorem z_wl_ok {SP : zSP} {ZD : List zN} {call : zL} {RC RS nL : Nat} {sc : Option Nat} {DF : List (List Nat)} {TC : List Nat} {T : List (List zE)} {K : Nat → zS → Prop}
    (hs : ∀ (pc : Nat) (S : zS) (x : zE) (q : List (Nat × zS)), z_at T pc = some x → z_step SP ZD call RC RS nL sc DF TC (z_at T (pc + 1)) pc x.2.1 x.2.2.2.1 x.2.2.2.2.1 x.2.2.2.2.2.2 S.1 S.2.1 S.2.2.1 S.2.2.2.1 S.2.2.2.2.1 S.2.2.2.2.2 = some q → (∀ z ∈ q, K z.1 z.2) → K pc S) :
    ∀ (n : Nat) (w ex : List (Nat × zS)), z_wl SP ZD call RC RS nL sc DF TC T n w = some ex → (∀ z ∈ ex, K z.1 z.2) → ∀ z ∈ w, K z.1 z.2
  | 0, w, ex, h, hK => by
    unfold z_wl at h
    cases h
    exact hK
  | n + 1, [], ex, h, hK => fun z hz => by cases hz
  | n + 1, (pc, S) :: w, ex, h, hK => by
    unfold z_wl at h
    split at h
    · rename_i x ex0
      split at h
      · rename_i q eq
        have h2 := z_wl_ok hs n (q ++ w) ex h hK
        intro z hz
        rcases List.mem_cons.mp hz with rfl | hz
        · exact hs pc S x q ex0 eq (fun z hz => h2 z (List.mem_append_left _ hz))
        · exact h2 z (List.mem_append_right _ hz)
      · cases h
    · cases h
/-- a symbol's bounds, cut at places -/
noncomputable def z_parts (ivs : zJ) (x : Nat) (h : Int) : Int → List Int → List zJ
  | l, [] => [(ivs.1.set x (l, h), ivs.2)]
  | l, c :: cs => (ivs.1.set x (l, c), ivs.2) :: z_parts ivs x h (c + 1) cs
theorem z_iv.set1 {ivs : zJ} {ρ : List Int} {x : Nat} {w l h : Int} (hv : z_iv ivs ρ) (hw : ρ[x]? = some w) (h1 : l ≤ w) (h2 : w ≤ h) : z_iv (ivs.1.set x (l, h), ivs.2) ρ := by
  have k := z_F.set (R := z_in) (a := (l, h)) (b := w) (Or.inr ⟨h1, h2⟩) hv.1 x
  rw [z_set_same hw] at k
  exact ⟨k, hv.2⟩
theorem z_parts_ok {ivs : zJ} {ρ : List Int} {x : Nat} {w h : Int} (hv : z_iv ivs ρ) (hw : ρ[x]? = some w) (h2 : w ≤ h) : ∀ (cs : List Int) (l : Int), l ≤ w → ∃ i ∈ z_parts ivs x h l cs, z_iv i ρ
  | [], l, h1 => ⟨_, List.mem_singleton.mpr rfl, hv.set1 hw h1 h2⟩
  | c :: cs, l, h1 => by
    by_cases hc : w ≤ c
    · exact ⟨_, List.mem_cons_self, hv.set1 hw h1 hc⟩
    · obtain ⟨i, g1, g2⟩ := z_parts_ok hv hw h2 cs (c + 1) (by omega)
      exact ⟨i, List.mem_cons_of_mem _ g1, g2⟩
noncomputable def z_pt (x : Nat) (l h : Int) (cs : List Int) (z : Nat × zS) : List (Nat × zS) := (z_parts z.2.1 x h l cs).map (fun v => (z.1, (v, z.2.2)))
section ZY
variable {p : Program} {l : Launch} {e : Env} {R : Room} {s : State} {m : MethodId} {args : Array Value} {below : List Frame} {meth : Method} {c : Code} {Q : State → Prop} {D : va_G} {cl : List vw_C} {tys : List (ClassId × FieldType)} {A : Nat → Prop} {H0 : Heap} {nL : Nat} {ρ0 : List Int} {ad0 : List Nat}
theorem z_pt_ok {x : Nat} {a b : Int} {cs : List Int} {z : Nat × zS} (hx : ∃ w, ρ0[x]? = some w ∧ a ≤ w ∧ w ≤ b) (h : ∀ y ∈ z_pt x a b cs z, z_K p l e R s m args below meth c Q D cl tys A H0 nL ρ0 ad0 y.1 y.2) : z_K p l e R s m args below meth c Q D cl tys A H0 nL ρ0 ad0 z.1 z.2 := by
  obtain ⟨pc, ivs, lo, sk, hp, nc, ns⟩ := z
  obtain ⟨w, h1, h2, h3⟩ := hx
  intro ρ ws lv st H locs ls hg
  obtain ⟨i, g1, g2⟩ := z_parts_ok hg.xiv (z_pre hg.1.1 h1) h3 cs a h2
  exact h (pc, (i, lo, sk, hp, nc, ns)) (List.mem_map.mpr ⟨i, g1, rfl⟩) ρ ws lv st H locs ls (hg.more (List.prefix_refl _) g2)
end ZY
/-! states that are the same -/
noncomputable def z_eqL {α : Type} (f : α → α → Bool) : List α → List α → Bool
  | [], [] => true
  | a :: l, b :: k => f a b && z_eqL f l k
  | _, _ => false
theorem z_eqL_ok {α : Type} {f : α → α → Bool} (hf : ∀ a b, f a b = true → a = b) : ∀ {l k : List α}, z_eqL f l k = true → l = k
  | [], [], _ => rfl
  | a :: l, b :: k, h => by
    have h1 := z_and h
    rw [hf a b h1.1, z_eqL_ok hf h1.2]
  | [], _ :: _, h => by cases h
  | _ :: _, [], h => by cases h
noncomputable def z_eqV (a b : zV) : Bool := Nat.beq a.1 b.1 && (Nat.beq a.2.1 b.2.1 && z_ieq a.2.2 b.2.2)
theorem z_eqV_ok (a b : zV) (h : z_eqV a b = true) : a = b := by
  obtain ⟨a1, a2, a3⟩ := a
  obtain ⟨b1, b2, b3⟩ := b
  have h1 : a1 = b1 := z_beq (z_and h).1
  have h2 : a2 = b2 := z_beq (z_and (z_and h).2).1
  have h3 : a3 = b3 := z_ieq_ok (z_and (z_and h).2).2
  rw [h1, h2, h3]
