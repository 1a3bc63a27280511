/-! ===== a swift look at lists of symbols that follow one another ===== -/
def z_mbF (J : zJ) (l h : Int) : List zV → Bool
  | [] => false
  | v :: g => z_eL z_eV (v :: g) (z_sq v.1 v.2.1 (g.length + 1)) && (Nat.ble (v.2.1 + (g.length + 1)) J.1.length && ((J.1.drop v.2.1).take (g.length + 1)).all (fun q => z_ile q.1 q.2 && (z_ile l q.1 && z_ile q.2 h)))
theorem z_mbF_ok {J : zJ} {l h : Int} : ∀ {es : List zV}, z_mbF J l h es = true → z_mb J l h es = true
  | [], hh => by cases hh
  | v :: g, hh => by
    have hh : (z_eL z_eV (v :: g) (z_sq v.1 v.2.1 (g.length + 1)) && (Nat.ble (v.2.1 + (g.length + 1)) J.1.length && ((J.1.drop v.2.1).take (g.length + 1)).all (fun q => z_ile q.1 q.2 && (z_ile l q.1 && z_ile q.2 h)))) = true := hh
    have h1 := z_eL_ok z_eV_ok (z_and hh).1
    have h2 := Nat.le_of_ble_eq_true (z_and (z_and hh).2).1
    have h3 := (z_and (z_and hh).2).2
    rw [h1]
    unfold z_mb z_sq
    refine List.all_eq_true.mpr (fun a ha => ?_)
    obtain ⟨y, hy, rfl⟩ := List.mem_map.mp ha
    obtain ⟨a1, a2⟩ := List.mem_range'_1.mp hy
    have hlt : y < J.1.length := by omega
    have e : J.1[y]? = some J.1[y] := List.getElem?_eq_getElem hlt
    have hm : J.1[y] ∈ (J.1.drop v.2.1).take (g.length + 1) := by
      rw [List.mem_iff_getElem?]
      refine ⟨y - v.2.1, ?_⟩
      rw [List.getElem?_take_of_lt (by omega), List.getElem?_drop, show v.2.1 + (y - v.2.1) = y by omega, e]
    have h4 := List.all_eq_true.mp h3 _ hm
    dsimp only
    unfold z_b z_b0
    rw [e]
    generalize J.1[y] = q at h4
    obtain ⟨lo, hi⟩ := q
    dsimp only at h4 ⊢
    rw [(z_and h4).1]
    dsimp only
    rw [Int.add_zero, Int.add_zero]
    exact (z_and h4).2
def z_mkF (J : zJ) (n0 : Nat) (σ : zB) (K K' : zK) : Option zB := match K, K' with
  | .inl (l, h), .inr (.inl g) => match z_mbF J l h g with
    | true => some σ
    | false => none
  | .inr (.inr (l, h, bs)), .inr (.inl g) => match z_mbF J l h g && bs.all (z_bandL J n0 σ g) with
    | true => some σ
    | false => none
  | _, _ => none
theorem z_mkF_ok {J : zJ} {n0 n : Nat} {σ σ' : zB} {K K' : zK} (h : z_mkF J n0 σ K K' = some σ') : z_mk J n0 σ n K K' = some σ' := by
  unfold z_mkF at h
  split at h
  · split at h
    · rename_i e
      unfold z_mk
      dsimp only
      rw [z_mbF_ok e]
      exact h
    · cases h
  · split at h
    · rename_i e
      unfold z_mk
      dsimp only
      rw [z_mbF_ok (z_and e).1, (z_and e).2]
      exact h
    · cases h
  · cases h
def z_mcF (J : zJ) (n0 : Nat) (σ : zB) (a b : zC) : Option zB := match a, b with
  | .inr (.inl (t, n, K)), .inr (.inl (t', n', K')) => match Nat.beq t t' && Nat.beq n n' with
    | true => match z_mkF J n0 σ K K' with
      | some σ' => some σ'
      | none => z_mk J n0 σ n K K'
    | false => none
  | a, b => z_mc J n0 σ a b
theorem z_mcF_ok {J : zJ} {n0 : Nat} {σ σ' : zB} {a b : zC} (h : z_mcF J n0 σ a b = some σ') : z_mc J n0 σ a b = some σ' := by
  unfold z_mcF at h
  split at h
  · split at h
    · rename_i e
      unfold z_mc
      dsimp only
      rw [e]
      dsimp only
      split at h
      · rename_i s e2
        rw [z_mkF_ok e2]
        exact h
      · exact h
    · cases h
  · exact h
def z_mhF (J : zJ) (n0 : Nat) : zB → List zC → List zC → Option zB
  | σ, [], [] => some σ
  | σ, a :: as, b :: bs => match z_mcF J n0 σ a b with
    | some σ' => z_mhF J n0 σ' as bs
    | none => none
  | _, _, _ => none
theorem z_mhF_ok {J : zJ} {n0 : Nat} : ∀ {as bs : List zC} {σ σ' : zB}, z_mhF J n0 σ as bs = some σ' → z_mh J n0 σ as bs = some σ'
  | [], [], σ, σ', h => h
  | a :: as, b :: bs, σ, σ', h => by
    unfold z_mhF at h
    unfold z_mh
    split at h
    · rename_i s e
      rw [z_mcF_ok e]
      exact z_mhF_ok h
    · cases h
  | [], _ :: _, σ, σ', h => by cases h
  | _ :: _, [], σ, σ', h => by cases h
def z_mSF (n0 : Nat) (P S : zS) : Option zB := match z_mo S.1 n0 S.2.1 [] P.2.1 with
  | some σ1 => match z_ml S.1 n0 σ1 P.2.2.1 S.2.2.1 with
    | some σ2 => match z_mhF S.1 n0 σ2 P.2.2.2.1 S.2.2.2.1 with
      | some σ => match z_fx n0 P.1.1 S.1.1 && (z_bd S.1 (P.1.1.drop n0) σ && (P.1.2.all (z_rl S.1 n0 σ) && (Nat.ble S.2.2.2.2.1 P.2.2.2.2.1 && Nat.ble S.2.2.2.2.2 P.2.2.2.2.2))) with
        | true => some σ
        | false => none
      | none => none
    | none => none
  | none => none
theorem z_mSF_ok {n0 : Nat} {P S : zS} {σ : zB} (h : z_mSF n0 P S = some σ) : z_mS n0 P S = some σ := by
  unfold z_mSF at h
  unfold z_mS
  split at h
  · rename_i s1 e1
    rw [e1]
    dsimp only
    split at h
    · rename_i s2 e2
      rw [e2]
      dsimp only
      split at h
      · rename_i s3 e3
        rw [z_mhF_ok e3]
        exact h
      · cases h
    · cases h
  · cases h
def z_okF (rk mc ms n0 : Nat) (T : List (List zE)) (es : List zX) (z : Nat × zS) : Bool := match z_at T z.1 with
  | some x => match z_isr x.2.1 && (Nat.ble z.2.2.2.2.2.1 mc && Nat.ble z.2.2.2.2.2.2 ms) with
    | true => match z_end rk x.2.1 z.2 with
      | some E => es.any (fun F => (z_mSF n0 (z_pX F) (z_pX E)).isSome)
      | none => false
    | false => false
  | none => false
theorem z_okF_ok {rk mc ms n0 : Nat} {T : List (List zE)} {es : List zX} {z : Nat × zS} (h : z_okF rk mc ms n0 T es z = true) : z_okE rk mc ms n0 T es z = true := by
  unfold z_okF at h
  unfold z_okE
  split at h
  · rename_i x e
    rw [e]
    dsimp only
    split at h
    · rename_i e2
      rw [e2]
      dsimp only
      split at h
      · rename_i E e3
        rw [e3]
        dsimp only
        obtain ⟨F, h1, h2⟩ := List.any_eq_true.mp h
        obtain ⟨σ, h3⟩ := Option.isSome_iff_exists.mp h2
        refine List.any_eq_true.mpr ⟨F, h1, ?_⟩
        rw [z_mSF_ok h3]
        rfl
      · cases h
    · cases h
  · cases h
theorem z_RUN.wk {SP : zSP} {ZD : List zN} {call : zL} {RC RS nL : Nat} {sc : Option Nat} {DF : List (List Nat)} {TC : List Nat} {T : List (List zE)} {ok ok' : Nat × zS → Bool} {w : List (Nat × zS)} (h : ∀ z, ok z = true → ok' z = true) (hr : z_RUN SP ZD call RC RS nL sc DF TC T ok w) : z_RUN SP ZD call RC RS nL sc DF TC T ok' w := fun K hs hk => hr K hs (fun z hz => hk z (h z hz))
