/-! ===== a checker of methods: abstract values, and what they mean ===== -/
/-- an abstract value: 0 an int, 1 a long (a symbol and what is added), 2 a cell by its place, 3 null, 4 a cell whose address is a symbol (the script) -/
abbrev zV : Type := Nat × Nat × Int
abbrev zI : Type := Int × Int
/-- a relation of symbols: 0: a <= b + k; 1: a = b + c + k; 2: a = b - c + k; 3: a mod m = r; 4: where l is above 0, w < m; 5: a + b <= k; 6: k <= a + b -/
abbrev zR : Type := Nat × Nat × Nat × Nat × Int
/-- what is known of the symbols: bounds, relations -/
abbrev zJ : Type := List zI × List zR
/-- a band of an array: from a place on, up to a symbol and what is added, every so many places: bounds -/
abbrev zBd : Type := Nat × Nat × Int × Nat × Int × Int
/-- what is known of an array's numbers: bounds; place by place; bounds and bands -/
abbrev zK : Type := (Int × Int) ⊕ (List zV ⊕ (Int × Int × List zBd))
/-- a cell: an object (class, fields), an array of numbers (type, length, what is known), an array of cells place by place -/
abbrev zC : Type := (Nat × List zV) ⊕ ((Nat × Nat × zK) ⊕ (Nat × List zV))
/-- symbols' bounds, locals, stack, heap, cells and slots made -/
abbrev zS : Type := zJ × List (Nat × zV) × List zV × List zC × Nat × Nat
def z_ile : Int → Int → Bool
  | .ofNat a, .ofNat b => Nat.ble a b
  | .negSucc _, .ofNat _ => true
  | .ofNat _, .negSucc _ => false
  | .negSucc a, .negSucc b => Nat.ble b a
theorem z_ile_ok {a b : Int} (h : z_ile a b = true) : a ≤ b := by
  cases a with
  | ofNat a =>
    cases b with
    | ofNat b =>
      have h1 := Nat.le_of_ble_eq_true h
      show (a : Int) ≤ (b : Int)
      omega
    | negSucc b => cases h
  | negSucc a =>
    cases b with
    | ofNat b =>
      show Int.negSucc a ≤ (b : Int)
      omega
    | negSucc b =>
      have h1 := Nat.le_of_ble_eq_true h
      omega
theorem z_ile_no {a b : Int} (h : z_ile a b = false) : b < a := by
  cases a with
  | ofNat a =>
    cases b with
    | ofNat b =>
      have h1 : ¬ a ≤ b := fun q => by
        have h2 := Nat.ble_eq_true_of_le q
        rw [show Nat.ble a b = z_ile (.ofNat a) (.ofNat b) from rfl, h] at h2
        cases h2
      show (b : Int) < (a : Int)
      omega
    | negSucc b =>
      show Int.negSucc b < (a : Int)
      omega
  | negSucc a =>
    cases b with
    | ofNat b => cases h
    | negSucc b =>
      have h1 : ¬ b ≤ a := fun q => by
        have h2 := Nat.ble_eq_true_of_le q
        rw [show Nat.ble b a = z_ile (.negSucc a) (.negSucc b) from rfl, h] at h2
        cases h2
      omega
def z_ieq (a b : Int) : Bool := z_ile a b && z_ile b a
theorem z_and {a b : Bool} (h : (a && b) = true) : a = true ∧ b = true := by
  cases a <;> cases b <;> first | exact ⟨rfl, rfl⟩ | cases h
theorem z_ieq_ok {a b : Int} (h : z_ieq a b = true) : a = b := by
  have h1 := z_and h
  have h2 := z_ile_ok h1.1
  have h3 := z_ile_ok h1.2
  omega
theorem z_beq {a b : Nat} (h : Nat.beq a b = true) : a = b := Nat.eq_of_beq_eq_true h
/-- a list's place, length, end: by the lists' own recursion -/
noncomputable def z_tlx {α : Type} (l : List α) : List α := List.rec (motive := fun _ => List α) [] (fun _ t _ => t) l
noncomputable def z_hdx {α : Type} (l : List α) : Option α := List.rec (motive := fun _ => Option α) none (fun a _ _ => some a) l
noncomputable def z_dpx {α : Type} (l : List α) (i : Nat) : List α := Nat.rec (motive := fun _ => List α) l (fun _ h => z_tlx h) i
noncomputable def z_nx {α : Type} (l : List α) (i : Nat) : Option α := z_hdx (z_dpx l i)
theorem z_tlx_eq {α : Type} : ∀ l : List α, z_tlx l = l.drop 1
  | [] => rfl
  | _ :: _ => rfl
theorem z_hdx_eq {α : Type} : ∀ l : List α, z_hdx l = l.head?
  | [] => rfl
  | _ :: _ => rfl
theorem z_dpx_eq {α : Type} (l : List α) : ∀ i : Nat, z_dpx l i = l.drop i
  | 0 => rfl
  | i + 1 => by
    have h : z_dpx l (i + 1) = z_tlx (z_dpx l i) := rfl
    rw [h, z_dpx_eq l i, z_tlx_eq, List.drop_drop]
theorem z_nx_eq {α : Type} (l : List α) (i : Nat) : z_nx l i = l[i]? := by
  unfold z_nx
  rw [z_dpx_eq, z_hdx_eq, List.head?_drop]
noncomputable def z_stx {α : Type} (l : List α) (x : α) : Nat → List α := List.rec (motive := fun _ => Nat → List α) (fun _ => []) (fun a t ih i => Nat.rec (motive := fun _ => List α) (x :: t) (fun k _ => a :: ih k) i) l
theorem z_stx_eq {α : Type} (x : α) : ∀ (l : List α) (i : Nat), z_stx l x i = l.set i x
  | [], _ => rfl
  | _ :: _, 0 => rfl
  | a :: l, i + 1 => congrArg (List.cons a) (z_stx_eq x l i)
noncomputable def z_lnn {α : Type} (l : List α) : Nat := List.rec (motive := fun _ => Nat) 0 (fun _ _ n => Nat.succ n) l
theorem z_lnn_eq {α : Type} : ∀ l : List α, z_lnn l = l.length
  | [] => rfl
  | _ :: l => congrArg Nat.succ (z_lnn_eq l)
noncomputable def z_snc {α : Type} (l : List α) (x : α) : List α := List.rec (motive := fun _ => List α) [x] (fun a _ k => a :: k) l
theorem z_snc_eq {α : Type} (x : α) : ∀ l : List α, z_snc l x = l ++ [x]
  | [] => rfl
  | a :: l => congrArg (List.cons a) (z_snc_eq x l)
def z_max (a b : Int) : Int := if z_ile a b = true then b else a
def z_min (a b : Int) : Int := if z_ile a b = true then a else b
theorem z_max_ge {a b z : Int} (h1 : a ≤ z) (h2 : b ≤ z) : z_max a b ≤ z := by
  unfold z_max; split <;> assumption
theorem z_min_le {a b z : Int} (h1 : z ≤ a) (h2 : z ≤ b) : z ≤ z_min a b := by
  unfold z_min; split <;> assumption
theorem z_max_l (a b : Int) : a ≤ z_max a b := by
  unfold z_max; split
  · rename_i h; exact z_ile_ok h
  · exact Int.le_refl a
theorem z_max_r (a b : Int) : b ≤ z_max a b := by
  unfold z_max; split
  · exact Int.le_refl b
  · rename_i h
    have := z_ile_no (Bool.eq_false_iff.mpr h)
    omega
theorem z_min_l (a b : Int) : z_min a b ≤ a := by
  unfold z_min; split
  · exact Int.le_refl a
  · rename_i h
    have := z_ile_no (Bool.eq_false_iff.mpr h)
    omega
theorem z_min_r (a b : Int) : z_min a b ≤ b := by
  unfold z_min; split
  · rename_i h; exact z_ile_ok h
  · exact Int.le_refl b
/-! lists side by side -/
def z_F {α β : Type} (R : α → β → Prop) : List α → List β → Prop
  | [], [] => True
  | a :: l, b :: k => R a b ∧ z_F R l k
  | [], _ :: _ => False
  | _ :: _, [] => False
theorem z_F.len {α β : Type} {R : α → β → Prop} : ∀ {l : List α} {k : List β}, z_F R l k → l.length = k.length
  | [], [], _ => rfl
  | _ :: _, _ :: _, h => congrArg (· + 1) (z_F.len h.2)
  | [], _ :: _, h => h.elim
  | _ :: _, [], h => h.elim
theorem z_F.get {α β : Type} {R : α → β → Prop} : ∀ {l : List α} {k : List β}, z_F R l k → ∀ {i : Nat} {a : α}, l[i]? = some a → ∃ b, k[i]? = some b ∧ R a b
  | [], [], _, i, a, h => by simp at h
  | x :: l, y :: k, h, 0, a, e => by
    rw [List.getElem?_cons_zero] at e
    cases e
    exact ⟨y, by rw [List.getElem?_cons_zero], h.1⟩
  | x :: l, y :: k, h, i + 1, a, e => by
    rw [List.getElem?_cons_succ] at e
    obtain ⟨b, h1, h2⟩ := z_F.get h.2 e
    exact ⟨b, by rw [List.getElem?_cons_succ]; exact h1, h2⟩
  | [], _ :: _, h, _, _, _ => h.elim
  | _ :: _, [], h, _, _, _ => h.elim
theorem z_F.get' {α β : Type} {R : α → β → Prop} : ∀ {l : List α} {k : List β}, z_F R l k → ∀ {i : Nat} {b : β}, k[i]? = some b → ∃ a, l[i]? = some a ∧ R a b
  | [], [], _, i, a, h => by simp at h
  | x :: l, y :: k, h, 0, a, e => by
    rw [List.getElem?_cons_zero] at e
    cases e
    exact ⟨x, by rw [List.getElem?_cons_zero], h.1⟩
  | x :: l, y :: k, h, i + 1, a, e => by
    rw [List.getElem?_cons_succ] at e
    obtain ⟨b, h1, h2⟩ := z_F.get' h.2 e
    exact ⟨b, by rw [List.getElem?_cons_succ]; exact h1, h2⟩
  | [], _ :: _, h, _, _, _ => h.elim
  | _ :: _, [], h, _, _, _ => h.elim
theorem z_F.set {α β : Type} {R : α → β → Prop} {a : α} {b : β} (hab : R a b) : ∀ {l : List α} {k : List β}, z_F R l k → ∀ i : Nat, z_F R (l.set i a) (k.set i b)
  | [], [], _, i => trivial
  | x :: l, y :: k, h, 0 => ⟨hab, h.2⟩
  | x :: l, y :: k, h, i + 1 => ⟨h.1, z_F.set hab h.2 i⟩
  | [], _ :: _, h, _ => h.elim
  | _ :: _, [], h, _ => h.elim
theorem z_F.app {α β : Type} {R : α → β → Prop} {l2 : List α} {k2 : List β} (h2 : z_F R l2 k2) : ∀ {l : List α} {k : List β}, z_F R l k → z_F R (l ++ l2) (k ++ k2)
  | [], [], _ => h2
  | x :: l, y :: k, h => ⟨h.1, z_F.app h2 h.2⟩
  | [], _ :: _, h => h.elim
  | _ :: _, [], h => h.elim
theorem z_F.mono {α β : Type} {R R' : α → β → Prop} (hR : ∀ a b, R a b → R' a b) : ∀ {l : List α} {k : List β}, z_F R l k → z_F R' l k
  | [], [], _ => trivial
  | x :: l, y :: k, h => ⟨hR _ _ h.1, z_F.mono hR h.2⟩
  | [], _ :: _, h => h.elim
  | _ :: _, [], h => h.elim
theorem z_F.filter {α β : Type} {R : α → β → Prop} {f : α → Bool} {g : β → Bool} (hfg : ∀ a b, R a b → f a = g b) : ∀ {l : List α} {k : List β}, z_F R l k → z_F R (l.filter f) (k.filter g)
  | [], [], _ => trivial
  | x :: l, y :: k, h => by
    have e := hfg x y h.1
    rw [List.filter_cons, List.filter_cons, ← e]
    cases f x
    · exact z_F.filter hfg h.2
    · exact ⟨h.1, z_F.filter hfg h.2⟩
  | [], _ :: _, h => h.elim
  | _ :: _, [], h => h.elim
theorem z_F.split {α β : Type} {R : α → β → Prop} : ∀ {l l2 : List α} {k : List β}, z_F R (l ++ l2) k → ∃ k1 k2, k = k1 ++ k2 ∧ z_F R l k1 ∧ z_F R l2 k2
  | [], l2, k, h => ⟨[], k, rfl, trivial, h⟩
  | x :: l, l2, [], h => h.elim
  | x :: l, l2, y :: k, h => by
    obtain ⟨k1, k2, e, h1, h2⟩ := z_F.split (l := l) (l2 := l2) h.2
    exact ⟨y :: k1, k2, by rw [e]; rfl, ⟨h.1, h1⟩, h2⟩
theorem z_F.rev {α β : Type} {R : α → β → Prop} : ∀ {l : List α} {k : List β}, z_F R l k → z_F R l.reverse k.reverse
  | [], [], _ => trivial
  | x :: l, y :: k, h => by
    rw [List.reverse_cons, List.reverse_cons]
    exact z_F.app (l2 := [x]) (k2 := [y]) ⟨h.1, trivial⟩ (z_F.rev h.2)
  | [], _ :: _, h => h.elim
  | _ :: _, [], h => h.elim
theorem z_pre {α : Type} {l l' : List α} (h : l <+: l') {i : Nat} {a : α} (e : l[i]? = some a) : l'[i]? = some a := by
  obtain ⟨t, rfl⟩ := h
  have hl := (List.getElem?_eq_some_iff.mp e).1
  rw [List.getElem?_append_left hl]
  exact e
/-! what an abstract value means -/
def z_v (ρ : List Int) (x : Nat) (c z : Int) : Prop := ∃ w : Int, ρ[x]? = some w ∧ z = w + c
def z_m (ρ : List Int) (ad : List Nat) : zV → Value → Prop
  | (0, x, c), v => ∃ i : Int32, v = .int i ∧ z_v ρ x c i.toInt
  | (1, x, c), v => ∃ i : Int64, v = .long i ∧ z_v ρ x c i.toInt
  | (2, k, _), v => ∃ q : Nat, ad[k]? = some q ∧ v = .ref q
  | (3, _, _), v => v = .null
  | (_, x, _), v => ∃ q : Nat, ρ[x]? = some (q : Int) ∧ v = .ref q
theorem z_v.mono {ρ ρ' : List Int} (h : ρ <+: ρ') {x : Nat} {c z : Int} (hv : z_v ρ x c z) : z_v ρ' x c z := by
  obtain ⟨w, h1, h2⟩ := hv
  exact ⟨w, z_pre h h1, h2⟩
theorem z_v.const {ρ : List Int} (h0 : ρ[0]? = some 0) {c z : Int} (h : z_v ρ 0 c z) : z = c := by
  obtain ⟨w, h1, h2⟩ := h
  rw [h0] at h1
  cases h1
  omega
theorem z_v.of0 {ρ : List Int} (h0 : ρ[0]? = some 0) (c : Int) : z_v ρ 0 c c := ⟨0, h0, by omega⟩
theorem z_m.mono {ρ ρ' : List Int} {ad ad' : List Nat} (h : ρ <+: ρ') (h2 : ad <+: ad') : ∀ {a : zV} {v : Value}, z_m ρ ad a v → z_m ρ' ad' a v
  | (0, x, c), v, hm => by
    obtain ⟨i, e, hv⟩ := hm
    exact ⟨i, e, hv.mono h⟩
  | (1, x, c), v, hm => by
    obtain ⟨i, e, hv⟩ := hm
    exact ⟨i, e, hv.mono h⟩
  | (2, k, _), v, hm => by
    obtain ⟨q, e, hv⟩ := hm
    exact ⟨q, z_pre h2 e, hv⟩
  | (3, _, _), v, hm => hm
  | (_ + 4, _, _), v, hm => by
    obtain ⟨q, e, hv⟩ := hm
    exact ⟨q, z_pre h e, hv⟩
theorem z_m.cat {ρ : List Int} {ad : List Nat} : ∀ {a : zV} {v : Value}, z_m ρ ad a v → (v.category == 2) = (a.1 == 1)
  | (0, x, c), v, hm => by
    obtain ⟨i, rfl, -⟩ := hm
    rfl
  | (1, x, c), v, hm => by
    obtain ⟨i, rfl, -⟩ := hm
    rfl
  | (2, k, _), v, hm => by
    obtain ⟨q, -, rfl⟩ := hm
    rfl
  | (3, _, _), v, hm => by
    have e : v = .null := hm
    subst e
    rfl
  | (n + 4, _, _), v, hm => by
    obtain ⟨q, -, rfl⟩ := hm
    rfl
/-- a symbol is in its bounds; bounds that are none (the upper below the lower) say nothing -/
def z_in (b : zI) (z : Int) : Prop := b.2 < b.1 ∨ (b.1 ≤ z ∧ z ≤ b.2)
/-- the j-th place of a row of numbers that one number holds -/
def z_dg : Nat → Int → Int
  | 0, G => G % 4294967296 - 2147483648
  | j + 1, G => z_dg j (G / 4294967296)
theorem z_dg_ex : ∀ (n : Nat) (f : Nat → Int), (∀ j, j < n → -2147483648 ≤ f j ∧ f j ≤ 2147483647) → ∃ G : Int, ∀ j, j < n → z_dg j G = f j
  | 0, f, _ => ⟨0, fun j h => absurd h (Nat.not_lt_zero j)⟩
  | n + 1, f, h => by
    obtain ⟨G, hG⟩ := z_dg_ex n (fun j => f (j + 1)) (fun j hj => h (j + 1) (by omega))
    refine ⟨G * 4294967296 + (f 0 + 2147483648), fun j hj => ?_⟩
    have h0 := h 0 (by omega)
    cases j with
    | zero =>
      show (G * 4294967296 + (f 0 + 2147483648)) % 4294967296 - 2147483648 = f 0
      omega
    | succ j =>
      have e : (G * 4294967296 + (f 0 + 2147483648)) / 4294967296 = G := by omega
      show z_dg j ((G * 4294967296 + (f 0 + 2147483648)) / 4294967296) = f (j + 1)
      rw [e]
      exact hG j (by omega)
def z_rh (ρ : List Int) : zR → Prop
  | (0, a, b, _, k) => ∃ u v, ρ[a]? = some u ∧ ρ[b]? = some v ∧ u ≤ v + k
  | (1, a, b, c, k) => ∃ u v w, ρ[a]? = some u ∧ ρ[b]? = some v ∧ ρ[c]? = some w ∧ u = v + w + k
  | (2, a, b, c, k) => ∃ u v w, ρ[a]? = some u ∧ ρ[b]? = some v ∧ ρ[c]? = some w ∧ u = v - w + k
  | (3, a, m, r, _) => ∃ u, ρ[a]? = some u ∧ u % Int.ofNat m = Int.ofNat r
  | (4, l, w, m, k) => ∃ u v t, ρ[l]? = some u ∧ ρ[w]? = some v ∧ ρ[m]? = some t ∧ (1 ≤ u + k → v ≤ t - 1)
  | (5, a, b, _, k) => ∃ u v, ρ[a]? = some u ∧ ρ[b]? = some v ∧ u + v ≤ k
  | (6, a, b, _, k) => ∃ u v, ρ[a]? = some u ∧ ρ[b]? = some v ∧ k ≤ u + v
  | (8, a, b, c, k) => ∃ u v w, ρ[a]? = some u ∧ ρ[b]? = some v ∧ ρ[c]? = some w ∧ u + v ≤ w + k
  | (9, a, b, c, k) => ∃ u v w, ρ[a]? = some u ∧ ρ[b]? = some v ∧ ρ[c]? = some w ∧ w + k ≤ u + v
  | (_, a, b, c, k) => ∃ u v w, ρ[a]? = some u ∧ ρ[b]? = some v ∧ ρ[c]? = some w ∧ u = z_dg (v + k).toNat w
theorem z_rh.mono {ρ ρ' : List Int} (h : ρ <+: ρ') : ∀ {r : zR}, z_rh ρ r → z_rh ρ' r
  | (0, a, b, _, k), hr => by
    obtain ⟨u, v, h1, h2, h3⟩ := hr
    exact ⟨u, v, z_pre h h1, z_pre h h2, h3⟩
  | (1, a, b, c, k), hr => by
    obtain ⟨u, v, w, h1, h2, h3, h4⟩ := hr
    exact ⟨u, v, w, z_pre h h1, z_pre h h2, z_pre h h3, h4⟩
  | (2, a, b, c, k), hr => by
    obtain ⟨u, v, w, h1, h2, h3, h4⟩ := hr
    exact ⟨u, v, w, z_pre h h1, z_pre h h2, z_pre h h3, h4⟩
  | (3, a, m, r, k), hr => by
    obtain ⟨u, h1, h2⟩ := hr
    exact ⟨u, z_pre h h1, h2⟩
  | (4, l, w, m, k), hr => by
    obtain ⟨u, v, t, h1, h2, h3, h4⟩ := hr
    exact ⟨u, v, t, z_pre h h1, z_pre h h2, z_pre h h3, h4⟩
  | (5, a, b, _, k), hr => by
    obtain ⟨u, v, h1, h2, h3⟩ := hr
    exact ⟨u, v, z_pre h h1, z_pre h h2, h3⟩
  | (6, a, b, _, k), hr => by
    obtain ⟨u, v, h1, h2, h3⟩ := hr
    exact ⟨u, v, z_pre h h1, z_pre h h2, h3⟩
  | (7, a, b, c, k), hr => by
    obtain ⟨u, v, w, h1, h2, h3, h4⟩ := hr
    exact ⟨u, v, w, z_pre h h1, z_pre h h2, z_pre h h3, h4⟩
  | (8, a, b, c, k), hr => by
    obtain ⟨u, v, w, h1, h2, h3, h4⟩ := hr
    exact ⟨u, v, w, z_pre h h1, z_pre h h2, z_pre h h3, h4⟩
  | (9, a, b, c, k), hr => by
    obtain ⟨u, v, w, h1, h2, h3, h4⟩ := hr
    exact ⟨u, v, w, z_pre h h1, z_pre h h2, z_pre h h3, h4⟩
  | (_ + 10, a, b, c, k), hr => by
    obtain ⟨u, v, w, h1, h2, h3, h4⟩ := hr
    exact ⟨u, v, w, z_pre h h1, z_pre h h2, z_pre h h3, h4⟩
def z_iv (J : zJ) (ρ : List Int) : Prop := z_F z_in J.1 ρ ∧ ∀ r ∈ J.2, z_rh ρ r
/-- a place is of a band -/
def z_ib (ρ : List Int) (b : zBd) (j : Nat) : Prop := b.1 ≤ j ∧ j % b.2.2.2.1 = b.1 % b.2.2.2.1 ∧ ∃ w, ρ[b.2.1]? = some w ∧ (j : Int) < w + b.2.2.1
/-- what an array has at a place -/
def z_kz (ρ : List Int) : zK → Nat → Int → Prop
  | .inl (l, h), _, z => l ≤ z ∧ z ≤ h
  | .inr (.inl es), j, z => ∃ a, es[j]? = some a ∧ z_v ρ a.2.1 a.2.2 z
  | .inr (.inr (l, h, bs)), j, z => (l ≤ z ∧ z ≤ h) ∧ ∀ b ∈ bs, (∃ w, ρ[b.2.1]? = some w) ∧ (z_ib ρ b j → b.2.2.2.2.1 ≤ z ∧ z ≤ b.2.2.2.2.2)
theorem z_ib.back {ρ ρ' : List Int} (h : ρ <+: ρ') {b : zBd} {j : Nat} (hw : ∃ w, ρ[b.2.1]? = some w) (hb : z_ib ρ' b j) : z_ib ρ b j := by
  obtain ⟨h1, h2, w, h3, h4⟩ := hb
  obtain ⟨w', hw⟩ := hw
  rw [z_pre h hw] at h3
  cases h3
  exact ⟨h1, h2, _, hw, h4⟩
theorem z_kz.mono {ρ ρ' : List Int} (h : ρ <+: ρ') : ∀ {K : zK} {j : Nat} {z : Int}, z_kz ρ K j z → z_kz ρ' K j z
  | .inl (l, u), _, _, hz => hz
  | .inr (.inl es), j, z, hz => by
    obtain ⟨a, h1, h2⟩ := hz
    exact ⟨a, h1, h2.mono h⟩
  | .inr (.inr (l, u, bs)), j, z, hz => by
    refine ⟨hz.1, fun b hb => ?_⟩
    obtain ⟨⟨w, hw⟩, h2⟩ := hz.2 b hb
    exact ⟨⟨w, z_pre h hw⟩, fun q => h2 (q.back h ⟨w, hw⟩)⟩
def z_c (tys : List (ClassId × FieldType)) (ρ : List Int) (ad : List Nat) : zC → va_E → Prop
  | .inl (ci, fs), e => ∃ vs, e = .inr (ci, vs) ∧ z_F (z_m ρ ad) fs vs
  | .inr (.inl (t, n, K)), e => ∃ (cA : ClassId) (ty : FieldType), tys[t]? = some (cA, ty) ∧
      ((t < 3 ∧ ∃ f : Nat → Int32, e = .inl (cA, n, .inl f) ∧ ∀ j, j < n → z_kz ρ K j (f j).toInt) ∨
       (t = 3 ∧ ∃ f : Nat → Int64, e = .inl (cA, n, .inr (.inl f)) ∧ ∀ j, j < n → z_kz ρ K j (f j).toInt))
  | .inr (.inr (t, es)), e => ∃ (cA : ClassId) (ty : FieldType), tys[t]? = some (cA, ty) ∧ 3 < t ∧
      ∃ f : Nat → Option Nat, e = .inl (cA, es.length, .inr (.inr (.inr (.inr f)))) ∧ ∀ (j : Nat) (a : zV), es[j]? = some a → z_m ρ ad a (va_rf (f j))
theorem z_c.mono {tys : List (ClassId × FieldType)} {ρ ρ' : List Int} {ad ad' : List Nat} (h : ρ <+: ρ') (h2 : ad <+: ad') : ∀ {a : zC} {e : va_E}, z_c tys ρ ad a e → z_c tys ρ' ad' a e
  | .inl (ci, fs), e, hc => by
    obtain ⟨vs, e1, hF⟩ := hc
    exact ⟨vs, e1, hF.mono (fun _ _ q => q.mono h h2)⟩
  | .inr (.inl (t, n, K)), e, hc => by
    obtain ⟨cA, ty, e1, ⟨e2, f, e3, e4⟩ | ⟨e2, f, e3, e4⟩⟩ := hc
    · exact ⟨cA, ty, e1, Or.inl ⟨e2, f, e3, fun j q => (e4 j q).mono h⟩⟩
    · exact ⟨cA, ty, e1, Or.inr ⟨e2, f, e3, fun j q => (e4 j q).mono h⟩⟩
  | .inr (.inr (t, es)), e, hc => by
    obtain ⟨cA, ty, e1, e2, f, e3, e4⟩ := hc
    exact ⟨cA, ty, e1, e2, f, e3, fun j a q => (e4 j a q).mono h h2⟩
/-- the addresses of a world -/
def z_ad (ws : va_W) : List Nat := ws.map (fun q => q.1)
def z_Lo (ρ : List Int) (ad : List Nat) (a : Nat × zV) (q : Nat × Value) : Prop := a.1 = q.1 ∧ z_m ρ ad a.2 q.2
def z_H (tys : List (ClassId × FieldType)) (ρ : List Int) (ad : List Nat) (a : zC) (q : Nat × va_E) : Prop := z_c tys ρ ad a q.2
/-- numbers that stay: the first symbol is 0 -/
def z_g (D : va_G) (cl : List vw_C) (tys : List (ClassId × FieldType)) (A : Nat → Prop) (H0 : Heap) (nL : Nat) (ρ0 : List Int) (ad0 : List Nat) (S : zS) (ρ : List Int) (ws : va_W) (lv : List (Nat × Value)) (st : List Value) (H : Heap) (locs : List Loc) (ls : Array Slot) : Prop :=
  (ρ0 <+: ρ ∧ ad0 <+: z_ad ws ∧ ρ[0]? = some 0) ∧ z_iv S.1 ρ ∧ z_F (z_Lo ρ (z_ad ws)) S.2.1 lv ∧ z_F (z_m ρ (z_ad ws)) S.2.2.1 st ∧ z_F (z_H tys ρ (z_ad ws)) S.2.2.2.1 ws ∧
  va_P D cl ws H ∧ va_D A ws ∧ va_S A H0 H locs ∧ lv_has ls nL lv
theorem z_iv.app {J : zJ} {ρ : List Int} {b : zI} {z : Int} (h : z_iv J ρ) (h1 : b.1 ≤ z) (h2 : z ≤ b.2) : z_iv (J.1 ++ [b], J.2) (ρ ++ [z]) := ⟨z_F.app (R := z_in) (l2 := [b]) (k2 := [z]) ⟨Or.inr ⟨h1, h2⟩, trivial⟩ h.1, fun r hr => (h.2 r hr).mono ⟨[z], rfl⟩⟩
theorem z_iv.rel {J : zJ} {ρ : List Int} {r : zR} (h : z_iv J ρ) (hr : z_rh ρ r) : z_iv (J.1, r :: J.2) ρ := ⟨h.1, fun q hq => by
  rcases List.mem_cons.mp hq with rfl | hq
  · exact hr
  · exact h.2 q hq⟩
theorem z_iv.last {J : zJ} {ρ : List Int} (h : z_iv J ρ) (z : Int) : z_v (ρ ++ [z]) J.1.length 0 z := by
  have e := z_F.len h.1
  refine ⟨z, ?_, by omega⟩
  rw [e, List.getElem?_append_right (Nat.le_refl _), Nat.sub_self]
  rfl
theorem z_app_pre {α : Type} (l : List α) (t : List α) : l <+: l ++ t := ⟨t, rfl⟩
/-- a state as it was, with more symbols -/
theorem z_g.more {D : va_G} {cl : List vw_C} {tys : List (ClassId × FieldType)} {A : Nat → Prop} {H0 : Heap} {nL : Nat} {ρ0 : List Int} {ad0 : List Nat} {ivs ivs' : zJ} {lo : List (Nat × zV)} {sk : List zV} {hp : List zC} {nc ns : Nat} {ρ ρ' : List Int} {ws : va_W} {lv : List (Nat × Value)} {st : List Value} {H : Heap} {locs : List Loc} {ls : Array Slot}
    (h : z_g D cl tys A H0 nL ρ0 ad0 (ivs, lo, sk, hp, nc, ns) ρ ws lv st H locs ls) (hp1 : ρ <+: ρ') (hiv : z_iv ivs' ρ') : z_g D cl tys A H0 nL ρ0 ad0 (ivs', lo, sk, hp, nc, ns) ρ' ws lv st H locs ls := by
  obtain ⟨⟨a1, a3, a4⟩, b1, b3, b4, b5, b6, b7, b8, b9⟩ := h
  exact ⟨⟨a1.trans hp1, a3, z_pre hp1 a4⟩, hiv, b3.mono (fun _ _ q => ⟨q.1, q.2.mono hp1 (List.prefix_refl _)⟩), b4.mono (fun _ _ q => q.mono hp1 (List.prefix_refl _)), b5.mono (fun _ _ q => z_c.mono hp1 (List.prefix_refl _) q), b6, b7, b8, b9⟩
