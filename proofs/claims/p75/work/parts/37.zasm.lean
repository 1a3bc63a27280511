/-! ===== the contracts hold, one upon the other ===== -/
theorem zAL {bs : List Int} {l : Launch} {D : va_G} {tys : List (ClassId × FieldType)} : z_ALL zSPd bs l D tys zTb vwCl zTY zTC zDF zY zCC zRT zVK zINI zHN zD := ⟨zt_htb, zST, z_B2_ok (WS := zWs) (fun mi h => zb_all mi h), zt_SM⟩
noncomputable def zG (bs : List Int) (l : Launch) (D : va_G) (tys : List (ClassId × FieldType)) (q : Nat × zCn) (d : Nat) : Prop := ∀ nA rc rk mc ms nl T, zD[q.1]? = some (nA, rc, rk, mc, ms, nl, T) → z_MET zSPd bs l D vwCl tys zTb (zY q.1) (zCC q.1) nl (zRT q.1) d rk mc ms q.2.1.1 q.2.1.2.1 q.2.1.2.2 q.2.2
noncomputable def zH (bs : List Int) (tys : List (ClassId × FieldType)) : Prop := bs.length = 14 ∧ z_TYs vwCl zTC tys
theorem zG.deep {bs : List Int} {l : Launch} {D : va_G} {tys : List (ClassId × FieldType)} {q : Nat × zCn} {d d' : Nat} (h : zG bs l D tys q d) (hd : Nat.ble d d' = true) : zG bs l D tys q d' := fun nA rc rk mc ms nl T hz => (h nA rc rk mc ms nl T hz).deep (Nat.le_of_ble_eq_true hd)
theorem zC.nil {bs : List Int} {l : Launch} {D : va_G} {tys : List (ClassId × FieldType)} {d : Nat} : z_CONS zSPd bs l D vwCl tys zTb zY zCC zRT zD d [] := fun q hq => by cases hq
theorem zC.cons {bs : List Int} {l : Launch} {D : va_G} {tys : List (ClassId × FieldType)} {d d0 : Nat} {q : Nat × zCn} {cs : List (Nat × zCn)} (h : zG bs l D tys q d0) (hd : Nat.ble d0 d = true) (hc : z_CONS zSPd bs l D vwCl tys zTb zY zCC zRT zD d cs) : z_CONS zSPd bs l D vwCl tys zTb zY zCC zRT zD d (q :: cs) := fun q' hq' => by
  rcases List.mem_cons.mp hq' with rfl | hq'
  · exact h.deep hd
  · exact hc q' hq'
theorem z_build {bs : List Int} {l : Launch} {D : va_G} {tys : List (ClassId × FieldType)} {nb dc dI mi nA rc rk mc ms nl B len : Nat} {T : List (List zE)} {cn : zCn} {sp : Option (Nat × List zI)} {cuts : List zCt} {cons : List (Nat × zCn)} (hnb : bs.length = nb) (hTY : z_TYs vwCl zTC tys) (h1 : Nat.ble 1 nb = true) (h3 : Nat.ble 3 dc = true) (hc : z_CONS zSPd bs l D vwCl tys zTb zY zCC zRT zD dc cons) (hz : zD[mi]? = some (nA, rc, rk, mc, ms, nl, T))
    (h : z_conB zSPd zD (z_callC nb cons (z_runC zSPd nb cons zD zDF zTC 20000 dI)) zDF zTC 20000 B len rk mc ms nl T cn sp cuts = true) : zG bs l D tys (mi, cn) (dc + dI + 1) := fun nA' rc' rk' mc' ms' nl' T' hz' => by
  have e := hz.symm.trans hz'
  cases e
  subst hnb
  have h3 := Nat.le_of_ble_eq_true h3
  exact z_metC (d := dc + dI) zAL hTY (by omega) (z_runC_ok (Nat.le_of_ble_eq_true h1) h3 zAL hTY hc dI) hz h

theorem z_buildP {bs : List Int} {l : Launch} {D : va_G} {tys : List (ClassId × FieldType)} {nb dc dI mi nA rc rk mc ms nl B len : Nat} {T : List (List zE)} {cn : zCn} {sp : Option (Nat × List zI)} {cuts : List zCt} {cons : List (Nat × zCn)} (hnb : bs.length = nb) (hTY : z_TYs vwCl zTC tys) (h1 : Nat.ble 1 nb = true) (h3 : Nat.ble 3 dc = true) (hc : z_CONS zSPd bs l D vwCl tys zTb zY zCC zRT zD dc cons) (hz : zD[mi]? = some (nA, rc, rk, mc, ms, nl, T))
    (h : z_conP zSPd zD (z_callC nb cons (z_runC zSPd nb cons zD zDF zTC 20000 dI)) zDF zTC B len rk mc ms nl T cn sp cuts) : zG bs l D tys (mi, cn) (dc + dI + 1) := fun nA' rc' rk' mc' ms' nl' T' hz' => by
  have e := hz.symm.trans hz'
  cases e
  subst hnb
  have h3 := Nat.le_of_ble_eq_true h3
  exact z_metP (d := dc + dI) zAL hTY (by omega) (z_runC_ok (Nat.le_of_ble_eq_true h1) h3 zAL hTY hc dI) hz h
