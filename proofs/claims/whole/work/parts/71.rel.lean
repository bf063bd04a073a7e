/-! THE RELATION between the pure heap and the machine's -/
def am_rv (ad : Nat → Nat) : Value → Value
  | .ref a => .ref (ad a)
  | v => v
def am_rl (ad : Nat → Nat) (l : am_V) : am_V := l.map (fun q => (q.1, am_rv ad q.2))
theorem am_rv_cat (ad : Nat → Nat) (v : Value) : (am_rv ad v).category = v.category := by cases v <;> rfl
def am_fld (ad : Nat → Nat) (h : am_H) (a t k : Nat) : Value := match am_ft t k with
  | 1 => .long (am_L h a k)
  | 2 => va_rf ((am_R h a k).map ad)
  | _ => .int (am_I h a k)
def am_fs (ad : Nat → Nat) (h : am_H) (a t : Nat) : List Value := (List.range (am_sz t)).map (am_fld ad h a t)
def am_cell (ad : Nat → Nat) (dA : Nat → ClassId) (h : am_H) (a : Nat) : va_E :=
  if (am_K h a).1 = 10 ∨ (am_K h a).1 = 11 then .inl (dA (am_K h a).1, (am_K h a).2, .inl (am_I h a))
  else if (am_K h a).1 = 12 then .inl (dA 12, (am_K h a).2, .inr (.inl (am_L h a)))
  else if (am_K h a).1 = 13 ∨ (am_K h a).1 = 14 then .inl (dA (am_K h a).1, (am_K h a).2, .inr (.inr (.inr (.inr (fun i => (am_R h a i).map ad)))))
  else .inr ((am_K h a).1, am_fs ad h a (am_K h a).1)
def am_W (ad : Nat → Nat) (dA : Nat → ClassId) (h : am_H) : va_W := (List.range (h.1 - 3)).map (fun j => (ad (j + 3), am_cell ad dA h (j + 3)))
def am_Inv (LL : Nat) (xs : Nat → Int32) (h : am_H) : Prop := 3 ≤ h.1 ∧ am_K h 0 = (99, 0) ∧ am_K h 1 = (21, LL) ∧ am_K h 2 = (20, am_SL) ∧ (∀ a, h.1 ≤ a → am_K h a = (99, 0)) ∧ am_I h 1 = xs ∧ am_I h 2 = am_SC ∧ ∀ a, 3 ≤ a → a < h.1 → (am_K h a).1 < 20
def am_ad (base : Nat) (ad : Nat → Nat) : Prop := ∀ a, 3 ≤ a → ad a = base + (a - 3)
abbrev am_A (base : Nat) : Nat → Prop := fun q => base ≤ q
def am_tys (dA : Nat → ClassId) : List (ClassId × FieldType) := [(dA 10, .int), (dA 11, .byte), (dA 12, .long), (dA 13, .object "LicensedVoice$Tray"), (dA 14, .object "LicensedVoice$Town")]
def am_Rel (base LL : Nat) (xs : Nat → Int32) (ad : Nat → Nat) (dC : Nat → ClassId) (dI : Nat → Nat → Nat) (dA : Nat → ClassId) (h : am_H) (H : Heap) : Prop := am_Inv LL xs h ∧ H.size = base + (h.1 - 3) ∧ va_P (dC, dI) vwCl (am_W ad dA h) H
theorem am_W_len {ad : Nat → Nat} {dA : Nat → ClassId} {h : am_H} : (am_W ad dA h).length = h.1 - 3 := by simp [am_W]
theorem am_W_at {ad : Nat → Nat} {dA : Nat → ClassId} {h : am_H} {a : Nat} (h3 : 3 ≤ a) (hl : a < h.1) : (am_W ad dA h)[a - 3]? = some (ad a, am_cell ad dA h a) := by
  have e : a - 3 + 3 = a := by omega
  unfold am_W
  rw [List.getElem?_map, List.getElem?_range (by omega)]
  simp only [Option.map_some, e]
theorem am_W_ix {ad : Nat → Nat} {dA : Nat → ClassId} {h : am_H} {k : Nat} {q : Nat × va_E} (hq : (am_W ad dA h)[k]? = some q) : k < h.1 - 3 ∧ q = (ad (k + 3), am_cell ad dA h (k + 3)) := by
  have hk : k < h.1 - 3 := by
    have := (List.getElem?_eq_some_iff.mp hq).1
    rwa [am_W_len] at this
  have := am_W_at (ad := ad) (dA := dA) (h := h) (a := k + 3) (by omega) (by omega)
  rw [show k + 3 - 3 = k by omega, hq] at this
  exact ⟨hk, Option.some.inj this⟩
theorem am_W_D {base : Nat} {ad : Nat → Nat} {dA : Nat → ClassId} {h : am_H} (had : am_ad base ad) : va_D (am_A base) (am_W ad dA h) := by
  refine ⟨fun i j p q hp hq e => ?_, fun k q hq => ?_⟩
  · obtain ⟨h1, rfl⟩ := am_W_ix hp
    obtain ⟨h2, rfl⟩ := am_W_ix hq
    have e : ad (i + 3) = ad (j + 3) := e
    rw [had _ (by omega), had _ (by omega)] at e
    omega
  · obtain ⟨h1, rfl⟩ := am_W_ix hq
    show base ≤ ad (k + 3)
    rw [had _ (by omega)]
    omega
theorem am_W_set {ad : Nat → Nat} {dA : Nat → ClassId} {h h' : am_H} {a : Nat} (h3 : 3 ≤ a) (hn : h'.1 = h.1) (hc : ∀ b, b ≠ a → am_cell ad dA h' b = am_cell ad dA h b) : (am_W ad dA h).set (a - 3) (ad a, am_cell ad dA h' a) = am_W ad dA h' := by
  apply List.ext_getElem?
  intro k
  rw [List.getElem?_set]
  by_cases hk : a - 3 = k
  · subst hk
    rw [if_pos rfl]
    by_cases hl : a - 3 < (am_W ad dA h).length
    · rw [if_pos hl]
      rw [am_W_len] at hl
      rw [am_W_at h3 (by omega)]
    · rw [if_neg hl]
      rw [am_W_len] at hl
      rw [List.getElem?_eq_none (by rw [am_W_len]; omega)]
  · rw [if_neg hk]
    by_cases hl : k < h.1 - 3
    · have e1 := am_W_at (ad := ad) (dA := dA) (h := h) (a := k + 3) (by omega) (by omega)
      have e2 := am_W_at (ad := ad) (dA := dA) (h := h') (a := k + 3) (by omega) (by omega)
      rw [show k + 3 - 3 = k by omega] at e1 e2
      rw [e1, e2, hc (k + 3) (by omega)]
    · rw [List.getElem?_eq_none (by rw [am_W_len]; omega), List.getElem?_eq_none (by rw [am_W_len]; omega)]
theorem am_cell_mk {ad : Nat → Nat} {dA : Nat → ClassId} {h : am_H} {kd : Nat × Nat} {n b : Nat} (hb : b ≠ h.1) : am_cell ad dA (am_mk h kd n) b = am_cell ad dA h b := by
  have e1 : am_K (am_mk h kd n) b = am_K h b := if_neg hb
  have e2 : am_I (am_mk h kd n) b = am_I h b := if_neg hb
  have e3 : am_L (am_mk h kd n) b = am_L h b := if_neg hb
  have e4 : am_R (am_mk h kd n) b = am_R h b := if_neg hb
  unfold am_cell am_fs am_fld
  rw [e1, e2, e3, e4]
theorem am_W_push {ad : Nat → Nat} {dA : Nat → ClassId} {h : am_H} {kd : Nat × Nat} {n : Nat} (h3 : 3 ≤ h.1) : am_W ad dA (am_mk h kd n) = am_W ad dA h ++ [(ad h.1, am_cell ad dA (am_mk h kd n) h.1)] := by
  unfold am_W
  have e : (am_mk h kd n).1 - 3 = (h.1 - 3) + 1 := by show h.1 + 1 - 3 = _; omega
  rw [e, List.range_succ, List.map_append]
  congr 1
  · apply List.map_congr_left
    intro j hj
    rw [List.mem_range] at hj
    rw [am_cell_mk (by omega)]
  · simp only [List.map_cons, List.map_nil, show h.1 - 3 + 3 = h.1 by omega]
/-- a cell's kind says where it lies -/
theorem am_Inv.lo {LL : Nat} {xs : Nat → Int32} {h : am_H} (hi : am_Inv LL xs h) {a t n : Nat} (hk : am_K h a = (t, n)) (ht : t < 20) : 3 ≤ a ∧ a < h.1 := by
  obtain ⟨h3, k0, k1, k2, kn, -, -, -⟩ := hi
  refine ⟨?_, ?_⟩
  · apply Nat.le_of_not_lt
    intro hlt
    match a, hlt with
    | 0, _ => rw [k0] at hk; cases hk; omega
    | 1, _ => rw [k1] at hk; cases hk; omega
    | 2, _ => rw [k2] at hk; cases hk; omega
  · apply Nat.lt_of_not_le
    intro hle
    rw [kn a hle] at hk
    cases hk
    omega
theorem am_cell_i {ad : Nat → Nat} {dA : Nat → ClassId} {h : am_H} {a : Nat} (hk : (am_K h a).1 = 10) : am_cell ad dA h a = .inl (dA 10, (am_K h a).2, .inl (am_I h a)) := by
  unfold am_cell; rw [if_pos (Or.inl hk), hk]
theorem am_cell_b {ad : Nat → Nat} {dA : Nat → ClassId} {h : am_H} {a : Nat} (hk : (am_K h a).1 = 11) : am_cell ad dA h a = .inl (dA 11, (am_K h a).2, .inl (am_I h a)) := by
  unfold am_cell; rw [if_pos (Or.inr hk), hk]
theorem am_cell_l {ad : Nat → Nat} {dA : Nat → ClassId} {h : am_H} {a : Nat} (hk : (am_K h a).1 = 12) : am_cell ad dA h a = .inl (dA 12, (am_K h a).2, .inr (.inl (am_L h a))) := by
  unfold am_cell; rw [if_neg (by omega), if_pos hk]
theorem am_cell_r {ad : Nat → Nat} {dA : Nat → ClassId} {h : am_H} {a t : Nat} (ht : t = 13 ∨ t = 14) (hk : (am_K h a).1 = t) : am_cell ad dA h a = .inl (dA t, (am_K h a).2, .inr (.inr (.inr (.inr (fun i => (am_R h a i).map ad))))) := by
  unfold am_cell; rw [if_neg (by omega), if_neg (by omega), if_pos (by omega), hk]
theorem am_cell_o {ad : Nat → Nat} {dA : Nat → ClassId} {h : am_H} {a t : Nat} (hk : am_K h a = (t, 0)) (ht : t < 10) : am_cell ad dA h a = .inr (t, am_fs ad h a t) := by
  unfold am_cell; rw [hk, if_neg (by omega), if_neg (by omega), if_neg (by omega)]
theorem am_fs_at {ad : Nat → Nat} {h : am_H} {a t k : Nat} (hk : k < am_sz t) : (am_fs ad h a t)[k]? = some (am_fld ad h a t k) := by
  unfold am_fs
  rw [List.getElem?_map, List.getElem?_range hk]; rfl
theorem am_fs_len {ad : Nat → Nat} {h : am_H} {a t : Nat} : (am_fs ad h a t).length = am_sz t := by simp [am_fs]
theorem am_fs_set {ad : Nat → Nat} {h h' : am_H} {a t k : Nat} {v : Value} (hv : am_fld ad h' a t k = v) (ho : ∀ j, j ≠ k → am_fld ad h' a t j = am_fld ad h a t j) : (am_fs ad h a t).set k v = am_fs ad h' a t := by
  apply List.ext_getElem?
  intro j
  rw [List.getElem?_set]
  by_cases hj : k = j
  · subst hj
    rw [if_pos rfl, am_fs_len]
    by_cases hl : k < am_sz t
    · rw [if_pos hl, am_fs_at hl, hv]
    · rw [if_neg hl, List.getElem?_eq_none (by rw [am_fs_len]; omega)]
  · rw [if_neg hj]
    by_cases hl : j < am_sz t
    · rw [am_fs_at hl, am_fs_at hl, ho j (Ne.symm hj)]
    · rw [List.getElem?_eq_none (by rw [am_fs_len]; omega), List.getElem?_eq_none (by rw [am_fs_len]; omega)]
-- other cells stay
theorem am_cell_sI {ad : Nat → Nat} {dA : Nat → ClassId} {h : am_H} {a k b : Nat} {v : Int32} (hb : b ≠ a) : am_cell ad dA (am_sI h a k v) b = am_cell ad dA h b := by
  have e2 : am_I (am_sI h a k v) b = am_I h b := if_neg hb
  unfold am_cell am_fs am_fld
  rw [e2]; rfl
theorem am_cell_sL {ad : Nat → Nat} {dA : Nat → ClassId} {h : am_H} {a k b : Nat} {v : Int64} (hb : b ≠ a) : am_cell ad dA (am_sL h a k v) b = am_cell ad dA h b := by
  have e2 : am_L (am_sL h a k v) b = am_L h b := if_neg hb
  unfold am_cell am_fs am_fld
  rw [e2]; rfl
theorem am_cell_sR {ad : Nat → Nat} {dA : Nat → ClassId} {h : am_H} {a k b : Nat} {v : Option Nat} (hb : b ≠ a) : am_cell ad dA (am_sR h a k v) b = am_cell ad dA h b := by
  have e2 : am_R (am_sR h a k v) b = am_R h b := if_neg hb
  unfold am_cell am_fs am_fld
  rw [e2]; rfl
theorem am_cell_wI {ad : Nat → Nat} {dA : Nat → ClassId} {h : am_H} {a b : Nat} {f : Nat → Int32} (hb : b ≠ a) : am_cell ad dA (am_wI h a f) b = am_cell ad dA h b := by
  have e2 : am_I (am_wI h a f) b = am_I h b := if_neg hb
  unfold am_cell am_fs am_fld
  rw [e2]; rfl
theorem am_cell_wL {ad : Nat → Nat} {dA : Nat → ClassId} {h : am_H} {a b : Nat} {f : Nat → Int64} (hb : b ≠ a) : am_cell ad dA (am_wL h a f) b = am_cell ad dA h b := by
  have e2 : am_L (am_wL h a f) b = am_L h b := if_neg hb
  unfold am_cell am_fs am_fld
  rw [e2]; rfl
/-- what a write of an int leaves of the invariant -/
theorem am_Inv.sI {LL : Nat} {xs : Nat → Int32} {h : am_H} (hi : am_Inv LL xs h) {a k : Nat} {v : Int32} (h3 : 3 ≤ a) : am_Inv LL xs (am_sI h a k v) := by
  obtain ⟨i1, i2, i3, i4, i5, i6, i7, i8⟩ := hi
  exact ⟨i1, i2, i3, i4, i5, (if_neg (by omega)).trans i6, (if_neg (by omega)).trans i7, i8⟩
theorem am_Inv.wI {LL : Nat} {xs : Nat → Int32} {h : am_H} (hi : am_Inv LL xs h) {a : Nat} {f : Nat → Int32} (h3 : 3 ≤ a) : am_Inv LL xs (am_wI h a f) := by
  obtain ⟨i1, i2, i3, i4, i5, i6, i7, i8⟩ := hi
  exact ⟨i1, i2, i3, i4, i5, (if_neg (by omega)).trans i6, (if_neg (by omega)).trans i7, i8⟩
theorem am_Inv.mk {LL : Nat} {xs : Nat → Int32} {h : am_H} (hi : am_Inv LL xs h) {kd : Nat × Nat} {n : Nat} (hkd : kd.1 < 20) : am_Inv LL xs (am_mk h kd n) := by
  obtain ⟨i1, i2, i3, i4, i5, i6, i7, i8⟩ := hi
  refine ⟨Nat.le_succ_of_le i1, (if_neg (by omega)).trans i2, (if_neg (by omega)).trans i3, (if_neg (by omega)).trans i4, fun a ha => ?_, (if_neg (by omega)).trans i6, (if_neg (by omega)).trans i7, fun a h3 ha => ?_⟩
  · have ha : h.1 + 1 ≤ a := ha
    exact (if_neg (by omega)).trans (i5 a (by omega))
  · have ha : a < h.1 + 1 := ha
    by_cases q : a = h.1
    · rw [show am_K (am_mk h kd n) a = kd from if_pos q]; exact hkd
    · rw [show am_K (am_mk h kd n) a = am_K h a from if_neg q]; exact i8 a h3 (by omega)
theorem am_Inv.sc {LL : Nat} {xs : Nat → Int32} {h : am_H} (hi : am_Inv LL xs h) {a t : Nat} (hk : (am_K h a).1 = t) (ht : 20 ≤ t) (h9 : t < 99) : (a = 1 ∧ t = 21) ∨ (a = 2 ∧ t = 20) := by
  obtain ⟨i1, i2, i3, i4, i5, i6, i7, i8⟩ := hi
  match a with
  | 0 => rw [i2] at hk; omega
  | 1 => rw [i3] at hk; exact Or.inl ⟨rfl, hk.symm⟩
  | 2 => rw [i4] at hk; exact Or.inr ⟨rfl, hk.symm⟩
  | a + 3 =>
    by_cases q : a + 3 < h.1
    · have := i8 (a + 3) (by omega) q
      omega
    · rw [i5 (a + 3) (by omega)] at hk
      omega
