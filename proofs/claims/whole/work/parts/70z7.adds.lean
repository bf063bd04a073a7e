/-! texts: a town grows by a thing -/
def addP (T : Nat → Nat) (c : Nat) : Nat → Nat := fun j => if j = 2 then T 2 + 1 else if j = 37 + T 2 then c else if j = 43 + T 2 ∨ j = 49 + T 2 then 0 else if 121 + 6 * T 2 ≤ j ∧ j < 127 + 6 * T 2 then 0 else T j
def addV (T : Nat → Nat) (a l m : Nat) (r : Nat → Nat) : Nat → Nat := fun j => if j = 1 then T 1 + 1 else if j = 7 + T 1 then a else if j = 13 + T 1 then l else if j = 19 + T 1 then m else if j = 25 + T 1 then 1 else if j = 31 + T 1 then 0 else if 73 + 8 * T 1 ≤ j ∧ j < 81 + 8 * T 1 then r (j - (73 + 8 * T 1)) else T j
def addS (T : Nat → Nat) (v fl ow : Nat) : Nat → Nat := fun j => if j = 3 then T 3 + 1 else if j = 55 + T 3 then v else if j = 61 + T 3 then fl else if j = 67 + T 3 then ow else T j
/-- nothing has happened yet -/
def frsh (T : Nat → Nat) : Prop := T 5 = 0 ∧ T 6 = 0 ∧ (∀ v, v < T 1 → T (25 + v) = 1 ∧ T (31 + v) = 0) ∧ (∀ p, p < T 2 → T (43 + p) = 0 ∧ T (49 + p) = 0) ∧ T 157 = 0 ∧ T 158 = 0
section
variable {T : Nat → Nat}
theorem addP_2 (c : Nat) : addP T c 2 = T 2 + 1 := if_pos rfl
theorem addP_37 (c : Nat) : addP T c (37 + T 2) = c := by unfold addP; rw [if_neg (by omega), if_pos rfl]
theorem addP_43 {c j : Nat} (h2 : T 2 < 6) (h : j = 43 + T 2 ∨ j = 49 + T 2 ∨ (121 + 6 * T 2 ≤ j ∧ j < 127 + 6 * T 2)) : addP T c j = 0 := by
  unfold addP
  rw [if_neg (by omega), if_neg (by omega)]
  by_cases q : j = 43 + T 2 ∨ j = 49 + T 2
  · rw [if_pos q]
  · rw [if_neg q, if_pos (by omega)]
theorem addP_ne {c j : Nat} (h2 : j ≠ 2) (h37 : j ≠ 37 + T 2) (h43 : j ≠ 43 + T 2) (h49 : j ≠ 49 + T 2) (h121 : j < 121 + 6 * T 2 ∨ 127 + 6 * T 2 ≤ j) : addP T c j = T j := by
  unfold addP
  rw [if_neg h2, if_neg h37, if_neg (by omega), if_neg (by omega)]
theorem addV_1 (a l m : Nat) (r : Nat → Nat) : addV T a l m r 1 = T 1 + 1 := if_pos rfl
theorem addV_at (h1 : T 1 < 6) (a l m : Nat) (r : Nat → Nat) : addV T a l m r (7 + T 1) = a ∧ addV T a l m r (13 + T 1) = l ∧ addV T a l m r (19 + T 1) = m ∧ addV T a l m r (25 + T 1) = 1 ∧ addV T a l m r (31 + T 1) = 0 ∧ ∀ k, k < 8 → addV T a l m r (73 + 8 * T 1 + k) = r k := by
  unfold addV
  refine ⟨?_, ?_, ?_, ?_, ?_, fun k hk => ?_⟩
  · rw [if_neg (by omega), if_pos rfl]
  · rw [if_neg (by omega), if_neg (by omega), if_pos rfl]
  · rw [if_neg (by omega), if_neg (by omega), if_neg (by omega), if_pos rfl]
  · rw [if_neg (by omega), if_neg (by omega), if_neg (by omega), if_neg (by omega), if_pos rfl]
  · rw [if_neg (by omega), if_neg (by omega), if_neg (by omega), if_neg (by omega), if_neg (by omega), if_pos rfl]
  · rw [if_neg (by omega), if_neg (by omega), if_neg (by omega), if_neg (by omega), if_neg (by omega), if_neg (by omega), if_pos (by omega)]
    congr 1; omega
theorem addV_ne {a l m j : Nat} {r : Nat → Nat} (h : j ≠ 1) (h7 : j ≠ 7 + T 1) (h13 : j ≠ 13 + T 1) (h19 : j ≠ 19 + T 1) (h25 : j ≠ 25 + T 1) (h31 : j ≠ 31 + T 1) (h73 : j < 73 + 8 * T 1 ∨ 81 + 8 * T 1 ≤ j) : addV T a l m r j = T j := by
  unfold addV
  rw [if_neg h, if_neg h7, if_neg h13, if_neg h19, if_neg h25, if_neg h31, if_neg (by omega)]
theorem addS_at (h3 : T 3 < 6) (v fl ow : Nat) : addS T v fl ow 3 = T 3 + 1 ∧ addS T v fl ow (55 + T 3) = v ∧ addS T v fl ow (61 + T 3) = fl ∧ addS T v fl ow (67 + T 3) = ow := by
  unfold addS
  refine ⟨if_pos rfl, ?_, ?_, ?_⟩
  · rw [if_neg (by omega), if_pos rfl]
  · rw [if_neg (by omega), if_neg (by omega), if_pos rfl]
  · rw [if_neg (by omega), if_neg (by omega), if_neg (by omega), if_pos rfl]
theorem addS_ne {v fl ow j : Nat} (h : j ≠ 3) (h1 : j ≠ 55 + T 3) (h2 : j ≠ 61 + T 3) (h3 : j ≠ 67 + T 3) : addS T v fl ow j = T j := by
  unfold addS
  rw [if_neg h, if_neg h1, if_neg h2, if_neg h3]
theorem WF_addP (hw : WF T) (h2 : T 2 < 6) {c : Nat} (hc : c ≤ 9999) : WF (addP T c) := by
  obtain ⟨⟨w0, w1, w2, w3, w4, w5, w6⟩, wv, wr, wp, wl, ws⟩ := hw
  have g : ∀ j, j < 37 → j ≠ 2 → addP T c j = T j := fun j a b => addP_ne b (by omega) (by omega) (by omega) (by omega)
  have e2 : addP T c 2 = T 2 + 1 := addP_2 c
  refine ⟨⟨by rw [g 0 (by omega) (by omega)]; exact w0, by rw [g 1 (by omega) (by omega)]; exact w1, by omega, by rw [g 3 (by omega) (by omega)]; exact w3, by rw [g 4 (by omega) (by omega)]; exact w4, by rw [g 5 (by omega) (by omega)]; exact w5, by rw [g 6 (by omega) (by omega)]; exact w6⟩, fun v hv => ?_, fun v k hv hk => ?_, fun p hp => ?_, fun p s hp hs => ?_, fun k hk => ?_⟩
  · rw [g 1 (by omega) (by omega)] at hv
    rw [g _ (by omega) (by omega), g _ (by omega) (by omega), g _ (by omega) (by omega), g _ (by omega) (by omega), g _ (by omega) (by omega)]; exact wv v hv
  · rw [g 1 (by omega) (by omega)] at hv
    have a := wv v hv
    rw [g (19 + v) (by omega) (by omega)] at hk
    rw [g 0 (by omega) (by omega), addP_ne (by omega) (by omega) (by omega) (by omega) (by omega)]; exact wr v k hv hk
  · rw [e2] at hp
    by_cases q : p = T 2
    · subst q
      rw [addP_37, addP_43 h2 (by omega), addP_43 h2 (by omega)]; omega
    · rw [addP_ne (by omega) (by omega) (by omega) (by omega) (by omega), addP_ne (by omega) (by omega) (by omega) (by omega) (by omega), addP_ne (by omega) (by omega) (by omega) (by omega) (by omega)]; exact wp p (by omega)
  · rw [e2] at hp
    by_cases q : p = T 2
    · subst q
      rw [addP_43 h2 (by omega)]; omega
    · rw [addP_ne (by omega) (by omega) (by omega) (by omega) (by omega)]; exact wl p s (by omega) hs
  · rw [g 3 (by omega) (by omega)] at hk
    have a := ws k hk
    rw [g 1 (by omega) (by omega), e2, addP_ne (by omega) (by omega) (by omega) (by omega) (by omega), addP_ne (by omega) (by omega) (by omega) (by omega) (by omega), addP_ne (by omega) (by omega) (by omega) (by omega) (by omega)]; omega
theorem WF_addV (hw : WF T) (h1 : T 1 < 6) {a l m : Nat} {r : Nat → Nat} (ha : a ≤ 119) (hl : l ≤ 120) (hm1 : 1 ≤ m) (hm : m ≤ 8) (hr : ∀ k, k < m → r k < T 0) : WF (addV T a l m r) := by
  obtain ⟨⟨w0, w1, w2, w3, w4, w5, w6⟩, wv, wr, wp, wl, ws⟩ := hw
  obtain ⟨e7, e13, e19, e25, e31, e73⟩ := addV_at h1 a l m r
  have e1 := addV_1 (T := T) a l m r
  have g : ∀ j, (j < 7 ∨ 37 ≤ j ∧ j < 73 ∨ 121 ≤ j) → j ≠ 1 → addV T a l m r j = T j := fun j x y => addV_ne y (by omega) (by omega) (by omega) (by omega) (by omega) (by omega)
  refine ⟨⟨by rw [g 0 (by omega) (by omega)]; exact w0, by omega, by rw [g 2 (by omega) (by omega)]; exact w2, by rw [g 3 (by omega) (by omega)]; exact w3, by rw [g 4 (by omega) (by omega)]; exact w4, by rw [g 5 (by omega) (by omega)]; exact w5, by rw [g 6 (by omega) (by omega)]; exact w6⟩, fun v hv => ?_, fun v k hv hk => ?_, fun p hp => ?_, fun p s hp hs => ?_, fun k hk => ?_⟩
  · rw [e1] at hv
    by_cases q : v = T 1
    · subst q
      rw [e7, e13, e19, e25, e31]; omega
    · have := wv v (by omega)
      rw [addV_ne (by omega) (by omega) (by omega) (by omega) (by omega) (by omega) (by omega), addV_ne (by omega) (by omega) (by omega) (by omega) (by omega) (by omega) (by omega), addV_ne (by omega) (by omega) (by omega) (by omega) (by omega) (by omega) (by omega), addV_ne (by omega) (by omega) (by omega) (by omega) (by omega) (by omega) (by omega), addV_ne (by omega) (by omega) (by omega) (by omega) (by omega) (by omega) (by omega)]
      exact this
  · rw [e1] at hv
    rw [g 0 (by omega) (by omega)]
    by_cases q : v = T 1
    · subst q
      rw [e19] at hk
      rw [e73 k (by omega)]; exact hr k hk
    · have := wv v (by omega)
      rw [addV_ne (by omega) (by omega) (by omega) (by omega) (by omega) (by omega) (by omega)] at hk
      rw [addV_ne (by omega) (by omega) (by omega) (by omega) (by omega) (by omega) (by omega)]; exact wr v k (by omega) hk
  · rw [g 2 (by omega) (by omega)] at hp
    rw [g _ (by omega) (by omega), g _ (by omega) (by omega), g _ (by omega) (by omega)]; exact wp p hp
  · rw [g 2 (by omega) (by omega)] at hp
    rw [g _ (by omega) (by omega)]; exact wl p s hp hs
  · rw [g 3 (by omega) (by omega)] at hk
    have := ws k hk
    rw [e1, g 2 (by omega) (by omega), g _ (by omega) (by omega), g _ (by omega) (by omega), g _ (by omega) (by omega)]; omega
theorem WF_addS (hw : WF T) (h3 : T 3 < 6) {v fl ow : Nat} (hv : v < T 1) (hf : fl < T 1 ∨ fl = 4294967295) (ho : ow < T 2 ∨ ow = 4294967295) : WF (addS T v fl ow) := by
  obtain ⟨⟨w0, w1, w2, w3, w4, w5, w6⟩, wv, wr, wp, wl, ws⟩ := hw
  obtain ⟨e3, e55, e61, e67⟩ := addS_at h3 v fl ow
  have g : ∀ j, (j < 55 ∨ 73 ≤ j) → j ≠ 3 → addS T v fl ow j = T j := fun j x y => addS_ne y (by omega) (by omega) (by omega)
  refine ⟨⟨by rw [g 0 (by omega) (by omega)]; exact w0, by rw [g 1 (by omega) (by omega)]; exact w1, by rw [g 2 (by omega) (by omega)]; exact w2, by omega, by rw [g 4 (by omega) (by omega)]; exact w4, by rw [g 5 (by omega) (by omega)]; exact w5, by rw [g 6 (by omega) (by omega)]; exact w6⟩, fun u hu => ?_, fun u k hu hk => ?_, fun p hp => ?_, fun p s hp hs => ?_, fun k hk => ?_⟩
  · rw [g 1 (by omega) (by omega)] at hu
    rw [g _ (by omega) (by omega), g _ (by omega) (by omega), g _ (by omega) (by omega), g _ (by omega) (by omega), g _ (by omega) (by omega)]; exact wv u hu
  · rw [g 1 (by omega) (by omega)] at hu
    rw [g (19 + u) (by omega) (by omega)] at hk
    rw [g 0 (by omega) (by omega), g _ (by omega) (by omega)]; exact wr u k hu hk
  · rw [g 2 (by omega) (by omega)] at hp
    rw [g _ (by omega) (by omega), g _ (by omega) (by omega), g _ (by omega) (by omega)]; exact wp p hp
  · rw [g 2 (by omega) (by omega)] at hp
    rw [g _ (by omega) (by omega)]; exact wl p s hp hs
  · rw [e3] at hk
    rw [g 1 (by omega) (by omega), g 2 (by omega) (by omega)]
    by_cases q : k = T 3
    · subst q
      rw [e55, e61, e67]; exact ⟨hv, hf, ho⟩
    · rw [addS_ne (by omega) (by omega) (by omega) (by omega), addS_ne (by omega) (by omega) (by omega) (by omega), addS_ne (by omega) (by omega) (by omega) (by omega)]; exact ws k (by omega)
theorem WF_sub (hw : WF T) (h0 : T 0 < 6) : WF (up1 T 0 (T 0 + 1)) := by
  obtain ⟨⟨w0, w1, w2, w3, w4, w5, w6⟩, wv, wr, wp, wl, ws⟩ := hw
  have g : ∀ j, j ≠ 0 → up1 T 0 (T 0 + 1) j = T j := fun j y => up1_ne y
  refine ⟨⟨by rw [up1_at]; omega, by rw [g 1 (by omega)]; exact w1, by rw [g 2 (by omega)]; exact w2, by rw [g 3 (by omega)]; exact w3, by rw [g 4 (by omega)]; exact w4, by rw [g 5 (by omega)]; exact w5, by rw [g 6 (by omega)]; exact w6⟩, fun u hu => ?_, fun u k hu hk => ?_, fun p hp => ?_, fun p s hp hs => ?_, fun k hk => ?_⟩
  · rw [g 1 (by omega)] at hu
    rw [g _ (by omega), g _ (by omega), g _ (by omega), g _ (by omega), g _ (by omega)]; exact wv u hu
  · rw [g 1 (by omega)] at hu
    rw [g (19 + u) (by omega)] at hk
    rw [up1_at, g _ (by omega)]
    have := wr u k hu hk
    omega
  · rw [g 2 (by omega)] at hp
    rw [g _ (by omega), g _ (by omega), g _ (by omega)]; exact wp p hp
  · rw [g 2 (by omega)] at hp
    rw [g _ (by omega)]; exact wl p s hp hs
  · rw [g 3 (by omega)] at hk
    rw [g 1 (by omega), g 2 (by omega), g _ (by omega), g _ (by omega), g _ (by omega)]; exact ws k hk
/-! nothing has happened -/
theorem frsh_GB (h : frsh T) : GB T := fun p hp => by
  obtain ⟨a, -, -, b, -⟩ := h
  have := b p hp
  omega
theorem frsh_up (hw : WF T) {k x : Nat} (hk : k = 0 ∨ k = 4 ∨ 121 ≤ k ∧ k < 157) (h : frsh T) : frsh (up1 T k x) := by
  obtain ⟨a1, a2, a3, a4, a5, a6⟩ := h
  obtain ⟨h0, h1, h2, h3, -⟩ := hw.1
  refine ⟨by rw [up1_ne (by omega)]; exact a1, by rw [up1_ne (by omega)]; exact a2, fun v hv => ?_, fun p hp => ?_, by rw [up1_ne (by omega)]; exact a5, by rw [up1_ne (by omega)]; exact a6⟩
  · rw [up1_ne (by omega)] at hv
    rw [up1_ne (by omega), up1_ne (by omega)]; exact a3 v hv
  · rw [up1_ne (by omega)] at hp
    rw [up1_ne (by omega), up1_ne (by omega)]; exact a4 p hp
theorem frsh_P (hw : WF T) (g2 : T 2 < 6) {c : Nat} (h : frsh T) : frsh (addP T c) := by
  obtain ⟨a1, a2, a3, a4, a5, a6⟩ := h
  obtain ⟨h0, h1, h2, h3, -⟩ := hw.1
  have g : ∀ j, (j < 37 ∨ 157 ≤ j) → j ≠ 2 → addP T c j = T j := fun j a b => addP_ne b (by omega) (by omega) (by omega) (by omega)
  refine ⟨by rw [g _ (by omega) (by omega)]; exact a1, by rw [g _ (by omega) (by omega)]; exact a2, fun v hv => ?_, fun p hp => ?_, by rw [g _ (by omega) (by omega)]; exact a5, by rw [g _ (by omega) (by omega)]; exact a6⟩
  · rw [g 1 (by omega) (by omega)] at hv
    rw [g _ (by omega) (by omega), g _ (by omega) (by omega)]; exact a3 v hv
  · rw [addP_2] at hp
    by_cases q : p = T 2
    · subst q
      exact ⟨addP_43 g2 (by omega), addP_43 g2 (by omega)⟩
    · rw [addP_ne (by omega) (by omega) (by omega) (by omega) (by omega), addP_ne (by omega) (by omega) (by omega) (by omega) (by omega)]; exact a4 p (by omega)
theorem frsh_V (hw : WF T) (g1 : T 1 < 6) {a l m : Nat} {r : Nat → Nat} (h : frsh T) : frsh (addV T a l m r) := by
  obtain ⟨a1, a2, a3, a4, a5, a6⟩ := h
  obtain ⟨h0, h1, h2, h3, -⟩ := hw.1
  obtain ⟨e7, e13, e19, e25, e31, e73⟩ := addV_at g1 a l m r
  have g : ∀ j, (j < 7 ∨ 37 ≤ j ∧ j < 73 ∨ 121 ≤ j) → j ≠ 1 → addV T a l m r j = T j := fun j x y => addV_ne y (by omega) (by omega) (by omega) (by omega) (by omega) (by omega)
  refine ⟨by rw [g _ (by omega) (by omega)]; exact a1, by rw [g _ (by omega) (by omega)]; exact a2, fun v hv => ?_, fun p hp => ?_, by rw [g _ (by omega) (by omega)]; exact a5, by rw [g _ (by omega) (by omega)]; exact a6⟩
  · rw [addV_1] at hv
    by_cases q : v = T 1
    · subst q; exact ⟨e25, e31⟩
    · rw [addV_ne (by omega) (by omega) (by omega) (by omega) (by omega) (by omega) (by omega), addV_ne (by omega) (by omega) (by omega) (by omega) (by omega) (by omega) (by omega)]; exact a3 v (by omega)
  · rw [g 2 (by omega) (by omega)] at hp
    rw [g _ (by omega) (by omega), g _ (by omega) (by omega)]; exact a4 p hp
theorem frsh_S (hw : WF T) (g3 : T 3 < 6) {v fl ow : Nat} (h : frsh T) : frsh (addS T v fl ow) := by
  obtain ⟨a1, a2, a3, a4, a5, a6⟩ := h
  obtain ⟨h0, h1, h2, h3, -⟩ := hw.1
  have g : ∀ j, (j < 55 ∨ 73 ≤ j) → j ≠ 3 → addS T v fl ow j = T j := fun j x y => addS_ne y (by omega) (by omega) (by omega)
  refine ⟨by rw [g _ (by omega) (by omega)]; exact a1, by rw [g _ (by omega) (by omega)]; exact a2, fun v hv => ?_, fun p hp => ?_, by rw [g _ (by omega) (by omega)]; exact a5, by rw [g _ (by omega) (by omega)]; exact a6⟩
  · rw [g 1 (by omega) (by omega)] at hv
    rw [g _ (by omega) (by omega), g _ (by omega) (by omega)]; exact a3 v hv
  · rw [g 2 (by omega) (by omega)] at hp
    rw [g _ (by omega) (by omega), g _ (by omega) (by omega)]; exact a4 p hp
/-! the class's cells -/
theorem bst_s (c : Nat → Bool) (m : Nat) : bst c (m + 1) = bst c m ||| (if c m = true then 2 ^ m else 0) := rfl
variable {I K : Nat → Nat → Int32} {t : Nat}
theorem TC_sub (hT : TC I t T) (hw : WF T) (k2 : ∀ k, k < 4 → K (t + 2) k = if k = 0 then nI (T 0 + 1) else I (t + 2) k) (ko : ∀ a, a ≠ t + 2 → t ≤ a → a < t + 14 → K a = I a) : TC K t (up1 T 0 (T 0 + 1)) := by
  obtain ⟨a1, ⟨a2, a3, a4⟩, ⟨a5, a6⟩, a7, a8, a9, a10, a11⟩ := hT
  have g : ∀ j, j ≠ 0 → up1 T 0 (T 0 + 1) j = T j := fun j y => up1_ne y
  refine ⟨fun k hk => ?_, ?_, ?_, fun v hv => ?_, fun v k hv hk => ?_, fun p hp => ?_, fun p s hp hs => ?_, fun k hk => ?_⟩
  · rw [k2 k hk]
    by_cases q : k = 0
    · subst q; rw [if_pos rfl, up1_at]
    · rw [if_neg q, g k q]; exact a1 k hk
  · rw [ko t (by omega) (by omega) (by omega), g 4 (by omega), g 5 (by omega), g 6 (by omega)]; exact ⟨a2, a3, a4⟩
  · rw [ko t (by omega) (by omega) (by omega), g 1 (by omega), bst_congr (c := fun v => up1 T 0 (T 0 + 1) (25 + v) == 1) (e := fun v => T (25 + v) == 1) _ (fun i _ => by show (up1 T 0 (T 0 + 1) (25 + i) == 1) = _; rw [g _ (by omega)]), bst_congr (c := fun v => up1 T 0 (T 0 + 1) (31 + v) == 1) (e := fun v => T (31 + v) == 1) _ (fun i _ => by show (up1 T 0 (T 0 + 1) (31 + i) == 1) = _; rw [g _ (by omega)])]
    exact ⟨a5, a6⟩
  · rw [g 1 (by omega)] at hv
    rw [ko _ (by omega) (by omega) (by omega), ko _ (by omega) (by omega) (by omega), ko _ (by omega) (by omega) (by omega), g _ (by omega), g _ (by omega), g _ (by omega)]; exact a7 v hv
  · rw [g 1 (by omega)] at hv
    rw [g _ (by omega)] at hk
    rw [ko _ (by omega) (by omega) (by omega), g _ (by omega)]; exact a8 v k hv hk
  · rw [g 2 (by omega)] at hp
    rw [ko _ (by omega) (by omega) (by omega), ko _ (by omega) (by omega) (by omega), ko _ (by omega) (by omega) (by omega), g _ (by omega), g _ (by omega), g _ (by omega)]; exact a9 p hp
  · rw [g 2 (by omega)] at hp
    rw [ko _ (by omega) (by omega) (by omega), g _ (by omega)]; exact a10 p s hp hs
  · rw [g 3 (by omega)] at hk
    rw [ko _ (by omega) (by omega) (by omega), ko _ (by omega) (by omega) (by omega), ko _ (by omega) (by omega) (by omega), g _ (by omega), g _ (by omega), g _ (by omega)]; exact a11 k hk
theorem TC_addP (hT : TC I t T) (hw : WF T) (g2 : T 2 < 6) {c : Nat} (k2 : ∀ k, k < 4 → K (t + 2) k = if k = 2 then nI (T 2 + 1) else I (t + 2) k) (k7 : K (t + 7) (T 2) = nI c) (k8 : K (t + 8) (T 2) = nI 0) (k9 : K (t + 9) (T 2) = nI 0) (k10 : ∀ s, s < 6 → K (t + 10) (T 2 * 6 + s) = nI 0) (ko : ∀ a, a ≠ t + 2 → a ≠ t + 7 → a ≠ t + 8 → a ≠ t + 9 → a ≠ t + 10 → t ≤ a → a < t + 14 → K a = I a) (ka : ∀ a p, t + 7 ≤ a → a ≤ t + 9 → p < T 2 → K a p = I a p) (kl : ∀ j, j < T 2 * 6 → K (t + 10) j = I (t + 10) j) : TC K t (addP T c) := by
  obtain ⟨a1, ⟨a2, a3, a4⟩, ⟨a5, a6⟩, a7, a8, a9, a10, a11⟩ := hT
  obtain ⟨h0, h1, h2, h3, -⟩ := hw.1
  have g : ∀ j, j < 37 → j ≠ 2 → addP T c j = T j := fun j a b => addP_ne b (by omega) (by omega) (by omega) (by omega)
  refine ⟨fun k hk => ?_, ?_, ?_, fun v hv => ?_, fun v k hv hk => ?_, fun p hp => ?_, fun p s hp hs => ?_, fun k hk => ?_⟩
  · rw [k2 k hk]
    by_cases q : k = 2
    · subst q; rw [if_pos rfl, addP_2]
    · rw [if_neg q, g k (by omega) q]; exact a1 k hk
  · rw [ko t (by omega) (by omega) (by omega) (by omega) (by omega) (by omega) (by omega), g 4 (by omega) (by omega), g 5 (by omega) (by omega), g 6 (by omega) (by omega)]; exact ⟨a2, a3, a4⟩
  · rw [ko t (by omega) (by omega) (by omega) (by omega) (by omega) (by omega) (by omega), g 1 (by omega) (by omega), bst_congr (c := fun v => addP T c (25 + v) == 1) (e := fun v => T (25 + v) == 1) _ (fun i hi => by show (addP T c (25 + i) == 1) = _; rw [g _ (by omega) (by omega)]), bst_congr (c := fun v => addP T c (31 + v) == 1) (e := fun v => T (31 + v) == 1) _ (fun i hi => by show (addP T c (31 + i) == 1) = _; rw [g _ (by omega) (by omega)])]
    exact ⟨a5, a6⟩
  · rw [g 1 (by omega) (by omega)] at hv
    rw [ko _ (by omega) (by omega) (by omega) (by omega) (by omega) (by omega) (by omega), ko _ (by omega) (by omega) (by omega) (by omega) (by omega) (by omega) (by omega), ko _ (by omega) (by omega) (by omega) (by omega) (by omega) (by omega) (by omega), g _ (by omega) (by omega), g _ (by omega) (by omega), g _ (by omega) (by omega)]; exact a7 v hv
  · rw [g 1 (by omega) (by omega)] at hv
    rw [g _ (by omega) (by omega)] at hk
    have := hw.2.1 v hv
    rw [ko _ (by omega) (by omega) (by omega) (by omega) (by omega) (by omega) (by omega), addP_ne (by omega) (by omega) (by omega) (by omega) (by omega)]; exact a8 v k hv hk
  · rw [addP_2] at hp
    by_cases q : p = T 2
    · subst q
      rw [k7, k8, k9, addP_37, addP_43 g2 (by omega), addP_43 g2 (by omega)]; exact ⟨rfl, rfl, rfl⟩
    · rw [ka _ p (by omega) (by omega) (by omega), ka _ p (by omega) (by omega) (by omega), ka _ p (by omega) (by omega) (by omega), addP_ne (by omega) (by omega) (by omega) (by omega) (by omega), addP_ne (by omega) (by omega) (by omega) (by omega) (by omega), addP_ne (by omega) (by omega) (by omega) (by omega) (by omega)]; exact a9 p (by omega)
  · rw [addP_2] at hp
    by_cases q : p = T 2
    · subst q
      rw [k10 s hs, addP_43 g2 (by omega)]
    · rw [kl _ (by omega), addP_ne (by omega) (by omega) (by omega) (by omega) (by omega)]; exact a10 p s (by omega) hs
  · rw [g 3 (by omega) (by omega)] at hk
    rw [ko _ (by omega) (by omega) (by omega) (by omega) (by omega) (by omega) (by omega), ko _ (by omega) (by omega) (by omega) (by omega) (by omega) (by omega) (by omega), ko _ (by omega) (by omega) (by omega) (by omega) (by omega) (by omega) (by omega), addP_ne (by omega) (by omega) (by omega) (by omega) (by omega), addP_ne (by omega) (by omega) (by omega) (by omega) (by omega), addP_ne (by omega) (by omega) (by omega) (by omega) (by omega)]; exact a11 k hk
theorem TC_addV (hT : TC I t T) (hw : WF T) (g1 : T 1 < 6) {a l m : Nat} {r : Nat → Nat} (hm : m ≤ 8) (k2 : ∀ k, k < 4 → K (t + 2) k = if k = 1 then nI (T 1 + 1) else I (t + 2) k) (kt : ∀ k, k ≠ 5 → K t k = I t k) (k5 : K t 5 = nI (bst (fun v => T (25 + v) == 1) (T 1) ||| 2 ^ T 1)) (k3 : K (t + 3) (T 1) = nI a) (k4 : K (t + 4) (T 1) = nI l) (k55 : K (t + 5) (T 1) = nI m) (k6 : ∀ k, k < m → K (t + 6) (T 1 * 8 + k) = nI (r k)) (ko : ∀ b, t + 7 ≤ b → b < t + 14 → K b = I b) (ka : ∀ b v, t + 3 ≤ b → b ≤ t + 5 → v < T 1 → K b v = I b v) (kl : ∀ j, j < T 1 * 8 → K (t + 6) j = I (t + 6) j) : TC K t (addV T a l m r) := by
  obtain ⟨a1, ⟨a2, a3, a4⟩, ⟨a5, a6⟩, a7, a8, a9, a10, a11⟩ := hT
  obtain ⟨h0, h1, h2, h3, -⟩ := hw.1
  obtain ⟨e7, e13, e19, e25, e31, e73⟩ := addV_at g1 a l m r
  have e1 := addV_1 (T := T) a l m r
  have g : ∀ j, (j < 7 ∨ 37 ≤ j ∧ j < 73 ∨ 121 ≤ j) → j ≠ 1 → addV T a l m r j = T j := fun j x y => addV_ne y (by omega) (by omega) (by omega) (by omega) (by omega) (by omega)
  refine ⟨fun k hk => ?_, ?_, ?_, fun v hv => ?_, fun v k hv hk => ?_, fun p hp => ?_, fun p s hp hs => ?_, fun k hk => ?_⟩
  · rw [k2 k hk]
    by_cases q : k = 1
    · subst q; rw [if_pos rfl, e1]
    · rw [if_neg q, g k (by omega) q]; exact a1 k hk
  · rw [kt 2 (by omega), kt 3 (by omega), kt 4 (by omega), g 4 (by omega) (by omega), g 5 (by omega) (by omega), g 6 (by omega) (by omega)]; exact ⟨a2, a3, a4⟩
  · rw [k5, kt 6 (by omega), e1, bst_s, bst_s, bst_congr (c := fun v => addV T a l m r (25 + v) == 1) (e := fun v => T (25 + v) == 1) (T 1) (fun i hi => by show (addV T a l m r (25 + i) == 1) = _; rw [addV_ne (by omega) (by omega) (by omega) (by omega) (by omega) (by omega) (by omega)]), bst_congr (c := fun v => addV T a l m r (31 + v) == 1) (e := fun v => T (31 + v) == 1) (T 1) (fun i hi => by show (addV T a l m r (31 + i) == 1) = _; rw [addV_ne (by omega) (by omega) (by omega) (by omega) (by omega) (by omega) (by omega)]), a6]
    constructor
    · rw [if_pos (show (addV T a l m r (25 + T 1) == 1) = true by rw [e25]; rfl)]
    · rw [if_neg (show ¬ (addV T a l m r (31 + T 1) == 1) = true by rw [e31]; simp), Nat.or_zero]
  · rw [e1] at hv
    by_cases q : v = T 1
    · subst q
      rw [k3, k4, k55, e7, e13, e19]; exact ⟨rfl, rfl, rfl⟩
    · rw [ka _ v (by omega) (by omega) (by omega), ka _ v (by omega) (by omega) (by omega), ka _ v (by omega) (by omega) (by omega), addV_ne (by omega) (by omega) (by omega) (by omega) (by omega) (by omega) (by omega), addV_ne (by omega) (by omega) (by omega) (by omega) (by omega) (by omega) (by omega), addV_ne (by omega) (by omega) (by omega) (by omega) (by omega) (by omega) (by omega)]; exact a7 v (by omega)
  · rw [e1] at hv
    by_cases q : v = T 1
    · subst q
      rw [e19] at hk
      rw [k6 k hk, e73 k (by omega)]
    · have := hw.2.1 v (by omega)
      rw [addV_ne (by omega) (by omega) (by omega) (by omega) (by omega) (by omega) (by omega)] at hk
      rw [kl _ (by omega), addV_ne (by omega) (by omega) (by omega) (by omega) (by omega) (by omega) (by omega)]; exact a8 v k (by omega) hk
  · rw [g 2 (by omega) (by omega)] at hp
    rw [ko _ (by omega) (by omega), ko _ (by omega) (by omega), ko _ (by omega) (by omega), g _ (by omega) (by omega), g _ (by omega) (by omega), g _ (by omega) (by omega)]; exact a9 p hp
  · rw [g 2 (by omega) (by omega)] at hp
    rw [ko _ (by omega) (by omega), g _ (by omega) (by omega)]; exact a10 p s hp hs
  · rw [g 3 (by omega) (by omega)] at hk
    rw [ko _ (by omega) (by omega), ko _ (by omega) (by omega), ko _ (by omega) (by omega), g _ (by omega) (by omega), g _ (by omega) (by omega), g _ (by omega) (by omega)]; exact a11 k hk
theorem TC_addS (hT : TC I t T) (hw : WF T) (g3 : T 3 < 6) {v fl ow : Nat} (k2 : ∀ k, k < 4 → K (t + 2) k = if k = 3 then nI (T 3 + 1) else I (t + 2) k) (k11 : K (t + 11) (T 3) = nI v) (k12 : K (t + 12) (T 3) = nI fl) (k13 : K (t + 13) (T 3) = nI ow) (ko : ∀ a, a ≠ t + 2 → t ≤ a → a < t + 11 → K a = I a) (ka : ∀ a p, t + 11 ≤ a → a ≤ t + 13 → p < T 3 → K a p = I a p) : TC K t (addS T v fl ow) := by
  obtain ⟨a1, ⟨a2, a3, a4⟩, ⟨a5, a6⟩, a7, a8, a9, a10, a11⟩ := hT
  obtain ⟨h0, h1, h2, h3, -⟩ := hw.1
  obtain ⟨e3, e55, e61, e67⟩ := addS_at g3 v fl ow
  have g : ∀ j, (j < 55 ∨ 73 ≤ j) → j ≠ 3 → addS T v fl ow j = T j := fun j x y => addS_ne y (by omega) (by omega) (by omega)
  refine ⟨fun k hk => ?_, ?_, ?_, fun u hu => ?_, fun u k hu hk => ?_, fun p hp => ?_, fun p s hp hs => ?_, fun k hk => ?_⟩
  · rw [k2 k hk]
    by_cases q : k = 3
    · subst q; rw [if_pos rfl, e3]
    · rw [if_neg q, g k (by omega) q]; exact a1 k hk
  · rw [ko t (by omega) (by omega) (by omega), g 4 (by omega) (by omega), g 5 (by omega) (by omega), g 6 (by omega) (by omega)]; exact ⟨a2, a3, a4⟩
  · rw [ko t (by omega) (by omega) (by omega), g 1 (by omega) (by omega), bst_congr (c := fun u => addS T v fl ow (25 + u) == 1) (e := fun u => T (25 + u) == 1) _ (fun i hi => by show (addS T v fl ow (25 + i) == 1) = _; rw [g _ (by omega) (by omega)]), bst_congr (c := fun u => addS T v fl ow (31 + u) == 1) (e := fun u => T (31 + u) == 1) _ (fun i hi => by show (addS T v fl ow (31 + i) == 1) = _; rw [g _ (by omega) (by omega)])]
    exact ⟨a5, a6⟩
  · rw [g 1 (by omega) (by omega)] at hu
    rw [ko _ (by omega) (by omega) (by omega), ko _ (by omega) (by omega) (by omega), ko _ (by omega) (by omega) (by omega), g _ (by omega) (by omega), g _ (by omega) (by omega), g _ (by omega) (by omega)]; exact a7 u hu
  · rw [g 1 (by omega) (by omega)] at hu
    rw [g _ (by omega) (by omega)] at hk
    rw [ko _ (by omega) (by omega) (by omega), g _ (by omega) (by omega)]; exact a8 u k hu hk
  · rw [g 2 (by omega) (by omega)] at hp
    rw [ko _ (by omega) (by omega) (by omega), ko _ (by omega) (by omega) (by omega), ko _ (by omega) (by omega) (by omega), g _ (by omega) (by omega), g _ (by omega) (by omega), g _ (by omega) (by omega)]; exact a9 p hp
  · rw [g 2 (by omega) (by omega)] at hp
    rw [ko _ (by omega) (by omega) (by omega), g _ (by omega) (by omega)]; exact a10 p s hp hs
  · rw [e3] at hk
    by_cases q : k = T 3
    · subst q
      rw [k11, k12, k13, e55, e61, e67]; exact ⟨rfl, rfl, rfl⟩
    · rw [ka _ k (by omega) (by omega) (by omega), ka _ k (by omega) (by omega) (by omega), ka _ k (by omega) (by omega) (by omega), addS_ne (by omega) (by omega) (by omega) (by omega), addS_ne (by omega) (by omega) (by omega) (by omega), addS_ne (by omega) (by omega) (by omega) (by omega)]; exact a11 k (by omega)
/-! the reference's cells: those that have changed -/
theorem TM_mk {c e : Nat → Int32} {U : Nat → Nat} (hT : TM c T) (h : ∀ k, k < 157 → c k = nI (T k) → e k = nI (U k)) (h7 : ∀ k, k < 7 → e k = nI (U k)) (hv : ∀ v, v < U 1 → ¬ v < T 1 → e (7 + v) = nI (U (7 + v)) ∧ e (13 + v) = nI (U (13 + v)) ∧ e (19 + v) = nI (U (19 + v)) ∧ e (25 + v) = nI (U (25 + v)) ∧ e (31 + v) = nI (U (31 + v)) ∧ ∀ k, k < U (19 + v) → e (73 + 8 * v + k) = nI (U (73 + 8 * v + k))) (hr : ∀ v, v < T 1 → v < U 1 → U (19 + v) ≤ T (19 + v)) (hp : ∀ p, p < U 2 → ¬ p < T 2 → e (37 + p) = nI (U (37 + p)) ∧ e (43 + p) = nI (U (43 + p)) ∧ e (49 + p) = nI (U (49 + p)) ∧ ∀ s, s < 6 → e (121 + 6 * p + s) = nI (U (121 + 6 * p + s))) (hs : ∀ k, k < U 3 → ¬ k < T 3 → e (55 + k) = nI (U (55 + k)) ∧ e (61 + k) = nI (U (61 + k)) ∧ e (67 + k) = nI (U (67 + k))) (hw : WF U) (hw2 : WF T) : TM e U := by
  obtain ⟨a0, a1, a2, a3, a4, a5⟩ := hT
  obtain ⟨h0, h1, h2, h3, -⟩ := hw.1
  refine ⟨h7, fun v hv1 => ?_, fun v k hv1 hk => ?_, fun p hp1 => ?_, fun p s hp1 hs1 => ?_, fun k hk => ?_⟩
  · by_cases q : v < T 1
    · obtain ⟨b1, b2, b3, b4, b5⟩ := a1 v q
      exact ⟨h _ (by omega) b1, h _ (by omega) b2, h _ (by omega) b3, h _ (by omega) b4, h _ (by omega) b5⟩
    · obtain ⟨b1, b2, b3, b4, b5, -⟩ := hv v hv1 q
      exact ⟨b1, b2, b3, b4, b5⟩
  · have := hw.2.1 v hv1
    by_cases q : v < T 1
    · have := hr v q hv1
      exact h _ (by omega) (a2 v k q (by omega))
    · exact (hv v hv1 q).2.2.2.2.2 k hk
  · by_cases q : p < T 2
    · obtain ⟨b1, b2, b3⟩ := a3 p q
      exact ⟨h _ (by omega) b1, h _ (by omega) b2, h _ (by omega) b3⟩
    · obtain ⟨b1, b2, b3, -⟩ := hp p hp1 q
      exact ⟨b1, b2, b3⟩
  · by_cases q : p < T 2
    · exact h _ (by omega) (a4 p s q hs1)
    · exact (hp p hp1 q).2.2.2 s hs1
  · by_cases q : k < T 3
    · obtain ⟨b1, b2, b3⟩ := a5 k q
      exact ⟨h _ (by omega) b1, h _ (by omega) b2, h _ (by omega) b3⟩
    · exact hs k hk q
end
