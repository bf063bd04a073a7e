/-! printed by wip/whole/ups.py: a cell of a town changes: class, reference, T -/
def up1 (T : Nat → Nat) (k x : Nat) : Nat → Nat := fun j => if j = k then x else T j
theorem up1_at (T : Nat → Nat) (k x : Nat) : up1 T k x k = x := if_pos rfl
theorem up1_ne {T : Nat → Nat} {k x j : Nat} (h : j ≠ k) : up1 T k x j = T j := if_neg h
theorem TM_up {c : Nat → Int32} {T : Nat → Nat} (hw : WF T) {k x : Nat} (hk : 4 ≤ k) (hk2 : k < 19 ∨ 25 ≤ k) (H : TM c T) : TM (upd c k (nI x)) (up1 T k x) := by
  obtain ⟨a0, a1, a2, a3, a4, a5⟩ := H
  have h1 := hw.1.2.1
  have g : ∀ i, c i = nI (T i) → upd c k (nI x) i = nI (up1 T k x i) := by
    intro i e
    by_cases q : i = k
    · rw [q, up1_at]; exact if_pos rfl
    · rw [up1_ne q, ← e]; exact if_neg q
  have e1 : up1 T k x 1 = T 1 := up1_ne (by omega)
  have e2 : up1 T k x 2 = T 2 := up1_ne (by omega)
  have e3 : up1 T k x 3 = T 3 := up1_ne (by omega)
  refine ⟨fun i hi => g i (a0 i hi), fun v hv => ?_, fun v i hv hi => ?_, fun p hp => ?_, fun p s hp hs => ?_, fun i hi => ?_⟩
  · rw [e1] at hv
    obtain ⟨b1, b2, b3, b4, b5⟩ := a1 v hv
    exact ⟨g _ b1, g _ b2, g _ b3, g _ b4, g _ b5⟩
  · rw [e1] at hv
    rw [up1_ne (by omega)] at hi
    exact g _ (a2 v i hv hi)
  · rw [e2] at hp
    obtain ⟨b1, b2, b3⟩ := a3 p hp
    exact ⟨g _ b1, g _ b2, g _ b3⟩
  · rw [e2] at hp; exact g _ (a4 p s hp hs)
  · rw [e3] at hi
    obtain ⟨b1, b2, b3⟩ := a5 i hi
    exact ⟨g _ b1, g _ b2, g _ b3⟩
theorem TC_age {I : Nat → Nat → Int32} {t : Nat} {T : Nat → Nat} (hw : WF T) {j : Nat} (hj : j < T 1) {x : Nat} (H : TC I t T) : TC (u2 I (t + 3) j (nI x)) t (up1 T (7 + j) x) := by
  obtain ⟨a1, ⟨a2, a3, a4⟩, ⟨a5, a6⟩, a7, a8, a9, a10, a11⟩ := H
  obtain ⟨h0, h1, h2, h3, -⟩ := hw.1
  have g : ∀ k, k ≠ (7 + j) → up1 T (7 + j) x k = T k := fun k hk => up1_ne hk
  have z : ∀ a, a ≠ t + 3 → u2 I (t + 3) j (nI x) a = I a := fun a ha => u2_na _ _ _ _ _ ha
  have w : ∀ k, k ≠ j → u2 I (t + 3) j (nI x) (t + 3) k = I (t + 3) k := fun k hk => u2_nk _ _ _ _ _ hk
  have y : u2 I (t + 3) j (nI x) (t + 3) j = nI x := u2_at _ _ _ _
  refine ⟨fun k hk => ?_, ⟨?_, ?_, ?_⟩, ⟨?_, ?_⟩, fun v hv => ?_, fun v k hv hk => ?_, fun p hp => ?_, fun p s hp hs => ?_, fun k hk => ?_⟩
  · rw [z _ (by omega), g k (by omega)]; exact a1 k hk
  · rw [z _ (by omega), g _ (by omega)]; exact a2
  · rw [z _ (by omega), g _ (by omega)]; exact a3
  · rw [z _ (by omega), g _ (by omega)]; exact a4
  · rw [z _ (by omega), g 1 (by omega), a5, bst_congr (c := fun v => up1 T (7 + j) x (25 + v) == 1) (e := fun v => T (25 + v) == 1) (T 1) (fun i hi => by show (up1 T (7 + j) x (25 + i) == 1) = _; rw [g _ (by omega)])]
  · rw [z _ (by omega), g 1 (by omega), a6, bst_congr (c := fun v => up1 T (7 + j) x (31 + v) == 1) (e := fun v => T (31 + v) == 1) (T 1) (fun i hi => by show (up1 T (7 + j) x (31 + i) == 1) = _; rw [g _ (by omega)])]
  · rw [g 1 (by omega)] at hv
    obtain ⟨b1, b2, b3⟩ := a7 v hv
    exact ⟨(by
      by_cases q : v = j
      · rw [q, y, up1_at]
      · rw [w _ q, g _ (by omega)]; exact b1), (by rw [z _ (by omega), g _ (by omega)]; exact b2), (by rw [z _ (by omega), g _ (by omega)]; exact b3)⟩
  · rw [g 1 (by omega)] at hv
    have h8 := hw.2.1 v hv
    rw [g _ (by omega)] at hk
    rw [z _ (by omega), g _ (by omega)]; exact a8 v k hv hk
  · rw [g 2 (by omega)] at hp
    obtain ⟨b1, b2, b3⟩ := a9 p hp
    exact ⟨(by rw [z _ (by omega), g _ (by omega)]; exact b1), (by rw [z _ (by omega), g _ (by omega)]; exact b2), (by rw [z _ (by omega), g _ (by omega)]; exact b3)⟩
  · rw [g 2 (by omega)] at hp
    rw [z _ (by omega), g _ (by omega)]; exact a10 p s hp hs
  · rw [g 3 (by omega)] at hk
    obtain ⟨b1, b2, b3⟩ := a11 k hk
    exact ⟨(by rw [z _ (by omega), g _ (by omega)]; exact b1), (by rw [z _ (by omega), g _ (by omega)]; exact b2), (by rw [z _ (by omega), g _ (by omega)]; exact b3)⟩
theorem TC_coins {I : Nat → Nat → Int32} {t : Nat} {T : Nat → Nat} (hw : WF T) {j : Nat} (hj : j < T 2) {x : Nat} (H : TC I t T) : TC (u2 I (t + 7) j (nI x)) t (up1 T (37 + j) x) := by
  obtain ⟨a1, ⟨a2, a3, a4⟩, ⟨a5, a6⟩, a7, a8, a9, a10, a11⟩ := H
  obtain ⟨h0, h1, h2, h3, -⟩ := hw.1
  have g : ∀ k, k ≠ (37 + j) → up1 T (37 + j) x k = T k := fun k hk => up1_ne hk
  have z : ∀ a, a ≠ t + 7 → u2 I (t + 7) j (nI x) a = I a := fun a ha => u2_na _ _ _ _ _ ha
  have w : ∀ k, k ≠ j → u2 I (t + 7) j (nI x) (t + 7) k = I (t + 7) k := fun k hk => u2_nk _ _ _ _ _ hk
  have y : u2 I (t + 7) j (nI x) (t + 7) j = nI x := u2_at _ _ _ _
  refine ⟨fun k hk => ?_, ⟨?_, ?_, ?_⟩, ⟨?_, ?_⟩, fun v hv => ?_, fun v k hv hk => ?_, fun p hp => ?_, fun p s hp hs => ?_, fun k hk => ?_⟩
  · rw [z _ (by omega), g k (by omega)]; exact a1 k hk
  · rw [z _ (by omega), g _ (by omega)]; exact a2
  · rw [z _ (by omega), g _ (by omega)]; exact a3
  · rw [z _ (by omega), g _ (by omega)]; exact a4
  · rw [z _ (by omega), g 1 (by omega), a5, bst_congr (c := fun v => up1 T (37 + j) x (25 + v) == 1) (e := fun v => T (25 + v) == 1) (T 1) (fun i hi => by show (up1 T (37 + j) x (25 + i) == 1) = _; rw [g _ (by omega)])]
  · rw [z _ (by omega), g 1 (by omega), a6, bst_congr (c := fun v => up1 T (37 + j) x (31 + v) == 1) (e := fun v => T (31 + v) == 1) (T 1) (fun i hi => by show (up1 T (37 + j) x (31 + i) == 1) = _; rw [g _ (by omega)])]
  · rw [g 1 (by omega)] at hv
    obtain ⟨b1, b2, b3⟩ := a7 v hv
    exact ⟨(by rw [z _ (by omega), g _ (by omega)]; exact b1), (by rw [z _ (by omega), g _ (by omega)]; exact b2), (by rw [z _ (by omega), g _ (by omega)]; exact b3)⟩
  · rw [g 1 (by omega)] at hv
    have h8 := hw.2.1 v hv
    rw [g _ (by omega)] at hk
    rw [z _ (by omega), g _ (by omega)]; exact a8 v k hv hk
  · rw [g 2 (by omega)] at hp
    obtain ⟨b1, b2, b3⟩ := a9 p hp
    exact ⟨(by
      by_cases q : p = j
      · rw [q, y, up1_at]
      · rw [w _ q, g _ (by omega)]; exact b1), (by rw [z _ (by omega), g _ (by omega)]; exact b2), (by rw [z _ (by omega), g _ (by omega)]; exact b3)⟩
  · rw [g 2 (by omega)] at hp
    rw [z _ (by omega), g _ (by omega)]; exact a10 p s hp hs
  · rw [g 3 (by omega)] at hk
    obtain ⟨b1, b2, b3⟩ := a11 k hk
    exact ⟨(by rw [z _ (by omega), g _ (by omega)]; exact b1), (by rw [z _ (by omega), g _ (by omega)]; exact b2), (by rw [z _ (by omega), g _ (by omega)]; exact b3)⟩
theorem TC_glad {I : Nat → Nat → Int32} {t : Nat} {T : Nat → Nat} (hw : WF T) {j : Nat} (hj : j < T 2) {x : Nat} (H : TC I t T) : TC (u2 I (t + 8) j (nI x)) t (up1 T (43 + j) x) := by
  obtain ⟨a1, ⟨a2, a3, a4⟩, ⟨a5, a6⟩, a7, a8, a9, a10, a11⟩ := H
  obtain ⟨h0, h1, h2, h3, -⟩ := hw.1
  have g : ∀ k, k ≠ (43 + j) → up1 T (43 + j) x k = T k := fun k hk => up1_ne hk
  have z : ∀ a, a ≠ t + 8 → u2 I (t + 8) j (nI x) a = I a := fun a ha => u2_na _ _ _ _ _ ha
  have w : ∀ k, k ≠ j → u2 I (t + 8) j (nI x) (t + 8) k = I (t + 8) k := fun k hk => u2_nk _ _ _ _ _ hk
  have y : u2 I (t + 8) j (nI x) (t + 8) j = nI x := u2_at _ _ _ _
  refine ⟨fun k hk => ?_, ⟨?_, ?_, ?_⟩, ⟨?_, ?_⟩, fun v hv => ?_, fun v k hv hk => ?_, fun p hp => ?_, fun p s hp hs => ?_, fun k hk => ?_⟩
  · rw [z _ (by omega), g k (by omega)]; exact a1 k hk
  · rw [z _ (by omega), g _ (by omega)]; exact a2
  · rw [z _ (by omega), g _ (by omega)]; exact a3
  · rw [z _ (by omega), g _ (by omega)]; exact a4
  · rw [z _ (by omega), g 1 (by omega), a5, bst_congr (c := fun v => up1 T (43 + j) x (25 + v) == 1) (e := fun v => T (25 + v) == 1) (T 1) (fun i hi => by show (up1 T (43 + j) x (25 + i) == 1) = _; rw [g _ (by omega)])]
  · rw [z _ (by omega), g 1 (by omega), a6, bst_congr (c := fun v => up1 T (43 + j) x (31 + v) == 1) (e := fun v => T (31 + v) == 1) (T 1) (fun i hi => by show (up1 T (43 + j) x (31 + i) == 1) = _; rw [g _ (by omega)])]
  · rw [g 1 (by omega)] at hv
    obtain ⟨b1, b2, b3⟩ := a7 v hv
    exact ⟨(by rw [z _ (by omega), g _ (by omega)]; exact b1), (by rw [z _ (by omega), g _ (by omega)]; exact b2), (by rw [z _ (by omega), g _ (by omega)]; exact b3)⟩
  · rw [g 1 (by omega)] at hv
    have h8 := hw.2.1 v hv
    rw [g _ (by omega)] at hk
    rw [z _ (by omega), g _ (by omega)]; exact a8 v k hv hk
  · rw [g 2 (by omega)] at hp
    obtain ⟨b1, b2, b3⟩ := a9 p hp
    exact ⟨(by rw [z _ (by omega), g _ (by omega)]; exact b1), (by
      by_cases q : p = j
      · rw [q, y, up1_at]
      · rw [w _ q, g _ (by omega)]; exact b2), (by rw [z _ (by omega), g _ (by omega)]; exact b3)⟩
  · rw [g 2 (by omega)] at hp
    rw [z _ (by omega), g _ (by omega)]; exact a10 p s hp hs
  · rw [g 3 (by omega)] at hk
    obtain ⟨b1, b2, b3⟩ := a11 k hk
    exact ⟨(by rw [z _ (by omega), g _ (by omega)]; exact b1), (by rw [z _ (by omega), g _ (by omega)]; exact b2), (by rw [z _ (by omega), g _ (by omega)]; exact b3)⟩
theorem TC_lonely {I : Nat → Nat → Int32} {t : Nat} {T : Nat → Nat} (hw : WF T) {j : Nat} (hj : j < T 2) {x : Nat} (H : TC I t T) : TC (u2 I (t + 9) j (nI x)) t (up1 T (49 + j) x) := by
  obtain ⟨a1, ⟨a2, a3, a4⟩, ⟨a5, a6⟩, a7, a8, a9, a10, a11⟩ := H
  obtain ⟨h0, h1, h2, h3, -⟩ := hw.1
  have g : ∀ k, k ≠ (49 + j) → up1 T (49 + j) x k = T k := fun k hk => up1_ne hk
  have z : ∀ a, a ≠ t + 9 → u2 I (t + 9) j (nI x) a = I a := fun a ha => u2_na _ _ _ _ _ ha
  have w : ∀ k, k ≠ j → u2 I (t + 9) j (nI x) (t + 9) k = I (t + 9) k := fun k hk => u2_nk _ _ _ _ _ hk
  have y : u2 I (t + 9) j (nI x) (t + 9) j = nI x := u2_at _ _ _ _
  refine ⟨fun k hk => ?_, ⟨?_, ?_, ?_⟩, ⟨?_, ?_⟩, fun v hv => ?_, fun v k hv hk => ?_, fun p hp => ?_, fun p s hp hs => ?_, fun k hk => ?_⟩
  · rw [z _ (by omega), g k (by omega)]; exact a1 k hk
  · rw [z _ (by omega), g _ (by omega)]; exact a2
  · rw [z _ (by omega), g _ (by omega)]; exact a3
  · rw [z _ (by omega), g _ (by omega)]; exact a4
  · rw [z _ (by omega), g 1 (by omega), a5, bst_congr (c := fun v => up1 T (49 + j) x (25 + v) == 1) (e := fun v => T (25 + v) == 1) (T 1) (fun i hi => by show (up1 T (49 + j) x (25 + i) == 1) = _; rw [g _ (by omega)])]
  · rw [z _ (by omega), g 1 (by omega), a6, bst_congr (c := fun v => up1 T (49 + j) x (31 + v) == 1) (e := fun v => T (31 + v) == 1) (T 1) (fun i hi => by show (up1 T (49 + j) x (31 + i) == 1) = _; rw [g _ (by omega)])]
  · rw [g 1 (by omega)] at hv
    obtain ⟨b1, b2, b3⟩ := a7 v hv
    exact ⟨(by rw [z _ (by omega), g _ (by omega)]; exact b1), (by rw [z _ (by omega), g _ (by omega)]; exact b2), (by rw [z _ (by omega), g _ (by omega)]; exact b3)⟩
  · rw [g 1 (by omega)] at hv
    have h8 := hw.2.1 v hv
    rw [g _ (by omega)] at hk
    rw [z _ (by omega), g _ (by omega)]; exact a8 v k hv hk
  · rw [g 2 (by omega)] at hp
    obtain ⟨b1, b2, b3⟩ := a9 p hp
    exact ⟨(by rw [z _ (by omega), g _ (by omega)]; exact b1), (by rw [z _ (by omega), g _ (by omega)]; exact b2), (by
      by_cases q : p = j
      · rw [q, y, up1_at]
      · rw [w _ q, g _ (by omega)]; exact b3)⟩
  · rw [g 2 (by omega)] at hp
    rw [z _ (by omega), g _ (by omega)]; exact a10 p s hp hs
  · rw [g 3 (by omega)] at hk
    obtain ⟨b1, b2, b3⟩ := a11 k hk
    exact ⟨(by rw [z _ (by omega), g _ (by omega)]; exact b1), (by rw [z _ (by omega), g _ (by omega)]; exact b2), (by rw [z _ (by omega), g _ (by omega)]; exact b3)⟩
theorem TC_flaw {I : Nat → Nat → Int32} {t : Nat} {T : Nat → Nat} (hw : WF T) {j : Nat} (hj : j < T 3) {x : Nat} (H : TC I t T) : TC (u2 I (t + 12) j (nI x)) t (up1 T (61 + j) x) := by
  obtain ⟨a1, ⟨a2, a3, a4⟩, ⟨a5, a6⟩, a7, a8, a9, a10, a11⟩ := H
  obtain ⟨h0, h1, h2, h3, -⟩ := hw.1
  have g : ∀ k, k ≠ (61 + j) → up1 T (61 + j) x k = T k := fun k hk => up1_ne hk
  have z : ∀ a, a ≠ t + 12 → u2 I (t + 12) j (nI x) a = I a := fun a ha => u2_na _ _ _ _ _ ha
  have w : ∀ k, k ≠ j → u2 I (t + 12) j (nI x) (t + 12) k = I (t + 12) k := fun k hk => u2_nk _ _ _ _ _ hk
  have y : u2 I (t + 12) j (nI x) (t + 12) j = nI x := u2_at _ _ _ _
  refine ⟨fun k hk => ?_, ⟨?_, ?_, ?_⟩, ⟨?_, ?_⟩, fun v hv => ?_, fun v k hv hk => ?_, fun p hp => ?_, fun p s hp hs => ?_, fun k hk => ?_⟩
  · rw [z _ (by omega), g k (by omega)]; exact a1 k hk
  · rw [z _ (by omega), g _ (by omega)]; exact a2
  · rw [z _ (by omega), g _ (by omega)]; exact a3
  · rw [z _ (by omega), g _ (by omega)]; exact a4
  · rw [z _ (by omega), g 1 (by omega), a5, bst_congr (c := fun v => up1 T (61 + j) x (25 + v) == 1) (e := fun v => T (25 + v) == 1) (T 1) (fun i hi => by show (up1 T (61 + j) x (25 + i) == 1) = _; rw [g _ (by omega)])]
  · rw [z _ (by omega), g 1 (by omega), a6, bst_congr (c := fun v => up1 T (61 + j) x (31 + v) == 1) (e := fun v => T (31 + v) == 1) (T 1) (fun i hi => by show (up1 T (61 + j) x (31 + i) == 1) = _; rw [g _ (by omega)])]
  · rw [g 1 (by omega)] at hv
    obtain ⟨b1, b2, b3⟩ := a7 v hv
    exact ⟨(by rw [z _ (by omega), g _ (by omega)]; exact b1), (by rw [z _ (by omega), g _ (by omega)]; exact b2), (by rw [z _ (by omega), g _ (by omega)]; exact b3)⟩
  · rw [g 1 (by omega)] at hv
    have h8 := hw.2.1 v hv
    rw [g _ (by omega)] at hk
    rw [z _ (by omega), g _ (by omega)]; exact a8 v k hv hk
  · rw [g 2 (by omega)] at hp
    obtain ⟨b1, b2, b3⟩ := a9 p hp
    exact ⟨(by rw [z _ (by omega), g _ (by omega)]; exact b1), (by rw [z _ (by omega), g _ (by omega)]; exact b2), (by rw [z _ (by omega), g _ (by omega)]; exact b3)⟩
  · rw [g 2 (by omega)] at hp
    rw [z _ (by omega), g _ (by omega)]; exact a10 p s hp hs
  · rw [g 3 (by omega)] at hk
    obtain ⟨b1, b2, b3⟩ := a11 k hk
    exact ⟨(by rw [z _ (by omega), g _ (by omega)]; exact b1), (by
      by_cases q : k = j
      · rw [q, y, up1_at]
      · rw [w _ q, g _ (by omega)]; exact b2), (by rw [z _ (by omega), g _ (by omega)]; exact b3)⟩
theorem TC_owner {I : Nat → Nat → Int32} {t : Nat} {T : Nat → Nat} (hw : WF T) {j : Nat} (hj : j < T 3) {x : Nat} (H : TC I t T) : TC (u2 I (t + 13) j (nI x)) t (up1 T (67 + j) x) := by
  obtain ⟨a1, ⟨a2, a3, a4⟩, ⟨a5, a6⟩, a7, a8, a9, a10, a11⟩ := H
  obtain ⟨h0, h1, h2, h3, -⟩ := hw.1
  have g : ∀ k, k ≠ (67 + j) → up1 T (67 + j) x k = T k := fun k hk => up1_ne hk
  have z : ∀ a, a ≠ t + 13 → u2 I (t + 13) j (nI x) a = I a := fun a ha => u2_na _ _ _ _ _ ha
  have w : ∀ k, k ≠ j → u2 I (t + 13) j (nI x) (t + 13) k = I (t + 13) k := fun k hk => u2_nk _ _ _ _ _ hk
  have y : u2 I (t + 13) j (nI x) (t + 13) j = nI x := u2_at _ _ _ _
  refine ⟨fun k hk => ?_, ⟨?_, ?_, ?_⟩, ⟨?_, ?_⟩, fun v hv => ?_, fun v k hv hk => ?_, fun p hp => ?_, fun p s hp hs => ?_, fun k hk => ?_⟩
  · rw [z _ (by omega), g k (by omega)]; exact a1 k hk
  · rw [z _ (by omega), g _ (by omega)]; exact a2
  · rw [z _ (by omega), g _ (by omega)]; exact a3
  · rw [z _ (by omega), g _ (by omega)]; exact a4
  · rw [z _ (by omega), g 1 (by omega), a5, bst_congr (c := fun v => up1 T (67 + j) x (25 + v) == 1) (e := fun v => T (25 + v) == 1) (T 1) (fun i hi => by show (up1 T (67 + j) x (25 + i) == 1) = _; rw [g _ (by omega)])]
  · rw [z _ (by omega), g 1 (by omega), a6, bst_congr (c := fun v => up1 T (67 + j) x (31 + v) == 1) (e := fun v => T (31 + v) == 1) (T 1) (fun i hi => by show (up1 T (67 + j) x (31 + i) == 1) = _; rw [g _ (by omega)])]
  · rw [g 1 (by omega)] at hv
    obtain ⟨b1, b2, b3⟩ := a7 v hv
    exact ⟨(by rw [z _ (by omega), g _ (by omega)]; exact b1), (by rw [z _ (by omega), g _ (by omega)]; exact b2), (by rw [z _ (by omega), g _ (by omega)]; exact b3)⟩
  · rw [g 1 (by omega)] at hv
    have h8 := hw.2.1 v hv
    rw [g _ (by omega)] at hk
    rw [z _ (by omega), g _ (by omega)]; exact a8 v k hv hk
  · rw [g 2 (by omega)] at hp
    obtain ⟨b1, b2, b3⟩ := a9 p hp
    exact ⟨(by rw [z _ (by omega), g _ (by omega)]; exact b1), (by rw [z _ (by omega), g _ (by omega)]; exact b2), (by rw [z _ (by omega), g _ (by omega)]; exact b3)⟩
  · rw [g 2 (by omega)] at hp
    rw [z _ (by omega), g _ (by omega)]; exact a10 p s hp hs
  · rw [g 3 (by omega)] at hk
    obtain ⟨b1, b2, b3⟩ := a11 k hk
    exact ⟨(by rw [z _ (by omega), g _ (by omega)]; exact b1), (by rw [z _ (by omega), g _ (by omega)]; exact b2), (by
      by_cases q : k = j
      · rw [q, y, up1_at]
      · rw [w _ q, g _ (by omega)]; exact b3)⟩
theorem TC_odds {I : Nat → Nat → Int32} {t : Nat} {T : Nat → Nat} (hw : WF T)  {x : Nat} (H : TC I t T) : TC (u2 I (t) 2 (nI x)) t (up1 T 4 x) := by
  obtain ⟨a1, ⟨a2, a3, a4⟩, ⟨a5, a6⟩, a7, a8, a9, a10, a11⟩ := H
  obtain ⟨h0, h1, h2, h3, -⟩ := hw.1
  have g : ∀ k, k ≠ 4 → up1 T 4 x k = T k := fun k hk => up1_ne hk
  have z : ∀ a, a ≠ t → u2 I (t) 2 (nI x) a = I a := fun a ha => u2_na _ _ _ _ _ ha
  have w : ∀ k, k ≠ 2 → u2 I (t) 2 (nI x) (t) k = I (t) k := fun k hk => u2_nk _ _ _ _ _ hk
  have y : u2 I (t) 2 (nI x) (t) 2 = nI x := u2_at _ _ _ _
  refine ⟨fun k hk => ?_, ⟨?_, ?_, ?_⟩, ⟨?_, ?_⟩, fun v hv => ?_, fun v k hv hk => ?_, fun p hp => ?_, fun p s hp hs => ?_, fun k hk => ?_⟩
  · rw [z _ (by omega), g k (by omega)]; exact a1 k hk
  · rw [y, up1_at]
  · rw [w _ (by omega), g _ (by omega)]; exact a3
  · rw [w _ (by omega), g _ (by omega)]; exact a4
  · rw [w _ (by omega), g 1 (by omega), a5, bst_congr (c := fun v => up1 T 4 x (25 + v) == 1) (e := fun v => T (25 + v) == 1) (T 1) (fun i hi => by show (up1 T 4 x (25 + i) == 1) = _; rw [g _ (by omega)])]
  · rw [w _ (by omega), g 1 (by omega), a6, bst_congr (c := fun v => up1 T 4 x (31 + v) == 1) (e := fun v => T (31 + v) == 1) (T 1) (fun i hi => by show (up1 T 4 x (31 + i) == 1) = _; rw [g _ (by omega)])]
  · rw [g 1 (by omega)] at hv
    obtain ⟨b1, b2, b3⟩ := a7 v hv
    exact ⟨(by rw [z _ (by omega), g _ (by omega)]; exact b1), (by rw [z _ (by omega), g _ (by omega)]; exact b2), (by rw [z _ (by omega), g _ (by omega)]; exact b3)⟩
  · rw [g 1 (by omega)] at hv
    have h8 := hw.2.1 v hv
    rw [g _ (by omega)] at hk
    rw [z _ (by omega), g _ (by omega)]; exact a8 v k hv hk
  · rw [g 2 (by omega)] at hp
    obtain ⟨b1, b2, b3⟩ := a9 p hp
    exact ⟨(by rw [z _ (by omega), g _ (by omega)]; exact b1), (by rw [z _ (by omega), g _ (by omega)]; exact b2), (by rw [z _ (by omega), g _ (by omega)]; exact b3)⟩
  · rw [g 2 (by omega)] at hp
    rw [z _ (by omega), g _ (by omega)]; exact a10 p s hp hs
  · rw [g 3 (by omega)] at hk
    obtain ⟨b1, b2, b3⟩ := a11 k hk
    exact ⟨(by rw [z _ (by omega), g _ (by omega)]; exact b1), (by rw [z _ (by omega), g _ (by omega)]; exact b2), (by rw [z _ (by omega), g _ (by omega)]; exact b3)⟩
theorem TC_hour {I : Nat → Nat → Int32} {t : Nat} {T : Nat → Nat} (hw : WF T)  {x : Nat} (H : TC I t T) : TC (u2 I (t) 3 (nI x)) t (up1 T 5 x) := by
  obtain ⟨a1, ⟨a2, a3, a4⟩, ⟨a5, a6⟩, a7, a8, a9, a10, a11⟩ := H
  obtain ⟨h0, h1, h2, h3, -⟩ := hw.1
  have g : ∀ k, k ≠ 5 → up1 T 5 x k = T k := fun k hk => up1_ne hk
  have z : ∀ a, a ≠ t → u2 I (t) 3 (nI x) a = I a := fun a ha => u2_na _ _ _ _ _ ha
  have w : ∀ k, k ≠ 3 → u2 I (t) 3 (nI x) (t) k = I (t) k := fun k hk => u2_nk _ _ _ _ _ hk
  have y : u2 I (t) 3 (nI x) (t) 3 = nI x := u2_at _ _ _ _
  refine ⟨fun k hk => ?_, ⟨?_, ?_, ?_⟩, ⟨?_, ?_⟩, fun v hv => ?_, fun v k hv hk => ?_, fun p hp => ?_, fun p s hp hs => ?_, fun k hk => ?_⟩
  · rw [z _ (by omega), g k (by omega)]; exact a1 k hk
  · rw [w _ (by omega), g _ (by omega)]; exact a2
  · rw [y, up1_at]
  · rw [w _ (by omega), g _ (by omega)]; exact a4
  · rw [w _ (by omega), g 1 (by omega), a5, bst_congr (c := fun v => up1 T 5 x (25 + v) == 1) (e := fun v => T (25 + v) == 1) (T 1) (fun i hi => by show (up1 T 5 x (25 + i) == 1) = _; rw [g _ (by omega)])]
  · rw [w _ (by omega), g 1 (by omega), a6, bst_congr (c := fun v => up1 T 5 x (31 + v) == 1) (e := fun v => T (31 + v) == 1) (T 1) (fun i hi => by show (up1 T 5 x (31 + i) == 1) = _; rw [g _ (by omega)])]
  · rw [g 1 (by omega)] at hv
    obtain ⟨b1, b2, b3⟩ := a7 v hv
    exact ⟨(by rw [z _ (by omega), g _ (by omega)]; exact b1), (by rw [z _ (by omega), g _ (by omega)]; exact b2), (by rw [z _ (by omega), g _ (by omega)]; exact b3)⟩
  · rw [g 1 (by omega)] at hv
    have h8 := hw.2.1 v hv
    rw [g _ (by omega)] at hk
    rw [z _ (by omega), g _ (by omega)]; exact a8 v k hv hk
  · rw [g 2 (by omega)] at hp
    obtain ⟨b1, b2, b3⟩ := a9 p hp
    exact ⟨(by rw [z _ (by omega), g _ (by omega)]; exact b1), (by rw [z _ (by omega), g _ (by omega)]; exact b2), (by rw [z _ (by omega), g _ (by omega)]; exact b3)⟩
  · rw [g 2 (by omega)] at hp
    rw [z _ (by omega), g _ (by omega)]; exact a10 p s hp hs
  · rw [g 3 (by omega)] at hk
    obtain ⟨b1, b2, b3⟩ := a11 k hk
    exact ⟨(by rw [z _ (by omega), g _ (by omega)]; exact b1), (by rw [z _ (by omega), g _ (by omega)]; exact b2), (by rw [z _ (by omega), g _ (by omega)]; exact b3)⟩
theorem TC_year {I : Nat → Nat → Int32} {t : Nat} {T : Nat → Nat} (hw : WF T)  {x : Nat} (H : TC I t T) : TC (u2 I (t) 4 (nI x)) t (up1 T 6 x) := by
  obtain ⟨a1, ⟨a2, a3, a4⟩, ⟨a5, a6⟩, a7, a8, a9, a10, a11⟩ := H
  obtain ⟨h0, h1, h2, h3, -⟩ := hw.1
  have g : ∀ k, k ≠ 6 → up1 T 6 x k = T k := fun k hk => up1_ne hk
  have z : ∀ a, a ≠ t → u2 I (t) 4 (nI x) a = I a := fun a ha => u2_na _ _ _ _ _ ha
  have w : ∀ k, k ≠ 4 → u2 I (t) 4 (nI x) (t) k = I (t) k := fun k hk => u2_nk _ _ _ _ _ hk
  have y : u2 I (t) 4 (nI x) (t) 4 = nI x := u2_at _ _ _ _
  refine ⟨fun k hk => ?_, ⟨?_, ?_, ?_⟩, ⟨?_, ?_⟩, fun v hv => ?_, fun v k hv hk => ?_, fun p hp => ?_, fun p s hp hs => ?_, fun k hk => ?_⟩
  · rw [z _ (by omega), g k (by omega)]; exact a1 k hk
  · rw [w _ (by omega), g _ (by omega)]; exact a2
  · rw [w _ (by omega), g _ (by omega)]; exact a3
  · rw [y, up1_at]
  · rw [w _ (by omega), g 1 (by omega), a5, bst_congr (c := fun v => up1 T 6 x (25 + v) == 1) (e := fun v => T (25 + v) == 1) (T 1) (fun i hi => by show (up1 T 6 x (25 + i) == 1) = _; rw [g _ (by omega)])]
  · rw [w _ (by omega), g 1 (by omega), a6, bst_congr (c := fun v => up1 T 6 x (31 + v) == 1) (e := fun v => T (31 + v) == 1) (T 1) (fun i hi => by show (up1 T 6 x (31 + i) == 1) = _; rw [g _ (by omega)])]
  · rw [g 1 (by omega)] at hv
    obtain ⟨b1, b2, b3⟩ := a7 v hv
    exact ⟨(by rw [z _ (by omega), g _ (by omega)]; exact b1), (by rw [z _ (by omega), g _ (by omega)]; exact b2), (by rw [z _ (by omega), g _ (by omega)]; exact b3)⟩
  · rw [g 1 (by omega)] at hv
    have h8 := hw.2.1 v hv
    rw [g _ (by omega)] at hk
    rw [z _ (by omega), g _ (by omega)]; exact a8 v k hv hk
  · rw [g 2 (by omega)] at hp
    obtain ⟨b1, b2, b3⟩ := a9 p hp
    exact ⟨(by rw [z _ (by omega), g _ (by omega)]; exact b1), (by rw [z _ (by omega), g _ (by omega)]; exact b2), (by rw [z _ (by omega), g _ (by omega)]; exact b3)⟩
  · rw [g 2 (by omega)] at hp
    rw [z _ (by omega), g _ (by omega)]; exact a10 p s hp hs
  · rw [g 3 (by omega)] at hk
    obtain ⟨b1, b2, b3⟩ := a11 k hk
    exact ⟨(by rw [z _ (by omega), g _ (by omega)]; exact b1), (by rw [z _ (by omega), g _ (by omega)]; exact b2), (by rw [z _ (by omega), g _ (by omega)]; exact b3)⟩
theorem TC_like {I : Nat → Nat → Int32} {t : Nat} {T : Nat → Nat} (hw : WF T) {p s : Nat} (hp0 : p < T 2) (hs0 : s < 6) {x : Nat} (H : TC I t T) : TC (u2 I (t + 10) (p * 6 + s) (nI x)) t (up1 T (121 + 6 * p + s) x) := by
  obtain ⟨a1, ⟨a2, a3, a4⟩, ⟨a5, a6⟩, a7, a8, a9, a10, a11⟩ := H
  obtain ⟨h0, h1, h2, h3, -⟩ := hw.1
  have g : ∀ k, k ≠ (121 + 6 * p + s) → up1 T (121 + 6 * p + s) x k = T k := fun k hk => up1_ne hk
  have z : ∀ a, a ≠ t + 10 → u2 I (t + 10) (p * 6 + s) (nI x) a = I a := fun a ha => u2_na _ _ _ _ _ ha
  have w : ∀ k, k ≠ (p * 6 + s) → u2 I (t + 10) (p * 6 + s) (nI x) (t + 10) k = I (t + 10) k := fun k hk => u2_nk _ _ _ _ _ hk
  have y : u2 I (t + 10) (p * 6 + s) (nI x) (t + 10) (p * 6 + s) = nI x := u2_at _ _ _ _
  refine ⟨fun k hk => ?_, ⟨?_, ?_, ?_⟩, ⟨?_, ?_⟩, fun v hv => ?_, fun v k hv hk => ?_, fun p hp => ?_, fun p2 s2 hp hs => ?_, fun k hk => ?_⟩
  · rw [z _ (by omega), g k (by omega)]; exact a1 k hk
  · rw [z _ (by omega), g _ (by omega)]; exact a2
  · rw [z _ (by omega), g _ (by omega)]; exact a3
  · rw [z _ (by omega), g _ (by omega)]; exact a4
  · rw [z _ (by omega), g 1 (by omega), a5, bst_congr (c := fun v => up1 T (121 + 6 * p + s) x (25 + v) == 1) (e := fun v => T (25 + v) == 1) (T 1) (fun i hi => by show (up1 T (121 + 6 * p + s) x (25 + i) == 1) = _; rw [g _ (by omega)])]
  · rw [z _ (by omega), g 1 (by omega), a6, bst_congr (c := fun v => up1 T (121 + 6 * p + s) x (31 + v) == 1) (e := fun v => T (31 + v) == 1) (T 1) (fun i hi => by show (up1 T (121 + 6 * p + s) x (31 + i) == 1) = _; rw [g _ (by omega)])]
  · rw [g 1 (by omega)] at hv
    obtain ⟨b1, b2, b3⟩ := a7 v hv
    exact ⟨(by rw [z _ (by omega), g _ (by omega)]; exact b1), (by rw [z _ (by omega), g _ (by omega)]; exact b2), (by rw [z _ (by omega), g _ (by omega)]; exact b3)⟩
  · rw [g 1 (by omega)] at hv
    have h8 := hw.2.1 v hv
    rw [g _ (by omega)] at hk
    rw [z _ (by omega), g _ (by omega)]; exact a8 v k hv hk
  · rw [g 2 (by omega)] at hp
    obtain ⟨b1, b2, b3⟩ := a9 p hp
    exact ⟨(by rw [z _ (by omega), g _ (by omega)]; exact b1), (by rw [z _ (by omega), g _ (by omega)]; exact b2), (by rw [z _ (by omega), g _ (by omega)]; exact b3)⟩
  · rw [g 2 (by omega)] at hp
    by_cases q : p2 * 6 + s2 = p * 6 + s
    · rw [q, y, show 121 + 6 * p2 + s2 = 121 + 6 * p + s by omega, up1_at]
    · rw [w _ q, g _ (by omega)]; exact a10 p2 s2 hp hs
  · rw [g 3 (by omega)] at hk
    obtain ⟨b1, b2, b3⟩ := a11 k hk
    exact ⟨(by rw [z _ (by omega), g _ (by omega)]; exact b1), (by rw [z _ (by omega), g _ (by omega)]; exact b2), (by rw [z _ (by omega), g _ (by omega)]; exact b3)⟩
theorem TC_living {I : Nat → Nat → Int32} {t : Nat} {T : Nat → Nat} (hw : WF T) {j x : Nat} {y : Int32} (hj : j < T 1) (hy : y = nI (bst (fun v => up1 T (25 + j) x (25 + v) == 1) (T 1))) (H : TC I t T) : TC (u2 I t 5 y) t (up1 T (25 + j) x) := by
  obtain ⟨a1, ⟨a2, a3, a4⟩, ⟨a5, a6⟩, a7, a8, a9, a10, a11⟩ := H
  obtain ⟨h0, h1, h2, h3, -⟩ := hw.1
  have g : ∀ k, k ≠ 25 + j → up1 T (25 + j) x k = T k := fun k hk => up1_ne hk
  have z : ∀ a, a ≠ t → u2 I t 5 y a = I a := fun a ha => u2_na _ _ _ _ _ ha
  have w : ∀ k, k ≠ 5 → u2 I t 5 y t k = I t k := fun k hk => u2_nk _ _ _ _ _ hk
  have l5 : u2 I t 5 y t 5 = nI (bst (fun v => up1 T (25 + j) x (25 + v) == 1) (up1 T (25 + j) x 1)) := by rw [u2_at, hy, g 1 (by omega)]
  have l6 : u2 I t 5 y t 6 = nI (bst (fun v => up1 T (25 + j) x (31 + v) == 1) (up1 T (25 + j) x 1)) := by
    rw [w _ (by omega), g 1 (by omega), a6, bst_congr (c := fun v => up1 T (25 + j) x (31 + v) == 1) (e := fun v => T (31 + v) == 1) (T 1) (fun i hi => by show (up1 T (25 + j) x (31 + i) == 1) = _; rw [g _ (by omega)])]
  refine ⟨fun k hk => ?_, ⟨?_, ?_, ?_⟩, ⟨l5, l6⟩, fun v hv => ?_, fun v k hv hk => ?_, fun p hp => ?_, fun p s hp hs => ?_, fun k hk => ?_⟩
  · rw [z _ (by omega), g k (by omega)]; exact a1 k hk
  · rw [w _ (by omega), g _ (by omega)]; exact a2
  · rw [w _ (by omega), g _ (by omega)]; exact a3
  · rw [w _ (by omega), g _ (by omega)]; exact a4
  · rw [g 1 (by omega)] at hv
    obtain ⟨b1, b2, b3⟩ := a7 v hv
    exact ⟨(by rw [z _ (by omega), g _ (by omega)]; exact b1), (by rw [z _ (by omega), g _ (by omega)]; exact b2), (by rw [z _ (by omega), g _ (by omega)]; exact b3)⟩
  · rw [g 1 (by omega)] at hv
    have h8 := hw.2.1 v hv
    rw [g _ (by omega)] at hk
    rw [z _ (by omega), g _ (by omega)]; exact a8 v k hv hk
  · rw [g 2 (by omega)] at hp
    obtain ⟨b1, b2, b3⟩ := a9 p hp
    exact ⟨(by rw [z _ (by omega), g _ (by omega)]; exact b1), (by rw [z _ (by omega), g _ (by omega)]; exact b2), (by rw [z _ (by omega), g _ (by omega)]; exact b3)⟩
  · rw [g 2 (by omega)] at hp
    rw [z _ (by omega), g _ (by omega)]; exact a10 p s hp hs
  · rw [g 3 (by omega)] at hk
    obtain ⟨b1, b2, b3⟩ := a11 k hk
    exact ⟨(by rw [z _ (by omega), g _ (by omega)]; exact b1), (by rw [z _ (by omega), g _ (by omega)]; exact b2), (by rw [z _ (by omega), g _ (by omega)]; exact b3)⟩
theorem TC_colds {I : Nat → Nat → Int32} {t : Nat} {T : Nat → Nat} (hw : WF T) {j x : Nat} {y : Int32} (hj : j < T 1) (hy : y = nI (bst (fun v => up1 T (31 + j) x (31 + v) == 1) (T 1))) (H : TC I t T) : TC (u2 I t 6 y) t (up1 T (31 + j) x) := by
  obtain ⟨a1, ⟨a2, a3, a4⟩, ⟨a5, a6⟩, a7, a8, a9, a10, a11⟩ := H
  obtain ⟨h0, h1, h2, h3, -⟩ := hw.1
  have g : ∀ k, k ≠ 31 + j → up1 T (31 + j) x k = T k := fun k hk => up1_ne hk
  have z : ∀ a, a ≠ t → u2 I t 6 y a = I a := fun a ha => u2_na _ _ _ _ _ ha
  have w : ∀ k, k ≠ 6 → u2 I t 6 y t k = I t k := fun k hk => u2_nk _ _ _ _ _ hk
  have l5 : u2 I t 6 y t 6 = nI (bst (fun v => up1 T (31 + j) x (31 + v) == 1) (up1 T (31 + j) x 1)) := by rw [u2_at, hy, g 1 (by omega)]
  have l6 : u2 I t 6 y t 5 = nI (bst (fun v => up1 T (31 + j) x (25 + v) == 1) (up1 T (31 + j) x 1)) := by
    rw [w _ (by omega), g 1 (by omega), a5, bst_congr (c := fun v => up1 T (31 + j) x (25 + v) == 1) (e := fun v => T (25 + v) == 1) (T 1) (fun i hi => by show (up1 T (31 + j) x (25 + i) == 1) = _; rw [g _ (by omega)])]
  refine ⟨fun k hk => ?_, ⟨?_, ?_, ?_⟩, ⟨l6, l5⟩, fun v hv => ?_, fun v k hv hk => ?_, fun p hp => ?_, fun p s hp hs => ?_, fun k hk => ?_⟩
  · rw [z _ (by omega), g k (by omega)]; exact a1 k hk
  · rw [w _ (by omega), g _ (by omega)]; exact a2
  · rw [w _ (by omega), g _ (by omega)]; exact a3
  · rw [w _ (by omega), g _ (by omega)]; exact a4
  · rw [g 1 (by omega)] at hv
    obtain ⟨b1, b2, b3⟩ := a7 v hv
    exact ⟨(by rw [z _ (by omega), g _ (by omega)]; exact b1), (by rw [z _ (by omega), g _ (by omega)]; exact b2), (by rw [z _ (by omega), g _ (by omega)]; exact b3)⟩
  · rw [g 1 (by omega)] at hv
    have h8 := hw.2.1 v hv
    rw [g _ (by omega)] at hk
    rw [z _ (by omega), g _ (by omega)]; exact a8 v k hv hk
  · rw [g 2 (by omega)] at hp
    obtain ⟨b1, b2, b3⟩ := a9 p hp
    exact ⟨(by rw [z _ (by omega), g _ (by omega)]; exact b1), (by rw [z _ (by omega), g _ (by omega)]; exact b2), (by rw [z _ (by omega), g _ (by omega)]; exact b3)⟩
  · rw [g 2 (by omega)] at hp
    rw [z _ (by omega), g _ (by omega)]; exact a10 p s hp hs
  · rw [g 3 (by omega)] at hk
    obtain ⟨b1, b2, b3⟩ := a11 k hk
    exact ⟨(by rw [z _ (by omega), g _ (by omega)]; exact b1), (by rw [z _ (by omega), g _ (by omega)]; exact b2), (by rw [z _ (by omega), g _ (by omega)]; exact b3)⟩
theorem WF_up {T : Nat → Nat} (hw : WF T) {k x : Nat} (hk : 4 ≤ k) (hk2 : k < 19 ∨ 25 ≤ k) (hk3 : k < 73 ∨ 121 ≤ k) (c5 : k = 5 → x ≤ 9999)
    (c4 : k = 4 → x ≤ 16) (c6 : k = 6 → x ≤ 999) (cv : ∀ v, v < T 1 → (k = 7 + v → x ≤ 120 ∧ (T (25 + v) = 1 → x ≤ 119)) ∧ (k = 13 + v → x ≤ 120) ∧ (k = 25 + v → x = 0) ∧ (k = 31 + v → x ≤ 1))
    (cp : ∀ p, p < T 2 → (k = 37 + p → x ≤ 9999) ∧ (k = 43 + p → x ≤ 600000) ∧ (k = 49 + p → x ≤ 20000)) (cl : ∀ p s, p < T 2 → s < 6 → k = 121 + 6 * p + s → x ≤ 9)
    (cs : ∀ i, i < T 3 → (k = 55 + i → x < T 1) ∧ (k = 61 + i → x < T 1 ∨ x = 4294967295) ∧ (k = 67 + i → x < T 2 ∨ x = 4294967295)) : WF (up1 T k x) := by
  obtain ⟨⟨h0, h1, h2, h3, h4, h5, h6⟩, wv, wr, wp, wl, ws⟩ := hw
  have e0 : up1 T k x 0 = T 0 := up1_ne (by omega)
  have e1 : up1 T k x 1 = T 1 := up1_ne (by omega)
  have e2 : up1 T k x 2 = T 2 := up1_ne (by omega)
  have e3 : up1 T k x 3 = T 3 := up1_ne (by omega)
  have g : ∀ j, (j = k ∧ up1 T k x j = x) ∨ (j ≠ k ∧ up1 T k x j = T j) := by
    intro j
    by_cases q : j = k
    · exact Or.inl ⟨q, by rw [q, up1_at]⟩
    · exact Or.inr ⟨q, up1_ne q⟩
  refine ⟨⟨by omega, by omega, by omega, by omega, ?_, ?_, ?_⟩, fun v hv => ?_, fun v i hv hi => ?_, fun p hp => ?_, fun p s hp hs => ?_, fun i hi => ?_⟩
  · have := g 4; omega
  · have := g 5; omega
  · have := g 6; omega
  · rw [e1] at hv
    have a1 := wv v hv
    obtain ⟨b1, b2, b3, b4⟩ := cv v hv
    have g7 := g (7 + v); have g13 := g (13 + v); have g19 := g (19 + v); have g25 := g (25 + v); have g31 := g (31 + v)
    omega
  · rw [e1] at hv
    have a1 := wv v hv
    rw [up1_ne (by omega)] at hi
    rw [e0, up1_ne (by omega)]; exact wr v i hv hi
  · rw [e2] at hp
    have a1 := wp p hp
    obtain ⟨b1, b2, b3⟩ := cp p hp
    have g7 := g (37 + p); have g13 := g (43 + p); have g19 := g (49 + p)
    omega
  · rw [e2] at hp
    have a1 := wl p s hp hs
    have b1 := cl p s hp hs
    have g7 := g (121 + 6 * p + s)
    omega
  · rw [e3] at hi
    have a1 := ws i hi
    obtain ⟨b1, b2, b3⟩ := cs i hi
    have g7 := g (55 + i); have g13 := g (61 + i); have g19 := g (67 + i)
    rw [e1, e2]; omega
theorem DS_congr {w f g n : Nat → Int32} {T U : Nat → Nat} (h : ∀ k, k < 4 ∨ 157 ≤ k → U k = T k) {s p : Nat} (H : DS w f g n T s p) : DS w f g n U s p := by
  unfold DS at H ⊢
  rw [h 1 (by omega), h 2 (by omega), h 3 (by omega), h (159 + 9 * s) (by omega), h (160 + 9 * s) (by omega), h (161 + 9 * s) (by omega), h (162 + 9 * s) (by omega)]
  exact H
theorem DB_congr {w f g n : Nat → Int32} {T U : Nat → Nat} (h : ∀ k, k < 4 ∨ 157 ≤ k → U k = T k) {s p : Nat} (H : DB w f g n T s p) : DB w f g n U s p := by
  unfold DB at H ⊢
  rw [h 1 (by omega), h 2 (by omega), h 3 (by omega), h (159 + 9 * s) (by omega), h (160 + 9 * s) (by omega), h (161 + 9 * s) (by omega), h (165 + 9 * s) (by omega), h (166 + 9 * s) (by omega)]
  exact H
theorem DL_congr {w f g n m : Nat → Int32} {T U : Nat → Nat} (h : ∀ k, k < 4 ∨ 157 ≤ k → U k = T k) : ∀ k s e p q, DL w f g n m T k s e p q → DL w f g n m U k s e p q := by
  intro k
  induction k with
  | zero => intro s e p q H; exact H
  | succ k ih =>
    intro s e p q H
    simp only [DL] at H ⊢
    rw [h (167 + 9 * s) (by omega)]
    rcases H with H | ⟨a1, a2, a3, a4, a5⟩ | ⟨a1, z, a2, a3, a4, a5, a6, a7, a8, a9, a10, a11⟩
    · exact Or.inl H
    · exact Or.inr (Or.inl ⟨a1, a2, DS_congr h a3, a4, ih _ _ _ _ a5⟩)
    · exact Or.inr (Or.inr ⟨a1, z, a2, a3, DB_congr h a4, a5, a6, a7, a8, a9, ih _ _ _ _ a10, ih _ _ _ _ a11⟩)
theorem DC_congr {I : Nat → Nat → Int32} {t : Nat} {T U : Nat → Nat} (h : ∀ k, k < 4 ∨ 157 ≤ k → U k = T k) (H : DC I t T) : DC I t U := by
  obtain ⟨a1, a2, a3, a4, sz, a5, a6, a7⟩ := H
  unfold DC
  rw [h 157 (by omega), h 158 (by omega)]
  exact ⟨a1, a2, a3, a4, sz, a5, a6, fun e => DL_congr h _ _ _ _ _ (a7 e)⟩
theorem DM_congrT {c : Nat → Int32} {T U : Nat → Nat} (h : ∀ k, k < 4 ∨ 157 ≤ k → U k = T k) (H : DM c T) : DM c U := by
  obtain ⟨a1, a2, a3⟩ := H
  unfold DM
  rw [h 157 (by omega), h 158 (by omega)]
  exact ⟨a1, a2, fun k hk => by rw [h (159 + k) (by omega)]; exact a3 k hk⟩
theorem NM_congrT {f g : Nat → Int64} {T U : Nat → Nat} (h : ∀ k, k < 4 ∨ 157 ≤ k → U k = T k) (H : NM f g T) : NM f g U := by
  intro k i hk hi
  rw [h k (by omega)] at hi
  exact H k i hk hi
theorem GB_up {T : Nat → Nat} {k x : Nat} (h : k ≠ 2) (h1 : k ≠ 5) (h2 : k < 43 ∨ 55 ≤ k) (h6 : T 2 ≤ 6) (H : GB T) : GB (up1 T k x) := by
  intro p hp
  rw [up1_ne (by omega)] at hp
  rw [up1_ne (by omega), up1_ne (by omega), up1_ne (by omega)]
  exact H p hp
/-- the town that is here changes in class and reference alike -/
theorem TB_up {I M : Nat → Nat → Int32} {J : Nat → Nat → Int64} {t : Nat} {T U : Nat → Nat} (H : TB I J t 0 T) (h : ∀ k, k < 4 ∨ 157 ≤ k → U k = T k) (hw : WF U) (hg : GB U) (h1 : TC M t U) (h2 : TM (M 140) U) (h3 : ∀ a, t + 14 ≤ a → a < t + 20 → M a = I a) (h4 : ∀ k, 157 ≤ k → k < 429 → M 140 k = I 140 k) : TB M J t 0 U := by
  obtain ⟨-, -, -, c1, c2, c3⟩ := H
  refine ⟨hw, h1, TM_0.mpr h2, DC_frame h3 (DC_congr h c1), ?_, NM_congrT h c3.1, hg⟩
  have hn : U 158 ≤ 30 := by rw [h 158 (by omega)]; exact c1.2.2.2.1
  refine DM_congr (c := fun k => I 140 (429 * 0 + k)) hn (fun k a b => ?_) (DM_congrT h c2)
  show M 140 (429 * 0 + k) = I 140 (429 * 0 + k)
  rw [show 429 * 0 + k = k by omega]; exact h4 k a b
