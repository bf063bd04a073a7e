/-! THE LAW: each call, class then reference -/
/-- the law's run from pc on, at place i of the script -/
def LR (N d n pc : Nat) (X : lt_X) (I : Nat → Nat → Int32) (J : Nat → Nat → Int64) (i : Nat) : am_O := am_run (am_G am_prog (N + 30) (d + 40 + 40)) eL_law uL_law n pc [(0, .ref 1), (1, .ref 3), (2, .ref 135), (3, .int (nI i))] [] (mkh X I J)
def LC (xs : Nat → Int32) (N d n i : Nat) (X : lt_X) (A : am_O) : Prop := ∃ (m : Nat) (X2 : lt_X) (I2 : Nat → Nat → Int32) (J2 : Nat → Nat → Int64), n ≤ m ∧ INV xs X2 I2 J2 ∧ X2.1 = X.1 ∧ A = LR N d (m + 1) 1979 X2 I2 J2 i
theorem LC_if {xs : Nat → Int32} {N d n i : Nat} {X : lt_X} {A B : am_O} {c : Prop} [Decidable c] (h1 : LC xs N d n i X A) (h2 : LC xs N d n i X B) : LC xs N d n i X (if c then A else B) := by
  by_cases q : c
  · rw [if_pos q]; exact h1
  · rw [if_neg q]; exact h2
theorem lg_cmp_self (x : Int64) : lg_cmp x x = 0 := by
  unfold lg_cmp
  rw [if_neg (fun h => absurd h (by rw [gt_iff_lt, Int64.lt_iff_toInt_lt]; omega)), if_pos rfl]
theorem cL_some' (x : Int64) (h : am_H) (f : Int64 → am_H → am_O) : am_cL (some (.long x, h)) f = f x h := rfl
theorem l_r1 {X : lt_X} {I : Nat → Nat → Int32} {J : Nat → Nat → Int64} {i : Nat} {f : Int32 → am_O} (hi : i + 6 ≤ X.1) (hL : X.1 ≤ 3072) : am_lI (mkh X I J) 21 1 (nI i + (1 : Int32)) f = f (I 1 (i + 1)) := by
  rw [show (1 : Int32) = nI 1 from rfl, nI_add]
  exact lI_mk rfl (by omega) (by omega)
theorem l_r2 {X : lt_X} {I : Nat → Nat → Int32} {J : Nat → Nat → Int64} {i : Nat} {f : Int32 → am_O} (hi : i + 6 ≤ X.1) (hL : X.1 ≤ 3072) : am_lI (mkh X I J) 21 1 (nI i + (2 : Int32)) f = f (I 1 (i + 2)) := by
  rw [show (2 : Int32) = nI 2 from rfl, nI_add]
  exact lI_mk rfl (by omega) (by omega)
theorem l_r3 {X : lt_X} {I : Nat → Nat → Int32} {J : Nat → Nat → Int64} {i : Nat} {f : Int32 → am_O} (hi : i + 6 ≤ X.1) (hL : X.1 ≤ 3072) : am_lI (mkh X I J) 21 1 (nI i + (3 : Int32)) f = f (I 1 (i + 3)) := by
  rw [show (3 : Int32) = nI 3 from rfl, nI_add]
  exact lI_mk rfl (by omega) (by omega)
theorem l_r4 {X : lt_X} {I : Nat → Nat → Int32} {J : Nat → Nat → Int64} {i : Nat} {f : Int32 → am_O} (hi : i + 6 ≤ X.1) (hL : X.1 ≤ 3072) : am_lI (mkh X I J) 21 1 (nI i + (4 : Int32)) f = f (I 1 (i + 4)) := by
  rw [show (4 : Int32) = nI 4 from rfl, nI_add]
  exact lI_mk rfl (by omega) (by omega)
theorem l_r5 {X : lt_X} {I : Nat → Nat → Int32} {J : Nat → Nat → Int64} {i : Nat} {f : Int32 → am_O} (hi : i + 6 ≤ X.1) (hL : X.1 ≤ 3072) : am_lI (mkh X I J) 21 1 (nI i + (5 : Int32)) f = f (I 1 (i + 5)) := by
  rw [show (5 : Int32) = nI 5 from rfl, nI_add]
  exact lI_mk rfl (by omega) (by omega)
theorem lc_272 {xs : Nat → Int32} {N d : Nat} {X : lt_X} {I : Nat → Nat → Int32} {J : Nat → Nat → Int64} {i : Nat} (H : INV xs X I J) (hN : 100000 ≤ N) (hi : i + 6 ≤ X.1) (hL : X.1 ≤ 3072) (n : Nat) : LC xs N d n i X (LR N d (n + 3) 272 X I J i) := by
  obtain ⟨v, X1, I1, J1, X2, I2, J2, e1, e2, hI, hx⟩ := p_status (d := d + 40) H hN 
  obtain ⟨r, rfl⟩ := am_v0 mX8_status rfl (by decide +kernel) e1
  obtain ⟨s1, s2⟩ := am_scr_mkh (by omega) e1
  refine ⟨n + 1, X2, I2, J2, by omega, hI, hx, ?_⟩
  refine (rL_law_272 _ _ _ _ _ _ _).trans ?_
  unfold BL_law_272
  rw [e1, cI_some, e2, cI_some, if_pos rfl]
  rfl
theorem lc_285 {xs : Nat → Int32} {N d : Nat} {X : lt_X} {I : Nat → Nat → Int32} {J : Nat → Nat → Int64} {i : Nat} (H : INV xs X I J) (hN : 100000 ≤ N) (hi : i + 6 ≤ X.1) (hL : X.1 ≤ 3072) (n : Nat) : LC xs N d n i X (LR N d (n + 3) 285 X I J i) := by
  obtain ⟨v, X1, I1, J1, X2, I2, J2, e1, e2, hI, hx⟩ := p_top (d := d + 40) H hN 
  obtain ⟨r, rfl⟩ := am_v1 mX8_top rfl (by decide +kernel) e1
  obtain ⟨s1, s2⟩ := am_scr_mkh (by omega) e1
  refine ⟨n + 1, X2, I2, J2, by omega, hI, hx, ?_⟩
  refine (rL_law_285 _ _ _ _ _ _ _).trans ?_
  unfold BL_law_285
  rw [e1, cL_some', e2, cL_some', lg_cmp_self, if_pos rfl]
  rfl
theorem lc_299 {xs : Nat → Int32} {N d : Nat} {X : lt_X} {I : Nat → Nat → Int32} {J : Nat → Nat → Int64} {i : Nat} (H : INV xs X I J) (hN : 100000 ≤ N) (hi : i + 6 ≤ X.1) (hL : X.1 ≤ 3072) (n : Nat) : LC xs N d n i X (LR N d (n + 3) 299 X I J i) := by
  obtain ⟨v, X1, I1, J1, X2, I2, J2, e1, e2, hI, hx⟩ := p_bottom (d := d + 40) H hN 
  obtain ⟨r, rfl⟩ := am_v1 mX8_bottom rfl (by decide +kernel) e1
  obtain ⟨s1, s2⟩ := am_scr_mkh (by omega) e1
  refine ⟨n + 1, X2, I2, J2, by omega, hI, hx, ?_⟩
  refine (rL_law_299 _ _ _ _ _ _ _).trans ?_
  unfold BL_law_299
  rw [e1, cL_some', e2, cL_some', lg_cmp_self, if_pos rfl]
  rfl
theorem lc_313 {xs : Nat → Int32} {N d : Nat} {X : lt_X} {I : Nat → Nat → Int32} {J : Nat → Nat → Int64} {i : Nat} (H : INV xs X I J) (hN : 100000 ≤ N) (hi : i + 6 ≤ X.1) (hL : X.1 ≤ 3072) (n : Nat) : LC xs N d n i X (LR N d (n + 3) 313 X I J i) := by
  obtain ⟨v, X1, I1, J1, X2, I2, J2, e1, e2, hI, hx⟩ := p_tray (d := d + 40) H hN (I 1 (i + 1)) (I 1 (i + 2)) (I 1 (i + 3))
  obtain ⟨r, rfl⟩ := am_v0 mX8_tray rfl (by decide +kernel) e1
  obtain ⟨s1, s2⟩ := am_scr_mkh (by omega) e1
  refine ⟨n + 1, X2, I2, J2, by omega, hI, hx, ?_⟩
  refine (rL_law_313 _ _ _ _ _ _ _).trans ?_
  unfold BL_law_313
  rw [l_r1 hi hL, l_r2 hi hL, l_r3 hi hL, e1, cI_some, l_r1 (by rw [s1]; exact hi) (by rw [s1]; exact hL), l_r2 (by rw [s1]; exact hi) (by rw [s1]; exact hL), l_r3 (by rw [s1]; exact hi) (by rw [s1]; exact hL), s2, e2, cI_some, if_pos rfl]
  rfl
theorem lc_356 {xs : Nat → Int32} {N d : Nat} {X : lt_X} {I : Nat → Nat → Int32} {J : Nat → Nat → Int64} {i : Nat} (H : INV xs X I J) (hN : 100000 ≤ N) (hi : i + 6 ≤ X.1) (hL : X.1 ≤ 3072) (n : Nat) : LC xs N d n i X (LR N d (n + 3) 356 X I J i) := by
  obtain ⟨v, X1, I1, J1, X2, I2, J2, e1, e2, hI, hx⟩ := p_write (d := d + 40) H hN (I 1 (i + 1)) (I 1 (i + 2)) (((I 1 (i + 3)).toInt64 <<< ((32 : Int32).toInt64 &&& 63)) ||| ((I 1 (i + 4)).toInt64 &&& (4294967295 : Int64)))
  obtain ⟨r, rfl⟩ := am_v0 mX8_write rfl (by decide +kernel) e1
  obtain ⟨s1, s2⟩ := am_scr_mkh (by omega) e1
  refine ⟨n + 1, X2, I2, J2, by omega, hI, hx, ?_⟩
  refine (rL_law_356 _ _ _ _ _ _ _).trans ?_
  unfold BL_law_356
  rw [l_r1 hi hL, l_r2 hi hL, l_r3 hi hL, l_r4 hi hL, e1, cI_some, l_r1 (by rw [s1]; exact hi) (by rw [s1]; exact hL), l_r2 (by rw [s1]; exact hi) (by rw [s1]; exact hL), l_r3 (by rw [s1]; exact hi) (by rw [s1]; exact hL), l_r4 (by rw [s1]; exact hi) (by rw [s1]; exact hL), s2, e2, cI_some, if_pos rfl]
  rfl
theorem lc_429 {xs : Nat → Int32} {N d : Nat} {X : lt_X} {I : Nat → Nat → Int32} {J : Nat → Nat → Int64} {i : Nat} (H : INV xs X I J) (hN : 100000 ≤ N) (hi : i + 6 ≤ X.1) (hL : X.1 ≤ 3072) (n : Nat) : LC xs N d n i X (LR N d (n + 3) 429 X I J i) := by
  obtain ⟨v, X1, I1, J1, X2, I2, J2, e1, e2, hI, hx⟩ := p_read (d := d + 40) H hN (I 1 (i + 1)) (I 1 (i + 2))
  obtain ⟨r, rfl⟩ := am_v1 mX8_read rfl (by decide +kernel) e1
  obtain ⟨s1, s2⟩ := am_scr_mkh (by omega) e1
  refine ⟨n + 1, X2, I2, J2, by omega, hI, hx, ?_⟩
  refine (rL_law_429 _ _ _ _ _ _ _).trans ?_
  unfold BL_law_429
  rw [l_r1 hi hL, l_r2 hi hL, e1, cL_some', l_r1 (by rw [s1]; exact hi) (by rw [s1]; exact hL), l_r2 (by rw [s1]; exact hi) (by rw [s1]; exact hL), s2, e2, cL_some', lg_cmp_self, if_pos rfl]
  rfl
theorem lc_463 {xs : Nat → Int32} {N d : Nat} {X : lt_X} {I : Nat → Nat → Int32} {J : Nat → Nat → Int64} {i : Nat} (H : INV xs X I J) (hN : 100000 ≤ N) (hi : i + 6 ≤ X.1) (hL : X.1 ≤ 3072) (n : Nat) : LC xs N d n i X (LR N d (n + 3) 463 X I J i) := by
  obtain ⟨v, X1, I1, J1, X2, I2, J2, e1, e2, hI, hx⟩ := p_pour (d := d + 40) H hN (I 1 (i + 1)) (I 1 (i + 2)) (I 1 (i + 3)) (I 1 (i + 4)) (I 1 (i + 5))
  obtain ⟨r, rfl⟩ := am_v0 mX8_pour rfl (by decide +kernel) e1
  obtain ⟨s1, s2⟩ := am_scr_mkh (by omega) e1
  refine ⟨n + 1, X2, I2, J2, by omega, hI, hx, ?_⟩
  refine (rL_law_463 _ _ _ _ _ _ _).trans ?_
  unfold BL_law_463
  rw [l_r1 hi hL, l_r2 hi hL, l_r3 hi hL, l_r4 hi hL, l_r5 hi hL, e1, cI_some, l_r1 (by rw [s1]; exact hi) (by rw [s1]; exact hL), l_r2 (by rw [s1]; exact hi) (by rw [s1]; exact hL), l_r3 (by rw [s1]; exact hi) (by rw [s1]; exact hL), l_r4 (by rw [s1]; exact hi) (by rw [s1]; exact hL), l_r5 (by rw [s1]; exact hi) (by rw [s1]; exact hL), s2, e2, cI_some, if_pos rfl]
  rfl
theorem lc_526 {xs : Nat → Int32} {N d : Nat} {X : lt_X} {I : Nat → Nat → Int32} {J : Nat → Nat → Int64} {i : Nat} (H : INV xs X I J) (hN : 100000 ≤ N) (hi : i + 6 ≤ X.1) (hL : X.1 ≤ 3072) (n : Nat) : LC xs N d n i X (LR N d (n + 3) 526 X I J i) := by
  obtain ⟨v, X1, I1, J1, X2, I2, J2, e1, e2, hI, hx⟩ := p_feed (d := d + 40) H hN (I 1 (i + 1)) (I 1 (i + 2)) (I 1 (i + 3)) (I 1 (i + 4)) (I 1 (i + 5))
  obtain ⟨r, rfl⟩ := am_v0 mX8_feed rfl (by decide +kernel) e1
  obtain ⟨s1, s2⟩ := am_scr_mkh (by omega) e1
  refine ⟨n + 1, X2, I2, J2, by omega, hI, hx, ?_⟩
  refine (rL_law_526 _ _ _ _ _ _ _).trans ?_
  unfold BL_law_526
  rw [l_r1 hi hL, l_r2 hi hL, l_r3 hi hL, l_r4 hi hL, l_r5 hi hL, e1, cI_some, l_r1 (by rw [s1]; exact hi) (by rw [s1]; exact hL), l_r2 (by rw [s1]; exact hi) (by rw [s1]; exact hL), l_r3 (by rw [s1]; exact hi) (by rw [s1]; exact hL), l_r4 (by rw [s1]; exact hi) (by rw [s1]; exact hL), l_r5 (by rw [s1]; exact hi) (by rw [s1]; exact hL), s2, e2, cI_some, if_pos rfl]
  rfl
theorem lc_589 {xs : Nat → Int32} {N d : Nat} {X : lt_X} {I : Nat → Nat → Int32} {J : Nat → Nat → Int64} {i : Nat} (H : INV xs X I J) (hN : 100000 ≤ N) (hi : i + 6 ≤ X.1) (hL : X.1 ≤ 3072) (n : Nat) : LC xs N d n i X (LR N d (n + 3) 589 X I J i) := by
  obtain ⟨v, X1, I1, J1, X2, I2, J2, e1, e2, hI, hx⟩ := p_town (d := d + 40) H hN (I 1 (i + 1))
  obtain ⟨r, rfl⟩ := am_v0 mX8_town rfl (by decide +kernel) e1
  obtain ⟨s1, s2⟩ := am_scr_mkh (by omega) e1
  refine ⟨n + 1, X2, I2, J2, by omega, hI, hx, ?_⟩
  refine (rL_law_589 _ _ _ _ _ _ _).trans ?_
  unfold BL_law_589
  rw [l_r1 hi hL, e1, cI_some, l_r1 (by rw [s1]; exact hi) (by rw [s1]; exact hL), s2, e2, cI_some, if_pos rfl]
  rfl
theorem lc_612 {xs : Nat → Int32} {N d : Nat} {X : lt_X} {I : Nat → Nat → Int32} {J : Nat → Nat → Int64} {i : Nat} (H : INV xs X I J) (hN : 100000 ≤ N) (hi : i + 6 ≤ X.1) (hL : X.1 ≤ 3072) (n : Nat) : LC xs N d n i X (LR N d (n + 3) 612 X I J i) := by
  obtain ⟨v, X1, I1, J1, X2, I2, J2, e1, e2, hI, hx⟩ := p_dials (d := d + 40) H hN (I 1 (i + 1))
  obtain ⟨r, rfl⟩ := am_v0 mX8_dials rfl (by decide +kernel) e1
  obtain ⟨s1, s2⟩ := am_scr_mkh (by omega) e1
  refine ⟨n + 1, X2, I2, J2, by omega, hI, hx, ?_⟩
  refine (rL_law_612 _ _ _ _ _ _ _).trans ?_
  unfold BL_law_612
  rw [l_r1 hi hL, e1, cI_some, l_r1 (by rw [s1]; exact hi) (by rw [s1]; exact hL), s2, e2, cI_some, if_pos rfl]
  rfl
theorem lc_635 {xs : Nat → Int32} {N d : Nat} {X : lt_X} {I : Nat → Nat → Int32} {J : Nat → Nat → Int64} {i : Nat} (H : INV xs X I J) (hN : 100000 ≤ N) (hi : i + 6 ≤ X.1) (hL : X.1 ≤ 3072) (n : Nat) : LC xs N d n i X (LR N d (n + 3) 635 X I J i) := by
  obtain ⟨v, X1, I1, J1, X2, I2, J2, e1, e2, hI, hx⟩ := p_fault (d := d + 40) H hN (I 1 (i + 1))
  obtain ⟨r, rfl⟩ := am_v0 mX8_fault rfl (by decide +kernel) e1
  obtain ⟨s1, s2⟩ := am_scr_mkh (by omega) e1
  refine ⟨n + 1, X2, I2, J2, by omega, hI, hx, ?_⟩
  refine (rL_law_635 _ _ _ _ _ _ _).trans ?_
  unfold BL_law_635
  rw [l_r1 hi hL, e1, cI_some, l_r1 (by rw [s1]; exact hi) (by rw [s1]; exact hL), s2, e2, cI_some, if_pos rfl]
  rfl
theorem lc_658 {xs : Nat → Int32} {N d : Nat} {X : lt_X} {I : Nat → Nat → Int32} {J : Nat → Nat → Int64} {i : Nat} (H : INV xs X I J) (hN : 100000 ≤ N) (hi : i + 6 ≤ X.1) (hL : X.1 ≤ 3072) (n : Nat) : LC xs N d n i X (LR N d (n + 3) 658 X I J i) := by
  obtain ⟨v, X1, I1, J1, X2, I2, J2, e1, e2, hI, hx⟩ := p_many (d := d + 40) H hN (I 1 (i + 1))
  obtain ⟨r, rfl⟩ := am_v0 mX8_many rfl (by decide +kernel) e1
  obtain ⟨s1, s2⟩ := am_scr_mkh (by omega) e1
  refine ⟨n + 1, X2, I2, J2, by omega, hI, hx, ?_⟩
  refine (rL_law_658 _ _ _ _ _ _ _).trans ?_
  unfold BL_law_658
  rw [l_r1 hi hL, e1, cI_some, l_r1 (by rw [s1]; exact hi) (by rw [s1]; exact hL), s2, e2, cI_some, if_pos rfl]
  rfl
theorem lc_681 {xs : Nat → Int32} {N d : Nat} {X : lt_X} {I : Nat → Nat → Int32} {J : Nat → Nat → Int64} {i : Nat} (H : INV xs X I J) (hN : 100000 ≤ N) (hi : i + 6 ≤ X.1) (hL : X.1 ≤ 3072) (n : Nat) : LC xs N d n i X (LR N d (n + 3) 681 X I J i) := by
  obtain ⟨v, X1, I1, J1, X2, I2, J2, e1, e2, hI, hx⟩ := p_voice (d := d + 40) H hN (I 1 (i + 1)) (I 1 (i + 2))
  obtain ⟨r, rfl⟩ := am_v0 mX8_voice rfl (by decide +kernel) e1
  obtain ⟨s1, s2⟩ := am_scr_mkh (by omega) e1
  refine ⟨n + 1, X2, I2, J2, by omega, hI, hx, ?_⟩
  refine (rL_law_681 _ _ _ _ _ _ _).trans ?_
  unfold BL_law_681
  rw [l_r1 hi hL, l_r2 hi hL, e1, cI_some, l_r1 (by rw [s1]; exact hi) (by rw [s1]; exact hL), l_r2 (by rw [s1]; exact hi) (by rw [s1]; exact hL), s2, e2, cI_some, if_pos rfl]
  rfl
theorem lc_714 {xs : Nat → Int32} {N d : Nat} {X : lt_X} {I : Nat → Nat → Int32} {J : Nat → Nat → Int64} {i : Nat} (H : INV xs X I J) (hN : 100000 ≤ N) (hi : i + 6 ≤ X.1) (hL : X.1 ≤ 3072) (n : Nat) : LC xs N d n i X (LR N d (n + 3) 714 X I J i) := by
  obtain ⟨v, X1, I1, J1, X2, I2, J2, e1, e2, hI, hx⟩ := p_row (d := d + 40) H hN (I 1 (i + 1)) (I 1 (i + 2))
  obtain ⟨r, rfl⟩ := am_v0 mX8_row rfl (by decide +kernel) e1
  obtain ⟨s1, s2⟩ := am_scr_mkh (by omega) e1
  refine ⟨n + 1, X2, I2, J2, by omega, hI, hx, ?_⟩
  refine (rL_law_714 _ _ _ _ _ _ _).trans ?_
  unfold BL_law_714
  rw [l_r1 hi hL, l_r2 hi hL, e1, cI_some, l_r1 (by rw [s1]; exact hi) (by rw [s1]; exact hL), l_r2 (by rw [s1]; exact hi) (by rw [s1]; exact hL), s2, e2, cI_some, if_pos rfl]
  rfl
theorem lc_747 {xs : Nat → Int32} {N d : Nat} {X : lt_X} {I : Nat → Nat → Int32} {J : Nat → Nat → Int64} {i : Nat} (H : INV xs X I J) (hN : 100000 ≤ N) (hi : i + 6 ≤ X.1) (hL : X.1 ≤ 3072) (n : Nat) : LC xs N d n i X (LR N d (n + 3) 747 X I J i) := by
  obtain ⟨v, X1, I1, J1, X2, I2, J2, e1, e2, hI, hx⟩ := p_person (d := d + 40) H hN (I 1 (i + 1)) (I 1 (i + 2))
  obtain ⟨r, rfl⟩ := am_v0 mX8_person rfl (by decide +kernel) e1
  obtain ⟨s1, s2⟩ := am_scr_mkh (by omega) e1
  refine ⟨n + 1, X2, I2, J2, by omega, hI, hx, ?_⟩
  refine (rL_law_747 _ _ _ _ _ _ _).trans ?_
  unfold BL_law_747
  rw [l_r1 hi hL, l_r2 hi hL, e1, cI_some, l_r1 (by rw [s1]; exact hi) (by rw [s1]; exact hL), l_r2 (by rw [s1]; exact hi) (by rw [s1]; exact hL), s2, e2, cI_some, if_pos rfl]
  rfl
theorem lc_780 {xs : Nat → Int32} {N d : Nat} {X : lt_X} {I : Nat → Nat → Int32} {J : Nat → Nat → Int64} {i : Nat} (H : INV xs X I J) (hN : 100000 ≤ N) (hi : i + 6 ≤ X.1) (hL : X.1 ≤ 3072) (n : Nat) : LC xs N d n i X (LR N d (n + 3) 780 X I J i) := by
  obtain ⟨v, X1, I1, J1, X2, I2, J2, e1, e2, hI, hx⟩ := p_like (d := d + 40) H hN (I 1 (i + 1)) (I 1 (i + 2))
  obtain ⟨r, rfl⟩ := am_v0 mX8_like rfl (by decide +kernel) e1
  obtain ⟨s1, s2⟩ := am_scr_mkh (by omega) e1
  refine ⟨n + 1, X2, I2, J2, by omega, hI, hx, ?_⟩
  refine (rL_law_780 _ _ _ _ _ _ _).trans ?_
  unfold BL_law_780
  rw [l_r1 hi hL, l_r2 hi hL, e1, cI_some, l_r1 (by rw [s1]; exact hi) (by rw [s1]; exact hL), l_r2 (by rw [s1]; exact hi) (by rw [s1]; exact hL), s2, e2, cI_some, if_pos rfl]
  rfl
theorem lc_813 {xs : Nat → Int32} {N d : Nat} {X : lt_X} {I : Nat → Nat → Int32} {J : Nat → Nat → Int64} {i : Nat} (H : INV xs X I J) (hN : 100000 ≤ N) (hi : i + 6 ≤ X.1) (hL : X.1 ≤ 3072) (n : Nat) : LC xs N d n i X (LR N d (n + 3) 813 X I J i) := by
  obtain ⟨v, X1, I1, J1, X2, I2, J2, e1, e2, hI, hx⟩ := p_set (d := d + 40) H hN (I 1 (i + 1)) (I 1 (i + 2))
  obtain ⟨r, rfl⟩ := am_v0 mX8_set rfl (by decide +kernel) e1
  obtain ⟨s1, s2⟩ := am_scr_mkh (by omega) e1
  refine ⟨n + 1, X2, I2, J2, by omega, hI, hx, ?_⟩
  refine (rL_law_813 _ _ _ _ _ _ _).trans ?_
  unfold BL_law_813
  rw [l_r1 hi hL, l_r2 hi hL, e1, cI_some, l_r1 (by rw [s1]; exact hi) (by rw [s1]; exact hL), l_r2 (by rw [s1]; exact hi) (by rw [s1]; exact hL), s2, e2, cI_some, if_pos rfl]
  rfl
theorem lc_846 {xs : Nat → Int32} {N d : Nat} {X : lt_X} {I : Nat → Nat → Int32} {J : Nat → Nat → Int64} {i : Nat} (H : INV xs X I J) (hN : 100000 ≤ N) (hi : i + 6 ≤ X.1) (hL : X.1 ≤ 3072) (n : Nat) : LC xs N d n i X (LR N d (n + 3) 846 X I J i) := by
  obtain ⟨v, X1, I1, J1, X2, I2, J2, e1, e2, hI, hx⟩ := p_hour (d := d + 40) H hN (I 1 (i + 1))
  obtain ⟨r, rfl⟩ := am_v0 mX8_hour rfl (by decide +kernel) e1
  obtain ⟨s1, s2⟩ := am_scr_mkh (by omega) e1
  refine ⟨n + 1, X2, I2, J2, by omega, hI, hx, ?_⟩
  refine (rL_law_846 _ _ _ _ _ _ _).trans ?_
  unfold BL_law_846
  rw [l_r1 hi hL, e1, cI_some, l_r1 (by rw [s1]; exact hi) (by rw [s1]; exact hL), s2, e2, cI_some, if_pos rfl]
  rfl
theorem lc_869 {xs : Nat → Int32} {N d : Nat} {X : lt_X} {I : Nat → Nat → Int32} {J : Nat → Nat → Int64} {i : Nat} (H : INV xs X I J) (hN : 100000 ≤ N) (hi : i + 6 ≤ X.1) (hL : X.1 ≤ 3072) (n : Nat) : LC xs N d n i X (LR N d (n + 3) 869 X I J i) := by
  obtain ⟨v, X1, I1, J1, X2, I2, J2, e1, e2, hI, hx⟩ := p_year (d := d + 40) H hN (I 1 (i + 1))
  obtain ⟨r, rfl⟩ := am_v0 mX8_year rfl (by decide +kernel) e1
  obtain ⟨s1, s2⟩ := am_scr_mkh (by omega) e1
  refine ⟨n + 1, X2, I2, J2, by omega, hI, hx, ?_⟩
  refine (rL_law_869 _ _ _ _ _ _ _).trans ?_
  unfold BL_law_869
  rw [l_r1 hi hL, e1, cI_some, l_r1 (by rw [s1]; exact hi) (by rw [s1]; exact hL), s2, e2, cI_some, if_pos rfl]
  rfl
theorem lc_892 {xs : Nat → Int32} {N d : Nat} {X : lt_X} {I : Nat → Nat → Int32} {J : Nat → Nat → Int64} {i : Nat} (H : INV xs X I J) (hN : 100000 ≤ N) (hi : i + 6 ≤ X.1) (hL : X.1 ≤ 3072) (n : Nat) : LC xs N d n i X (LR N d (n + 3) 892 X I J i) := by
  obtain ⟨v, X1, I1, J1, X2, I2, J2, e1, e2, hI, hx⟩ := p_sell (d := d + 40) H hN (I 1 (i + 1)) (I 1 (i + 2)) (I 1 (i + 3))
  obtain ⟨r, rfl⟩ := am_v0 mX8_sell rfl (by decide +kernel) e1
  obtain ⟨s1, s2⟩ := am_scr_mkh (by omega) e1
  refine ⟨n + 1, X2, I2, J2, by omega, hI, hx, ?_⟩
  refine (rL_law_892 _ _ _ _ _ _ _).trans ?_
  unfold BL_law_892
  rw [l_r1 hi hL, l_r2 hi hL, l_r3 hi hL, e1, cI_some, l_r1 (by rw [s1]; exact hi) (by rw [s1]; exact hL), l_r2 (by rw [s1]; exact hi) (by rw [s1]; exact hL), l_r3 (by rw [s1]; exact hi) (by rw [s1]; exact hL), s2, e2, cI_some, if_pos rfl]
  rfl
theorem lc_935 {xs : Nat → Int32} {N d : Nat} {X : lt_X} {I : Nat → Nat → Int32} {J : Nat → Nat → Int64} {i : Nat} (H : INV xs X I J) (hN : 100000 ≤ N) (hi : i + 6 ≤ X.1) (hL : X.1 ≤ 3072) (n : Nat) : LC xs N d n i X (LR N d (n + 3) 935 X I J i) := by
  obtain ⟨v, X1, I1, J1, X2, I2, J2, e1, e2, hI, hx⟩ := p_give (d := d + 40) H hN (I 1 (i + 1)) (I 1 (i + 2))
  obtain ⟨r, rfl⟩ := am_v0 mX8_give rfl (by decide +kernel) e1
  obtain ⟨s1, s2⟩ := am_scr_mkh (by omega) e1
  refine ⟨n + 1, X2, I2, J2, by omega, hI, hx, ?_⟩
  refine (rL_law_935 _ _ _ _ _ _ _).trans ?_
  unfold BL_law_935
  rw [l_r1 hi hL, l_r2 hi hL, e1, cI_some, l_r1 (by rw [s1]; exact hi) (by rw [s1]; exact hL), l_r2 (by rw [s1]; exact hi) (by rw [s1]; exact hL), s2, e2, cI_some, if_pos rfl]
  rfl
theorem lc_968 {xs : Nat → Int32} {N d : Nat} {X : lt_X} {I : Nat → Nat → Int32} {J : Nat → Nat → Int64} {i : Nat} (H : INV xs X I J) (hN : 100000 ≤ N) (hi : i + 6 ≤ X.1) (hL : X.1 ≤ 3072) (n : Nat) : LC xs N d n i X (LR N d (n + 3) 968 X I J i) := by
  obtain ⟨v, X1, I1, J1, X2, I2, J2, e1, e2, hI, hx⟩ := p_dump (d := d + 40) H hN (I 1 (i + 1))
  obtain ⟨r, rfl⟩ := am_v0 mX8_dump rfl (by decide +kernel) e1
  obtain ⟨s1, s2⟩ := am_scr_mkh (by omega) e1
  refine ⟨n + 1, X2, I2, J2, by omega, hI, hx, ?_⟩
  refine (rL_law_968 _ _ _ _ _ _ _).trans ?_
  unfold BL_law_968
  rw [l_r1 hi hL, e1, cI_some, l_r1 (by rw [s1]; exact hi) (by rw [s1]; exact hL), s2, e2, cI_some, if_pos rfl]
  rfl
theorem lc_991 {xs : Nat → Int32} {N d : Nat} {X : lt_X} {I : Nat → Nat → Int32} {J : Nat → Nat → Int64} {i : Nat} (H : INV xs X I J) (hN : 100000 ≤ N) (hi : i + 6 ≤ X.1) (hL : X.1 ≤ 3072) (n : Nat) : LC xs N d n i X (LR N d (n + 3) 991 X I J i) := by
  by_cases q : I 1 (i + 2) = 0
  · obtain ⟨v, X1, I1, J1, X2, I2, J2, e1, e2, hI, hx⟩ := p_cold (d := d + 40) H hN (I 1 (i + 1)) (nI 0) (Or.inl rfl)
    obtain ⟨r, rfl⟩ := am_v0 mX8_cold rfl (by decide +kernel) e1
    obtain ⟨s1, s2⟩ := am_scr_mkh (by omega) e1
    refine ⟨n, X2, I2, J2, by omega, hI, hx, ?_⟩
    refine (rL_law_991 _ _ _ _ _ _ _).trans ?_
    unfold BL_law_991
    rw [l_r1 hi hL, l_r2 hi hL, if_pos q]
    refine (rL_law_1010 _ _ _ _ _ _ _ _ _ _).trans ?_
    unfold BL_law_1010
    have e1' : am_G am_prog (N + 30) (d + 40 + 40) 136 [.ref 3, .int (I 1 (i + 1)), .int (0 : Int32)] (mkh X I J) = some (.int r, mkh X1 I1 J1) := e1
    have e2' : am_G am_prog (N + 30) (d + 40 + 40) 287 [.ref 135, .int (I 1 (i + 1)), .int (0 : Int32)] (mkh X1 I1 J1) = some (.int r, mkh X2 I2 J2) := e2
    rw [e1', cI_some, l_r1 (by rw [s1]; exact hi) (by rw [s1]; exact hL), l_r2 (by rw [s1]; exact hi) (by rw [s1]; exact hL), s2, if_pos q, e2', cI_some, if_pos rfl]
    rfl
  · obtain ⟨v, X1, I1, J1, X2, I2, J2, e1, e2, hI, hx⟩ := p_cold (d := d + 40) H hN (I 1 (i + 1)) (nI 1) (Or.inr rfl)
    obtain ⟨r, rfl⟩ := am_v0 mX8_cold rfl (by decide +kernel) e1
    obtain ⟨s1, s2⟩ := am_scr_mkh (by omega) e1
    refine ⟨n, X2, I2, J2, by omega, hI, hx, ?_⟩
    refine (rL_law_991 _ _ _ _ _ _ _).trans ?_
    unfold BL_law_991
    rw [l_r1 hi hL, l_r2 hi hL, if_neg q]
    refine (rL_law_1010 _ _ _ _ _ _ _ _ _ _).trans ?_
    unfold BL_law_1010
    have e1' : am_G am_prog (N + 30) (d + 40 + 40) 136 [.ref 3, .int (I 1 (i + 1)), .int (1 : Int32)] (mkh X I J) = some (.int r, mkh X1 I1 J1) := e1
    have e2' : am_G am_prog (N + 30) (d + 40 + 40) 287 [.ref 135, .int (I 1 (i + 1)), .int (1 : Int32)] (mkh X1 I1 J1) = some (.int r, mkh X2 I2 J2) := e2
    rw [e1', cI_some, l_r1 (by rw [s1]; exact hi) (by rw [s1]; exact hL), l_r2 (by rw [s1]; exact hi) (by rw [s1]; exact hL), s2, if_neg q, e2', cI_some, if_pos rfl]
    rfl
theorem lc_1040 {xs : Nat → Int32} {N d : Nat} {X : lt_X} {I : Nat → Nat → Int32} {J : Nat → Nat → Int64} {i : Nat} (H : INV xs X I J) (hN : 100000 ≤ N) (hi : i + 6 ≤ X.1) (hL : X.1 ≤ 3072) (n : Nat) : LC xs N d n i X (LR N d (n + 3) 1040 X I J i) := by
  obtain ⟨v, X1, I1, J1, X2, I2, J2, e1, e2, hI, hx⟩ := p_flaw (d := d + 40) H hN (I 1 (i + 1)) (I 1 (i + 2))
  obtain ⟨r, rfl⟩ := am_v0 mX8_flaw rfl (by decide +kernel) e1
  obtain ⟨s1, s2⟩ := am_scr_mkh (by omega) e1
  refine ⟨n + 1, X2, I2, J2, by omega, hI, hx, ?_⟩
  refine (rL_law_1040 _ _ _ _ _ _ _).trans ?_
  unfold BL_law_1040
  rw [l_r1 hi hL, l_r2 hi hL, e1, cI_some, l_r1 (by rw [s1]; exact hi) (by rw [s1]; exact hL), l_r2 (by rw [s1]; exact hi) (by rw [s1]; exact hL), s2, e2, cI_some, if_pos rfl]
  rfl
theorem lc_1073 {xs : Nat → Int32} {N d : Nat} {X : lt_X} {I : Nat → Nat → Int32} {J : Nat → Nat → Int64} {i : Nat} (H : INV xs X I J) (hN : 100000 ≤ N) (hi : i + 6 ≤ X.1) (hL : X.1 ≤ 3072) (n : Nat) : LC xs N d n i X (LR N d (n + 3) 1073 X I J i) := by
  obtain ⟨v, X1, I1, J1, X2, I2, J2, e1, e2, hI, hx⟩ := p_please (d := d + 40) H hN (I 1 (i + 1)) (I 1 (i + 2)) (I 1 (i + 3))
  obtain ⟨r, rfl⟩ := am_v0 mX8_please rfl (by decide +kernel) e1
  obtain ⟨s1, s2⟩ := am_scr_mkh (by omega) e1
  refine ⟨n + 1, X2, I2, J2, by omega, hI, hx, ?_⟩
  refine (rL_law_1073 _ _ _ _ _ _ _).trans ?_
  unfold BL_law_1073
  rw [l_r1 hi hL, l_r2 hi hL, l_r3 hi hL, e1, cI_some, l_r1 (by rw [s1]; exact hi) (by rw [s1]; exact hL), l_r2 (by rw [s1]; exact hi) (by rw [s1]; exact hL), l_r3 (by rw [s1]; exact hi) (by rw [s1]; exact hL), s2, e2, cI_some, if_pos rfl]
  rfl
theorem lc_1116 {xs : Nat → Int32} {N d : Nat} {X : lt_X} {I : Nat → Nat → Int32} {J : Nat → Nat → Int64} {i : Nat} (H : INV xs X I J) (hN : 100000 ≤ N) (hi : i + 6 ≤ X.1) (hL : X.1 ≤ 3072) (n : Nat) : LC xs N d n i X (LR N d (n + 3) 1116 X I J i) := by
  obtain ⟨v, X1, I1, J1, X2, I2, J2, e1, e2, hI, hx⟩ := p_teach (d := d + 40) H hN (I 1 (i + 1)) (I 1 (i + 2))
  obtain ⟨r, rfl⟩ := am_v0 mX8_teach rfl (by decide +kernel) e1
  obtain ⟨s1, s2⟩ := am_scr_mkh (by omega) e1
  refine ⟨n + 1, X2, I2, J2, by omega, hI, hx, ?_⟩
  refine (rL_law_1116 _ _ _ _ _ _ _).trans ?_
  unfold BL_law_1116
  rw [l_r1 hi hL, l_r2 hi hL, e1, cI_some, l_r1 (by rw [s1]; exact hi) (by rw [s1]; exact hL), l_r2 (by rw [s1]; exact hi) (by rw [s1]; exact hL), s2, e2, cI_some, if_pos rfl]
  rfl
theorem lc_1149 {xs : Nat → Int32} {N d : Nat} {X : lt_X} {I : Nat → Nat → Int32} {J : Nat → Nat → Int64} {i : Nat} (H : INV xs X I J) (hN : 100000 ≤ N) (hi : i + 6 ≤ X.1) (hL : X.1 ≤ 3072) (n : Nat) : LC xs N d n i X (LR N d (n + 3) 1149 X I J i) := by
  obtain ⟨v, X1, I1, J1, X2, I2, J2, e1, e2, hI, hx⟩ := p_rule (d := d + 40) H hN (I 1 (i + 1))
  obtain ⟨r, rfl⟩ := am_v0 mX8_rule rfl (by decide +kernel) e1
  obtain ⟨s1, s2⟩ := am_scr_mkh (by omega) e1
  refine ⟨n + 1, X2, I2, J2, by omega, hI, hx, ?_⟩
  refine (rL_law_1149 _ _ _ _ _ _ _).trans ?_
  unfold BL_law_1149
  rw [l_r1 hi hL, e1, cI_some, l_r1 (by rw [s1]; exact hi) (by rw [s1]; exact hL), s2, e2, cI_some, if_pos rfl]
  rfl
theorem lc_1172 {xs : Nat → Int32} {N d : Nat} {X : lt_X} {I : Nat → Nat → Int32} {J : Nat → Nat → Int64} {i : Nat} (H : INV xs X I J) (hN : 100000 ≤ N) (hi : i + 6 ≤ X.1) (hL : X.1 ≤ 3072) (n : Nat) : LC xs N d n i X (LR N d (n + 3) 1172 X I J i) := by
  obtain ⟨v, X1, I1, J1, X2, I2, J2, e1, e2, hI, hx⟩ := p_saysIn (d := d + 40) H hN (I 1 (i + 1)) (I 1 (i + 2))
  obtain ⟨r, rfl⟩ := am_v0 mX8_saysIn rfl (by decide +kernel) e1
  obtain ⟨s1, s2⟩ := am_scr_mkh (by omega) e1
  refine ⟨n + 1, X2, I2, J2, by omega, hI, hx, ?_⟩
  refine (rL_law_1172 _ _ _ _ _ _ _).trans ?_
  unfold BL_law_1172
  rw [l_r1 hi hL, l_r2 hi hL, e1, cI_some, l_r1 (by rw [s1]; exact hi) (by rw [s1]; exact hL), l_r2 (by rw [s1]; exact hi) (by rw [s1]; exact hL), s2, e2, cI_some, if_pos rfl]
  rfl
theorem lc_1205 {xs : Nat → Int32} {N d : Nat} {X : lt_X} {I : Nat → Nat → Int32} {J : Nat → Nat → Int64} {i : Nat} (H : INV xs X I J) (hN : 100000 ≤ N) (hi : i + 6 ≤ X.1) (hL : X.1 ≤ 3072) (n : Nat) : LC xs N d n i X (LR N d (n + 3) 1205 X I J i) := by
  obtain ⟨v, X1, I1, J1, X2, I2, J2, e1, e2, hI, hx⟩ := p_hearsIn (d := d + 40) H hN (I 1 (i + 1)) (I 1 (i + 2))
  obtain ⟨r, rfl⟩ := am_v0 mX8_hearsIn rfl (by decide +kernel) e1
  obtain ⟨s1, s2⟩ := am_scr_mkh (by omega) e1
  refine ⟨n + 1, X2, I2, J2, by omega, hI, hx, ?_⟩
  refine (rL_law_1205 _ _ _ _ _ _ _).trans ?_
  unfold BL_law_1205
  rw [l_r1 hi hL, l_r2 hi hL, e1, cI_some, l_r1 (by rw [s1]; exact hi) (by rw [s1]; exact hL), l_r2 (by rw [s1]; exact hi) (by rw [s1]; exact hL), s2, e2, cI_some, if_pos rfl]
  rfl
theorem lc_1238 {xs : Nat → Int32} {N d : Nat} {X : lt_X} {I : Nat → Nat → Int32} {J : Nat → Nat → Int64} {i : Nat} (H : INV xs X I J) (hN : 100000 ≤ N) (hi : i + 6 ≤ X.1) (hL : X.1 ≤ 3072) (n : Nat) : LC xs N d n i X (LR N d (n + 3) 1238 X I J i) := by
  obtain ⟨v, X1, I1, J1, X2, I2, J2, e1, e2, hI, hx⟩ := p_gladIn (d := d + 40) H hN (I 1 (i + 1)) (I 1 (i + 2))
  obtain ⟨r, rfl⟩ := am_v0 mX8_gladIn rfl (by decide +kernel) e1
  obtain ⟨s1, s2⟩ := am_scr_mkh (by omega) e1
  refine ⟨n + 1, X2, I2, J2, by omega, hI, hx, ?_⟩
  refine (rL_law_1238 _ _ _ _ _ _ _).trans ?_
  unfold BL_law_1238
  rw [l_r1 hi hL, l_r2 hi hL, e1, cI_some, l_r1 (by rw [s1]; exact hi) (by rw [s1]; exact hL), l_r2 (by rw [s1]; exact hi) (by rw [s1]; exact hL), s2, e2, cI_some, if_pos rfl]
  rfl
theorem lc_1271 {xs : Nat → Int32} {N d : Nat} {X : lt_X} {I : Nat → Nat → Int32} {J : Nat → Nat → Int64} {i : Nat} (H : INV xs X I J) (hN : 100000 ≤ N) (hi : i + 6 ≤ X.1) (hL : X.1 ≤ 3072) (n : Nat) : LC xs N d n i X (LR N d (n + 3) 1271 X I J i) := by
  obtain ⟨v, X1, I1, J1, X2, I2, J2, e1, e2, hI, hx⟩ := p_gladBy (d := d + 40) H hN (I 1 (i + 1)) (I 1 (i + 2))
  obtain ⟨r, rfl⟩ := am_v0 mX8_gladBy rfl (by decide +kernel) e1
  obtain ⟨s1, s2⟩ := am_scr_mkh (by omega) e1
  refine ⟨n + 1, X2, I2, J2, by omega, hI, hx, ?_⟩
  refine (rL_law_1271 _ _ _ _ _ _ _).trans ?_
  unfold BL_law_1271
  rw [l_r1 hi hL, l_r2 hi hL, e1, cI_some, l_r1 (by rw [s1]; exact hi) (by rw [s1]; exact hL), l_r2 (by rw [s1]; exact hi) (by rw [s1]; exact hL), s2, e2, cI_some, if_pos rfl]
  rfl
theorem lc_1304 {xs : Nat → Int32} {N d : Nat} {X : lt_X} {I : Nat → Nat → Int32} {J : Nat → Nat → Int64} {i : Nat} (H : INV xs X I J) (hN : 100000 ≤ N) (hi : i + 6 ≤ X.1) (hL : X.1 ≤ 3072) (n : Nat) : LC xs N d n i X (LR N d (n + 3) 1304 X I J i) := by
  obtain ⟨v, X1, I1, J1, X2, I2, J2, e1, e2, hI, hx⟩ := p_lonelyIn (d := d + 40) H hN (I 1 (i + 1))
  obtain ⟨r, rfl⟩ := am_v0 mX8_lonelyIn rfl (by decide +kernel) e1
  obtain ⟨s1, s2⟩ := am_scr_mkh (by omega) e1
  refine ⟨n + 1, X2, I2, J2, by omega, hI, hx, ?_⟩
  refine (rL_law_1304 _ _ _ _ _ _ _).trans ?_
  unfold BL_law_1304
  rw [l_r1 hi hL, e1, cI_some, l_r1 (by rw [s1]; exact hi) (by rw [s1]; exact hL), s2, e2, cI_some, if_pos rfl]
  rfl
theorem lc_1327 {xs : Nat → Int32} {N d : Nat} {X : lt_X} {I : Nat → Nat → Int32} {J : Nat → Nat → Int64} {i : Nat} (H : INV xs X I J) (hN : 100000 ≤ N) (hi : i + 6 ≤ X.1) (hL : X.1 ≤ 3072) (n : Nat) : LC xs N d n i X (LR N d (n + 3) 1327 X I J i) := by
  obtain ⟨v, X1, I1, J1, X2, I2, J2, e1, e2, hI, hx⟩ := p_diesIn (d := d + 40) H hN (I 1 (i + 1))
  obtain ⟨r, rfl⟩ := am_v0 mX8_diesIn rfl (by decide +kernel) e1
  obtain ⟨s1, s2⟩ := am_scr_mkh (by omega) e1
  refine ⟨n + 1, X2, I2, J2, by omega, hI, hx, ?_⟩
  refine (rL_law_1327 _ _ _ _ _ _ _).trans ?_
  unfold BL_law_1327
  rw [l_r1 hi hL, e1, cI_some, l_r1 (by rw [s1]; exact hi) (by rw [s1]; exact hL), s2, e2, cI_some, if_pos rfl]
  rfl
theorem lc_1350 {xs : Nat → Int32} {N d : Nat} {X : lt_X} {I : Nat → Nat → Int32} {J : Nat → Nat → Int64} {i : Nat} (H : INV xs X I J) (hN : 100000 ≤ N) (hi : i + 6 ≤ X.1) (hL : X.1 ≤ 3072) (n : Nat) : LC xs N d n i X (LR N d (n + 3) 1350 X I J i) := by
  obtain ⟨v, X1, I1, J1, X2, I2, J2, e1, e2, hI, hx⟩ := p_crowd (d := d + 40) H hN (I 1 (i + 1))
  obtain ⟨r, rfl⟩ := am_v0 mX8_crowd rfl (by decide +kernel) e1
  obtain ⟨s1, s2⟩ := am_scr_mkh (by omega) e1
  refine ⟨n + 1, X2, I2, J2, by omega, hI, hx, ?_⟩
  refine (rL_law_1350 _ _ _ _ _ _ _).trans ?_
  unfold BL_law_1350
  rw [l_r1 hi hL, e1, cI_some, l_r1 (by rw [s1]; exact hi) (by rw [s1]; exact hL), s2, e2, cI_some, if_pos rfl]
  rfl
theorem lc_1373 {xs : Nat → Int32} {N d : Nat} {X : lt_X} {I : Nat → Nat → Int32} {J : Nat → Nat → Int64} {i : Nat} (H : INV xs X I J) (hN : 100000 ≤ N) (hi : i + 6 ≤ X.1) (hL : X.1 ≤ 3072) (n : Nat) : LC xs N d n i X (LR N d (n + 3) 1373 X I J i) := by
  obtain ⟨v, X1, I1, J1, X2, I2, J2, e1, e2, hI, hx⟩ := p_worth (d := d + 40) H hN (I 1 (i + 1)) (I 1 (i + 2))
  obtain ⟨r, rfl⟩ := am_v0 mX8_worth rfl (by decide +kernel) e1
  obtain ⟨s1, s2⟩ := am_scr_mkh (by omega) e1
  refine ⟨n + 1, X2, I2, J2, by omega, hI, hx, ?_⟩
  refine (rL_law_1373 _ _ _ _ _ _ _).trans ?_
  unfold BL_law_1373
  rw [l_r1 hi hL, l_r2 hi hL, e1, cI_some, l_r1 (by rw [s1]; exact hi) (by rw [s1]; exact hL), l_r2 (by rw [s1]; exact hi) (by rw [s1]; exact hL), s2, e2, cI_some, if_pos rfl]
  rfl
theorem lc_1406 {xs : Nat → Int32} {N d : Nat} {X : lt_X} {I : Nat → Nat → Int32} {J : Nat → Nat → Int64} {i : Nat} (H : INV xs X I J) (hN : 100000 ≤ N) (hi : i + 6 ≤ X.1) (hL : X.1 ≤ 3072) (n : Nat) : LC xs N d n i X (LR N d (n + 3) 1406 X I J i) := by
  obtain ⟨v, X1, I1, J1, X2, I2, J2, e1, e2, hI, hx⟩ := p_best (d := d + 40) H hN (I 1 (i + 1))
  obtain ⟨r, rfl⟩ := am_v0 mX8_best rfl (by decide +kernel) e1
  obtain ⟨s1, s2⟩ := am_scr_mkh (by omega) e1
  refine ⟨n + 1, X2, I2, J2, by omega, hI, hx, ?_⟩
  refine (rL_law_1406 _ _ _ _ _ _ _).trans ?_
  unfold BL_law_1406
  rw [l_r1 hi hL, e1, cI_some, l_r1 (by rw [s1]; exact hi) (by rw [s1]; exact hL), s2, e2, cI_some, if_pos rfl]
  rfl
theorem lc_1429 {xs : Nat → Int32} {N d : Nat} {X : lt_X} {I : Nat → Nat → Int32} {J : Nat → Nat → Int64} {i : Nat} (H : INV xs X I J) (hN : 100000 ≤ N) (hi : i + 6 ≤ X.1) (hL : X.1 ≤ 3072) (n : Nat) : LC xs N d n i X (LR N d (n + 3) 1429 X I J i) := by
  obtain ⟨v, X1, I1, J1, X2, I2, J2, e1, e2, hI, hx⟩ := p_bestSet (d := d + 40) H hN (I 1 (i + 1)) (I 1 (i + 2))
  obtain ⟨r, rfl⟩ := am_v0 mX8_bestSet rfl (by decide +kernel) e1
  obtain ⟨s1, s2⟩ := am_scr_mkh (by omega) e1
  refine ⟨n + 1, X2, I2, J2, by omega, hI, hx, ?_⟩
  refine (rL_law_1429 _ _ _ _ _ _ _).trans ?_
  unfold BL_law_1429
  rw [l_r1 hi hL, l_r2 hi hL, e1, cI_some, l_r1 (by rw [s1]; exact hi) (by rw [s1]; exact hL), l_r2 (by rw [s1]; exact hi) (by rw [s1]; exact hL), s2, e2, cI_some, if_pos rfl]
  rfl
theorem lc_1462 {xs : Nat → Int32} {N d : Nat} {X : lt_X} {I : Nat → Nat → Int32} {J : Nat → Nat → Int64} {i : Nat} (H : INV xs X I J) (hN : 100000 ≤ N) (hi : i + 6 ≤ X.1) (hL : X.1 ≤ 3072) (n : Nat) : LC xs N d n i X (LR N d (n + 3) 1462 X I J i) := by
  obtain ⟨v, X1, I1, J1, X2, I2, J2, e1, e2, hI, hx⟩ := p_trade (d := d + 40) H hN (I 1 (i + 1))
  obtain ⟨r, rfl⟩ := am_v0 mX8_trade rfl (by decide +kernel) e1
  obtain ⟨s1, s2⟩ := am_scr_mkh (by omega) e1
  refine ⟨n + 1, X2, I2, J2, by omega, hI, hx, ?_⟩
  refine (rL_law_1462 _ _ _ _ _ _ _).trans ?_
  unfold BL_law_1462
  rw [l_r1 hi hL, e1, cI_some, l_r1 (by rw [s1]; exact hi) (by rw [s1]; exact hL), s2, e2, cI_some, if_pos rfl]
  rfl
theorem lc_1485 {xs : Nat → Int32} {N d : Nat} {X : lt_X} {I : Nat → Nat → Int32} {J : Nat → Nat → Int64} {i : Nat} (H : INV xs X I J) (hN : 100000 ≤ N) (hi : i + 6 ≤ X.1) (hL : X.1 ≤ 3072) (n : Nat) : LC xs N d n i X (LR N d (n + 3) 1485 X I J i) := by
  obtain ⟨v, X1, I1, J1, X2, I2, J2, e1, e2, hI, hx⟩ := p_trades (d := d + 40) H hN 
  obtain ⟨r, rfl⟩ := am_v0 mX8_trades rfl (by decide +kernel) e1
  obtain ⟨s1, s2⟩ := am_scr_mkh (by omega) e1
  refine ⟨n + 1, X2, I2, J2, by omega, hI, hx, ?_⟩
  refine (rL_law_1485 _ _ _ _ _ _ _).trans ?_
  unfold BL_law_1485
  rw [e1, cI_some, e2, cI_some, if_pos rfl]
  rfl
theorem lc_1498 {xs : Nat → Int32} {N d : Nat} {X : lt_X} {I : Nat → Nat → Int32} {J : Nat → Nat → Int64} {i : Nat} (H : INV xs X I J) (hN : 100000 ≤ N) (hi : i + 6 ≤ X.1) (hL : X.1 ≤ 3072) (n : Nat) : LC xs N d n i X (LR N d (n + 3) 1498 X I J i) := by
  obtain ⟨v, X1, I1, J1, X2, I2, J2, e1, e2, hI, hx⟩ := p_envies (d := d + 40) H hN (I 1 (i + 1)) (I 1 (i + 2))
  obtain ⟨r, rfl⟩ := am_v0 mX8_envies rfl (by decide +kernel) e1
  obtain ⟨s1, s2⟩ := am_scr_mkh (by omega) e1
  refine ⟨n + 1, X2, I2, J2, by omega, hI, hx, ?_⟩
  refine (rL_law_1498 _ _ _ _ _ _ _).trans ?_
  unfold BL_law_1498
  rw [l_r1 hi hL, l_r2 hi hL, e1, cI_some, l_r1 (by rw [s1]; exact hi) (by rw [s1]; exact hL), l_r2 (by rw [s1]; exact hi) (by rw [s1]; exact hL), s2, e2, cI_some, if_pos rfl]
  rfl
theorem lc_1531 {xs : Nat → Int32} {N d : Nat} {X : lt_X} {I : Nat → Nat → Int32} {J : Nat → Nat → Int64} {i : Nat} (H : INV xs X I J) (hN : 100000 ≤ N) (hi : i + 6 ≤ X.1) (hL : X.1 ≤ 3072) (n : Nat) : LC xs N d n i X (LR N d (n + 3) 1531 X I J i) := by
  obtain ⟨v, X1, I1, J1, X2, I2, J2, e1, e2, hI, hx⟩ := p_pick (d := d + 40) H hN (I 1 (i + 1)) (I 1 (i + 2)) (I 1 (i + 3))
  obtain ⟨r, rfl⟩ := am_v0 mX8_pick rfl (by decide +kernel) e1
  obtain ⟨s1, s2⟩ := am_scr_mkh (by omega) e1
  refine ⟨n + 1, X2, I2, J2, by omega, hI, hx, ?_⟩
  refine (rL_law_1531 _ _ _ _ _ _ _).trans ?_
  unfold BL_law_1531
  rw [l_r1 hi hL, l_r2 hi hL, l_r3 hi hL, e1, cI_some, l_r1 (by rw [s1]; exact hi) (by rw [s1]; exact hL), l_r2 (by rw [s1]; exact hi) (by rw [s1]; exact hL), l_r3 (by rw [s1]; exact hi) (by rw [s1]; exact hL), s2, e2, cI_some, if_pos rfl]
  rfl
theorem lc_1574 {xs : Nat → Int32} {N d : Nat} {X : lt_X} {I : Nat → Nat → Int32} {J : Nat → Nat → Int64} {i : Nat} (H : INV xs X I J) (hN : 100000 ≤ N) (hi : i + 6 ≤ X.1) (hL : X.1 ≤ 3072) (n : Nat) : LC xs N d n i X (LR N d (n + 3) 1574 X I J i) := by
  obtain ⟨v, X1, I1, J1, X2, I2, J2, e1, e2, hI, hx⟩ := p_fits (d := d + 40) H hN (I 1 (i + 1)) (I 1 (i + 2))
  obtain ⟨r, rfl⟩ := am_v0 mX8_fits rfl (by decide +kernel) e1
  obtain ⟨s1, s2⟩ := am_scr_mkh (by omega) e1
  refine ⟨n + 1, X2, I2, J2, by omega, hI, hx, ?_⟩
  refine (rL_law_1574 _ _ _ _ _ _ _).trans ?_
  unfold BL_law_1574
  rw [l_r1 hi hL, l_r2 hi hL, e1, cI_some, l_r1 (by rw [s1]; exact hi) (by rw [s1]; exact hL), l_r2 (by rw [s1]; exact hi) (by rw [s1]; exact hL), s2, e2, cI_some, if_pos rfl]
  rfl
theorem lc_1607 {xs : Nat → Int32} {N d : Nat} {X : lt_X} {I : Nat → Nat → Int32} {J : Nat → Nat → Int64} {i : Nat} (H : INV xs X I J) (hN : 100000 ≤ N) (hi : i + 6 ≤ X.1) (hL : X.1 ≤ 3072) (n : Nat) : LC xs N d n i X (LR N d (n + 3) 1607 X I J i) := by
  obtain ⟨v, X1, I1, J1, X2, I2, J2, e1, e2, hI, hx⟩ := p_ask (d := d + 40) H hN (I 1 (i + 1)) (I 1 (i + 2))
  obtain ⟨r, rfl⟩ := am_v0 mX8_ask rfl (by decide +kernel) e1
  obtain ⟨s1, s2⟩ := am_scr_mkh (by omega) e1
  refine ⟨n + 1, X2, I2, J2, by omega, hI, hx, ?_⟩
  refine (rL_law_1607 _ _ _ _ _ _ _).trans ?_
  unfold BL_law_1607
  rw [l_r1 hi hL, l_r2 hi hL, e1, cI_some, l_r1 (by rw [s1]; exact hi) (by rw [s1]; exact hL), l_r2 (by rw [s1]; exact hi) (by rw [s1]; exact hL), s2, e2, cI_some, if_pos rfl]
  rfl
theorem lc_1640 {xs : Nat → Int32} {N d : Nat} {X : lt_X} {I : Nat → Nat → Int32} {J : Nat → Nat → Int64} {i : Nat} (H : INV xs X I J) (hN : 100000 ≤ N) (hi : i + 6 ≤ X.1) (hL : X.1 ≤ 3072) (n : Nat) : LC xs N d n i X (LR N d (n + 3) 1640 X I J i) := by
  obtain ⟨v, X1, I1, J1, X2, I2, J2, e1, e2, hI, hx⟩ := p_peace (d := d + 40) H hN (I 1 (i + 1))
  obtain ⟨r, rfl⟩ := am_v0 mX8_peace rfl (by decide +kernel) e1
  obtain ⟨s1, s2⟩ := am_scr_mkh (by omega) e1
  refine ⟨n + 1, X2, I2, J2, by omega, hI, hx, ?_⟩
  refine (rL_law_1640 _ _ _ _ _ _ _).trans ?_
  unfold BL_law_1640
  rw [l_r1 hi hL, e1, cI_some, l_r1 (by rw [s1]; exact hi) (by rw [s1]; exact hL), s2, e2, cI_some, if_pos rfl]
  rfl
theorem lc_1663 {xs : Nat → Int32} {N d : Nat} {X : lt_X} {I : Nat → Nat → Int32} {J : Nat → Nat → Int64} {i : Nat} (H : INV xs X I J) (hN : 100000 ≤ N) (hi : i + 6 ≤ X.1) (hL : X.1 ≤ 3072) (n : Nat) : LC xs N d n i X (LR N d (n + 3) 1663 X I J i) := by
  obtain ⟨v, X1, I1, J1, X2, I2, J2, e1, e2, hI, hx⟩ := p_peaceBy (d := d + 40) H hN (I 1 (i + 1))
  obtain ⟨r, rfl⟩ := am_v0 mX8_peaceBy rfl (by decide +kernel) e1
  obtain ⟨s1, s2⟩ := am_scr_mkh (by omega) e1
  refine ⟨n + 1, X2, I2, J2, by omega, hI, hx, ?_⟩
  refine (rL_law_1663 _ _ _ _ _ _ _).trans ?_
  unfold BL_law_1663
  rw [l_r1 hi hL, e1, cI_some, l_r1 (by rw [s1]; exact hi) (by rw [s1]; exact hL), s2, e2, cI_some, if_pos rfl]
  rfl
theorem lc_1686 {xs : Nat → Int32} {N d : Nat} {X : lt_X} {I : Nat → Nat → Int32} {J : Nat → Nat → Int64} {i : Nat} (H : INV xs X I J) (hN : 100000 ≤ N) (hi : i + 6 ≤ X.1) (hL : X.1 ≤ 3072) (n : Nat) : LC xs N d n i X (LR N d (n + 3) 1686 X I J i) := by
  obtain ⟨v, X1, I1, J1, X2, I2, J2, e1, e2, hI, hx⟩ := p_popular (d := d + 40) H hN (I 1 (i + 1))
  obtain ⟨r, rfl⟩ := am_v0 mX8_popular rfl (by decide +kernel) e1
  obtain ⟨s1, s2⟩ := am_scr_mkh (by omega) e1
  refine ⟨n + 1, X2, I2, J2, by omega, hI, hx, ?_⟩
  refine (rL_law_1686 _ _ _ _ _ _ _).trans ?_
  unfold BL_law_1686
  rw [l_r1 hi hL, e1, cI_some, l_r1 (by rw [s1]; exact hi) (by rw [s1]; exact hL), s2, e2, cI_some, if_pos rfl]
  rfl
theorem lc_1709 {xs : Nat → Int32} {N d : Nat} {X : lt_X} {I : Nat → Nat → Int32} {J : Nat → Nat → Int64} {i : Nat} (H : INV xs X I J) (hN : 100000 ≤ N) (hi : i + 6 ≤ X.1) (hL : X.1 ≤ 3072) (n : Nat) : LC xs N d n i X (LR N d (n + 3) 1709 X I J i) := by
  obtain ⟨v, X1, I1, J1, X2, I2, J2, e1, e2, hI, hx⟩ := p_popularBy (d := d + 40) H hN (I 1 (i + 1))
  obtain ⟨r, rfl⟩ := am_v0 mX8_popularBy rfl (by decide +kernel) e1
  obtain ⟨s1, s2⟩ := am_scr_mkh (by omega) e1
  refine ⟨n + 1, X2, I2, J2, by omega, hI, hx, ?_⟩
  refine (rL_law_1709 _ _ _ _ _ _ _).trans ?_
  unfold BL_law_1709
  rw [l_r1 hi hL, e1, cI_some, l_r1 (by rw [s1]; exact hi) (by rw [s1]; exact hL), s2, e2, cI_some, if_pos rfl]
  rfl
theorem lc_1732 {xs : Nat → Int32} {N d : Nat} {X : lt_X} {I : Nat → Nat → Int32} {J : Nat → Nat → Int64} {i : Nat} (H : INV xs X I J) (hN : 100000 ≤ N) (hi : i + 6 ≤ X.1) (hL : X.1 ≤ 3072) (n : Nat) : LC xs N d n i X (LR N d (n + 3) 1732 X I J i) := by
  obtain ⟨v, X1, I1, J1, X2, I2, J2, e1, e2, hI, hx⟩ := p_game (d := d + 40) H hN (I 1 (i + 1)) (I 1 (i + 2)) (I 1 (i + 3))
  obtain ⟨r, rfl⟩ := am_v0 mX8_game rfl (by decide +kernel) e1
  obtain ⟨s1, s2⟩ := am_scr_mkh (by omega) e1
  refine ⟨n + 1, X2, I2, J2, by omega, hI, hx, ?_⟩
  refine (rL_law_1732 _ _ _ _ _ _ _).trans ?_
  unfold BL_law_1732
  rw [l_r1 hi hL, l_r2 hi hL, l_r3 hi hL, e1, cI_some, l_r1 (by rw [s1]; exact hi) (by rw [s1]; exact hL), l_r2 (by rw [s1]; exact hi) (by rw [s1]; exact hL), l_r3 (by rw [s1]; exact hi) (by rw [s1]; exact hL), s2, e2, cI_some, if_pos rfl]
  rfl
theorem lc_1775 {xs : Nat → Int32} {N d : Nat} {X : lt_X} {I : Nat → Nat → Int32} {J : Nat → Nat → Int64} {i : Nat} (H : INV xs X I J) (hN : 100000 ≤ N) (hi : i + 6 ≤ X.1) (hL : X.1 ≤ 3072) (n : Nat) : LC xs N d n i X (LR N d (n + 3) 1775 X I J i) := by
  obtain ⟨v, X1, I1, J1, X2, I2, J2, e1, e2, hI, hx⟩ := p_moveOf (d := d + 40) H hN (I 1 (i + 1)) (I 1 (i + 2)) (I 1 (i + 3))
  obtain ⟨r, rfl⟩ := am_v0 mX8_moveOf rfl (by decide +kernel) e1
  obtain ⟨s1, s2⟩ := am_scr_mkh (by omega) e1
  refine ⟨n + 1, X2, I2, J2, by omega, hI, hx, ?_⟩
  refine (rL_law_1775 _ _ _ _ _ _ _).trans ?_
  unfold BL_law_1775
  rw [l_r1 hi hL, l_r2 hi hL, l_r3 hi hL, e1, cI_some, l_r1 (by rw [s1]; exact hi) (by rw [s1]; exact hL), l_r2 (by rw [s1]; exact hi) (by rw [s1]; exact hL), l_r3 (by rw [s1]; exact hi) (by rw [s1]; exact hL), s2, e2, cI_some, if_pos rfl]
  rfl
theorem lc_1818 {xs : Nat → Int32} {N d : Nat} {X : lt_X} {I : Nat → Nat → Int32} {J : Nat → Nat → Int64} {i : Nat} (H : INV xs X I J) (hN : 100000 ≤ N) (hi : i + 6 ≤ X.1) (hL : X.1 ≤ 3072) (n : Nat) : LC xs N d n i X (LR N d (n + 3) 1818 X I J i) := by
  obtain ⟨v, X1, I1, J1, X2, I2, J2, e1, e2, hI, hx⟩ := p_alive (d := d + 40) H hN (I 1 (i + 1)) (I 1 (i + 2))
  obtain ⟨r, rfl⟩ := am_v0 mX8_alive rfl (by decide +kernel) e1
  obtain ⟨s1, s2⟩ := am_scr_mkh (by omega) e1
  refine ⟨n + 1, X2, I2, J2, by omega, hI, hx, ?_⟩
  refine (rL_law_1818 _ _ _ _ _ _ _).trans ?_
  unfold BL_law_1818
  rw [l_r1 hi hL, l_r2 hi hL, e1, cI_some, l_r1 (by rw [s1]; exact hi) (by rw [s1]; exact hL), l_r2 (by rw [s1]; exact hi) (by rw [s1]; exact hL), s2, e2, cI_some, if_pos rfl]
  rfl
theorem lc_1851 {xs : Nat → Int32} {N d : Nat} {X : lt_X} {I : Nat → Nat → Int32} {J : Nat → Nat → Int64} {i : Nat} (H : INV xs X I J) (hN : 100000 ≤ N) (hi : i + 6 ≤ X.1) (hL : X.1 ≤ 3072) (n : Nat) : LC xs N d n i X (LR N d (n + 3) 1851 X I J i) := by
  obtain ⟨v, X1, I1, J1, X2, I2, J2, e1, e2, hI, hx⟩ := p_warm (d := d + 40) H hN (I 1 (i + 1))
  obtain ⟨r, rfl⟩ := am_v0 mX8_warm rfl (by decide +kernel) e1
  obtain ⟨s1, s2⟩ := am_scr_mkh (by omega) e1
  refine ⟨n + 1, X2, I2, J2, by omega, hI, hx, ?_⟩
  refine (rL_law_1851 _ _ _ _ _ _ _).trans ?_
  unfold BL_law_1851
  rw [l_r1 hi hL, e1, cI_some, l_r1 (by rw [s1]; exact hi) (by rw [s1]; exact hL), s2, e2, cI_some, if_pos rfl]
  rfl
theorem lc_1874 {xs : Nat → Int32} {N d : Nat} {X : lt_X} {I : Nat → Nat → Int32} {J : Nat → Nat → Int64} {i : Nat} (H : INV xs X I J) (hN : 100000 ≤ N) (hi : i + 6 ≤ X.1) (hL : X.1 ≤ 3072) (n : Nat) : LC xs N d n i X (LR N d (n + 3) 1874 X I J i) := by
  obtain ⟨v, X1, I1, J1, X2, I2, J2, e1, e2, hI, hx⟩ := p_live (d := d) H hN (I 1 (i + 1))
  obtain ⟨r, rfl⟩ := am_v0 mX8_live rfl (by decide +kernel) e1
  obtain ⟨s1, s2⟩ := am_scr_mkh (by omega) e1
  refine ⟨n + 1, X2, I2, J2, by omega, hI, hx, ?_⟩
  refine (rL_law_1874 _ _ _ _ _ _ _).trans ?_
  unfold BL_law_1874
  rw [l_r1 hi hL, e1, cI_some, l_r1 (by rw [s1]; exact hi) (by rw [s1]; exact hL), s2, e2, cI_some, if_pos rfl]
  rfl
theorem lc_1897 {xs : Nat → Int32} {N d : Nat} {X : lt_X} {I : Nat → Nat → Int32} {J : Nat → Nat → Int64} {i : Nat} (H : INV xs X I J) (hN : 100000 ≤ N) (hi : i + 6 ≤ X.1) (hL : X.1 ≤ 3072) (n : Nat) : LC xs N d n i X (LR N d (n + 3) 1897 X I J i) := by
  obtain ⟨v, X1, I1, J1, X2, I2, J2, e1, e2, hI, hx⟩ := p_lived (d := d + 40) H hN (I 1 (i + 1))
  obtain ⟨r, rfl⟩ := am_v0 mX8_lived rfl (by decide +kernel) e1
  obtain ⟨s1, s2⟩ := am_scr_mkh (by omega) e1
  refine ⟨n + 1, X2, I2, J2, by omega, hI, hx, ?_⟩
  refine (rL_law_1897 _ _ _ _ _ _ _).trans ?_
  unfold BL_law_1897
  rw [l_r1 hi hL, e1, cI_some, l_r1 (by rw [s1]; exact hi) (by rw [s1]; exact hL), s2, e2, cI_some, if_pos rfl]
  rfl
theorem lc_1920 {xs : Nat → Int32} {N d : Nat} {X : lt_X} {I : Nat → Nat → Int32} {J : Nat → Nat → Int64} {i : Nat} (H : INV xs X I J) (hN : 100000 ≤ N) (hi : i + 6 ≤ X.1) (hL : X.1 ≤ 3072) (n : Nat) : LC xs N d n i X (LR N d (n + 3) 1920 X I J i) := by
  obtain ⟨v, X1, I1, J1, X2, I2, J2, e1, e2, hI, hx⟩ := p_mean (d := d) H hN (I 1 (i + 1)) (I 1 (i + 2))
  obtain ⟨r, rfl⟩ := am_v0 mX8_mean rfl (by decide +kernel) e1
  obtain ⟨s1, s2⟩ := am_scr_mkh (by omega) e1
  refine ⟨n + 1, X2, I2, J2, by omega, hI, hx, ?_⟩
  refine (rL_law_1920 _ _ _ _ _ _ _).trans ?_
  unfold BL_law_1920
  rw [l_r1 hi hL, l_r2 hi hL, e1, cI_some, l_r1 (by rw [s1]; exact hi) (by rw [s1]; exact hL), l_r2 (by rw [s1]; exact hi) (by rw [s1]; exact hL), s2, e2, cI_some, if_pos rfl]
  rfl
theorem lc_1953 {xs : Nat → Int32} {N d : Nat} {X : lt_X} {I : Nat → Nat → Int32} {J : Nat → Nat → Int64} {i : Nat} (H : INV xs X I J) (hN : 100000 ≤ N) (hi : i + 6 ≤ X.1) (hL : X.1 ≤ 3072) (n : Nat) : LC xs N d n i X (LR N d (n + 3) 1953 X I J i) := by
  obtain ⟨v, X1, I1, J1, X2, I2, J2, e1, e2, hI, hx⟩ := p_mark (d := d + 40) H hN 
  obtain ⟨r, rfl⟩ := am_v0 mX8_mark rfl (by decide +kernel) e1
  obtain ⟨s1, s2⟩ := am_scr_mkh (by omega) e1
  refine ⟨n + 1, X2, I2, J2, by omega, hI, hx, ?_⟩
  refine (rL_law_1953 _ _ _ _ _ _ _).trans ?_
  unfold BL_law_1953
  rw [e1, cI_some, e2, cI_some, if_pos rfl]
  rfl
theorem lc_1966 {xs : Nat → Int32} {N d : Nat} {X : lt_X} {I : Nat → Nat → Int32} {J : Nat → Nat → Int64} {i : Nat} (H : INV xs X I J) (hN : 100000 ≤ N) (hi : i + 6 ≤ X.1) (hL : X.1 ≤ 3072) (n : Nat) : LC xs N d n i X (LR N d (n + 3) 1966 X I J i) := by
  obtain ⟨v, X1, I1, J1, X2, I2, J2, e1, e2, hI, hx⟩ := p_back (d := d + 40) H hN 
  obtain ⟨r, rfl⟩ := am_v0 mX8_back rfl (by decide +kernel) e1
  obtain ⟨s1, s2⟩ := am_scr_mkh (by omega) e1
  refine ⟨n + 1, X2, I2, J2, by omega, hI, hx, ?_⟩
  refine (rL_law_1966 _ _ _ _ _ _ _).trans ?_
  unfold BL_law_1966
  rw [e1, cI_some, e2, cI_some, if_pos rfl]
  rfl
