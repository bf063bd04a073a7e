/-! THE LAW: its loop -/
theorem law_18 {N d : Nat} {X : lt_X} {I : Nat → Nat → Int32} {J : Nat → Nat → Int64} {i : Nat} (hL : X.1 ≤ 3072) (hi : i + 6 ≤ X.1) (n : Nat) : LR N d (n + 1) 18 X I J i = if (I 1 i &&& (63 : Int32)) = 0 then LR N d n 272 X I J i else if (I 1 i &&& (63 : Int32)) = 1 then LR N d n 285 X I J i else if (I 1 i &&& (63 : Int32)) = 2 then LR N d n 299 X I J i else if (I 1 i &&& (63 : Int32)) = 3 then LR N d n 313 X I J i else if (I 1 i &&& (63 : Int32)) = 4 then LR N d n 356 X I J i else if (I 1 i &&& (63 : Int32)) = 5 then LR N d n 429 X I J i else if (I 1 i &&& (63 : Int32)) = 6 then LR N d n 463 X I J i else if (I 1 i &&& (63 : Int32)) = 7 then LR N d n 526 X I J i else if (I 1 i &&& (63 : Int32)) = 8 then LR N d n 589 X I J i else if (I 1 i &&& (63 : Int32)) = 9 then LR N d n 612 X I J i else if (I 1 i &&& (63 : Int32)) = 10 then LR N d n 635 X I J i else if (I 1 i &&& (63 : Int32)) = 11 then LR N d n 658 X I J i else if (I 1 i &&& (63 : Int32)) = 12 then LR N d n 681 X I J i else if (I 1 i &&& (63 : Int32)) = 13 then LR N d n 714 X I J i else if (I 1 i &&& (63 : Int32)) = 14 then LR N d n 747 X I J i else if (I 1 i &&& (63 : Int32)) = 15 then LR N d n 780 X I J i else if (I 1 i &&& (63 : Int32)) = 16 then LR N d n 813 X I J i else if (I 1 i &&& (63 : Int32)) = 17 then LR N d n 846 X I J i else if (I 1 i &&& (63 : Int32)) = 18 then LR N d n 869 X I J i else if (I 1 i &&& (63 : Int32)) = 19 then LR N d n 892 X I J i else if (I 1 i &&& (63 : Int32)) = 20 then LR N d n 935 X I J i else if (I 1 i &&& (63 : Int32)) = 21 then LR N d n 968 X I J i else if (I 1 i &&& (63 : Int32)) = 22 then LR N d n 991 X I J i else if (I 1 i &&& (63 : Int32)) = 23 then LR N d n 1040 X I J i else if (I 1 i &&& (63 : Int32)) = 24 then LR N d n 1073 X I J i else if (I 1 i &&& (63 : Int32)) = 25 then LR N d n 1116 X I J i else if (I 1 i &&& (63 : Int32)) = 26 then LR N d n 1149 X I J i else if (I 1 i &&& (63 : Int32)) = 27 then LR N d n 1172 X I J i else if (I 1 i &&& (63 : Int32)) = 28 then LR N d n 1205 X I J i else if (I 1 i &&& (63 : Int32)) = 29 then LR N d n 1238 X I J i else if (I 1 i &&& (63 : Int32)) = 30 then LR N d n 1271 X I J i else if (I 1 i &&& (63 : Int32)) = 31 then LR N d n 1304 X I J i else if (I 1 i &&& (63 : Int32)) = 32 then LR N d n 1327 X I J i else if (I 1 i &&& (63 : Int32)) = 33 then LR N d n 1350 X I J i else if (I 1 i &&& (63 : Int32)) = 34 then LR N d n 1373 X I J i else if (I 1 i &&& (63 : Int32)) = 35 then LR N d n 1406 X I J i else if (I 1 i &&& (63 : Int32)) = 36 then LR N d n 1429 X I J i else if (I 1 i &&& (63 : Int32)) = 37 then LR N d n 1462 X I J i else if (I 1 i &&& (63 : Int32)) = 38 then LR N d n 1485 X I J i else if (I 1 i &&& (63 : Int32)) = 39 then LR N d n 1498 X I J i else if (I 1 i &&& (63 : Int32)) = 40 then LR N d n 1531 X I J i else if (I 1 i &&& (63 : Int32)) = 41 then LR N d n 1574 X I J i else if (I 1 i &&& (63 : Int32)) = 42 then LR N d n 1607 X I J i else if (I 1 i &&& (63 : Int32)) = 43 then LR N d n 1640 X I J i else if (I 1 i &&& (63 : Int32)) = 44 then LR N d n 1663 X I J i else if (I 1 i &&& (63 : Int32)) = 45 then LR N d n 1686 X I J i else if (I 1 i &&& (63 : Int32)) = 46 then LR N d n 1709 X I J i else if (I 1 i &&& (63 : Int32)) = 47 then LR N d n 1732 X I J i else if (I 1 i &&& (63 : Int32)) = 48 then LR N d n 1775 X I J i else if (I 1 i &&& (63 : Int32)) = 49 then LR N d n 1818 X I J i else if (I 1 i &&& (63 : Int32)) = 50 then LR N d n 1851 X I J i else if (I 1 i &&& (63 : Int32)) = 51 then LR N d n 1874 X I J i else if (I 1 i &&& (63 : Int32)) = 52 then LR N d n 1897 X I J i else if (I 1 i &&& (63 : Int32)) = 53 then LR N d n 1920 X I J i else if (I 1 i &&& (63 : Int32)) = 54 then LR N d n 1953 X I J i else if (I 1 i &&& (63 : Int32)) = 55 then LR N d n 1966 X I J i else LR N d n 1979 X I J i := by
  refine (rL_law_18 _ _ _ _ _ _ _).trans ?_
  unfold BL_law_18
  have e1 : ∀ f : Int32 → am_O, am_al (mkh X I J) 21 1 f = f (nI X.1) := fun f => rfl
  have e2 : ¬ nI X.1 - (6 : Int32) < nI i := by
    rw [show (6 : Int32) = nI 6 from rfl, pk_sub (by omega)]
    exact nI_nlt (by omega) (by omega)
  have e3 : ∀ f : Int32 → am_O, am_lI (mkh X I J) 21 1 (nI i) f = f (I 1 i) := fun f => lI_mk rfl (by omega) (by omega)
  rw [e1, if_neg e2, e3]
  rfl
theorem law_end {N d : Nat} {X : lt_X} {I : Nat → Nat → Int32} {J : Nat → Nat → Int64} {i : Nat} (hL : X.1 ≤ 3072) (hi : X.1 < i + 6) (hi2 : i ≤ 3072) (n : Nat) : LR N d (n + 1) 18 X I J i = some (.int 1, mkh X I J) := by
  refine (rL_law_18 _ _ _ _ _ _ _).trans ?_
  unfold BL_law_18
  have e1 : ∀ f : Int32 → am_O, am_al (mkh X I J) 21 1 f = f (nI X.1) := fun f => rfl
  have e2 : nI X.1 - (6 : Int32) < nI i := by
    rw [lt_nI (by omega), show (6 : Int32) = nI 6 from rfl, pk_sub_toInt (by omega) (by omega)]
    omega
  rw [e1, if_pos e2]
  rfl
theorem law_1979 {N d : Nat} {X : lt_X} {I : Nat → Nat → Int32} {J : Nat → Nat → Int64} {i : Nat} (n : Nat) : LR N d (n + 1) 1979 X I J i = LR N d n 18 X I J (i + 6) := by
  refine (rL_law_1979 _ _ _ _ _ _ _).trans ?_
  unfold BL_law_1979
  rw [show (6 : Int32) = nI 6 from rfl, nI_add]
  rfl
theorem law_step {xs : Nat → Int32} {N d : Nat} {X : lt_X} {I : Nat → Nat → Int32} {J : Nat → Nat → Int64} {i : Nat} (H : INV xs X I J) (hN : 100000 ≤ N) (hi : i + 6 ≤ X.1) (hL : X.1 ≤ 3072) (n : Nat) : LC xs N d n i X (LR N d (n + 4) 18 X I J i) := by
  rw [law_18 hL hi (n + 3)]
  refine LC_if (lc_272 H hN hi hL n) ?_
  refine LC_if (lc_285 H hN hi hL n) ?_
  refine LC_if (lc_299 H hN hi hL n) ?_
  refine LC_if (lc_313 H hN hi hL n) ?_
  refine LC_if (lc_356 H hN hi hL n) ?_
  refine LC_if (lc_429 H hN hi hL n) ?_
  refine LC_if (lc_463 H hN hi hL n) ?_
  refine LC_if (lc_526 H hN hi hL n) ?_
  refine LC_if (lc_589 H hN hi hL n) ?_
  refine LC_if (lc_612 H hN hi hL n) ?_
  refine LC_if (lc_635 H hN hi hL n) ?_
  refine LC_if (lc_658 H hN hi hL n) ?_
  refine LC_if (lc_681 H hN hi hL n) ?_
  refine LC_if (lc_714 H hN hi hL n) ?_
  refine LC_if (lc_747 H hN hi hL n) ?_
  refine LC_if (lc_780 H hN hi hL n) ?_
  refine LC_if (lc_813 H hN hi hL n) ?_
  refine LC_if (lc_846 H hN hi hL n) ?_
  refine LC_if (lc_869 H hN hi hL n) ?_
  refine LC_if (lc_892 H hN hi hL n) ?_
  refine LC_if (lc_935 H hN hi hL n) ?_
  refine LC_if (lc_968 H hN hi hL n) ?_
  refine LC_if (lc_991 H hN hi hL n) ?_
  refine LC_if (lc_1040 H hN hi hL n) ?_
  refine LC_if (lc_1073 H hN hi hL n) ?_
  refine LC_if (lc_1116 H hN hi hL n) ?_
  refine LC_if (lc_1149 H hN hi hL n) ?_
  refine LC_if (lc_1172 H hN hi hL n) ?_
  refine LC_if (lc_1205 H hN hi hL n) ?_
  refine LC_if (lc_1238 H hN hi hL n) ?_
  refine LC_if (lc_1271 H hN hi hL n) ?_
  refine LC_if (lc_1304 H hN hi hL n) ?_
  refine LC_if (lc_1327 H hN hi hL n) ?_
  refine LC_if (lc_1350 H hN hi hL n) ?_
  refine LC_if (lc_1373 H hN hi hL n) ?_
  refine LC_if (lc_1406 H hN hi hL n) ?_
  refine LC_if (lc_1429 H hN hi hL n) ?_
  refine LC_if (lc_1462 H hN hi hL n) ?_
  refine LC_if (lc_1485 H hN hi hL n) ?_
  refine LC_if (lc_1498 H hN hi hL n) ?_
  refine LC_if (lc_1531 H hN hi hL n) ?_
  refine LC_if (lc_1574 H hN hi hL n) ?_
  refine LC_if (lc_1607 H hN hi hL n) ?_
  refine LC_if (lc_1640 H hN hi hL n) ?_
  refine LC_if (lc_1663 H hN hi hL n) ?_
  refine LC_if (lc_1686 H hN hi hL n) ?_
  refine LC_if (lc_1709 H hN hi hL n) ?_
  refine LC_if (lc_1732 H hN hi hL n) ?_
  refine LC_if (lc_1775 H hN hi hL n) ?_
  refine LC_if (lc_1818 H hN hi hL n) ?_
  refine LC_if (lc_1851 H hN hi hL n) ?_
  refine LC_if (lc_1874 H hN hi hL n) ?_
  refine LC_if (lc_1897 H hN hi hL n) ?_
  refine LC_if (lc_1920 H hN hi hL n) ?_
  refine LC_if (lc_1953 H hN hi hL n) ?_
  refine LC_if (lc_1966 H hN hi hL n) ?_
  exact ⟨n + 2, X, I, J, by omega, H, rfl, rfl⟩
theorem law_loop {xs : Nat → Int32} {N d : Nat} (hN : 100000 ≤ N) : ∀ (k : Nat) (X : lt_X) (I : Nat → Nat → Int32) (J : Nat → Nat → Int64) (i n : Nat), INV xs X I J → X.1 ≤ 3072 → i ≤ 3072 → X.1 < i + 6 * k + 6 → ∃ X2 I2 J2, LR N d (n + 5 * k + 5) 18 X I J i = some (.int 1, mkh X2 I2 J2) := by
  intro k
  induction k with
  | zero =>
    intro X I J i n H hL hi h
    exact ⟨X, I, J, law_end hL (by omega) hi (n + 4)⟩
  | succ k ih =>
    intro X I J i n H hL hi h
    by_cases q : X.1 < i + 6
    · exact ⟨X, I, J, law_end hL q hi (n + 5 * (k + 1) + 4)⟩
    · obtain ⟨m, X2, I2, J2, hm, H2, hx, e⟩ := law_step (d := d) H hN (i := i) (by omega) hL (n + 5 * k + 6)
      obtain ⟨X3, I3, J3, e3⟩ := ih X2 I2 J2 (i + 6) (m - 5 * k - 5) H2 (by omega) (by omega) (by omega)
      refine ⟨X3, I3, J3, ?_⟩
      rw [show n + 5 * (k + 1) + 5 = n + 5 * k + 6 + 4 by omega, e, law_1979, show m = m - 5 * k - 5 + 5 * k + 5 by omega]
      exact e3
