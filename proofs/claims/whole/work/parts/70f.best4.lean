/-! best, bestSet: the pairs -/
theorem c9_laysBest {N d : Nat} {X : lt_X} {I : Nat → Nat → Int32} {J : Nat → Nat → Int64} {T : Nat → Nat} (hT : TM (I 140) T) (hw : WF T) {ppl : Nat} (hpl : ppl < 2 ^ T 2) (hN : 1000 ≤ N) : ∃ M, am_G am_prog (N + 30) (d + 21) 305 [.ref 135, .int (nI ppl)] (mkh X I J) = some (.null, mkh X M J) ∧ (∀ a, a ≠ 135 → ¬ (143 ≤ a ∧ a ≤ 145) → M a = I a) ∧ (∀ k, k ≠ 29 → M 135 k = I 135 k) ∧ M 135 29 = nI (bv (wth T) (T 3) ppl (T 2) 0 0) ∧ ∀ i, i < T 2 → M 145 i = nI (asg (wth T) (T 3) ppl (T 2) 0 0 i) := by
  obtain ⟨h0, h1, h2, h3, h4, h5, h6⟩ := hw.1
  obtain ⟨L, l1, l2, l3⟩ := c9_laysWorths (N := N) (d := d + 15) (X := X) (I := I) (J := J) hT hw hN
  obtain ⟨M, m1, m2, m3⟩ := c9_shares (N := N) (X := X) (J := J) (ppl := ppl) hw hpl hN (T 2) 0 (d + 18 - T 2) 0 0 (u2 L 135 29 (-1)) (by omega) (Nat.two_pow_pos _) (by omega) (by rw [u2_na _ _ _ _ _ (by omega), l2 140 (by omega)]; exact hT) (fun q k a b => by rw [u2_na _ _ _ _ _ (by omega)]; exact l3 q k a b)
  rw [show d + 18 - T 2 + T 2 + 2 = d + 20 by omega] at m1
  refine ⟨M, ?_, fun a b1 b2 => ?_, fun k hk => ?_, ?_⟩
  · rw [gX9_laysBest N (d + 20), sX9_laysBest_0 N (d + 20), l1, cV_some, kX9_laysBest_0 N (d + 20), m1, cV_some, kX9_laysBest_1 N (d + 20)]
  · rw [m2.1 a b1 (by omega) (by omega), u2_na _ _ _ _ _ b1, l2 a (by omega)]
  · rw [m2.2.1 k hk, u2_nk _ _ _ _ _ hk, l2 135 (by omega)]
  · rcases m3 with ⟨-, o2, -, o4⟩ | ⟨o1, -, -⟩
    · rw [Nat.zero_add] at o2
      exact ⟨o2, fun i hi => o4 i (by omega) hi⟩
    · refine absurd ?_ o1
      rw [u2_at]
      have : (-1 : Int32).toInt = -1 := by decide
      omega
theorem p_best {xs : Nat → Int32} {N d : Nat} {X : lt_X} {I : Nat → Nat → Int32} {J : Nat → Nat → Int64} (H : INV xs X I J) (hN : 100000 ≤ N) (x : Int32) : PR xs N d X I J 149 307 [.int x] := by
  obtain ⟨T, hw, hT, hM, hX, ht⟩ := INV_T H
  obtain ⟨h0, h1, h2, h3, h4, h5, h6⟩ := hw.1
  have h65 : 2 ^ T 2 ≤ 2 ^ 6 := Nat.pow_le_pow_right (by omega) h2
  have tmK : ∀ K : Nat → Nat → Int32, (∀ a, a ≠ 3 → ¬ (126 ≤ a ∧ a ≤ 133) → K a = I a) → TM (u2 (u2 K 135 1 (nI 0)) 135 0 (nI 0) 140) T := fun K hK => by rw [u2_na _ _ _ _ _ (by omega), u2_na _ _ _ _ _ (by omega), hK 140 (by omega) (by omega)]; exact hM
  by_cases q : inb x (2 ^ T 2) = true
  rotate_left
  · refine PR_tells H (.int (-1)) (nI 5) (CR_st ?_) (fun K hK => MR_2 (a := nI 0) (b := nI 0) ?_)
    · rw [gX8_best N (d + 38), sX8_best_0 N (d + 38) _ hX]
      rw [c8_isSetOfPeople hX hT hw, cI_some, kX8_best_0 N (d + 38) _ hX, nc_10, if_neg q]
    · rw [gX9_best N (d + 37), sX9_best_0 N (d + 37)]
      rw [c9_arePeople (tmK K hK) hw, cI_some, kX9_best_0 N (d + 37), nc_10, if_neg q]
  · obtain ⟨ppl, hpl, rfl⟩ := inb_e q (by omega)
    obtain ⟨K1, k1, k2, -, -⟩ := c0_findBest (N := N) (d := d + 34) (X := X) (I := I) (J := J) ht hT hw hpl (by omega)
    refine PR_tells H (.int (nI (bv (wth T) (T 3) ppl (T 2) 0 0))) (nI 0) ⟨u2 K1 3 15 (nI 0), ?_, ⟨fun a b1 b2 => ?_, fun j hj => ?_⟩, u2_at _ _ _ _⟩ (fun K hK => ?_)
    · rw [gX8_best N (d + 38), sX8_best_0 N (d + 38) _ hX]
      rw [c8_isSetOfPeople hX hT hw, cI_some, kX8_best_0 N (d + 38) _ hX, nc_10, if_pos q, k1, cI_some, kX8_best_1 N (d + 38) _ hX]
    · rw [u2_na _ _ _ _ _ b1, k2 a (by omega) (by omega)]
    · rw [u2_nk _ _ _ _ _ hj, k2 3 (by omega) (by omega)]
    · obtain ⟨M, m1, m2, m3, m4, m5⟩ := c9_laysBest (N := N) (d := d + 18) (X := X) (J := J) (tmK K hK) hw hpl (by omega)
      refine ⟨M, ?_, ⟨fun a b1 b2 b3 => ?_, fun j hj => ?_⟩, ?_⟩
      · rw [gX9_best N (d + 37), sX9_best_0 N (d + 37)]
        rw [c9_arePeople (tmK K hK) hw, cI_some, kX9_best_0 N (d + 37), nc_10, if_pos q, m1, cV_some, kX9_best_1 N (d + 37), m4]
      · rw [m2 a b1 (by omega), u2_na _ _ _ _ _ b1, u2_na _ _ _ _ _ b1]
      · rw [m3 j (by omega), u2_nk _ _ _ _ _ (by omega), u2_nk _ _ _ _ _ (by omega)]
      · rw [m3 0 (by omega), u2_at]
theorem asg_lt (W : Nat → Nat → Nat) (S ppl : Nat) : ∀ r p g i, asg W S ppl r p g i = 4294967295 ∨ asg W S ppl r p g i < S := by
  intro r
  induction r with
  | zero => intro p g i; exact Or.inl rfl
  | succ r ih =>
    intro p g i
    unfold asg
    split
    · exact fbo_lt W S ppl r p g
    · exact ih _ _ _
theorem p_bestSet {xs : Nat → Int32} {N d : Nat} {X : lt_X} {I : Nat → Nat → Int32} {J : Nat → Nat → Int64} (H : INV xs X I J) (hN : 100000 ≤ N) (x y : Int32) : PR xs N d X I J 150 308 [.int x, .int y] := by
  obtain ⟨T, hw, hT, hM, hX, ht⟩ := INV_T H
  obtain ⟨h0, h1, h2, h3, h4, h5, h6⟩ := hw.1
  have h65 : 2 ^ T 2 ≤ 2 ^ 6 := Nat.pow_le_pow_right (by omega) h2
  have tmK : ∀ K : Nat → Nat → Int32, (∀ a, a ≠ 3 → ¬ (126 ≤ a ∧ a ≤ 133) → K a = I a) → TM (u2 (u2 K 135 1 (nI 0)) 135 0 (nI 0) 140) T := fun K hK => by rw [u2_na _ _ _ _ _ (by omega), u2_na _ _ _ _ _ (by omega), hK 140 (by omega) (by omega)]; exact hM
  by_cases qy : inb y (T 2) = true
  rotate_left
  · refine PR_tells H (.int (-1)) (nI 2) (CR_st ?_) (fun K hK => MR_2 (a := nI 0) (b := nI 0) ?_)
    · rw [gX8_bestSet N (d + 37), sX8_bestSet_0 N (d + 37) _ hX]
      rw [c8_has hX hT hw (by omega), cI_some, kX8_bestSet_0 N (d + 37) _ hX, nc_10, if_neg qy]
    · rw [gX9_bestSet N (d + 37), sX9_bestSet_0 N (d + 37)]
      rw [c9_isPersonAt (tmK K hK) hw, cI_some, kX9_bestSet_0 N (d + 37), nc_10, if_neg qy]
  obtain ⟨u, hu, rfl⟩ := inb_e qy (by omega)
  by_cases q : inb x (2 ^ T 2) = true
  rotate_left
  · refine PR_tells H (.int (-1)) (nI 5) (CR_st ?_) (fun K hK => MR_2 (a := nI 0) (b := nI 0) ?_)
    · rw [gX8_bestSet N (d + 37), sX8_bestSet_0 N (d + 37) _ hX]
      rw [c8_has hX hT hw (by omega), cI_some, kX8_bestSet_0 N (d + 37) _ hX, nc_10, if_pos qy, c8_isSetOfPeople hX hT hw, cI_some, kX8_bestSet_1 N (d + 37) _ hX, nc_10, if_neg q]
    · rw [gX9_bestSet N (d + 37), sX9_bestSet_0 N (d + 37)]
      rw [c9_isPersonAt (tmK K hK) hw, cI_some, kX9_bestSet_0 N (d + 37), nc_10, if_pos qy, c9_arePeople (tmK K hK) hw, cI_some, kX9_bestSet_1 N (d + 37), nc_10, if_neg q]
  obtain ⟨ppl, hpl, rfl⟩ := inb_e q (by omega)
  by_cases qb : ppl.testBit u = true
  rotate_left
  · refine PR_tells H (.int (-1)) (nI 5) (CR_st ?_) (fun K hK => MR_2 (a := nI 0) (b := nI 0) ?_)
    · rw [gX8_bestSet N (d + 37), sX8_bestSet_0 N (d + 37) _ hX]
      rw [c8_has hX hT hw (by omega), cI_some, kX8_bestSet_0 N (d + 37) _ hX, nc_10, if_pos qy, c8_isSetOfPeople hX hT hw, cI_some, kX8_bestSet_1 N (d + 37) _ hX, nc_10, if_pos q, nc_b0 (by simpa using qb) (by omega) (by omega)]
    · rw [gX9_bestSet N (d + 37), sX9_bestSet_0 N (d + 37)]
      rw [c9_isPersonAt (tmK K hK) hw, cI_some, kX9_bestSet_0 N (d + 37), nc_10, if_pos qy, c9_arePeople (tmK K hK) hw, cI_some, kX9_bestSet_1 N (d + 37), nc_10, if_pos q, c9_has (by omega) (by omega), cI_some, kX9_bestSet_2 N (d + 37), nc_10, if_neg qb]
  obtain ⟨K1, k1, k2⟩ := c0_findBestSet (N := N) (d := d + 33) (X := X) (I := I) (J := J) ht hT hw hpl hu qb (by omega)
  have hl := asg_lt (wth T) (T 3) ppl (T 2) 0 0 u
  have mm : ∀ K : Nat → Nat → Int32, (∀ a, a ≠ 3 → ¬ (126 ≤ a ∧ a ≤ 133) → K a = I a) → ∃ M, am_G am_prog (N + 30) (d + 40) 308 [.ref 135, .int (nI ppl), .int (nI u)] (mkh X K J) = (if nI (asg (wth T) (T 3) ppl (T 2) 0 0 u) < nI 0 then some (.int (-1), mkh X (u2 M 135 0 (nI 8)) J) else some (.int (nI (asg (wth T) (T 3) ppl (T 2) 0 0 u)), mkh X M J)) ∧ (∀ a, a ≠ 135 → ¬ (143 ≤ a ∧ a ≤ 145) → M a = K a) ∧ (∀ j, j ≠ 29 → j ≠ 0 → j ≠ 1 → M 135 j = K 135 j) ∧ M 135 0 = nI 0 := by
    intro K hK
    obtain ⟨M, m1, m2, m3, m4, m5⟩ := c9_laysBest (N := N) (d := d + 18) (X := X) (J := J) (tmK K hK) hw hpl (by omega)
    refine ⟨M, ?_, fun a b1 b2 => ?_, fun j b1 b2 b3 => ?_, ?_⟩
    · rw [gX9_bestSet N (d + 37), sX9_bestSet_0 N (d + 37)]
      rw [c9_isPersonAt (tmK K hK) hw, cI_some, kX9_bestSet_0 N (d + 37), nc_10, if_pos qy, c9_arePeople (tmK K hK) hw, cI_some, kX9_bestSet_1 N (d + 37), nc_10, if_pos q, c9_has (by omega) (by omega), cI_some, kX9_bestSet_2 N (d + 37), nc_10, if_pos qb, m1, cV_some, kX9_bestSet_3 N (d + 37), nc_in (by omega) (by omega), nc_in (by omega) (by omega), nI_clamp (by omega), m5 u hu]
    · rw [m2 a b1 b2, u2_na _ _ _ _ _ b1, u2_na _ _ _ _ _ b1]
    · rw [m3 j b1, u2_nk _ _ _ _ _ b2, u2_nk _ _ _ _ _ b3]
    · rw [m3 0 (by omega), u2_at]
  generalize hF : asg (wth T) (T 3) ppl (T 2) 0 0 u = F at *
  by_cases r : F = 4294967295
  · refine PR_tells H (.int (-1)) (nI 8) ⟨u2 K1 3 15 (nI 8), ?_, ⟨fun a b1 b2 => ?_, fun j hj => ?_⟩, u2_at _ _ _ _⟩ (fun K hK => ?_)
    · rw [gX8_bestSet N (d + 37), sX8_bestSet_0 N (d + 37) _ hX]
      rw [c8_has hX hT hw (by omega), cI_some, kX8_bestSet_0 N (d + 37) _ hX, nc_10, if_pos qy, c8_isSetOfPeople hX hT hw, cI_some, kX8_bestSet_1 N (d + 37) _ hX, nc_10, if_pos q, nc_b1 qb (by omega) (by omega), k1, cI_some, kX8_bestSet_2 N (d + 37) _ hX, c8_answerIfAny hX, nc_m1 r, cI_some, kX8_bestSet_3 N (d + 37) _ hX]
    · rw [u2_na _ _ _ _ _ b1, k2 a (by omega) (by omega)]
    · rw [u2_nk _ _ _ _ _ hj, k2 3 (by omega) (by omega)]
    · obtain ⟨M, m1, m2, m3, m4⟩ := mm K hK
      rw [nc_neg r] at m1
      refine ⟨u2 M 135 0 (nI 8), m1, ⟨fun a b1 b2 b3 => ?_, fun j hj => ?_⟩, u2_at _ _ _ _⟩
      · rw [u2_na _ _ _ _ _ b1, m2 a b1 b3]
      · rw [u2_nk _ _ _ _ _ (by omega), m3 j (by omega) (by omega) (by omega)]
  · refine PR_tells H (.int (nI F)) (nI 0) ⟨u2 K1 3 15 (nI 0), ?_, ⟨fun a b1 b2 => ?_, fun j hj => ?_⟩, u2_at _ _ _ _⟩ (fun K hK => ?_)
    · rw [gX8_bestSet N (d + 37), sX8_bestSet_0 N (d + 37) _ hX]
      rw [c8_has hX hT hw (by omega), cI_some, kX8_bestSet_0 N (d + 37) _ hX, nc_10, if_pos qy, c8_isSetOfPeople hX hT hw, cI_some, kX8_bestSet_1 N (d + 37) _ hX, nc_10, if_pos q, nc_b1 qb (by omega) (by omega), k1, cI_some, kX8_bestSet_2 N (d + 37) _ hX, c8_answerIfAny hX, nc_nm1 (by omega), cI_some, kX8_bestSet_3 N (d + 37) _ hX]
    · rw [u2_na _ _ _ _ _ b1, k2 a (by omega) (by omega)]
    · rw [u2_nk _ _ _ _ _ hj, k2 3 (by omega) (by omega)]
    · obtain ⟨M, m1, m2, m3, m4⟩ := mm K hK
      rw [nc_nlt (by omega) (by omega)] at m1
      exact ⟨M, m1, ⟨fun a b1 b2 b3 => m2 a b1 b3, fun j hj => m3 j (by omega) (by omega) (by omega)⟩, m4⟩
