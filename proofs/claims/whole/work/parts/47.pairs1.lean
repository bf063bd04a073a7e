/-! pairs of calls that only tell: the town's readers -/
theorem p_person {xs : Nat → Int32} {N d : Nat} {X : lt_X} {I : Nat → Nat → Int32} {J : Nat → Nat → Int64} (H : INV xs X I J) (hN : 100000 ≤ N) (x y : Int32) : PR xs N d X I J 128 268 [.int x, .int y] := by
  obtain ⟨T, hw, hT, hM, hX, ht⟩ := INV_T H
  obtain ⟨h0, h1, h2, h3, h4, h5, h6⟩ := hw.1
  by_cases q : inb x (T 2) = true
  · obtain ⟨p, hp, rfl⟩ := inb_e q (by omega)
    by_cases q2 : rng y 0 3 = true
    · obtain ⟨k, -, hk, rfl⟩ := rng_e q2 (by omega)
      have hc : ∀ r, (k = 0 ∧ r = nI (T (37 + p)) ∨ k = 1 ∧ r = nI (T (43 + p)) ∨ k = 2 ∧ r = nI (T (49 + p)) ∨ k = 3 ∧ r = nI (owned T p)) → PR xs N d X I J 128 268 [.int (nI p), .int (nI k)] := by
        intro r hr
        refine PR_v H hM r (nI 0) ?_ ?_
        · rw [gX8_person N (d + 38), sX8_person_0 N (d + 38) _ hX]
          rw [c8_has hX hT hw (by omega), cI_some, kX8_person_0 N (d + 38) _ hX, nc_10, if_pos q]
          rcases hr with ⟨rfl, rfl⟩ | ⟨rfl, rfl⟩ | ⟨rfl, rfl⟩ | ⟨rfl, rfl⟩
          · simp (disch := first | assumption | omega) only [nI_add, pk_mul, nI_clamp, nc_in, nc_lt, nc_nlt, cI_some, cV_some, nc_eq, nc_ne, if_true, if_false, ite_true, ite_false, tcM hT]
          · simp (disch := first | assumption | omega) only [nI_add, pk_mul, nI_clamp, nc_in, nc_lt, nc_nlt, cI_some, cV_some, nc_eq, nc_ne, if_true, if_false, ite_true, ite_false, tcG hT]
          · simp (disch := first | assumption | omega) only [nI_add, pk_mul, nI_clamp, nc_in, nc_lt, nc_nlt, cI_some, cV_some, nc_eq, nc_ne, if_true, if_false, ite_true, ite_false, tcN hT]
          · simp (disch := first | assumption | omega) only [nI_add, pk_mul, nI_clamp, nc_in, nc_lt, nc_nlt, cI_some, cV_some, nc_eq, nc_ne, if_true, if_false, ite_true, ite_false, c5_setsOf ht hT hw, kX8_person_1 N (d + 38) _ hX]
        · intro K hK
          rw [u2_same]
          rw [gX9_person N (d + 37), sX9_person_0 N (d + 37)]
          rw [c9_isPersonAt (I := u2 (u2 K 135 1 (nI 0)) 135 0 (nI 0)) hK hw, cI_some, kX9_person_0 N (d + 37), nc_10, if_pos q, c9_in (by omega) (by omega), cI_some, kX9_person_1 N (d + 37), nc_10, if_pos q2]
          have e : ∀ j, u2 (u2 K 135 1 (nI 0)) 135 0 (nI 0) 140 j = K 140 j := fun _ => rfl
          rcases hr with ⟨rfl, rfl⟩ | ⟨rfl, rfl⟩ | ⟨rfl, rfl⟩ | ⟨rfl, rfl⟩
          · simp (disch := first | assumption | omega) only [nI_add, pk_mul, nI_clamp, nc_in, nc_lt, nc_nlt, cI_some, cV_some, nc_eq, nc_ne, if_true, if_false, ite_true, ite_false, e, tmM hK]
          · simp (disch := first | assumption | omega) only [nI_add, pk_mul, nI_clamp, nc_in, nc_lt, nc_nlt, cI_some, cV_some, nc_eq, nc_ne, if_true, if_false, ite_true, ite_false, e, tmG hK]
          · simp (disch := first | assumption | omega) only [nI_add, pk_mul, nI_clamp, nc_in, nc_lt, nc_nlt, cI_some, cV_some, nc_eq, nc_ne, if_true, if_false, ite_true, ite_false, e, tmN hK]
          · simp (disch := first | assumption | omega) only [nI_add, pk_mul, nI_clamp, nc_in, nc_lt, nc_nlt, cI_some, cV_some, nc_eq, nc_ne, if_true, if_false, ite_true, ite_false, c9_ownedBy (I := u2 (u2 K 135 1 (nI 0)) 135 0 (nI 0)) hK hw, kX9_person_2 N (d + 37)]
      have hk : k = 0 ∨ k = 1 ∨ k = 2 ∨ k = 3 := by omega
      rcases hk with hk | hk | hk | hk
      · exact hc _ (Or.inl ⟨hk, rfl⟩)
      · exact hc _ (Or.inr (Or.inl ⟨hk, rfl⟩))
      · exact hc _ (Or.inr (Or.inr (Or.inl ⟨hk, rfl⟩)))
      · exact hc _ (Or.inr (Or.inr (Or.inr ⟨hk, rfl⟩)))
    · refine PR_v H hM (-1) (nI 5) ?_ ?_
      · rw [gX8_person N (d + 38), sX8_person_0 N (d + 38) _ hX]
        rw [c8_has hX hT hw (by omega), cI_some, kX8_person_0 N (d + 38) _ hX, nc_10, if_pos q]
        have n0 : ¬ y = nI 0 := fun h => q2 (by rw [h]; rfl)
        have n1 : ¬ y = nI 1 := fun h => q2 (by rw [h]; rfl)
        have n2 : ¬ y = nI 2 := fun h => q2 (by rw [h]; rfl)
        have n3 : ¬ y = nI 3 := fun h => q2 (by rw [h]; rfl)
        rw [if_neg n0, if_neg n1, if_neg n2, if_neg n3]
      · intro K hK
        rw [gX9_person N (d + 37), sX9_person_0 N (d + 37)]
        rw [c9_isPersonAt (I := u2 (u2 K 135 1 (nI 0)) 135 0 (nI 0)) hK hw, cI_some, kX9_person_0 N (d + 37), nc_10, if_pos q, c9_in (by omega) (by omega), cI_some, kX9_person_1 N (d + 37), nc_10, if_neg q2]
  · refine PR_v H hM (-1) (nI 2) ?_ ?_
    · rw [gX8_person N (d + 38), sX8_person_0 N (d + 38) _ hX]
      rw [c8_has hX hT hw (by omega), cI_some, kX8_person_0 N (d + 38) _ hX, nc_10, if_neg q]
    · intro K hK
      rw [gX9_person N (d + 37), sX9_person_0 N (d + 37)]
      rw [c9_isPersonAt (I := u2 (u2 K 135 1 (nI 0)) 135 0 (nI 0)) hK hw, cI_some, kX9_person_0 N (d + 37), nc_10, if_neg q]
theorem p_hearsIn {xs : Nat → Int32} {N d : Nat} {X : lt_X} {I : Nat → Nat → Int32} {J : Nat → Nat → Int64} (H : INV xs X I J) (hN : 100000 ≤ N) (x y : Int32) : PR xs N d X I J 142 293 [.int x, .int y] := by
  obtain ⟨T, hw, hT, hM, hX, ht⟩ := INV_T H
  obtain ⟨h0, h1, h2, h3, h4, h5, h6⟩ := hw.1
  by_cases q : inb x (T 2) = true
  · obtain ⟨p, hp, rfl⟩ := inb_e q (by omega)
    by_cases q2 : rng y 0 999 = true
    · obtain ⟨k, -, hk, rfl⟩ := rng_e q2 (by omega)
      have hl : vOf T p < 2 ^ 31 := lt6 (vOf_lt hw p) (by omega)
      refine PR_v H hM (nI (hAt T (vOf T p) (T 5 + k))) (nI 0) ?_ ?_
      · rw [gX8_hearsIn N (d + 38), sX8_hearsIn_0 N (d + 38) _ hX]
        rw [c8_has hX hT hw (by omega), cI_some, kX8_hearsIn_0 N (d + 38) _ hX, nc_10, if_pos q, rng_c (by omega) (by omega), if_pos q2, c5_voicesOf ht hT hw (by omega), cI_some, kX8_hearsIn_1 N (d + 38) _ hX, tcH hT, nI_add, c5_heardAt ht hT hw hl (by omega), cI_some, kX8_hearsIn_2 N (d + 38) _ hX]
      · intro K hK
        rw [u2_same]
        rw [gX9_hearsIn N (d + 37), sX9_hearsIn_0 N (d + 37)]
        rw [c9_isPersonAt (I := u2 (u2 K 135 1 (nI 0)) 135 0 (nI 0)) hK hw, cI_some, kX9_hearsIn_0 N (d + 37), nc_10, if_pos q, c9_in (by omega) (by omega), cI_some, kX9_hearsIn_1 N (d + 37), nc_10, if_pos q2, tm5 (c := u2 (u2 K 135 1 (nI 0)) 135 0 (nI 0) 140) hK, nI_add, c9_heard (I := u2 (u2 K 135 1 (nI 0)) 135 0 (nI 0)) hK hw (by omega) (by omega), cI_some, kX9_hearsIn_2 N (d + 37)]
    · refine PR_v H hM (-1) (nI 5) ?_ ?_
      · rw [gX8_hearsIn N (d + 38), sX8_hearsIn_0 N (d + 38) _ hX]
        rw [c8_has hX hT hw (by omega), cI_some, kX8_hearsIn_0 N (d + 38) _ hX, nc_10, if_pos q, rng_c (by omega) (by omega), if_neg q2]
      · intro K hK
        rw [gX9_hearsIn N (d + 37), sX9_hearsIn_0 N (d + 37)]
        rw [c9_isPersonAt (I := u2 (u2 K 135 1 (nI 0)) 135 0 (nI 0)) hK hw, cI_some, kX9_hearsIn_0 N (d + 37), nc_10, if_pos q, c9_in (by omega) (by omega), cI_some, kX9_hearsIn_1 N (d + 37), nc_10, if_neg q2]
  · refine PR_v H hM (-1) (nI 2) ?_ ?_
    · rw [gX8_hearsIn N (d + 38), sX8_hearsIn_0 N (d + 38) _ hX]
      rw [c8_has hX hT hw (by omega), cI_some, kX8_hearsIn_0 N (d + 38) _ hX, nc_10, if_neg q]
    · intro K hK
      rw [gX9_hearsIn N (d + 37), sX9_hearsIn_0 N (d + 37)]
      rw [c9_isPersonAt (I := u2 (u2 K 135 1 (nI 0)) 135 0 (nI 0)) hK hw, cI_some, kX9_hearsIn_0 N (d + 37), nc_10, if_neg q]
