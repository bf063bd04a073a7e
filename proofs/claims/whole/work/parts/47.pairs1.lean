/-! printed by wip/whole/pairs.py: pairs of calls that only tell: the town's readers -/
theorem p_person {xs : Nat → Int32} {N d : Nat} {X : lt_X} {I : Nat → Nat → Int32} {J : Nat → Nat → Int64} (H : INV xs X I J) (hN : 100000 ≤ N) (x y : Int32) : PR xs N d X I J 128 268 [.int x, .int y] := by
  obtain ⟨T, hw, hT, hM, hX, ht⟩ := INV_T H
  obtain ⟨h0, h1, h2, h3, h4, h5, h6⟩ := hw.1
  by_cases qx : inb x (T 2) = true
  · obtain ⟨p, hp, rfl⟩ := inb_e qx (by omega)
    by_cases qy : rng y 0 3 = true
    · obtain ⟨k, -, hk, rfl⟩ := rng_e qy (by omega)
      have hh : k = 0 ∨ k = 1 ∨ k = 2 ∨ k = 3 := by omega
      rcases hh with rfl | rfl | rfl | rfl
      · refine PR_v H hM (nI (T (37 + p))) (nI 0) ?_ ?_
        · rw [gX8_person N (d + 38), sX8_person_0 N (d + 38) _ hX]
          rw [c8_has hX hT hw (by omega), cI_some, kX8_person_0 N (d + 38) _ hX, nc_10, if_pos qx]
          simp (disch := first | assumption | omega) only [nI_add, pk_mul, nI_clamp, nc_in, nc_lt, nc_nlt, cI_some, cV_some, nc_eq, nc_ne, if_true, if_false, ite_true, ite_false, tcM hT]
        · intro K hK
          rw [u2_same]
          rw [gX9_person N (d + 37), sX9_person_0 N (d + 37)]
          rw [c9_isPersonAt (I := u2 (u2 K 135 1 (nI 0)) 135 0 (nI 0)) hK hw, cI_some, kX9_person_0 N (d + 37), nc_10, if_pos qx, c9_in (by omega) (by omega), cI_some, kX9_person_1 N (d + 37), nc_10, if_pos qy]
          have e40 : ∀ j, u2 (u2 K 135 1 (nI 0)) 135 0 (nI 0) 140 j = K 140 j := fun _ => rfl
          simp (disch := first | assumption | omega) only [nI_add, pk_mul, nI_clamp, nc_in, nc_lt, nc_nlt, cI_some, cV_some, nc_eq, nc_ne, if_true, if_false, ite_true, ite_false, e40, tmM hK]
      · refine PR_v H hM (nI (T (43 + p))) (nI 0) ?_ ?_
        · rw [gX8_person N (d + 38), sX8_person_0 N (d + 38) _ hX]
          rw [c8_has hX hT hw (by omega), cI_some, kX8_person_0 N (d + 38) _ hX, nc_10, if_pos qx]
          simp (disch := first | assumption | omega) only [nI_add, pk_mul, nI_clamp, nc_in, nc_lt, nc_nlt, cI_some, cV_some, nc_eq, nc_ne, if_true, if_false, ite_true, ite_false, tcG hT]
        · intro K hK
          rw [u2_same]
          rw [gX9_person N (d + 37), sX9_person_0 N (d + 37)]
          rw [c9_isPersonAt (I := u2 (u2 K 135 1 (nI 0)) 135 0 (nI 0)) hK hw, cI_some, kX9_person_0 N (d + 37), nc_10, if_pos qx, c9_in (by omega) (by omega), cI_some, kX9_person_1 N (d + 37), nc_10, if_pos qy]
          have e40 : ∀ j, u2 (u2 K 135 1 (nI 0)) 135 0 (nI 0) 140 j = K 140 j := fun _ => rfl
          simp (disch := first | assumption | omega) only [nI_add, pk_mul, nI_clamp, nc_in, nc_lt, nc_nlt, cI_some, cV_some, nc_eq, nc_ne, if_true, if_false, ite_true, ite_false, e40, tmG hK]
      · refine PR_v H hM (nI (T (49 + p))) (nI 0) ?_ ?_
        · rw [gX8_person N (d + 38), sX8_person_0 N (d + 38) _ hX]
          rw [c8_has hX hT hw (by omega), cI_some, kX8_person_0 N (d + 38) _ hX, nc_10, if_pos qx]
          simp (disch := first | assumption | omega) only [nI_add, pk_mul, nI_clamp, nc_in, nc_lt, nc_nlt, cI_some, cV_some, nc_eq, nc_ne, if_true, if_false, ite_true, ite_false, tcN hT]
        · intro K hK
          rw [u2_same]
          rw [gX9_person N (d + 37), sX9_person_0 N (d + 37)]
          rw [c9_isPersonAt (I := u2 (u2 K 135 1 (nI 0)) 135 0 (nI 0)) hK hw, cI_some, kX9_person_0 N (d + 37), nc_10, if_pos qx, c9_in (by omega) (by omega), cI_some, kX9_person_1 N (d + 37), nc_10, if_pos qy]
          have e40 : ∀ j, u2 (u2 K 135 1 (nI 0)) 135 0 (nI 0) 140 j = K 140 j := fun _ => rfl
          simp (disch := first | assumption | omega) only [nI_add, pk_mul, nI_clamp, nc_in, nc_lt, nc_nlt, cI_some, cV_some, nc_eq, nc_ne, if_true, if_false, ite_true, ite_false, e40, tmN hK]
      · refine PR_v H hM (nI (owned T p)) (nI 0) ?_ ?_
        · rw [gX8_person N (d + 38), sX8_person_0 N (d + 38) _ hX]
          rw [c8_has hX hT hw (by omega), cI_some, kX8_person_0 N (d + 38) _ hX, nc_10, if_pos qx]
          simp (disch := first | assumption | omega) only [nI_add, pk_mul, nI_clamp, nc_in, nc_lt, nc_nlt, cI_some, cV_some, nc_eq, nc_ne, if_true, if_false, ite_true, ite_false, c5_setsOf ht hT hw, kX8_person_1 N (d + 38) _ hX]
        · intro K hK
          rw [u2_same]
          rw [gX9_person N (d + 37), sX9_person_0 N (d + 37)]
          rw [c9_isPersonAt (I := u2 (u2 K 135 1 (nI 0)) 135 0 (nI 0)) hK hw, cI_some, kX9_person_0 N (d + 37), nc_10, if_pos qx, c9_in (by omega) (by omega), cI_some, kX9_person_1 N (d + 37), nc_10, if_pos qy]
          have e40 : ∀ j, u2 (u2 K 135 1 (nI 0)) 135 0 (nI 0) 140 j = K 140 j := fun _ => rfl
          simp (disch := first | assumption | omega) only [nI_add, pk_mul, nI_clamp, nc_in, nc_lt, nc_nlt, cI_some, cV_some, nc_eq, nc_ne, if_true, if_false, ite_true, ite_false, c9_ownedBy (I := u2 (u2 K 135 1 (nI 0)) 135 0 (nI 0)) hK hw, kX9_person_2 N (d + 37)]
    · refine PR_v H hM (-1) (nI 5) ?_ ?_
      · rw [gX8_person N (d + 38), sX8_person_0 N (d + 38) _ hX]
        rw [c8_has hX hT hw (by omega), cI_some, kX8_person_0 N (d + 38) _ hX, nc_10, if_pos qx]
        have n0 : ¬ y = nI 0 := fun h => qy (by rw [h]; rfl)
        have n1 : ¬ y = nI 1 := fun h => qy (by rw [h]; rfl)
        have n2 : ¬ y = nI 2 := fun h => qy (by rw [h]; rfl)
        have n3 : ¬ y = nI 3 := fun h => qy (by rw [h]; rfl)
        rw [if_neg n0, if_neg n1, if_neg n2, if_neg n3]
      · intro K hK
        rw [gX9_person N (d + 37), sX9_person_0 N (d + 37)]
        rw [c9_isPersonAt (I := u2 (u2 K 135 1 (nI 0)) 135 0 (nI 0)) hK hw, cI_some, kX9_person_0 N (d + 37), nc_10, if_pos qx, c9_in (by omega) (by omega), cI_some, kX9_person_1 N (d + 37), nc_10, if_neg qy]
  · refine PR_v H hM (-1) (nI 2) ?_ ?_
    · rw [gX8_person N (d + 38), sX8_person_0 N (d + 38) _ hX]
      rw [c8_has hX hT hw (by omega), cI_some, kX8_person_0 N (d + 38) _ hX, nc_10, if_neg qx]
    · intro K hK
      rw [gX9_person N (d + 37), sX9_person_0 N (d + 37)]
      rw [c9_isPersonAt (I := u2 (u2 K 135 1 (nI 0)) 135 0 (nI 0)) hK hw, cI_some, kX9_person_0 N (d + 37), nc_10, if_neg qx]
theorem p_voice {xs : Nat → Int32} {N d : Nat} {X : lt_X} {I : Nat → Nat → Int32} {J : Nat → Nat → Int64} (H : INV xs X I J) (hN : 100000 ≤ N) (x y : Int32) : PR xs N d X I J 126 266 [.int x, .int y] := by
  obtain ⟨T, hw, hT, hM, hX, ht⟩ := INV_T H
  obtain ⟨h0, h1, h2, h3, h4, h5, h6⟩ := hw.1
  by_cases qx : inb x (T 1) = true
  · obtain ⟨v, hv, rfl⟩ := inb_e qx (by omega)
    by_cases qy : rng y 0 4 = true
    · obtain ⟨k, -, hk, rfl⟩ := rng_e qy (by omega)
      have hr := hw.2.1 v hv
      have ll : ∀ r, bst (fun v => T (r + v) == 1) (T 1) < 2 ^ 31 := fun r => bst_lt (by omega)
      have bb : ∀ r, T (r + v) ≤ 1 → (if (bst (fun v => T (r + v) == 1) (T 1)).testBit v = true then 1 else 0) = T (r + v) := fun r h => by
        rw [bst_bit']
        rcases Nat.le_one_iff_eq_zero_or_eq_one.mp h with e | e <;> simp [hv, e]
      have hh : k = 0 ∨ k = 1 ∨ k = 2 ∨ k = 3 ∨ k = 4 := by omega
      rcases hh with rfl | rfl | rfl | rfl | rfl
      · refine PR_v H hM (nI (T (7 + v))) (nI 0) ?_ ?_
        · rw [gX8_voice N (d + 38), sX8_voice_0 N (d + 38) _ hX]
          rw [c8_has hX hT hw (by omega), cI_some, kX8_voice_0 N (d + 38) _ hX, nc_10, if_pos qx]
          simp (disch := first | assumption | omega) only [nI_add, pk_mul, nI_clamp, nc_in, nc_lt, nc_nlt, cI_some, cV_some, nc_eq, nc_ne, if_true, if_false, ite_true, ite_false, tcA hT]
        · intro K hK
          rw [u2_same]
          rw [gX9_voice N (d + 37), sX9_voice_0 N (d + 37)]
          rw [c9_isVoiceAt (I := u2 (u2 K 135 1 (nI 0)) 135 0 (nI 0)) hK hw, cI_some, kX9_voice_0 N (d + 37), nc_10, if_pos qx, c9_in (by omega) (by omega), cI_some, kX9_voice_1 N (d + 37), nc_10, if_pos qy]
          have e40 : ∀ j, u2 (u2 K 135 1 (nI 0)) 135 0 (nI 0) 140 j = K 140 j := fun _ => rfl
          simp (disch := first | assumption | omega) only [nI_add, pk_mul, nI_clamp, nc_in, nc_lt, nc_nlt, cI_some, cV_some, nc_eq, nc_ne, if_true, if_false, ite_true, ite_false, e40, tmA hK]
      · refine PR_v H hM (nI (T (13 + v))) (nI 0) ?_ ?_
        · rw [gX8_voice N (d + 38), sX8_voice_0 N (d + 38) _ hX]
          rw [c8_has hX hT hw (by omega), cI_some, kX8_voice_0 N (d + 38) _ hX, nc_10, if_pos qx]
          simp (disch := first | assumption | omega) only [nI_add, pk_mul, nI_clamp, nc_in, nc_lt, nc_nlt, cI_some, cV_some, nc_eq, nc_ne, if_true, if_false, ite_true, ite_false, tcL hT]
        · intro K hK
          rw [u2_same]
          rw [gX9_voice N (d + 37), sX9_voice_0 N (d + 37)]
          rw [c9_isVoiceAt (I := u2 (u2 K 135 1 (nI 0)) 135 0 (nI 0)) hK hw, cI_some, kX9_voice_0 N (d + 37), nc_10, if_pos qx, c9_in (by omega) (by omega), cI_some, kX9_voice_1 N (d + 37), nc_10, if_pos qy]
          have e40 : ∀ j, u2 (u2 K 135 1 (nI 0)) 135 0 (nI 0) 140 j = K 140 j := fun _ => rfl
          simp (disch := first | assumption | omega) only [nI_add, pk_mul, nI_clamp, nc_in, nc_lt, nc_nlt, cI_some, cV_some, nc_eq, nc_ne, if_true, if_false, ite_true, ite_false, e40, tmL hK]
      · refine PR_v H hM (nI (T (19 + v))) (nI 0) ?_ ?_
        · rw [gX8_voice N (d + 38), sX8_voice_0 N (d + 38) _ hX]
          rw [c8_has hX hT hw (by omega), cI_some, kX8_voice_0 N (d + 38) _ hX, nc_10, if_pos qx]
          simp (disch := first | assumption | omega) only [nI_add, pk_mul, nI_clamp, nc_in, nc_lt, nc_nlt, cI_some, cV_some, nc_eq, nc_ne, if_true, if_false, ite_true, ite_false, tcR hT]
        · intro K hK
          rw [u2_same]
          rw [gX9_voice N (d + 37), sX9_voice_0 N (d + 37)]
          rw [c9_isVoiceAt (I := u2 (u2 K 135 1 (nI 0)) 135 0 (nI 0)) hK hw, cI_some, kX9_voice_0 N (d + 37), nc_10, if_pos qx, c9_in (by omega) (by omega), cI_some, kX9_voice_1 N (d + 37), nc_10, if_pos qy]
          have e40 : ∀ j, u2 (u2 K 135 1 (nI 0)) 135 0 (nI 0) 140 j = K 140 j := fun _ => rfl
          simp (disch := first | assumption | omega) only [nI_add, pk_mul, nI_clamp, nc_in, nc_lt, nc_nlt, cI_some, cV_some, nc_eq, nc_ne, if_true, if_false, ite_true, ite_false, e40, tmR hK]
      · refine PR_v H hM (nI (T (25 + v))) (nI 0) ?_ ?_
        · rw [gX8_voice N (d + 38), sX8_voice_0 N (d + 38) _ hX]
          rw [c8_has hX hT hw (by omega), cI_some, kX8_voice_0 N (d + 38) _ hX, nc_10, if_pos qx]
          simp (disch := first | assumption | omega) only [nI_add, pk_mul, nI_clamp, nc_in, nc_lt, nc_nlt, cI_some, cV_some, nc_eq, nc_ne, if_true, if_false, ite_true, ite_false, tcV hT, no_bit (ll 25), bb 25]
        · intro K hK
          rw [u2_same]
          rw [gX9_voice N (d + 37), sX9_voice_0 N (d + 37)]
          rw [c9_isVoiceAt (I := u2 (u2 K 135 1 (nI 0)) 135 0 (nI 0)) hK hw, cI_some, kX9_voice_0 N (d + 37), nc_10, if_pos qx, c9_in (by omega) (by omega), cI_some, kX9_voice_1 N (d + 37), nc_10, if_pos qy]
          have e40 : ∀ j, u2 (u2 K 135 1 (nI 0)) 135 0 (nI 0) 140 j = K 140 j := fun _ => rfl
          simp (disch := first | assumption | omega) only [nI_add, pk_mul, nI_clamp, nc_in, nc_lt, nc_nlt, cI_some, cV_some, nc_eq, nc_ne, if_true, if_false, ite_true, ite_false, e40, tmV hK]
      · refine PR_v H hM (nI (T (31 + v))) (nI 0) ?_ ?_
        · rw [gX8_voice N (d + 38), sX8_voice_0 N (d + 38) _ hX]
          rw [c8_has hX hT hw (by omega), cI_some, kX8_voice_0 N (d + 38) _ hX, nc_10, if_pos qx]
          simp (disch := first | assumption | omega) only [nI_add, pk_mul, nI_clamp, nc_in, nc_lt, nc_nlt, cI_some, cV_some, nc_eq, nc_ne, if_true, if_false, ite_true, ite_false, tcK hT, no_bit (ll 31), bb 31]
        · intro K hK
          rw [u2_same]
          rw [gX9_voice N (d + 37), sX9_voice_0 N (d + 37)]
          rw [c9_isVoiceAt (I := u2 (u2 K 135 1 (nI 0)) 135 0 (nI 0)) hK hw, cI_some, kX9_voice_0 N (d + 37), nc_10, if_pos qx, c9_in (by omega) (by omega), cI_some, kX9_voice_1 N (d + 37), nc_10, if_pos qy]
          have e40 : ∀ j, u2 (u2 K 135 1 (nI 0)) 135 0 (nI 0) 140 j = K 140 j := fun _ => rfl
          simp (disch := first | assumption | omega) only [nI_add, pk_mul, nI_clamp, nc_in, nc_lt, nc_nlt, cI_some, cV_some, nc_eq, nc_ne, if_true, if_false, ite_true, ite_false, e40, tmK hK]
    · refine PR_v H hM (-1) (nI 5) ?_ ?_
      · rw [gX8_voice N (d + 38), sX8_voice_0 N (d + 38) _ hX]
        rw [c8_has hX hT hw (by omega), cI_some, kX8_voice_0 N (d + 38) _ hX, nc_10, if_pos qx]
        have n0 : ¬ y = nI 0 := fun h => qy (by rw [h]; rfl)
        have n1 : ¬ y = nI 1 := fun h => qy (by rw [h]; rfl)
        have n2 : ¬ y = nI 2 := fun h => qy (by rw [h]; rfl)
        have n3 : ¬ y = nI 3 := fun h => qy (by rw [h]; rfl)
        have n4 : ¬ y = nI 4 := fun h => qy (by rw [h]; rfl)
        rw [if_neg n0, if_neg n1, if_neg n2, if_neg n3, if_neg n4]
      · intro K hK
        rw [gX9_voice N (d + 37), sX9_voice_0 N (d + 37)]
        rw [c9_isVoiceAt (I := u2 (u2 K 135 1 (nI 0)) 135 0 (nI 0)) hK hw, cI_some, kX9_voice_0 N (d + 37), nc_10, if_pos qx, c9_in (by omega) (by omega), cI_some, kX9_voice_1 N (d + 37), nc_10, if_neg qy]
  · refine PR_v H hM (-1) (nI 2) ?_ ?_
    · rw [gX8_voice N (d + 38), sX8_voice_0 N (d + 38) _ hX]
      rw [c8_has hX hT hw (by omega), cI_some, kX8_voice_0 N (d + 38) _ hX, nc_10, if_neg qx]
    · intro K hK
      rw [gX9_voice N (d + 37), sX9_voice_0 N (d + 37)]
      rw [c9_isVoiceAt (I := u2 (u2 K 135 1 (nI 0)) 135 0 (nI 0)) hK hw, cI_some, kX9_voice_0 N (d + 37), nc_10, if_neg qx]
theorem p_row {xs : Nat → Int32} {N d : Nat} {X : lt_X} {I : Nat → Nat → Int32} {J : Nat → Nat → Int64} (H : INV xs X I J) (hN : 100000 ≤ N) (x y : Int32) : PR xs N d X I J 127 267 [.int x, .int y] := by
  obtain ⟨T, hw, hT, hM, hX, ht⟩ := INV_T H
  obtain ⟨h0, h1, h2, h3, h4, h5, h6⟩ := hw.1
  by_cases qx : inb x (T 1) = true
  · obtain ⟨v, hv, rfl⟩ := inb_e qx (by omega)
    have hr := hw.2.1 v hv
    by_cases qy : inb y (T (19 + v)) = true
    · obtain ⟨k, hk, rfl⟩ := inb_e qy (by omega)
      refine PR_v H hM (nI (T (73 + 8 * v + k))) (nI 0) ?_ ?_
      · rw [gX8_row N (d + 38), sX8_row_0 N (d + 38) _ hX]
        rw [c8_has hX hT hw (by omega), cI_some, kX8_row_0 N (d + 38) _ hX, nc_10, if_pos qx]
        simp (disch := first | assumption | omega) only [nI_add, pk_mul, nI_clamp, nc_in, nc_lt, nc_nlt, cI_some, cV_some, nc_eq, nc_ne, if_true, if_false, ite_true, ite_false, tcR hT, tcW hT]
      · intro K hK
        rw [u2_same]
        rw [gX9_row N (d + 37), sX9_row_0 N (d + 37)]
        rw [c9_isVoiceAt (I := u2 (u2 K 135 1 (nI 0)) 135 0 (nI 0)) hK hw, cI_some, kX9_row_0 N (d + 37), nc_10, if_pos qx]
        have e40 : ∀ j, u2 (u2 K 135 1 (nI 0)) 135 0 (nI 0) 140 j = K 140 j := fun _ => rfl
        simp (disch := first | assumption | omega) only [nI_add, pk_mul, nI_clamp, nc_in, nc_lt, nc_nlt, cI_some, cV_some, nc_eq, nc_ne, if_true, if_false, ite_true, ite_false, e40, tmR hK, c9_inb, kX9_row_1 N (d + 37), nc_10, if_pos qy, tmW hK]
    · refine PR_v H hM (-1) (nI 8) ?_ ?_
      · rw [gX8_row N (d + 38), sX8_row_0 N (d + 38) _ hX]
        rw [c8_has hX hT hw (by omega), cI_some, kX8_row_0 N (d + 38) _ hX, nc_10, if_pos qx]
        simp (disch := first | assumption | omega) only [nI_add, pk_mul, nI_clamp, nc_in, nc_lt, nc_nlt, cI_some, cV_some, nc_eq, nc_ne, if_true, if_false, ite_true, ite_false, tcR hT]
        rw [inb_c (by omega), if_neg qy]
      · intro K hK
        rw [gX9_row N (d + 37), sX9_row_0 N (d + 37)]
        rw [c9_isVoiceAt (I := u2 (u2 K 135 1 (nI 0)) 135 0 (nI 0)) hK hw, cI_some, kX9_row_0 N (d + 37), nc_10, if_pos qx]
        have e40 : ∀ j, u2 (u2 K 135 1 (nI 0)) 135 0 (nI 0) 140 j = K 140 j := fun _ => rfl
        simp (disch := first | assumption | omega) only [nI_add, pk_mul, nI_clamp, nc_in, nc_lt, nc_nlt, cI_some, cV_some, nc_eq, nc_ne, if_true, if_false, ite_true, ite_false, e40, tmR hK, c9_inb, kX9_row_1 N (d + 37), nc_10, if_neg qy]
  · refine PR_v H hM (-1) (nI 2) ?_ ?_
    · rw [gX8_row N (d + 38), sX8_row_0 N (d + 38) _ hX]
      rw [c8_has hX hT hw (by omega), cI_some, kX8_row_0 N (d + 38) _ hX, nc_10, if_neg qx]
    · intro K hK
      rw [gX9_row N (d + 37), sX9_row_0 N (d + 37)]
      rw [c9_isVoiceAt (I := u2 (u2 K 135 1 (nI 0)) 135 0 (nI 0)) hK hw, cI_some, kX9_row_0 N (d + 37), nc_10, if_neg qx]
theorem p_like {xs : Nat → Int32} {N d : Nat} {X : lt_X} {I : Nat → Nat → Int32} {J : Nat → Nat → Int64} (H : INV xs X I J) (hN : 100000 ≤ N) (x y : Int32) : PR xs N d X I J 129 270 [.int x, .int y] := by
  obtain ⟨T, hw, hT, hM, hX, ht⟩ := INV_T H
  obtain ⟨h0, h1, h2, h3, h4, h5, h6⟩ := hw.1
  by_cases qx : inb x (T 2) = true
  · obtain ⟨p, hp, rfl⟩ := inb_e qx (by omega)
    by_cases qy : inb y (T 0) = true
    · obtain ⟨s, hs, rfl⟩ := inb_e qy (by omega)
      have s6 : s < 6 := by omega
      refine PR_v H hM (nI (T (121 + 6 * p + s))) (nI 0) ?_ ?_
      · rw [gX8_like N (d + 38), sX8_like_0 N (d + 38) _ hX]
        rw [c8_has hX hT hw (by omega), cI_some, kX8_like_0 N (d + 38) _ hX, nc_10, if_pos qx, c8_has hX hT hw (by omega), cI_some, kX8_like_1 N (d + 38) _ hX, nc_10, if_pos qy]
        simp (disch := first | assumption | omega) only [nI_add, pk_mul, nI_clamp, nc_in, nc_lt, nc_nlt, cI_some, cV_some, nc_eq, nc_ne, if_true, if_false, ite_true, ite_false, tcI hT]
      · intro K hK
        rw [u2_same]
        rw [gX9_like N (d + 37), sX9_like_0 N (d + 37)]
        rw [c9_isPersonAt (I := u2 (u2 K 135 1 (nI 0)) 135 0 (nI 0)) hK hw, cI_some, kX9_like_0 N (d + 37), nc_10, if_pos qx, c9_isSubjectAt (I := u2 (u2 K 135 1 (nI 0)) 135 0 (nI 0)) hK hw, cI_some, kX9_like_1 N (d + 37), nc_10, if_pos qy, c9_likeOf (I := u2 (u2 K 135 1 (nI 0)) 135 0 (nI 0)) hK hw hp s6, cI_some, kX9_like_2 N (d + 37)]
    · refine PR_v H hM (-1) (nI 2) ?_ ?_
      · rw [gX8_like N (d + 38), sX8_like_0 N (d + 38) _ hX]
        rw [c8_has hX hT hw (by omega), cI_some, kX8_like_0 N (d + 38) _ hX, nc_10, if_pos qx, c8_has hX hT hw (by omega), cI_some, kX8_like_1 N (d + 38) _ hX, nc_10, if_neg qy]
      · intro K hK
        rw [gX9_like N (d + 37), sX9_like_0 N (d + 37)]
        rw [c9_isPersonAt (I := u2 (u2 K 135 1 (nI 0)) 135 0 (nI 0)) hK hw, cI_some, kX9_like_0 N (d + 37), nc_10, if_pos qx, c9_isSubjectAt (I := u2 (u2 K 135 1 (nI 0)) 135 0 (nI 0)) hK hw, cI_some, kX9_like_1 N (d + 37), nc_10, if_neg qy]
  · refine PR_v H hM (-1) (nI 2) ?_ ?_
    · rw [gX8_like N (d + 38), sX8_like_0 N (d + 38) _ hX]
      rw [c8_has hX hT hw (by omega), cI_some, kX8_like_0 N (d + 38) _ hX, nc_10, if_neg qx]
    · intro K hK
      rw [gX9_like N (d + 37), sX9_like_0 N (d + 37)]
      rw [c9_isPersonAt (I := u2 (u2 K 135 1 (nI 0)) 135 0 (nI 0)) hK hw, cI_some, kX9_like_0 N (d + 37), nc_10, if_neg qx]
theorem p_set {xs : Nat → Int32} {N d : Nat} {X : lt_X} {I : Nat → Nat → Int32} {J : Nat → Nat → Int64} (H : INV xs X I J) (hN : 100000 ≤ N) (x y : Int32) : PR xs N d X I J 130 271 [.int x, .int y] := by
  obtain ⟨T, hw, hT, hM, hX, ht⟩ := INV_T H
  obtain ⟨h0, h1, h2, h3, h4, h5, h6⟩ := hw.1
  by_cases qx : inb x (T 3) = true
  · obtain ⟨k, hk, rfl⟩ := inb_e qx (by omega)
    obtain ⟨b1, b2, b3⟩ := hw.2.2.2.2.2 k hk
    by_cases qy : rng y 0 2 = true
    · obtain ⟨j, -, hj, rfl⟩ := rng_e qy (by omega)
      have hh : j = 0 ∨ j = 1 ∨ j = 2 := by omega
      rcases hh with rfl | rfl | rfl
      · refine PR_v H hM (nI (T (55 + k))) (nI 0) ?_ ?_
        · rw [gX8_set N (d + 37), sX8_set_0 N (d + 37) _ hX]
          rw [c8_has hX hT hw (by omega), cI_some, kX8_set_0 N (d + 37) _ hX, nc_10, if_pos qx]
          simp (disch := first | assumption | omega) only [nI_add, pk_mul, nI_clamp, nc_in, nc_lt, nc_nlt, cI_some, cV_some, nc_eq, nc_ne, if_true, if_false, ite_true, ite_false, tcT hT]
        · intro K hK
          rw [u2_same]
          rw [gX9_set N (d + 37), sX9_set_0 N (d + 37)]
          rw [c9_isSetAt (I := u2 (u2 K 135 1 (nI 0)) 135 0 (nI 0)) hK hw, cI_some, kX9_set_0 N (d + 37), nc_10, if_pos qx, c9_in (by omega) (by omega), cI_some, kX9_set_1 N (d + 37), nc_10, if_pos qy]
          have e40 : ∀ j, u2 (u2 K 135 1 (nI 0)) 135 0 (nI 0) 140 j = K 140 j := fun _ => rfl
          simp (disch := first | assumption | omega) only [nI_add, pk_mul, nI_clamp, nc_in, nc_lt, nc_nlt, cI_some, cV_some, nc_eq, nc_ne, if_true, if_false, ite_true, ite_false, e40, tmT hK]
      · by_cases qz : T (61 + k) = 4294967295
        · refine PR_v H hM (-1) (nI 8) ?_ ?_
          · rw [gX8_set N (d + 37), sX8_set_0 N (d + 37) _ hX]
            rw [c8_has hX hT hw (by omega), cI_some, kX8_set_0 N (d + 37) _ hX, nc_10, if_pos qx]
            simp (disch := first | assumption | omega) only [nI_add, pk_mul, nI_clamp, nc_in, nc_lt, nc_nlt, cI_some, cV_some, nc_eq, nc_ne, if_true, if_false, ite_true, ite_false, tcF hT, c8_answerIfAny hX, nc_m1 qz, kX8_set_1 N (d + 37) _ hX]
          · intro K hK
            rw [gX9_set N (d + 37), sX9_set_0 N (d + 37)]
            rw [c9_isSetAt (I := u2 (u2 K 135 1 (nI 0)) 135 0 (nI 0)) hK hw, cI_some, kX9_set_0 N (d + 37), nc_10, if_pos qx, c9_in (by omega) (by omega), cI_some, kX9_set_1 N (d + 37), nc_10, if_pos qy]
            have e40 : ∀ j, u2 (u2 K 135 1 (nI 0)) 135 0 (nI 0) 140 j = K 140 j := fun _ => rfl
            simp (disch := first | assumption | omega) only [nI_add, pk_mul, nI_clamp, nc_in, nc_lt, nc_nlt, cI_some, cV_some, nc_eq, nc_ne, if_true, if_false, ite_true, ite_false, e40, tmF hK, nc_neg qz]
        · have qz' : T (61 + k) < 2 ^ 31 := by omega
          refine PR_v H hM (nI (T (61 + k))) (nI 0) ?_ ?_
          · rw [gX8_set N (d + 37), sX8_set_0 N (d + 37) _ hX]
            rw [c8_has hX hT hw (by omega), cI_some, kX8_set_0 N (d + 37) _ hX, nc_10, if_pos qx]
            simp (disch := first | assumption | omega) only [nI_add, pk_mul, nI_clamp, nc_in, nc_lt, nc_nlt, cI_some, cV_some, nc_eq, nc_ne, if_true, if_false, ite_true, ite_false, tcF hT, c8_answerIfAny hX, nc_nm1 qz', kX8_set_1 N (d + 37) _ hX]
          · intro K hK
            rw [u2_same]
            rw [gX9_set N (d + 37), sX9_set_0 N (d + 37)]
            rw [c9_isSetAt (I := u2 (u2 K 135 1 (nI 0)) 135 0 (nI 0)) hK hw, cI_some, kX9_set_0 N (d + 37), nc_10, if_pos qx, c9_in (by omega) (by omega), cI_some, kX9_set_1 N (d + 37), nc_10, if_pos qy]
            have e40 : ∀ j, u2 (u2 K 135 1 (nI 0)) 135 0 (nI 0) 140 j = K 140 j := fun _ => rfl
            simp (disch := first | assumption | omega) only [nI_add, pk_mul, nI_clamp, nc_in, nc_lt, nc_nlt, cI_some, cV_some, nc_eq, nc_ne, if_true, if_false, ite_true, ite_false, e40, tmF hK]
      · by_cases qz : T (67 + k) = 4294967295
        · refine PR_v H hM (-1) (nI 8) ?_ ?_
          · rw [gX8_set N (d + 37), sX8_set_0 N (d + 37) _ hX]
            rw [c8_has hX hT hw (by omega), cI_some, kX8_set_0 N (d + 37) _ hX, nc_10, if_pos qx]
            simp (disch := first | assumption | omega) only [nI_add, pk_mul, nI_clamp, nc_in, nc_lt, nc_nlt, cI_some, cV_some, nc_eq, nc_ne, if_true, if_false, ite_true, ite_false, tcB hT, c8_answerIfAny hX, nc_m1 qz, kX8_set_2 N (d + 37) _ hX]
          · intro K hK
            rw [gX9_set N (d + 37), sX9_set_0 N (d + 37)]
            rw [c9_isSetAt (I := u2 (u2 K 135 1 (nI 0)) 135 0 (nI 0)) hK hw, cI_some, kX9_set_0 N (d + 37), nc_10, if_pos qx, c9_in (by omega) (by omega), cI_some, kX9_set_1 N (d + 37), nc_10, if_pos qy]
            have e40 : ∀ j, u2 (u2 K 135 1 (nI 0)) 135 0 (nI 0) 140 j = K 140 j := fun _ => rfl
            simp (disch := first | assumption | omega) only [nI_add, pk_mul, nI_clamp, nc_in, nc_lt, nc_nlt, cI_some, cV_some, nc_eq, nc_ne, if_true, if_false, ite_true, ite_false, e40, tmB hK, nc_neg qz]
        · have qz' : T (67 + k) < 2 ^ 31 := by omega
          refine PR_v H hM (nI (T (67 + k))) (nI 0) ?_ ?_
          · rw [gX8_set N (d + 37), sX8_set_0 N (d + 37) _ hX]
            rw [c8_has hX hT hw (by omega), cI_some, kX8_set_0 N (d + 37) _ hX, nc_10, if_pos qx]
            simp (disch := first | assumption | omega) only [nI_add, pk_mul, nI_clamp, nc_in, nc_lt, nc_nlt, cI_some, cV_some, nc_eq, nc_ne, if_true, if_false, ite_true, ite_false, tcB hT, c8_answerIfAny hX, nc_nm1 qz', kX8_set_2 N (d + 37) _ hX]
          · intro K hK
            rw [u2_same]
            rw [gX9_set N (d + 37), sX9_set_0 N (d + 37)]
            rw [c9_isSetAt (I := u2 (u2 K 135 1 (nI 0)) 135 0 (nI 0)) hK hw, cI_some, kX9_set_0 N (d + 37), nc_10, if_pos qx, c9_in (by omega) (by omega), cI_some, kX9_set_1 N (d + 37), nc_10, if_pos qy]
            have e40 : ∀ j, u2 (u2 K 135 1 (nI 0)) 135 0 (nI 0) 140 j = K 140 j := fun _ => rfl
            simp (disch := first | assumption | omega) only [nI_add, pk_mul, nI_clamp, nc_in, nc_lt, nc_nlt, cI_some, cV_some, nc_eq, nc_ne, if_true, if_false, ite_true, ite_false, e40, tmB hK]
    · refine PR_v H hM (-1) (nI 5) ?_ ?_
      · rw [gX8_set N (d + 37), sX8_set_0 N (d + 37) _ hX]
        rw [c8_has hX hT hw (by omega), cI_some, kX8_set_0 N (d + 37) _ hX, nc_10, if_pos qx]
        have n0 : ¬ y = nI 0 := fun h => qy (by rw [h]; rfl)
        have n1 : ¬ y = nI 1 := fun h => qy (by rw [h]; rfl)
        have n2 : ¬ y = nI 2 := fun h => qy (by rw [h]; rfl)
        rw [if_neg n0, if_neg n1, if_neg n2]
      · intro K hK
        rw [gX9_set N (d + 37), sX9_set_0 N (d + 37)]
        rw [c9_isSetAt (I := u2 (u2 K 135 1 (nI 0)) 135 0 (nI 0)) hK hw, cI_some, kX9_set_0 N (d + 37), nc_10, if_pos qx, c9_in (by omega) (by omega), cI_some, kX9_set_1 N (d + 37), nc_10, if_neg qy]
  · refine PR_v H hM (-1) (nI 2) ?_ ?_
    · rw [gX8_set N (d + 37), sX8_set_0 N (d + 37) _ hX]
      rw [c8_has hX hT hw (by omega), cI_some, kX8_set_0 N (d + 37) _ hX, nc_10, if_neg qx]
    · intro K hK
      rw [gX9_set N (d + 37), sX9_set_0 N (d + 37)]
      rw [c9_isSetAt (I := u2 (u2 K 135 1 (nI 0)) 135 0 (nI 0)) hK hw, cI_some, kX9_set_0 N (d + 37), nc_10, if_neg qx]
theorem p_saysIn {xs : Nat → Int32} {N d : Nat} {X : lt_X} {I : Nat → Nat → Int32} {J : Nat → Nat → Int64} (H : INV xs X I J) (hN : 100000 ≤ N) (x y : Int32) : PR xs N d X I J 141 292 [.int x, .int y] := by
  obtain ⟨T, hw, hT, hM, hX, ht⟩ := INV_T H
  obtain ⟨h0, h1, h2, h3, h4, h5, h6⟩ := hw.1
  by_cases qx : inb x (T 1) = true
  · obtain ⟨v, hv, rfl⟩ := inb_e qx (by omega)
    by_cases qy : rng y 0 999 = true
    · obtain ⟨k, hka, hk, rfl⟩ := rng_e qy (by omega)
      have hp := plc_lt hw hv (h := T 5 + k)
      by_cases qa : able T v = true
      · have ea : sayn T v (T 5 + k) = plc T v (T 5 + k) := if_pos qa
        refine PR_v H hM (nI (plc T v (T 5 + k))) (nI 0) ?_ ?_
        · rw [gX8_saysIn N (d + 37), sX8_saysIn_0 N (d + 37) _ hX]
          rw [c8_has hX hT hw (by omega), cI_some, kX8_saysIn_0 N (d + 37) _ hX, nc_10, if_pos qx, rng_c (by omega) (by omega), if_pos qy, tcH hT, nI_add, c5_saysAt ht hT hw hv (by omega), cI_some, kX8_saysIn_1 N (d + 37) _ hX, c8_answerIfAny hX, ea, nc_nm1 (by omega), cI_some, kX8_saysIn_2 N (d + 37) _ hX]
        · intro K hK
          rw [u2_same]
          rw [gX9_saysIn N (d + 37), sX9_saysIn_0 N (d + 37)]
          rw [c9_isVoiceAt (I := u2 (u2 K 135 1 (nI 0)) 135 0 (nI 0)) hK hw, cI_some, kX9_saysIn_0 N (d + 37), nc_10, if_pos qx, c9_in (by omega) (by omega), cI_some, kX9_saysIn_1 N (d + 37), nc_10, if_pos qy, tm5 (c := u2 (u2 K 135 1 (nI 0)) 135 0 (nI 0) 140) hK, nI_add, c9_said (I := u2 (u2 K 135 1 (nI 0)) 135 0 (nI 0)) hK hw (Or.inl hv) (by omega), cI_some, kX9_saysIn_2 N (d + 37), if_neg (show ¬ v = 4294967295 by omega), if_pos qa, nc_nlt (by omega) (by omega)]
      · have ea : sayn T v (T 5 + k) = 4294967295 := if_neg qa
        refine PR_v H hM (-1) (nI 8) ?_ ?_
        · rw [gX8_saysIn N (d + 37), sX8_saysIn_0 N (d + 37) _ hX]
          rw [c8_has hX hT hw (by omega), cI_some, kX8_saysIn_0 N (d + 37) _ hX, nc_10, if_pos qx, rng_c (by omega) (by omega), if_pos qy, tcH hT, nI_add, c5_saysAt ht hT hw hv (by omega), cI_some, kX8_saysIn_1 N (d + 37) _ hX, c8_answerIfAny hX, ea, nc_m1 rfl, cI_some, kX8_saysIn_2 N (d + 37) _ hX]
        · intro K hK
          rw [gX9_saysIn N (d + 37), sX9_saysIn_0 N (d + 37)]
          rw [c9_isVoiceAt (I := u2 (u2 K 135 1 (nI 0)) 135 0 (nI 0)) hK hw, cI_some, kX9_saysIn_0 N (d + 37), nc_10, if_pos qx, c9_in (by omega) (by omega), cI_some, kX9_saysIn_1 N (d + 37), nc_10, if_pos qy, tm5 (c := u2 (u2 K 135 1 (nI 0)) 135 0 (nI 0) 140) hK, nI_add, c9_said (I := u2 (u2 K 135 1 (nI 0)) 135 0 (nI 0)) hK hw (Or.inl hv) (by omega), cI_some, kX9_saysIn_2 N (d + 37), if_neg (show ¬ v = 4294967295 by omega), if_neg qa, nc_neg rfl]
    · refine PR_v H hM (-1) (nI 5) ?_ ?_
      · rw [gX8_saysIn N (d + 37), sX8_saysIn_0 N (d + 37) _ hX]
        rw [c8_has hX hT hw (by omega), cI_some, kX8_saysIn_0 N (d + 37) _ hX, nc_10, if_pos qx, rng_c (by omega) (by omega), if_neg qy]
      · intro K hK
        rw [gX9_saysIn N (d + 37), sX9_saysIn_0 N (d + 37)]
        rw [c9_isVoiceAt (I := u2 (u2 K 135 1 (nI 0)) 135 0 (nI 0)) hK hw, cI_some, kX9_saysIn_0 N (d + 37), nc_10, if_pos qx, c9_in (by omega) (by omega), cI_some, kX9_saysIn_1 N (d + 37), nc_10, if_neg qy]
  · refine PR_v H hM (-1) (nI 2) ?_ ?_
    · rw [gX8_saysIn N (d + 37), sX8_saysIn_0 N (d + 37) _ hX]
      rw [c8_has hX hT hw (by omega), cI_some, kX8_saysIn_0 N (d + 37) _ hX, nc_10, if_neg qx]
    · intro K hK
      rw [gX9_saysIn N (d + 37), sX9_saysIn_0 N (d + 37)]
      rw [c9_isVoiceAt (I := u2 (u2 K 135 1 (nI 0)) 135 0 (nI 0)) hK hw, cI_some, kX9_saysIn_0 N (d + 37), nc_10, if_neg qx]
theorem p_hearsIn {xs : Nat → Int32} {N d : Nat} {X : lt_X} {I : Nat → Nat → Int32} {J : Nat → Nat → Int64} (H : INV xs X I J) (hN : 100000 ≤ N) (x y : Int32) : PR xs N d X I J 142 293 [.int x, .int y] := by
  obtain ⟨T, hw, hT, hM, hX, ht⟩ := INV_T H
  obtain ⟨h0, h1, h2, h3, h4, h5, h6⟩ := hw.1
  by_cases qx : inb x (T 2) = true
  · obtain ⟨p, hp, rfl⟩ := inb_e qx (by omega)
    by_cases qy : rng y 0 999 = true
    · obtain ⟨k, hka, hk, rfl⟩ := rng_e qy (by omega)
      have hl : vOf T p < 2 ^ 31 := lt6 (vOf_lt hw p) (by omega)
      refine PR_v H hM (nI (hAt T (vOf T p) (T 5 + k))) (nI 0) ?_ ?_
      · rw [gX8_hearsIn N (d + 38), sX8_hearsIn_0 N (d + 38) _ hX]
        rw [c8_has hX hT hw (by omega), cI_some, kX8_hearsIn_0 N (d + 38) _ hX, nc_10, if_pos qx, rng_c (by omega) (by omega), if_pos qy, c5_voicesOf ht hT hw (by omega), cI_some, kX8_hearsIn_1 N (d + 38) _ hX, tcH hT, nI_add, c5_heardAt ht hT hw hl (by omega), cI_some, kX8_hearsIn_2 N (d + 38) _ hX]
      · intro K hK
        rw [u2_same]
        rw [gX9_hearsIn N (d + 37), sX9_hearsIn_0 N (d + 37)]
        rw [c9_isPersonAt (I := u2 (u2 K 135 1 (nI 0)) 135 0 (nI 0)) hK hw, cI_some, kX9_hearsIn_0 N (d + 37), nc_10, if_pos qx, c9_in (by omega) (by omega), cI_some, kX9_hearsIn_1 N (d + 37), nc_10, if_pos qy, tm5 (c := u2 (u2 K 135 1 (nI 0)) 135 0 (nI 0) 140) hK, nI_add, c9_heard (I := u2 (u2 K 135 1 (nI 0)) 135 0 (nI 0)) hK hw (by omega) (by omega), cI_some, kX9_hearsIn_2 N (d + 37)]
    · refine PR_v H hM (-1) (nI 5) ?_ ?_
      · rw [gX8_hearsIn N (d + 38), sX8_hearsIn_0 N (d + 38) _ hX]
        rw [c8_has hX hT hw (by omega), cI_some, kX8_hearsIn_0 N (d + 38) _ hX, nc_10, if_pos qx, rng_c (by omega) (by omega), if_neg qy]
      · intro K hK
        rw [gX9_hearsIn N (d + 37), sX9_hearsIn_0 N (d + 37)]
        rw [c9_isPersonAt (I := u2 (u2 K 135 1 (nI 0)) 135 0 (nI 0)) hK hw, cI_some, kX9_hearsIn_0 N (d + 37), nc_10, if_pos qx, c9_in (by omega) (by omega), cI_some, kX9_hearsIn_1 N (d + 37), nc_10, if_neg qy]
  · refine PR_v H hM (-1) (nI 2) ?_ ?_
    · rw [gX8_hearsIn N (d + 38), sX8_hearsIn_0 N (d + 38) _ hX]
      rw [c8_has hX hT hw (by omega), cI_some, kX8_hearsIn_0 N (d + 38) _ hX, nc_10, if_neg qx]
    · intro K hK
      rw [gX9_hearsIn N (d + 37), sX9_hearsIn_0 N (d + 37)]
      rw [c9_isPersonAt (I := u2 (u2 K 135 1 (nI 0)) 135 0 (nI 0)) hK hw, cI_some, kX9_hearsIn_0 N (d + 37), nc_10, if_neg qx]
theorem p_gladIn {xs : Nat → Int32} {N d : Nat} {X : lt_X} {I : Nat → Nat → Int32} {J : Nat → Nat → Int64} (H : INV xs X I J) (hN : 100000 ≤ N) (x y : Int32) : PR xs N d X I J 143 295 [.int x, .int y] := by
  obtain ⟨T, hw, hT, hM, hX, ht⟩ := INV_T H
  obtain ⟨h0, h1, h2, h3, h4, h5, h6⟩ := hw.1
  by_cases qx : inb x (T 2) = true
  · obtain ⟨p, hp, rfl⟩ := inb_e qx (by omega)
    by_cases qy : rng y 0 300 = true
    · obtain ⟨k, hka, hk, rfl⟩ := rng_e qy (by omega)
      have hl : vOf T p < 2 ^ 31 := lt6 (vOf_lt hw p) (by omega)
      refine PR_v H hM (nI (T (43 + p) + joyA T p (vOf T p) k)) (nI 0) ?_ ?_
      · rw [gX8_gladIn N (d + 38), sX8_gladIn_0 N (d + 38) _ hX]
        rw [c8_has hX hT hw (by omega), cI_some, kX8_gladIn_0 N (d + 38) _ hX, nc_10, if_pos qx, rng_c (by omega) (by omega), if_pos qy, nc_in (by omega) (by omega), nI_clamp (by omega), tcG hT p hp, c5_voicesOf ht hT hw (by omega), cI_some, kX8_gladIn_1 N (d + 38) _ hX, c5_joyAhead ht hT hw hp hl (by omega) (by omega), cI_some, kX8_gladIn_2 N (d + 38) _ hX, nI_add]
      · intro K hK
        rw [u2_same]
        rw [gX9_gladIn N (d + 37), sX9_gladIn_0 N (d + 37)]
        rw [c9_isPersonAt (I := u2 (u2 K 135 1 (nI 0)) 135 0 (nI 0)) hK hw, cI_some, kX9_gladIn_0 N (d + 37), nc_10, if_pos qx, c9_in (by omega) (by omega), cI_some, kX9_gladIn_1 N (d + 37), nc_10, if_pos qy, c9_gladAfter (I := u2 (u2 K 135 1 (nI 0)) 135 0 (nI 0)) hK hw hp (by omega) (by omega), cI_some, kX9_gladIn_2 N (d + 37)]
    · refine PR_v H hM (-1) (nI 5) ?_ ?_
      · rw [gX8_gladIn N (d + 38), sX8_gladIn_0 N (d + 38) _ hX]
        rw [c8_has hX hT hw (by omega), cI_some, kX8_gladIn_0 N (d + 38) _ hX, nc_10, if_pos qx, rng_c (by omega) (by omega), if_neg qy]
      · intro K hK
        rw [gX9_gladIn N (d + 37), sX9_gladIn_0 N (d + 37)]
        rw [c9_isPersonAt (I := u2 (u2 K 135 1 (nI 0)) 135 0 (nI 0)) hK hw, cI_some, kX9_gladIn_0 N (d + 37), nc_10, if_pos qx, c9_in (by omega) (by omega), cI_some, kX9_gladIn_1 N (d + 37), nc_10, if_neg qy]
  · refine PR_v H hM (-1) (nI 2) ?_ ?_
    · rw [gX8_gladIn N (d + 38), sX8_gladIn_0 N (d + 38) _ hX]
      rw [c8_has hX hT hw (by omega), cI_some, kX8_gladIn_0 N (d + 38) _ hX, nc_10, if_neg qx]
    · intro K hK
      rw [gX9_gladIn N (d + 37), sX9_gladIn_0 N (d + 37)]
      rw [c9_isPersonAt (I := u2 (u2 K 135 1 (nI 0)) 135 0 (nI 0)) hK hw, cI_some, kX9_gladIn_0 N (d + 37), nc_10, if_neg qx]
theorem p_diesIn {xs : Nat → Int32} {N d : Nat} {X : lt_X} {I : Nat → Nat → Int32} {J : Nat → Nat → Int64} (H : INV xs X I J) (hN : 100000 ≤ N) (x : Int32) : PR xs N d X I J 146 298 [.int x] := by
  obtain ⟨T, hw, hT, hM, hX, ht⟩ := INV_T H
  obtain ⟨h0, h1, h2, h3, h4, h5, h6⟩ := hw.1
  by_cases qx : inb x (T 1) = true
  · obtain ⟨v, hv, rfl⟩ := inb_e qx (by omega)
    have hr := hw.2.1 v hv
    by_cases qz : T (25 + v) = 1
    · refine PR_v H hM (if nI 1 < nI (T (13 + v)) - nI (T (7 + v)) then nI (T (13 + v)) - nI (T (7 + v)) else nI 1) (nI 0) ?_ ?_
      · rw [gX8_diesIn N (d + 38), sX8_diesIn_0 N (d + 38) _ hX]
        rw [c8_has hX hT hw (by omega), cI_some, kX8_diesIn_0 N (d + 38) _ hX, nc_10, if_pos qx, c5_isLiving ht hT hw hv, cI_some, kX8_diesIn_1 N (d + 38) _ hX, nc_10, if_pos qz]
        simp (disch := first | assumption | omega) only [nc_in, nI_clamp, tcA hT, tcL hT]
      · intro K hK
        rw [u2_same]
        rw [gX9_diesIn N (d + 37), sX9_diesIn_0 N (d + 37)]
        rw [c9_isVoiceAt (I := u2 (u2 K 135 1 (nI 0)) 135 0 (nI 0)) hK hw, cI_some, kX9_diesIn_0 N (d + 37), nc_10, if_pos qx]
        have e40 : ∀ j, u2 (u2 K 135 1 (nI 0)) 135 0 (nI 0) 140 j = K 140 j := fun _ => rfl
        simp (disch := first | assumption | omega) only [nI_add, pk_mul, nI_clamp, nc_in, nc_lt, nc_nlt, cI_some, cV_some, nc_eq, nc_ne, if_true, if_false, ite_true, ite_false, e40, tmV hK, qz, tmL hK, tmA hK]
    · refine PR_v H hM (-1) (nI 8) ?_ ?_
      · rw [gX8_diesIn N (d + 38), sX8_diesIn_0 N (d + 38) _ hX]
        rw [c8_has hX hT hw (by omega), cI_some, kX8_diesIn_0 N (d + 38) _ hX, nc_10, if_pos qx, c5_isLiving ht hT hw hv, cI_some, kX8_diesIn_1 N (d + 38) _ hX, nc_10, if_neg qz]
      · intro K hK
        rw [gX9_diesIn N (d + 37), sX9_diesIn_0 N (d + 37)]
        rw [c9_isVoiceAt (I := u2 (u2 K 135 1 (nI 0)) 135 0 (nI 0)) hK hw, cI_some, kX9_diesIn_0 N (d + 37), nc_10, if_pos qx]
        have e40 : ∀ j, u2 (u2 K 135 1 (nI 0)) 135 0 (nI 0) 140 j = K 140 j := fun _ => rfl
        have qz0 : T (25 + v) = 0 := by omega
        simp (disch := first | assumption | omega) only [nI_add, pk_mul, nI_clamp, nc_in, nc_lt, nc_nlt, cI_some, cV_some, nc_eq, nc_ne, if_true, if_false, ite_true, ite_false, e40, tmV hK, qz0]
  · refine PR_v H hM (-1) (nI 2) ?_ ?_
    · rw [gX8_diesIn N (d + 38), sX8_diesIn_0 N (d + 38) _ hX]
      rw [c8_has hX hT hw (by omega), cI_some, kX8_diesIn_0 N (d + 38) _ hX, nc_10, if_neg qx]
    · intro K hK
      rw [gX9_diesIn N (d + 37), sX9_diesIn_0 N (d + 37)]
      rw [c9_isVoiceAt (I := u2 (u2 K 135 1 (nI 0)) 135 0 (nI 0)) hK hw, cI_some, kX9_diesIn_0 N (d + 37), nc_10, if_neg qx]
theorem p_crowd {xs : Nat → Int32} {N d : Nat} {X : lt_X} {I : Nat → Nat → Int32} {J : Nat → Nat → Int64} (H : INV xs X I J) (hN : 100000 ≤ N) (x : Int32) : PR xs N d X I J 147 300 [.int x] := by
  obtain ⟨T, hw, hT, hM, hX, ht⟩ := INV_T H
  obtain ⟨h0, h1, h2, h3, h4, h5, h6⟩ := hw.1
  by_cases qx : inb x (T 1) = true
  · obtain ⟨v, hv, rfl⟩ := inb_e qx (by omega)
    refine PR_v H hM (nI (hrs T v)) (nI 0) ?_ ?_
    · rw [gX8_crowd N (d + 38), sX8_crowd_0 N (d + 38) _ hX]
      rw [c8_has hX hT hw (by omega), cI_some, kX8_crowd_0 N (d + 38) _ hX, nc_10, if_pos qx, c5_hearersOf ht hT hw (by omega), cI_some, kX8_crowd_1 N (d + 38) _ hX]
    · intro K hK
      rw [u2_same]
      rw [gX9_crowd N (d + 37), sX9_crowd_0 N (d + 37)]
      rw [c9_isVoiceAt (I := u2 (u2 K 135 1 (nI 0)) 135 0 (nI 0)) hK hw, cI_some, kX9_crowd_0 N (d + 37), nc_10, if_pos qx, c9_crowdOf (I := u2 (u2 K 135 1 (nI 0)) 135 0 (nI 0)) hK hw hv (by omega), cI_some, kX9_crowd_1 N (d + 37)]
  · refine PR_v H hM (-1) (nI 2) ?_ ?_
    · rw [gX8_crowd N (d + 38), sX8_crowd_0 N (d + 38) _ hX]
      rw [c8_has hX hT hw (by omega), cI_some, kX8_crowd_0 N (d + 38) _ hX, nc_10, if_neg qx]
    · intro K hK
      rw [gX9_crowd N (d + 37), sX9_crowd_0 N (d + 37)]
      rw [c9_isVoiceAt (I := u2 (u2 K 135 1 (nI 0)) 135 0 (nI 0)) hK hw, cI_some, kX9_crowd_0 N (d + 37), nc_10, if_neg qx]
theorem p_worth {xs : Nat → Int32} {N d : Nat} {X : lt_X} {I : Nat → Nat → Int32} {J : Nat → Nat → Int64} (H : INV xs X I J) (hN : 100000 ≤ N) (x y : Int32) : PR xs N d X I J 148 302 [.int x, .int y] := by
  obtain ⟨T, hw, hT, hM, hX, ht⟩ := INV_T H
  obtain ⟨h0, h1, h2, h3, h4, h5, h6⟩ := hw.1
  by_cases qx : inb x (T 2) = true
  · obtain ⟨p, hp, rfl⟩ := inb_e qx (by omega)
    by_cases qy : inb y (T 3) = true
    · obtain ⟨k, hk, rfl⟩ := inb_e qy (by omega)
      refine PR_v H hM (nI (wth T p k)) (nI 0) ?_ ?_
      · rw [gX8_worth N (d + 38), sX8_worth_0 N (d + 38) _ hX]
        rw [c8_has hX hT hw (by omega), cI_some, kX8_worth_0 N (d + 38) _ hX, nc_10, if_pos qx, c8_has hX hT hw (by omega), cI_some, kX8_worth_1 N (d + 38) _ hX, nc_10, if_pos qy, c5_worthTo ht hT hw hp hk (by omega), cI_some, kX8_worth_2 N (d + 38) _ hX]
      · intro K hK
        rw [u2_same]
        rw [gX9_worth N (d + 37), sX9_worth_0 N (d + 37)]
        rw [c9_isPersonAt (I := u2 (u2 K 135 1 (nI 0)) 135 0 (nI 0)) hK hw, cI_some, kX9_worth_0 N (d + 37), nc_10, if_pos qx, c9_isSetAt (I := u2 (u2 K 135 1 (nI 0)) 135 0 (nI 0)) hK hw, cI_some, kX9_worth_1 N (d + 37), nc_10, if_pos qy, c9_worthOf (I := u2 (u2 K 135 1 (nI 0)) 135 0 (nI 0)) hK hw hp hk, cI_some, kX9_worth_2 N (d + 37)]
    · refine PR_v H hM (-1) (nI 2) ?_ ?_
      · rw [gX8_worth N (d + 38), sX8_worth_0 N (d + 38) _ hX]
        rw [c8_has hX hT hw (by omega), cI_some, kX8_worth_0 N (d + 38) _ hX, nc_10, if_pos qx, c8_has hX hT hw (by omega), cI_some, kX8_worth_1 N (d + 38) _ hX, nc_10, if_neg qy]
      · intro K hK
        rw [gX9_worth N (d + 37), sX9_worth_0 N (d + 37)]
        rw [c9_isPersonAt (I := u2 (u2 K 135 1 (nI 0)) 135 0 (nI 0)) hK hw, cI_some, kX9_worth_0 N (d + 37), nc_10, if_pos qx, c9_isSetAt (I := u2 (u2 K 135 1 (nI 0)) 135 0 (nI 0)) hK hw, cI_some, kX9_worth_1 N (d + 37), nc_10, if_neg qy]
  · refine PR_v H hM (-1) (nI 2) ?_ ?_
    · rw [gX8_worth N (d + 38), sX8_worth_0 N (d + 38) _ hX]
      rw [c8_has hX hT hw (by omega), cI_some, kX8_worth_0 N (d + 38) _ hX, nc_10, if_neg qx]
    · intro K hK
      rw [gX9_worth N (d + 37), sX9_worth_0 N (d + 37)]
      rw [c9_isPersonAt (I := u2 (u2 K 135 1 (nI 0)) 135 0 (nI 0)) hK hw, cI_some, kX9_worth_0 N (d + 37), nc_10, if_neg qx]
