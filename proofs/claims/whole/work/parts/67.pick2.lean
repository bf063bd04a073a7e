/-! pick, the pair -/
theorem p_pick {xs : Nat → Int32} {N d : Nat} {X : lt_X} {I : Nat → Nat → Int32} {J : Nat → Nat → Int64} (H : INV xs X I J) (hN : 100000 ≤ N) (x y w : Int32) : PR xs N d X I J 154 319 [.int x, .int y, .int w] := by
  obtain ⟨T, hw, hT, hM, hX, ht⟩ := INV_T H
  obtain ⟨h0, h1, h2, h3, h4, h5, h6⟩ := hw.1
  have hR := H.2.2.2.2.1
  obtain ⟨s, e, hs⟩ := c8_runStatus (N := N) (d := d + 37) (X := X) (I := I) (J := J) hX hR x y.toInt64
  rw [Int32.toInt_toInt64] at hs
  have mm : ∀ s, PKS I J T x y s → ∀ K : Nat → Nat → Int32, (∀ a, a ≠ 3 → ¬ (126 ≤ a ∧ a ≤ 133) → K a = I a) → am_G am_prog (N + 30) (d + 39) 318 [.ref 135, .int x, .int y] (mkh X (u2 K 135 1 (nI 0)) J) = some (.int (nI s), mkh X (u2 K 135 1 (nI 0)) J) := by
    intro s hs K hK
    exact c9_whyNoPick (d := d + 35) (I := u2 K 135 1 (nI 0)) (T := T) (by rw [u2_na _ _ _ _ _ (by omega), hK 140 (by omega) (by omega)]; exact hM) hw x y s I (by rw [u2_na _ _ _ _ _ (by omega), hK 137 (by omega) (by omega)]) hR hs (by omega)
  have bad : ∀ s, 0 < s → s < 9 → PKS I J T x y s → am_G am_prog (N + 30) (d + 40) 154 [.ref 3, .int x, .int y, .int w] (mkh X I J) = some (.int (-1), mkh X (u2 I 3 15 (nI s)) J) → PR xs N d X I J 154 319 [.int x, .int y, .int w] := by
    intro s s1 s2 hs hc
    refine PR_tells H (.int (-1)) (nI s) (CR_st hc) (fun K hK => MR_0 (a := nI 0) ?_)
    rw [gX9_pick N (d + 38), sX9_pick_0 N (d + 38)]
    rw [mm s hs K hK, cI_some, kX9_pick_0 N (d + 38), nc_lt s1 (by omega)]
  rcases hs with ⟨q, rfl⟩ | ⟨a, ha, rfl, ⟨q, rfl⟩ | ⟨m, a1, a2, hm, ⟨q, rfl⟩ | ⟨q, rfl⟩⟩⟩
  · refine bad 1 (by omega) (by omega) (Or.inl ⟨q, rfl⟩) ?_
    rw [gX8_pick N (d + 37), sX8_pick_0 N (d + 37) _ hX]
    rw [e, cI_some, kX8_pick_0 N (d + 37) _ hX, nc_ne (by omega) (by omega) (by omega)]
  · refine bad 3 (by omega) (by omega) (Or.inr ⟨a, ha, rfl, Or.inl ⟨q, rfl⟩⟩) ?_
    rw [gX8_pick N (d + 37), sX8_pick_0 N (d + 37) _ hX]
    rw [e, cI_some, kX8_pick_0 N (d + 37) _ hX, nc_ne (by omega) (by omega) (by omega)]
  · refine bad 4 (by omega) (by omega) (Or.inr ⟨a, ha, rfl, Or.inr ⟨m, a1, a2, hm, Or.inl ⟨q, rfl⟩⟩⟩) ?_
    rw [gX8_pick N (d + 37), sX8_pick_0 N (d + 37) _ hX]
    rw [e, cI_some, kX8_pick_0 N (d + 37) _ hX, nc_ne (by omega) (by omega) (by omega)]
  · by_cases q2 : rng y 0 6 = true
    rotate_left
    · refine bad 5 (by omega) (by omega) (Or.inr ⟨a, ha, rfl, Or.inr ⟨m, a1, a2, hm, Or.inr ⟨q, Or.inl ⟨by simpa using q2, rfl⟩⟩⟩⟩) ?_
      rw [gX8_pick N (d + 37), sX8_pick_0 N (d + 37) _ hX]
      rw [e, cI_some, kX8_pick_0 N (d + 37) _ hX, nc_eq rfl, rng_c (by omega) (by omega), if_neg q2]
    obtain ⟨n, -, hn, rfl⟩ := rng_e q2 (by omega)
    have hnm : n ≤ m := by rw [nI_toInt (by omega)] at q; omega
    have hp : PKS I J T (nI a) (nI n) (if rwp (J (6 + 2 * a)) (T 2) n 0 0 = true then 0 else 5) := Or.inr ⟨a, ha, rfl, Or.inr ⟨m, a1, a2, hm, Or.inr ⟨q, Or.inr ⟨n, hn, rfl, hnm, rfl⟩⟩⟩⟩
    have htr := tr_is ha
    have cc : ∀ z : Int32, am_G am_prog (N + 30) (d + 40) 154 [.ref 3, .int (nI a), .int (nI n), .int w] (mkh X I J) = if rwp (J (6 + 2 * a)) (T 2) n 0 0 = true then if inb w n = true then am_cI (am_G am_prog (N + 30) (d + 39) 14 [.ref 126, .ref X.2.1, .ref (5 + 2 * a), .int w] (mkh X I J)) (KX8_pick_2 N (d + 37) (N + 29)) else some (.int (-1), mkh X (u2 I 3 15 (nI 8)) J) else some (.int (-1), mkh X (u2 I 3 15 (nI 5)) J) := by
      intro z
      rw [gX8_pick N (d + 37), sX8_pick_0 N (d + 37) _ hX]
      rw [e, cI_some, kX8_pick_0 N (d + 37) _ hX, nc_eq rfl, rng_c (by omega) (by omega), if_pos q2, lR_tr ha, c8_isRow hX hT hw htr hn (by omega), cI_some, kX8_pick_1 N (d + 37) _ hX, nc_10, inb_c (by omega), lR_tr ha, show 5 + 2 * a + 1 = 6 + 2 * a by omega]
    by_cases q3 : rwp (J (6 + 2 * a)) (T 2) n 0 0 = true
    rotate_left
    · rw [if_neg q3] at hp
      exact bad 5 (by omega) (by omega) hp (by rw [cc 0, if_neg q3])
    rw [if_pos q3] at hp
    obtain ⟨m', s', hm', hs', -, -, -, b4, -, b6⟩ := try_in hR ha (by rw [a1]; decide)
    have em : m = m' := (no_inj (by omega) (by omega)).mp (by rw [← a2, ← b4])
    by_cases q4 : inb w n = true
    rotate_left
    · refine PR_tells H (.int (-1)) (nI 8) (CR_st (by rw [cc 0, if_pos q3, if_neg q4])) (fun K hK => MR_2 (a := nI 0) (b := nI 0) ?_)
      rw [gX9_pick N (d + 38), sX9_pick_0 N (d + 38)]
      rw [mm 0 hp K hK, cI_some, kX9_pick_0 N (d + 38), nc_nlt (by omega) (by omega), c9_inb (by omega), cI_some, kX9_pick_3 N (d + 38), nc_10, if_neg q4]
    obtain ⟨k, hk, rfl⟩ := inb_e q4 (by omega)
    have al := rwp_all n 0 0 q3
    have hJ : ∀ i, i ≤ k → J (6 + 2 * a) i = lN (J (6 + 2 * a) i).toInt.toNat ∧ (J (6 + 2 * a) i).toInt.toNat < T 2 := fun i hi => by
      have r := al i (by omega) (by omega)
      exact ⟨z_lN (by omega) r, by omega⟩
    generalize hpr : (fun i => (J (6 + 2 * a) i).toInt.toNat) = pr
    have hJ : ∀ i, i ≤ k → J (6 + 2 * a) i = lN (pr i) ∧ pr i < T 2 := by rw [← hpr]; exact hJ
    have hf := fm_lt (wth T (pr k)) (pgo (wth T) (T 3) pr k) (T 3)
    have e' : pgt (wth T) (T 3) pr (k + 1) = fm (wth T (pr k)) (pgo (wth T) (T 3) pr k) (T 3) := rfl
    obtain ⟨K1, k1, k2⟩ := c0_findPick (N := N) (d := d + 34) (X := X) (I := I) (J := J) ht hT hw htr (k := k) (by omega) pr (fun i hi => by rw [show 5 + 2 * a + 1 = 6 + 2 * a by omega]; exact hJ i hi) (by omega)
    have mw : ∀ K : Nat → Nat → Int32, (∀ a, a ≠ 3 → ¬ (126 ≤ a ∧ a ≤ 133) → K a = I a) → ∃ L, am_G am_prog (N + 30) (d + 40) 319 [.ref 135, .int (nI a), .int (nI n), .int (nI k)] (mkh X K J) = (if pgt (wth T) (T 3) pr (k + 1) = 4294967295 then some (.int (-1), mkh X (u2 L 135 0 (nI 8)) J) else some (.int (nI (pgt (wth T) (T 3) pr (k + 1))), mkh X L J)) ∧ ∀ a, a ≠ 143 → L a = u2 (u2 K 135 1 (nI 0)) 135 0 (nI 0) a := by
      intro K hK
      have tm : TM (u2 (u2 K 135 1 (nI 0)) 135 0 (nI 0) 140) T := by rw [u2_na _ _ _ _ _ (by omega), u2_na _ _ _ _ _ (by omega), hK 140 (by omega) (by omega)]; exact hM
      obtain ⟨L, l1, l2, l3⟩ := c9_laysWorths (N := N) (d := d + 34) (X := X) (J := J) tm hw (by omega)
      refine ⟨L, ?_, l2⟩
      rw [gX9_pick N (d + 38), sX9_pick_0 N (d + 38)]
      rw [mm 0 hp K hK, cI_some, kX9_pick_0 N (d + 38), nc_nlt (by omega) (by omega), c9_inb (by omega), cI_some, kX9_pick_3 N (d + 38), nc_10, if_pos q4, l1, cV_some, kX9_pick_4 N (d + 38)]
      exact c9_pickL (by rw [l2 140 (by omega)]; exact tm) hw l3 ha (by omega) pr (fun i hi => by rw [← b6 i (by omega)]; exact hJ i hi) (by omega)
    by_cases r : pgt (wth T) (T 3) pr (k + 1) = 4294967295
    · refine PR_tells H (.int (-1)) (nI 8) ⟨u2 K1 3 15 (nI 8), ?_, ⟨fun a b1 b2 => ?_, fun j hj => ?_⟩, u2_at _ _ _ _⟩ (fun K hK => ?_)
      · rw [cc 0, if_pos q3, if_pos q4, k1, cI_some, kX8_pick_2 N (d + 37) _ hX, c8_answerIfAny hX, nc_m1 r, cI_some, kX8_pick_3 N (d + 37) _ hX]
      · rw [u2_na _ _ _ _ _ b1, k2 a (by omega)]
      · rw [u2_nk _ _ _ _ _ hj, k2 3 (by omega)]
      · obtain ⟨L, l1, l2⟩ := mw K hK
        rw [if_pos r] at l1
        refine ⟨u2 L 135 0 (nI 8), l1, ⟨fun a b1 b2 b3 => ?_, fun j hj => ?_⟩, u2_at _ _ _ _⟩
        · rw [u2_na _ _ _ _ _ b1, l2 a (by omega), u2_na _ _ _ _ _ b1, u2_na _ _ _ _ _ b1]
        · rw [u2_nk _ _ _ _ _ (by omega), l2 135 (by omega), u2_nk _ _ _ _ _ (by omega), u2_nk _ _ _ _ _ (by omega)]
    · refine PR_tells H (.int (nI (pgt (wth T) (T 3) pr (k + 1)))) (nI 0) ⟨u2 K1 3 15 (nI 0), ?_, ⟨fun a b1 b2 => ?_, fun j hj => ?_⟩, u2_at _ _ _ _⟩ (fun K hK => ?_)
      · rw [cc 0, if_pos q3, if_pos q4, k1, cI_some, kX8_pick_2 N (d + 37) _ hX, c8_answerIfAny hX, nc_nm1 (by omega), cI_some, kX8_pick_3 N (d + 37) _ hX]
      · rw [u2_na _ _ _ _ _ b1, k2 a (by omega)]
      · rw [u2_nk _ _ _ _ _ hj, k2 3 (by omega)]
      · obtain ⟨L, l1, l2⟩ := mw K hK
        rw [if_neg r] at l1
        refine ⟨L, l1, ⟨fun a b1 b2 b3 => ?_, fun j hj => ?_⟩, ?_⟩
        · rw [l2 a (by omega), u2_na _ _ _ _ _ b1, u2_na _ _ _ _ _ b1]
        · rw [l2 135 (by omega), u2_nk _ _ _ _ _ (by omega), u2_nk _ _ _ _ _ (by omega)]
        · rw [l2 135 (by omega), u2_at]
