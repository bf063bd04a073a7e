/-! game, moveOf: the pairs -/
def gst (T : Nat → Nat) (x y w : Int32) (l : Nat) : Nat := if inb x (T 2) = true ∧ inb y (T 2) = true then (if x = y ∨ ¬ rng w l 5 = true then 5 else 0) else 2
theorem gst_le (T : Nat → Nat) (x y w : Int32) (l : Nat) : gst T x y w l ≤ 5 := by unfold gst; split <;> (try split) <;> omega
theorem gst_0 {T : Nat → Nat} {x y w : Int32} {l : Nat} (h : gst T x y w l = 0) : inb x (T 2) = true ∧ inb y (T 2) = true ∧ x ≠ y ∧ rng w l 5 = true := by
  unfold gst at h
  split at h
  · rename_i a
    split at h
    · omega
    · rename_i b
      rw [not_or, Decidable.not_not] at b
      exact ⟨a.1, a.2, b.1, b.2⟩
  · omega
theorem gst_a {T : Nat → Nat} {x y w : Int32} {l : Nat} (h : ¬ (inb x (T 2) = true ∧ inb y (T 2) = true)) : gst T x y w l = 2 := if_neg h
theorem gst_c {T : Nat → Nat} {x y w : Int32} {l : Nat} (h : inb x (T 2) = true ∧ inb y (T 2) = true) (q : x = y ∨ ¬ rng w l 5 = true) : gst T x y w l = 5 := (if_pos h).trans (if_pos q)
theorem gst_e {T : Nat → Nat} {x y w : Int32} {l : Nat} (h : inb x (T 2) = true ∧ inb y (T 2) = true) (q : x ≠ y) (q2 : rng w l 5 = true) : gst T x y w l = 0 := (if_pos h).trans (if_neg (by rw [not_or, Decidable.not_not]; exact ⟨q, q2⟩))
theorem c8_gameStatus {N d : Nat} {X : lt_X} {I : Nat → Nat → Int32} {J : Nat → Nat → Int64} {T : Nat → Nat} (hX : hsX X) (hT : TC I X.2.1 T) (hw : WF T) (x y w : Int32) : am_G am_prog (N + 30) (d + 2) 168 [.ref 3, .int x, .int y, .int w] (mkh X I J) = some (.int (nI (gst T x y w 0)), (mkh X I J)) := by
  rw [gX8_gameStatus N d, sX8_gameStatus_0 N d _ hX, c8_has hX hT hw (by omega), cI_some, kX8_gameStatus_0 N d _ hX, nc_10]
  by_cases qx : inb x (T 2) = true
  · rw [if_pos qx, c8_has hX hT hw (by omega), cI_some, kX8_gameStatus_1 N d _ hX, nc_10, rng_c (by omega) (by omega)]
    by_cases qy : inb y (T 2) = true
    · rw [if_pos qy]
      by_cases q : x = y
      · rw [if_pos q, gst_c ⟨qx, qy⟩ (Or.inl q)]
      · rw [if_neg q]
        by_cases q2 : rng w 0 5 = true
        · rw [if_pos q2, gst_e ⟨qx, qy⟩ q q2]
        · rw [if_neg q2, gst_c ⟨qx, qy⟩ (Or.inr q2)]
    · rw [if_neg qy, gst_a (fun h => qy h.2)]
  · rw [if_neg qx, gst_a (fun h => qx h.1)]
theorem c9_whyNoGame {N d : Nat} {X : lt_X} {I : Nat → Nat → Int32} {J : Nat → Nat → Int64} {T : Nat → Nat} (hT : TM (I 140) T) (hw : WF T) (x y w : Int32) {l : Nat} (hl : l ≤ 1) : am_G am_prog (N + 30) (d + 3) 335 [.ref 135, .int x, .int y, .int w, .int (nI l)] (mkh X I J) = some (.int (nI (gst T x y w l)), (mkh X I J)) := by
  have el : (nI l).toInt64 = lN l := by
    have : l = 0 ∨ l = 1 := by omega
    rcases this with rfl | rfl <;> decide +kernel
  rw [gX9_whyNoGame N d, sX9_whyNoGame_0 N d, c9_isPersonAt hT hw, cI_some, kX9_whyNoGame_0 N d, nc_10]
  by_cases qx : inb x (T 2) = true
  · rw [if_pos qx, c9_isPersonAt hT hw, cI_some, kX9_whyNoGame_1 N d, nc_10]
    by_cases qy : inb y (T 2) = true
    · rw [if_pos qy]
      by_cases q : x = y
      · rw [if_pos q, gst_c ⟨qx, qy⟩ (Or.inl q)]
      · rw [if_neg q, el, c9_in (by omega) (by omega), cI_some, kX9_whyNoGame_2 N d, nc_10]
        by_cases q2 : rng w l 5 = true
        · rw [if_pos q2, gst_e ⟨qx, qy⟩ q q2]
        · rw [if_neg q2, gst_c ⟨qx, qy⟩ (Or.inr q2)]
    · rw [if_neg qy, gst_a (fun h => qy h.2)]
  · rw [if_neg qx, gst_a (fun h => qx h.1)]
def gw1 (T : Nat → Nat) (p q r f s : Nat) : Int32 := nI (wth T p s) + gvl (wth T) p q r 1 (f &&& nnot (2 ^ s))
theorem c9_plays0 {N d : Nat} {X : lt_X} {I : Nat → Nat → Int32} {J : Nat → Nat → Int64} {T : Nat → Nat} (hT : TM (I 140) T) (hw : WF T) (hW : ∀ p k, p < T 2 → k < T 3 → I 143 (6 * p + k) = nI (wth T p k)) {p q n f : Nat} (hp : p < T 2) (hq : q < T 2) (hn : n ≤ 5) (hf : f < 2 ^ T 3) (hN : 1000 ≤ N) : ∃ M, am_G am_prog (N + 30) (d + 8) 334 [.ref 135, .int (nI p), .int (nI q), .int (nI 0), .int (nI n), .int (nI f)] (mkh X I J) = some (.int (gvl (wth T) p q n 0 f), mkh X M J) ∧ (∀ a, a ≠ 135 → M a = I a) ∧ (∀ k, k ≠ 31 → M 135 k = I 135 k) ∧ (∀ r, n = r + 1 → M 135 31 = nI (mfx true (gw1 T p q r f) f (gvl (wth T) p q r 1 f) (T 3))) := by
  rcases n with _ | r
  · refine ⟨I, ?_, fun _ _ => rfl, fun _ _ => rfl, fun r h => absurd h (by omega)⟩
    rw [gX9_plays N (d + 6), sX9_plays_0 N (d + 6), nc_eq rfl]
    rfl
  · have := playsL (N := N) (d := d + 6) (X := X) (I := I) (J := J) hT hw hW hp hq hn (t := 0) (r := r) (f := f) (by omega) hf (fun f' hf' => by
      have := c9_playsR (N := N) (d := d) (X := X) (I := I) (J := J) hT hw hW hp hq hn hN r (d + 5 - r) 1 f' (by omega) (by omega) hf'
      rw [show d + 5 - r + r + 2 = d + 6 + 1 by omega] at this
      exact this) (N + 30) (by omega)
    rw [if_pos rfl] at this
    refine ⟨u2 I 135 31 (nI (mfx true (gw1 T p q r f) f (gvl (wth T) p q r 1 f) (T 3))), ?_, fun a ha => u2_na _ _ _ _ _ ha, fun k hk => u2_nk _ _ _ _ _ hk, fun r' h => ?_⟩
    · rw [gX9_plays N (d + 6)]
      exact this
    · have : r' = r := by omega
      subst this
      rw [u2_at]
theorem c0_findMove {N d : Nat} {X : lt_X} {I : Nat → Nat → Int32} {J : Nat → Nat → Int64} {t : Nat} {T : Nat → Nat} (ht : isT t) (hT : TC I t T) (hw : WF T) {p q r : Nat} (hp : p < T 2) (hq : q < T 2) (hn : r + 1 ≤ 5) (hN : 1000 ≤ N) : ∃ K, am_G am_prog (N + 30) (d + 6) 19 [.ref 126, .ref t, .int (nI p), .int (nI q), .int (nI (r + 1))] (mkh X I J) = (if fnd (fun s => (owned T 4294967295).testBit s && decide (gw1 T p q r (owned T 4294967295) s = gvl (wth T) p q (r + 1) 0 (owned T 4294967295))) 0 6 < 6 then some (.int (nI (fnd (fun s => (owned T 4294967295).testBit s && decide (gw1 T p q r (owned T 4294967295) s = gvl (wth T) p q (r + 1) 0 (owned T 4294967295))) 0 6)), mkh X K J) else some (.int (-1), mkh X K J)) ∧ (∀ a, a ≠ 127 → a ≠ 128 → K a = I a) := by
  obtain ⟨h0, h1, h2, h3, h4, h5, h6⟩ := hw.1
  have t1 : t + 14 ≤ 127 := by unfold isT at ht; omega
  have h64 : 2 ^ T 3 ≤ 2 ^ 6 := Nat.pow_le_pow_right (by omega) h3
  obtain ⟨K, k1, k2, k3, k4⟩ := c0_playGame (N := N) (d := d) (X := X) (I := I) (J := J) ht hT hw hp hq hn hN
  have hK : TC K t T := TC_frame (fun a b1 b2 => k2 a (by omega) (by omega)) hT
  have hf : owned T 4294967295 < 2 ^ T 3 := bst_lt (Nat.le_refl _)
  refine ⟨K, ?_, k2⟩
  rw [gX0_findMove N (d + 5) ht, sX0_findMove_0 N (d + 5) _ ht, k1, cI_some, kX0_findMove_0 N (d + 5) _ ht]
  generalize hv : gvl (wth T) p q (r + 1) 0 (owned T 4294967295) = v
  rw [show ([.ref t, .int (-1)] : List Value) = [.ref t, .int (nI 4294967295)] by rw [no_m1], c5_setsOf (d := d + 4) ht hK hw (by omega), cI_some, kX0_findMove_1 N (d + 5)]
  generalize hF : owned T 4294967295 = f0 at *
  have cell : ∀ s, s < T 3 → K 127 (6 * p + s) + K 128 (64 + 2 ^ s) = gw1 T p q r f0 s := fun s hs => by
    have h2s : 2 ^ s < 2 ^ T 3 := Nat.pow_lt_pow_right (by omega) hs
    have := k3 1 (by omega) (by omega) (2 ^ s) h2s
    rw [show 64 * 1 + 2 ^ s = 64 + 2 ^ s by omega, show r + 1 - 1 = r by omega] at this
    rw [k4 p s hp hs, this]
    rfl
  refine lqf (run := fun n i => RX0_findMove_21 N (d + 5) n X (nI p) v (nI f0) (nI i) K J) (m := 6) (p := fun s => f0.testBit s && decide (gw1 T p q r f0 s = v)) (A := fun i => some (.int (nI i), mkh X K J)) (Z := some (.int (-1), mkh X K J)) ?_ ?_ ?_ 6 0 (N + 29) (by omega) (by omega)
  · intro n i hi qb
    rw [Bool.and_eq_true, decide_eq_true_eq] at qb
    have hs := tb_lt hf qb.1
    have h2s : 2 ^ i < 2 ^ T 3 := Nat.pow_lt_pow_right (by omega) hs
    rw [sX0_findMove_21 N (d + 5) n, nc_lt hi (by omega), nc_b1 qb.1 (by omega) (by omega), pk_mul, nI_add, no_shl (by omega), nI_add, nc_in (by omega) (by omega), nc_in (by omega) (by omega), nI_clamp (by omega), nI_clamp (by omega), Nat.mul_comm p 6, cell i hs, if_pos qb.2]
  · intro n i hi qb
    rw [Bool.and_eq_false_iff, decide_eq_false_iff_not] at qb
    rw [sX0_findMove_21 N (d + 5) n, nc_lt hi (by omega)]
    by_cases c : f0.testBit i = true
    · have hs := tb_lt hf c
      have h2s : 2 ^ i < 2 ^ T 3 := Nat.pow_lt_pow_right (by omega) hs
      rw [nc_b1 c (by omega) (by omega), pk_mul, nI_add, no_shl (by omega), nI_add, nc_in (by omega) (by omega), nc_in (by omega) (by omega), nI_clamp (by omega), nI_clamp (by omega), Nat.mul_comm p 6, cell i hs, if_neg, nI_add]
      rcases qb with qb | qb
      · rw [c] at qb; cases qb
      · exact qb
    · rw [nc_b0 (by simpa using c) (by omega) (by omega), nI_add]
  · intro n
    rw [sX0_findMove_21 N (d + 5) n, nc_nlt (by omega) (by omega)]
theorem p_game {xs : Nat → Int32} {N d : Nat} {X : lt_X} {I : Nat → Nat → Int32} {J : Nat → Nat → Int64} (H : INV xs X I J) (hN : 100000 ≤ N) (x y w : Int32) : PR xs N d X I J 166 336 [.int x, .int y, .int w] := by
  obtain ⟨T, hw, hT, hM, hX, ht⟩ := INV_T H
  obtain ⟨h0, h1, h2, h3, h4, h5, h6⟩ := hw.1
  by_cases r : gst T x y w 0 = 0
  rotate_left
  · have hl := gst_le T x y w 0
    refine PR_tells H (.int (-1)) (nI (gst T x y w 0)) (CR_st ?_) (fun K hK => MR_0 (a := nI 0) ?_)
    · rw [gX8_game N (d + 37), sX8_game_0 N (d + 37) _ hX]
      rw [c8_gameStatus hX hT hw, cI_some, kX8_game_0 N (d + 37) _ hX, nc_ne r (by omega) (by omega)]
    · rw [gX9_game N (d + 39), sX9_game_0 N (d + 39)]
      rw [c9_whyNoGame (d := d + 36) (I := u2 K 135 1 (nI 0)) (T := T) (by rw [u2_na _ _ _ _ _ (by omega), hK 140 (by omega) (by omega)]; exact hM) hw x y w (by omega), cI_some, kX9_game_0 N (d + 39), nc_lt (by omega) (by omega)]
  · obtain ⟨qx, qy, q, q2⟩ := gst_0 r
    obtain ⟨p, hp, rfl⟩ := inb_e qx (by omega)
    obtain ⟨u, hu, rfl⟩ := inb_e qy (by omega)
    obtain ⟨n, -, hn, rfl⟩ := rng_e q2 (by omega)
    have hf : owned T 4294967295 < 2 ^ T 3 := bst_lt (Nat.le_refl _)
    obtain ⟨K1, k1, k2, -, -⟩ := c0_playGame (N := N) (d := d + 34) (X := X) (I := I) (J := J) ht hT hw hp hu hn (by omega)
    refine PR_tells H (.int (gvl (wth T) p u n 0 (owned T 4294967295))) (nI 0) ⟨u2 K1 3 15 (nI 0), ?_, ⟨fun a b1 b2 => ?_, fun j hj => ?_⟩, u2_at _ _ _ _⟩ (fun K hK => ?_)
    · rw [gX8_game N (d + 37), sX8_game_0 N (d + 37) _ hX]
      rw [c8_gameStatus hX hT hw, cI_some, kX8_game_0 N (d + 37) _ hX, nc_eq r, k1, cI_some, kX8_game_1 N (d + 37) _ hX]
    · rw [u2_na _ _ _ _ _ b1, k2 a (by omega) (by omega)]
    · rw [u2_nk _ _ _ _ _ hj, k2 3 (by omega) (by omega)]
    · have tm : TM (u2 (u2 K 135 1 (nI 0)) 135 0 (nI 0) 140) T := by rw [u2_na _ _ _ _ _ (by omega), u2_na _ _ _ _ _ (by omega), hK 140 (by omega) (by omega)]; exact hM
      obtain ⟨L, l1, l2, l3⟩ := c9_laysWorths (N := N) (d := d + 34) (X := X) (J := J) tm hw (by omega)
      have tm2 : TM (L 140) T := by rw [l2 140 (by omega)]; exact tm
      obtain ⟨M, m1, m2, m3, -⟩ := c9_plays0 (N := N) (d := d + 31) (X := X) (I := L) (J := J) tm2 hw l3 hp hu hn hf (by omega)
      refine ⟨M, ?_, ⟨fun a b1 b2 b3 => ?_, fun j hj => ?_⟩, ?_⟩
      · rw [gX9_game N (d + 39), sX9_game_0 N (d + 39)]
        rw [c9_whyNoGame (d := d + 36) (I := u2 K 135 1 (nI 0)) (T := T) (by rw [u2_na _ _ _ _ _ (by omega), hK 140 (by omega) (by omega)]; exact hM) hw _ _ _ (by omega), cI_some, kX9_game_0 N (d + 39), r, nc_nlt (by omega) (by omega), l1, cV_some, kX9_game_1 N (d + 39), no_m1, c9_ownedBy (d := d + 38) tm2 hw (by omega), cI_some, kX9_game_2 N (d + 39), m1, cI_some, kX9_game_3 N (d + 39)]
      · rw [m2 a b1, l2 a (by omega), u2_na _ _ _ _ _ b1, u2_na _ _ _ _ _ b1]
      · rw [m3 j (by omega), l2 135 (by omega), u2_nk _ _ _ _ _ (by omega), u2_nk _ _ _ _ _ (by omega)]
      · rw [m3 0 (by omega), l2 135 (by omega), u2_at]
theorem gst_01 {T : Nat → Nat} {x y w : Int32} (h : gst T x y w 0 ≠ 0) : gst T x y w 1 = gst T x y w 0 := by
  by_cases a : inb x (T 2) = true ∧ inb y (T 2) = true
  · by_cases q : x = y
    · rw [gst_c a (Or.inl q), gst_c a (Or.inl q)]
    · by_cases q2 : rng w 0 5 = true
      · exact absurd (gst_e a q q2) h
      · have q3 : ¬ rng w 1 5 = true := by
          unfold rng at *
          rw [decide_eq_true_eq] at *
          omega
        rw [gst_c a (Or.inr q2), gst_c a (Or.inr q3)]
  · rw [gst_a a, gst_a a]
theorem p_moveOf {xs : Nat → Int32} {N d : Nat} {X : lt_X} {I : Nat → Nat → Int32} {J : Nat → Nat → Int64} (H : INV xs X I J) (hN : 100000 ≤ N) (x y w : Int32) : PR xs N d X I J 167 337 [.int x, .int y, .int w] := by
  obtain ⟨T, hw, hT, hM, hX, ht⟩ := INV_T H
  obtain ⟨h0, h1, h2, h3, h4, h5, h6⟩ := hw.1
  have mw : ∀ K : Nat → Nat → Int32, (∀ a, a ≠ 3 → ¬ (126 ≤ a ∧ a ≤ 133) → K a = I a) → am_G am_prog (N + 30) (d + 39) 335 [.ref 135, .int x, .int y, .int w, .int (nI 1)] (mkh X (u2 K 135 1 (nI 0)) J) = some (.int (nI (gst T x y w 1)), mkh X (u2 K 135 1 (nI 0)) J) := fun K hK =>
    c9_whyNoGame (d := d + 36) (I := u2 K 135 1 (nI 0)) (T := T) (by rw [u2_na _ _ _ _ _ (by omega), hK 140 (by omega) (by omega)]; exact hM) hw _ _ _ (by omega)
  by_cases r : gst T x y w 0 = 0
  rotate_left
  · have hl := gst_le T x y w 0
    refine PR_tells H (.int (-1)) (nI (gst T x y w 0)) (CR_st ?_) (fun K hK => MR_0 (a := nI 0) ?_)
    · rw [gX8_moveOf N (d + 37), sX8_moveOf_0 N (d + 37) _ hX]
      rw [c8_gameStatus hX hT hw, cI_some, kX8_moveOf_0 N (d + 37) _ hX, nc_ne r (by omega) (by omega)]
    · rw [gX9_moveOf N (d + 38), sX9_moveOf_0 N (d + 38)]
      rw [mw K hK, gst_01 r, cI_some, kX9_moveOf_0 N (d + 38), nc_lt (by omega) (by omega)]
  · obtain ⟨qx, qy, q, q2⟩ := gst_0 r
    obtain ⟨n, -, hn, rfl⟩ := rng_e q2 (by omega)
    rcases n with _ | n
    · have r1 : gst T x y (nI 0) 1 = 5 := gst_c ⟨qx, qy⟩ (Or.inr (by decide +kernel))
      refine PR_tells H (.int (-1)) (nI 5) (CR_st ?_) (fun K hK => MR_0 (a := nI 0) ?_)
      · rw [gX8_moveOf N (d + 37), sX8_moveOf_0 N (d + 37) _ hX]
        rw [c8_gameStatus hX hT hw, cI_some, kX8_moveOf_0 N (d + 37) _ hX, nc_eq r, nc_eq rfl]
      · rw [gX9_moveOf N (d + 38), sX9_moveOf_0 N (d + 38)]
        rw [mw K hK, r1, cI_some, kX9_moveOf_0 N (d + 38), nc_lt (by omega) (by omega)]
    · have r1 : gst T x y (nI (n + 1)) 1 = 0 := gst_e ⟨qx, qy⟩ q (by unfold rng; rw [nI_toInt (by omega)]; exact decide_eq_true ⟨by omega, by omega⟩)
      obtain ⟨p, hp, rfl⟩ := inb_e qx (by omega)
      obtain ⟨u, hu, rfl⟩ := inb_e qy (by omega)
      have hf : owned T 4294967295 < 2 ^ T 3 := bst_lt (Nat.le_refl _)
      obtain ⟨K1, k1, k2⟩ := c0_findMove (N := N) (d := d + 33) (X := X) (I := I) (J := J) ht hT hw hp hu hn (by omega)
      have mm : ∀ K : Nat → Nat → Int32, (∀ a, a ≠ 3 → ¬ (126 ≤ a ∧ a ≤ 133) → K a = I a) → ∃ M, am_G am_prog (N + 30) (d + 40) 337 [.ref 135, .int (nI p), .int (nI u), .int (nI (n + 1))] (mkh X K J) = (if nI (mfx true (gw1 T p u n (owned T 4294967295)) (owned T 4294967295) (gvl (wth T) p u n 1 (owned T 4294967295)) (T 3)) = nI (T 3) then some (.int (-1), mkh X (u2 M 135 0 (nI 8)) J) else some (.int (nI (mfx true (gw1 T p u n (owned T 4294967295)) (owned T 4294967295) (gvl (wth T) p u n 1 (owned T 4294967295)) (T 3))), mkh X M J)) ∧ (∀ a, a ≠ 135 → a ≠ 143 → M a = K a) ∧ (∀ j, j ≠ 31 → j ≠ 0 → j ≠ 1 → M 135 j = K 135 j) ∧ M 135 0 = nI 0 := by
        intro K hK
        have tm : TM (u2 (u2 K 135 1 (nI 0)) 135 0 (nI 0) 140) T := by rw [u2_na _ _ _ _ _ (by omega), u2_na _ _ _ _ _ (by omega), hK 140 (by omega) (by omega)]; exact hM
        obtain ⟨L, l1, l2, l3⟩ := c9_laysWorths (N := N) (d := d + 34) (X := X) (J := J) tm hw (by omega)
        have tm2 : TM (L 140) T := by rw [l2 140 (by omega)]; exact tm
        obtain ⟨M, m1, m2, m3, m4⟩ := c9_plays0 (N := N) (d := d + 31) (X := X) (I := L) (J := J) tm2 hw l3 hp hu hn hf (by omega)
        refine ⟨M, ?_, fun a b1 b2 => ?_, fun j b1 b2 b3 => ?_, ?_⟩
        · rw [gX9_moveOf N (d + 38), sX9_moveOf_0 N (d + 38)]
          rw [mw K hK, r1, cI_some, kX9_moveOf_0 N (d + 38), nc_nlt (by omega) (by omega), l1, cV_some, kX9_moveOf_1 N (d + 38), show ([.ref 135, .int (-1)] : List Value) = [.ref 135, .int (nI 4294967295)] by rw [no_m1], c9_ownedBy (d := d + 38) tm2 hw (by omega), cI_some, kX9_moveOf_2 N (d + 38), m1, cI_some, kX9_moveOf_3 N (d + 38), m4 n rfl, m2 140 (by omega), tm3 tm2]
        · rw [m2 a b1, l2 a b2, u2_na _ _ _ _ _ b1, u2_na _ _ _ _ _ b1]
        · rw [m3 j b1, l2 135 (by omega), u2_nk _ _ _ _ _ b2, u2_nk _ _ _ _ _ b3]
        · rw [m3 0 (by omega), l2 135 (by omega), u2_at]
      have ev0 : gvl (wth T) p u (n + 1) 0 (owned T 4294967295) = cfo true (gw1 T p u n (owned T 4294967295)) (owned T 4294967295) (gvl (wth T) p u n 1 (owned T 4294967295)) 6 := rfl
      rw [ev0] at k1
      rcases mfx_eq (b := true) (g := gw1 T p u n (owned T 4294967295)) (z := gvl (wth T) p u n 1 (owned T 4294967295)) h3 hf with ⟨e1, e2⟩ | ⟨e1, e2⟩
      · rw [if_neg e2] at k1
        refine PR_tells H (.int (-1)) (nI 8) ⟨u2 K1 3 15 (nI 8), ?_, ⟨fun a b1 b2 => ?_, fun j hj => ?_⟩, u2_at _ _ _ _⟩ (fun K hK => ?_)
        · rw [gX8_moveOf N (d + 37), sX8_moveOf_0 N (d + 37) _ hX]
          rw [c8_gameStatus hX hT hw, cI_some, kX8_moveOf_0 N (d + 37) _ hX, nc_eq r, nc_ne (by omega) (by omega) (by omega), k1, cI_some, kX8_moveOf_1 N (d + 37) _ hX, c8_answerIfAny hX, if_pos rfl, cI_some, kX8_moveOf_2 N (d + 37) _ hX]
        · rw [u2_na _ _ _ _ _ b1, k2 a (by omega) (by omega)]
        · rw [u2_nk _ _ _ _ _ hj, k2 3 (by omega) (by omega)]
        · obtain ⟨M, m1, m2, m3, m4⟩ := mm K hK
          rw [e1, if_pos rfl] at m1
          refine ⟨u2 M 135 0 (nI 8), m1, ⟨fun a b1 b2 b3 => ?_, fun j hj => ?_⟩, u2_at _ _ _ _⟩
          · rw [u2_na _ _ _ _ _ b1, m2 a b1 (by omega)]
          · rw [u2_nk _ _ _ _ _ (by omega), m3 j (by omega) (by omega) (by omega)]
      · rw [← e2, if_pos (by omega)] at k1
        generalize hF : mfx true (gw1 T p u n (owned T 4294967295)) (owned T 4294967295) (gvl (wth T) p u n 1 (owned T 4294967295)) (T 3) = F at *
        refine PR_tells H (.int (nI F)) (nI 0) ⟨u2 K1 3 15 (nI 0), ?_, ⟨fun a b1 b2 => ?_, fun j hj => ?_⟩, u2_at _ _ _ _⟩ (fun K hK => ?_)
        · rw [gX8_moveOf N (d + 37), sX8_moveOf_0 N (d + 37) _ hX]
          rw [c8_gameStatus hX hT hw, cI_some, kX8_moveOf_0 N (d + 37) _ hX, nc_eq r, nc_ne (by omega) (by omega) (by omega), k1, cI_some, kX8_moveOf_1 N (d + 37) _ hX, c8_answerIfAny hX, nc_nm1 (by omega), cI_some, kX8_moveOf_2 N (d + 37) _ hX]
        · rw [u2_na _ _ _ _ _ b1, k2 a (by omega) (by omega)]
        · rw [u2_nk _ _ _ _ _ hj, k2 3 (by omega) (by omega)]
        · obtain ⟨M, m1, m2, m3, m4⟩ := mm K hK
          rw [nc_ne (by omega) (by omega) (by omega)] at m1
          refine ⟨M, m1, ⟨fun a b1 b2 b3 => m2 a b1 (by omega), fun j hj => m3 j (by omega) (by omega) (by omega)⟩, m4⟩
