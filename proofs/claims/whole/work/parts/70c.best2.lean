/-! best: who gets what -/
/-- the first set that does it for person p, r more people behind him -/
def fbs (W : Nat → Nat → Nat) (S ppl r p g : Nat) : Nat := fnd (fun s => !g.testBit s && decide (W p s + bv W S ppl r (p + 1) (g ||| 2 ^ s) = bv W S ppl (r + 1) p g)) 0 S
def fbo (W : Nat → Nat → Nat) (S ppl r p g : Nat) : Nat := if ppl.testBit p = true ∧ fbs W S ppl r p g < S then fbs W S ppl r p g else 4294967295
def nxg (g s : Nat) : Nat := if s = 4294967295 then g else g ||| 2 ^ s
/-- what person i gets, from person p on -/
def asg (W : Nat → Nat → Nat) (S ppl : Nat) : Nat → Nat → Nat → Nat → Nat
  | 0, _, _, _ => 4294967295
  | r + 1, p, g, i => if i = p then fbo W S ppl r p g else asg W S ppl r (p + 1) (nxg g (fbo W S ppl r p g)) i
theorem fbo_lt (W : Nat → Nat → Nat) (S ppl r p g : Nat) : fbo W S ppl r p g = 4294967295 ∨ fbo W S ppl r p g < S := by
  unfold fbo
  split
  · exact Or.inr (by omega)
  · exact Or.inl rfl
theorem nxg_lt {g s S : Nat} (hg : g < 2 ^ S) (h : s = 4294967295 ∨ s < S) : nxg g s < 2 ^ S := by
  unfold nxg
  split
  · exact hg
  · exact or_p2 hg (by omega)
theorem c0_firstBest {N d : Nat} {X : lt_X} {I : Nat → Nat → Int32} {J : Nat → Nat → Int64} {t : Nat} {T : Nat → Nat} (ht : isT t) (hT : TC I t T) (hw : WF T) {p g ppl r : Nat} (hp : p < T 2) (hr : p + (r + 1) = T 2) (hg : g < 2 ^ T 3) (hpl : ppl.testBit p = true) (hW : ∀ p k, p < T 2 → k < T 3 → I 127 (6 * p + k) = nI (wth T p k)) (hA : aOB I (wth T) (T 3) (T 2) ppl 0) (hN : 1000 ≤ N) : am_G am_prog (N + 30) (d + 2) 6 [.ref 126, .ref t, .int (nI p), .int (nI g)] (mkh X I J) = some (.int (nI (fbo (wth T) (T 3) ppl r p g)), (mkh X I J)) := by
  obtain ⟨h0, h1, h2, h3, h4, h5, h6⟩ := hw.1
  have h64 : 2 ^ T 3 ≤ 2 ^ 6 := Nat.pow_le_pow_right (by omega) h3
  have hA1 : ∀ x, x < 2 ^ T 3 → I 128 (64 * (p + 1) + x) = nI (bv (wth T) (T 3) ppl r (p + 1) x) := fun x hx => by rw [hA (p + 1) (by omega) (by omega) x hx, show T 2 - (p + 1) = r by omega]
  have hA0 := hA p (by omega) (by omega) g hg
  rw [show T 2 - p = r + 1 by omega] at hA0
  have bl : ∀ r p g, p + r ≤ T 2 → bv (wth T) (T 3) ppl r p g ≤ 648 * r := bv_le (fun p s hp => wth_le hw hp s)
  have main := lqf (run := fun n i => RX0_firstBest_3 N (d + 1) n X t (nI p) (nI g) (nI i) I J) (m := T 3) (p := fun s => !g.testBit s && decide (wth T p s + bv (wth T) (T 3) ppl r (p + 1) (g ||| 2 ^ s) = bv (wth T) (T 3) ppl (r + 1) p g)) (A := fun i => some (.int (nI i), (mkh X I J))) (Z := some (.int (-1), (mkh X I J))) ?_ ?_ ?_ (T 3) 0 (N + 29) (by omega) (by omega)
  · rw [gX0_firstBest N (d + 1) ht, sX0_firstBest_0 N (d + 1) _ ht]
    refine main.trans ?_
    by_cases c : fbs (wth T) (T 3) ppl r p g < T 3
    · have e : fbo (wth T) (T 3) ppl r p g = fbs (wth T) (T 3) ppl r p g := if_pos ⟨hpl, c⟩
      rw [e]
      exact if_pos c
    · have e : fbo (wth T) (T 3) ppl r p g = 4294967295 := if_neg (fun h => c h.2)
      rw [e, ← no_m1]
      exact if_neg c
  · intro n i hi qb
    rw [Bool.and_eq_true, Bool.not_eq_true', decide_eq_true_eq] at qb
    rw [sX0_firstBest_3 N (d + 1) n ht, tc3 hT, nc_lt hi (by omega), nc_b0 qb.1 (by omega) (by omega), c0_bySet h3 h2 hp hi hg hW hA1, cI_some, kX0_firstBest_0 N (d + 1) n ht, pk_mul, nI_add, nc_in (by omega) (by omega), nI_clamp (by omega), Nat.mul_comm p 64, hA0, nc_eq qb.2]
  · intro n i hi qb
    rw [Bool.and_eq_false_iff, Bool.not_eq_false', decide_eq_false_iff_not] at qb
    rw [sX0_firstBest_3 N (d + 1) n ht, tc3 hT, nc_lt hi (by omega)]
    by_cases c : g.testBit i = true
    · rw [nc_b1 c (by omega) (by omega), nI_add]
    · have b1 := bl r (p + 1) (g ||| 2 ^ i) (by omega)
      have b2 := bl (r + 1) p g (by omega)
      have b3 := wth_le hw hp i
      rw [nc_b0 (by simpa using c) (by omega) (by omega), c0_bySet h3 h2 hp hi hg hW hA1, cI_some, kX0_firstBest_0 N (d + 1) n ht, pk_mul, nI_add, nc_in (by omega) (by omega), nI_clamp (by omega), Nat.mul_comm p 64, hA0, nc_ne (by rcases qb with qb | qb; exact absurd qb c; exact qb) (by omega) (by omega), nI_add]
  · intro n
    rw [sX0_firstBest_3 N (d + 1) n ht, tc3 hT, nc_nlt (by omega) (by omega)]
theorem c0_findBestSet {N d : Nat} {X : lt_X} {I : Nat → Nat → Int32} {J : Nat → Nat → Int64} {t : Nat} {T : Nat → Nat} (ht : isT t) (hT : TC I t T) (hw : WF T) {ppl u : Nat} (hpl : ppl < 2 ^ T 2) (hu : u < T 2) (hb : ppl.testBit u = true) (hN : 2000 ≤ N) : ∃ K, am_G am_prog (N + 30) (d + 6) 5 [.ref 126, .ref t, .int (nI ppl), .int (nI u)] (mkh X I J) = some (.int (nI (asg (wth T) (T 3) ppl (T 2) 0 0 u)), mkh X K J) ∧ (∀ a, a ≠ 127 → a ≠ 128 → K a = I a) := by
  obtain ⟨h0, h1, h2, h3, h4, h5, h6⟩ := hw.1
  have t1 : t + 14 ≤ 127 := by unfold isT at ht; omega
  have h64 : 2 ^ T 3 ≤ 2 ^ 6 := Nat.pow_le_pow_right (by omega) h3
  have h65 : 2 ^ T 2 ≤ 2 ^ 6 := Nat.pow_le_pow_right (by omega) h2
  obtain ⟨K, k1, k2, k3, k4⟩ := c0_findBest (N := N) (d := d) (X := X) (I := I) (J := J) ht hT hw hpl hN
  have hK : TC K t T := TC_frame (fun a b1 b2 => k2 a (by omega) (by omega)) hT
  refine ⟨K, ?_, k2⟩
  rw [gX0_findBestSet N (d + 5) ht, sX0_findBestSet_0 N (d + 5) _ ht, k1, cI_some, kX0_findBestSet_0 N (d + 5) _ ht]
  have main : ∀ k p g (z : Int32), p + k = u → g < 2 ^ T 3 → ∀ n, k + 2 ≤ n → RX0_findBestSet_16 N (d + 5) n X t (nI ppl) (nI u) (nI g) z (nI p) K J = some (.int (nI (asg (wth T) (T 3) ppl (T 2 - p) p g u)), mkh X K J) := by
    intro k
    induction k with
    | zero =>
      intro p g z hp hg n hn
      obtain ⟨n, rfl⟩ : ∃ y, n = y + 1 + 1 := ⟨n - 2, by omega⟩
      have e : p = u := by omega
      subst e
      obtain ⟨r, hr⟩ : ∃ r, T 2 - p = r + 1 := ⟨T 2 - p - 1, by omega⟩
      have hl := fbo_lt (wth T) (T 3) ppl r p g
      have ea : asg (wth T) (T 3) ppl (T 2 - p) p g p = fbo (wth T) (T 3) ppl r p g := by rw [hr]; exact if_pos rfl
      rw [sX0_findBestSet_16 N (d + 5) (n + 1) ht, nc_nlt (by omega) (by omega), nc_lt (by omega) (by omega), nc_b1 hb (by omega) (by omega), c0_firstBest (d := d + 3) ht hK hw hu (r := r) (by omega) hg hb k4 k3 (by omega), cI_some, kX0_findBestSet_1 N (d + 5) (n + 1) ht, nI_add, ea]
      have fin : ∀ x4, RX0_findBestSet_16 N (d + 5) (n + 1) X t (nI ppl) (nI p) x4 (nI (fbo (wth T) (T 3) ppl r p g)) (nI (p + 1)) K J = some (.int (nI (fbo (wth T) (T 3) ppl r p g)), mkh X K J) := fun x4 => by
        rw [sX0_findBestSet_16 N (d + 5) n ht, nc_lt (by omega) (by omega)]
      rw [fin, fin]
      split <;> rfl
    | succ k ih =>
      intro p g z hp hg n hn
      obtain ⟨n, rfl⟩ : ∃ y, n = y + 1 := ⟨n - 1, by omega⟩
      obtain ⟨r, hr⟩ : ∃ r, T 2 - p = r + 1 := ⟨T 2 - p - 1, by omega⟩
      have hl := fbo_lt (wth T) (T 3) ppl r p g
      have ea : asg (wth T) (T 3) ppl (T 2 - p) p g u = asg (wth T) (T 3) ppl (T 2 - (p + 1)) (p + 1) (nxg g (fbo (wth T) (T 3) ppl r p g)) u := by rw [hr, show T 2 - (p + 1) = r by omega]; exact if_neg (by omega)
      rw [sX0_findBestSet_16 N (d + 5) n ht, nc_nlt (by omega) (by omega), nc_lt (by omega) (by omega), ea]
      by_cases c : ppl.testBit p = true
      · rw [nc_b1 c (by omega) (by omega), c0_firstBest (d := d + 3) ht hK hw (show p < T 2 by omega) (r := r) (by omega) hg c k4 k3 (by omega), cI_some, kX0_findBestSet_1 N (d + 5) n ht, nI_add]
        rcases hl with hl | hl
        · have en : nxg g (fbo (wth T) (T 3) ppl r p g) = g := if_pos hl
          rw [nc_m1 hl, en, ih (p + 1) g _ (by omega) hg n (by omega)]
        · have en : nxg g (fbo (wth T) (T 3) ppl r p g) = g ||| 2 ^ fbo (wth T) (T 3) ppl r p g := if_neg (by omega)
          rw [nc_nm1 (by omega), en, no_shl (by omega), no_or, ih (p + 1) _ _ (by omega) (or_p2 hg hl) n (by omega)]
      · have eb : fbo (wth T) (T 3) ppl r p g = 4294967295 := if_neg (fun h => c h.1)
        have en : nxg g (fbo (wth T) (T 3) ppl r p g) = g := if_pos eb
        rw [nc_b0 (by simpa using c) (by omega) (by omega), en, nI_add, ih (p + 1) g _ (by omega) hg n (by omega)]
  exact main u 0 0 (-1) (by omega) (Nat.two_pow_pos _) (N + 29) (by omega)
