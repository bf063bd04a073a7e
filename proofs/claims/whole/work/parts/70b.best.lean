/-! best: the class's side -/
def bvg (W : Nat → Nat → Nat) (A : Nat → Nat) (p g s : Nat) : Nat := if g.testBit s = true then 0 else W p s + A (g ||| 2 ^ s)
def bv (W : Nat → Nat → Nat) (S ppl : Nat) : Nat → Nat → Nat → Nat
  | 0, _, _ => 0
  | r + 1, p, g => if ppl.testBit p = true then max (bv W S ppl r (p + 1) g) (mxf (bvg W (bv W S ppl r (p + 1)) p g) S) else bv W S ppl r (p + 1) g
theorem bv_le {W : Nat → Nat → Nat} {S ppl P : Nat} (hW : ∀ p s, p < P → W p s ≤ 648) : ∀ r p g, p + r ≤ P → bv W S ppl r p g ≤ 648 * r := by
  intro r
  induction r with
  | zero => intro p g _; exact Nat.le_refl 0
  | succ r ih =>
    intro p g h
    have a := ih (p + 1) g (by omega)
    unfold bv
    split
    · have b := mxf_le (g := bvg W (bv W S ppl r (p + 1)) p g) (b := 648 * (r + 1)) S (fun s hs => by
        unfold bvg
        have c := ih (p + 1) (g ||| 2 ^ s) (by omega)
        have e := hW p s (by omega)
        split <;> omega)
      omega
    · omega
theorem c0_bySet {N d : Nat} {X : lt_X} {I : Nat → Nat → Int32} {J : Nat → Nat → Int64} {p g s S P : Nat} {W : Nat → Nat → Nat} {A : Nat → Nat} (hS : S ≤ 6) (hP : P ≤ 6) (hp : p < P) (hs : s < S) (hg : g < 2 ^ S) (hW : ∀ p k, p < P → k < S → I 127 (6 * p + k) = nI (W p k)) (hA : ∀ x, x < 2 ^ S → I 128 (64 * (p + 1) + x) = nI (A x)) : am_G am_prog (N + 30) (d + 1) 4 [.ref 126, .int (nI p), .int (nI g), .int (nI s)] (mkh X I J) = some (.int (nI (W p s + A (g ||| 2 ^ s))), (mkh X I J)) := by
  have h64 : 2 ^ S ≤ 2 ^ 6 := Nat.pow_le_pow_right (by omega) hS
  have ho := or_p2 hg hs
  rw [gX0_bySet N d, sX0_bySet_0 N d, pk_mul, nI_add, nI_add, pk_mul, no_shl (by omega), no_or, nI_add, nc_in (by omega) (by omega), nc_in (by omega) (by omega), nI_clamp (by omega), nI_clamp (by omega), Nat.mul_comm (p + 1) 64, Nat.mul_comm p 6, hA _ ho, hW p s hp hs, nI_add]
theorem c0_mostBySet {N d : Nat} {X : lt_X} {I : Nat → Nat → Int32} {J : Nat → Nat → Int64} {t : Nat} {T : Nat → Nat} (ht : isT t) (hT : TC I t T) (hw : WF T) {p g : Nat} {A : Nat → Nat} (hp : p < T 2) (hg : g < 2 ^ T 3) (hW : ∀ p k, p < T 2 → k < T 3 → I 127 (6 * p + k) = nI (wth T p k)) (hA : ∀ x, x < 2 ^ T 3 → I 128 (64 * (p + 1) + x) = nI (A x)) (hl : ∀ x, A x ≤ 4000) (hN : 1000 ≤ N) : am_G am_prog (N + 30) (d + 2) 3 [.ref 126, .ref t, .int (nI p), .int (nI g)] (mkh X I J) = some (.int (nI (mxf (bvg (wth T) A p g) (T 3))), (mkh X I J)) := by
  obtain ⟨h0, h1, h2, h3, h4, h5, h6⟩ := hw.1
  have h64 : 2 ^ T 3 ≤ 2 ^ 6 := Nat.pow_le_pow_right (by omega) h3
  rw [gX0_mostBySet N (d + 1) ht, sX0_mostBySet_0 N (d + 1) _ ht]
  refine lqs (run := fun n i => RX0_mostBySet_6 N (d + 1) n X t (nI p) (nI g) (nI (mxf (bvg (wth T) A p g) i)) (nI i) I J) (m := T 3) ?_ ?_ (N + 29) 0 (by omega) (by omega)
  · intro n i hi
    have b : ∀ k, mxf (bvg (wth T) A p g) k ≤ 5000 := fun k => mxf_le k (fun s _ => by
      unfold bvg
      have := wth_le hw hp s
      have := hl (g ||| 2 ^ s)
      split <;> omega)
    have b1 := b i
    have b2 := wth_le hw hp i
    have b3 := hl (g ||| 2 ^ i)
    rw [sX0_mostBySet_6 N (d + 1) n ht, tc3 hT, nc_lt hi (by omega)]
    by_cases c : g.testBit i = true
    · have e : mxf (bvg (wth T) A p g) (i + 1) = mxf (bvg (wth T) A p g) i := by
        show max _ (bvg (wth T) A p g i) = _
        unfold bvg
        rw [if_pos c]; omega
      rw [nc_b1 c (by omega) (by omega), e, nI_add]
    · have e : mxf (bvg (wth T) A p g) (i + 1) = max (mxf (bvg (wth T) A p g) i) (wth T p i + A (g ||| 2 ^ i)) := by
        show max _ (bvg (wth T) A p g i) = _
        rw [show bvg (wth T) A p g i = wth T p i + A (g ||| 2 ^ i) from if_neg c]
      rw [nc_b0 (by simpa using c) (by omega) (by omega), c0_bySet h3 h2 hp hi hg hW hA, cI_some, kX0_mostBySet_0 N (d + 1) n ht, no_max (by omega) (by omega), e, nI_add]
  · intro n
    rw [sX0_mostBySet_6 N (d + 1) n ht, tc3 hT, nc_nlt (by omega) (by omega)]
def aOB (I : Nat → Nat → Int32) (W : Nat → Nat → Nat) (S P ppl t : Nat) : Prop := ∀ u, t ≤ u → u ≤ P → ∀ x, x < 2 ^ S → I 128 (64 * u + x) = nI (bv W S ppl (P - u) u x)
theorem c0_bturns {N d : Nat} {X : lt_X} {I : Nat → Nat → Int32} {J : Nat → Nat → Int64} {t : Nat} {T : Nat → Nat} (ht : isT t) (hT : TC I t T) (hw : WF T) {K0 : Nat → Nat → Int32} {ppl : Nat} (hpl : ppl < 2 ^ T 2) (f0 : ∀ a, a ≠ 127 → a ≠ 128 → K0 a = I a) (hW : ∀ p k, p < T 2 → k < T 3 → K0 127 (6 * p + k) = nI (wth T p k)) (hN : 2000 ≤ N) : ∀ u, u ≤ T 2 → ∀ K, (∀ a, a ≠ 128 → K a = K0 a) → aOB K (wth T) (T 3) (T 2) ppl u → ∃ M, (∀ a, a ≠ 128 → M a = K0 a) ∧ aOB M (wth T) (T 3) (T 2) ppl 0 ∧ ev (fun m => RX0_findBest_56 N (d + 2) m X t (nI ppl) (nI (2 ^ T 3)) (nI u - nI 1) K J) (1 + u * 130) (some (.int (M 128 0), mkh X M J)) := by
  obtain ⟨h0, h1, h2, h3, h4, h5, h6⟩ := hw.1
  have t1 : t + 14 ≤ 127 := by unfold isT at ht; omega
  have h64 : 2 ^ T 3 ≤ 2 ^ 6 := Nat.pow_le_pow_right (by omega) h3
  have h65 : 2 ^ T 2 ≤ 2 ^ 6 := Nat.pow_le_pow_right (by omega) h2
  intro u
  induction u with
  | zero =>
    intro _ K f a
    refine ⟨K, f, a, ev_le (ev_0 (fun m => ?_)) (by omega)⟩
    rw [sX0_findBest_56 N (d + 2) m ht, if_pos (by decide +kernel)]
  | succ u ih =>
    intro hu K f a
    obtain ⟨r, hr⟩ : ∃ r, T 2 - u = r + 1 := ⟨T 2 - u - 1, by omega⟩
    have hr2 : T 2 - (u + 1) = r := by omega
    have bl : ∀ x, bv (wth T) (T 3) ppl r (u + 1) x ≤ 4000 := fun x => by
      have := bv_le (S := T 3) (ppl := ppl) (P := T 2) (fun p s hp => wth_le hw hp s) r (u + 1) x (by omega)
      omega
    have inner : ∀ k i, i + k = 2 ^ T 3 → ∀ K, (∀ a, a ≠ 128 → K a = K0 a) → aOB K (wth T) (T 3) (T 2) ppl (u + 1) → (∀ x, x < i → K 128 (64 * u + x) = nI (bv (wth T) (T 3) ppl (T 2 - u) u x)) → ∃ M, (∀ a, a ≠ 128 → M a = K0 a) ∧ aOB M (wth T) (T 3) (T 2) ppl u ∧ ∀ B R, ev (fun m => RX0_findBest_56 N (d + 2) m X t (nI ppl) (nI (2 ^ T 3)) (nI u - nI 1) M J) B R → ev (fun m => RX0_findBest_64 N (d + 2) m X t (nI ppl) (nI (2 ^ T 3)) (nI u) (nI i) K J) (B + 1 + k * 2) R := by
      intro k
      induction k with
      | zero =>
        intro i hi K f a b
        refine ⟨K, f, fun w h1 h2 x hx => ?_, fun B R e => ev_s (fun m => ?_) e⟩
        · by_cases c : w = u
          · subst c; exact b x (by omega)
          · exact a w (by omega) h2 x hx
        · rw [sX0_findBest_64 N (d + 2) m ht, nc_nlt (by omega) (by omega), n_m1 u (by omega)]
      | succ k ih2 =>
        intro i hi K f a b
        have hA : ∀ x, x < 2 ^ T 3 → K 128 (64 * (u + 1) + x) = nI (bv (wth T) (T 3) ppl r (u + 1) x) := fun x hx => by rw [a (u + 1) (by omega) (by omega) x hx, hr2]
        have hWK : ∀ p k, p < T 2 → k < T 3 → K 127 (6 * p + k) = nI (wth T p k) := fun p k h1 h2 => by rw [f 127 (by omega)]; exact hW p k h1 h2
        have hK : TC K t T := TC_frame (fun a b1 b2 => by rw [f a (by omega), f0 a (by omega) (by omega)]) hT
        obtain ⟨M, m1, m2, m3⟩ := ih2 (i + 1) (by omega) (u2 K 128 (64 * u + i) (nI (bv (wth T) (T 3) ppl (T 2 - u) u i))) (fun a ha => by rw [u2_na _ _ _ _ _ ha, f a ha]) (fun w h1 h2 x hx => by rw [u2_nk _ _ _ _ _ (by omega)]; exact a w h1 h2 x hx) (fun x hx => by
          by_cases c : x = i
          · subst c; rw [u2_at]
          · rw [u2_nk _ _ _ _ _ (by omega)]; exact b x (by omega))
        refine ⟨M, m1, m2, fun B R e => ?_⟩
        have e1 := m3 B R e
        have b0 := bl i
        by_cases c : ppl.testBit u = true
        · have ev1 : bv (wth T) (T 3) ppl (T 2 - u) u i = max (bv (wth T) (T 3) ppl r (u + 1) i) (mxf (bvg (wth T) (bv (wth T) (T 3) ppl r (u + 1)) u i) (T 3)) := by rw [hr]; exact if_pos c
          have bm := mxf_le (g := bvg (wth T) (bv (wth T) (T 3) ppl r (u + 1)) u i) (b := 5000) (T 3) (fun s _ => by
            unfold bvg
            have := wth_le hw (show u < T 2 by omega) s
            have := bl (i ||| 2 ^ s)
            split <;> omega)
          rw [ev1] at e1
          have e2 : ev (fun m => RX0_findBest_102 N (d + 2) m X t (nI ppl) (nI (2 ^ T 3)) (nI u) (nI i) (nI (bv (wth T) (T 3) ppl r (u + 1) i)) (nI 1) K J) (B + 1 + k * 2 + 1) R := ev_s (fun m => by
            rw [sX0_findBest_102 N (d + 2) m ht, nc_ne (by omega) (by omega) (by omega), c0_mostBySet (d := d) ht hK hw (by omega) (by omega) hWK hA bl (by omega), cI_some, kX0_findBest_1 N (d + 2) m ht, pk_mul, nI_add, nI_add, nc_in (by omega) (by omega), nI_clamp (by omega), Nat.mul_comm u 64, no_max (by omega) (by omega)]) e1
          refine ev_le (ev_s (fun m => ?_) e2) (by omega)
          rw [sX0_findBest_64 N (d + 2) m ht, nc_lt (by omega) (by omega), nI_add, pk_mul, nI_add, nc_in (by omega) (by omega), nc_b1 c (by omega) (by omega), nI_clamp (by omega), Nat.mul_comm (u + 1) 64, hA i (by omega)]
        · have ev1 : bv (wth T) (T 3) ppl (T 2 - u) u i = bv (wth T) (T 3) ppl r (u + 1) i := by rw [hr]; exact if_neg c
          rw [ev1] at e1
          have e2 : ev (fun m => RX0_findBest_102 N (d + 2) m X t (nI ppl) (nI (2 ^ T 3)) (nI u) (nI i) (nI (bv (wth T) (T 3) ppl r (u + 1) i)) (nI 0) K J) (B + 1 + k * 2 + 1) R := ev_s (fun m => by
            rw [sX0_findBest_102 N (d + 2) m ht, nc_eq rfl, pk_mul, nI_add, nI_add, nc_in (by omega) (by omega), nI_clamp (by omega), Nat.mul_comm u 64]) e1
          refine ev_le (ev_s (fun m => ?_) e2) (by omega)
          rw [sX0_findBest_64 N (d + 2) m ht, nc_lt (by omega) (by omega), nI_add, pk_mul, nI_add, nc_in (by omega) (by omega), nc_b0 (by simpa using c) (by omega) (by omega), nI_clamp (by omega), Nat.mul_comm (u + 1) 64, hA i (by omega)]
    obtain ⟨M, m1, m2, m3⟩ := inner (2 ^ T 3) 0 (by omega) K f a (fun x hx => absurd hx (by omega))
    obtain ⟨L, l1, l2, l3⟩ := ih (by omega) M m1 m2
    refine ⟨L, l1, l2, ev_le (ev_s (fun m => ?_) (m3 _ _ l3)) (by omega)⟩
    rw [n_pred u (by omega), sX0_findBest_56 N (d + 2) m ht, nc_nlt (by omega) (by omega)]
theorem c0_findBest {N d : Nat} {X : lt_X} {I : Nat → Nat → Int32} {J : Nat → Nat → Int64} {t : Nat} {T : Nat → Nat} (ht : isT t) (hT : TC I t T) (hw : WF T) {ppl : Nat} (hpl : ppl < 2 ^ T 2) (hN : 2000 ≤ N) : ∃ K, am_G am_prog (N + 30) (d + 5) 2 [.ref 126, .ref t, .int (nI ppl)] (mkh X I J) = some (.int (nI (bv (wth T) (T 3) ppl (T 2) 0 0)), mkh X K J) ∧ (∀ a, a ≠ 127 → a ≠ 128 → K a = I a) ∧ aOB K (wth T) (T 3) (T 2) ppl 0 ∧ (∀ p k, p < T 2 → k < T 3 → K 127 (6 * p + k) = nI (wth T p k)) := by
  obtain ⟨h0, h1, h2, h3, h4, h5, h6⟩ := hw.1
  have t1 : t + 14 ≤ 127 := by unfold isT at ht; omega
  have h64 : 2 ^ T 3 ≤ 2 ^ 6 := Nat.pow_le_pow_right (by omega) h3
  obtain ⟨K0, e, f, hW⟩ := c0_weigh (N := N) (d := d) (X := X) (I := I) (J := J) ht hT hw (by omega)
  have hK : TC K0 t T := TC_frame (fun a b1 b2 => f a (by omega)) hT
  have zero : ∀ k i, i + k = 2 ^ T 3 → ∀ K, (∀ a, a ≠ 128 → K a = K0 a) → (∀ x, x < i → K 128 (64 * T 2 + x) = nI 0) → ∃ M, (∀ a, a ≠ 128 → M a = K0 a) ∧ (∀ x, x < 2 ^ T 3 → M 128 (64 * T 2 + x) = nI 0) ∧ ∀ B R, ev (fun m => RX0_findBest_56 N (d + 4) m X t (nI ppl) (nI (2 ^ T 3)) (nI (T 2) - nI 1) M J) B R → ev (fun m => RX0_findBest_25 N (d + 4) m X t (nI ppl) (nI (T 2)) (nI (2 ^ T 3)) (nI i) K J) (B + 1 + k) R := by
    intro k
    induction k with
    | zero =>
      intro i hi K f b
      refine ⟨K, f, fun x hx => b x (by omega), fun B R e => ev_s (fun m => ?_) e⟩
      rw [sX0_findBest_25 N (d + 4) m ht, nc_nlt (by omega) (by omega)]
    | succ k ih =>
      intro i hi K f b
      obtain ⟨M, m1, m2, m3⟩ := ih (i + 1) (by omega) (u2 K 128 (64 * T 2 + i) (nI 0)) (fun a ha => by rw [u2_na _ _ _ _ _ ha, f a ha]) (fun x hx => by
        by_cases c : x = i
        · subst c; rw [u2_at]
        · rw [u2_nk _ _ _ _ _ (by omega)]; exact b x (by omega))
      refine ⟨M, m1, m2, fun B R e => ev_le (ev_s (fun m => ?_) (m3 B R e)) (by omega)⟩
      rw [sX0_findBest_25 N (d + 4) m ht, nc_lt (by omega) (by omega), pk_mul, nI_add, nI_add, nc_in (by omega) (by omega), nI_clamp (by omega), Nat.mul_comm (T 2) 64]
  obtain ⟨M, m1, m2, m3⟩ := zero (2 ^ T 3) 0 (by omega) K0 (fun _ _ => rfl) (fun x hx => absurd hx (by omega))
  obtain ⟨L, l1, l2, l3⟩ := c0_bturns (N := N) (d := d + 2) (X := X) (I := I) (J := J) ht hT hw (K0 := K0) hpl (fun a b1 _ => f a b1) hW hN (T 2) (Nat.le_refl _) M m1 (fun u h1 h2 x hx => by
    have : u = T 2 := by omega
    subst this
    rw [m2 x hx, Nat.sub_self]; rfl)
  refine ⟨L, ?_, fun a b1 b2 => by rw [l1 a b2, f a b1], l2, fun p k a b => by rw [l1 127 (by omega)]; exact hW p k a b⟩
  have lz := l2 0 (by omega) (by omega) 0 (Nat.two_pow_pos _)
  rw [gX0_findBest N (d + 4) ht, sX0_findBest_0 N (d + 4) _ ht, e, cV_some, kX0_findBest_0 N (d + 4) _ ht, tc2 hK, tc3 hK, no_shl (by omega)]
  rw [show L 128 0 = nI (bv (wth T) (T 3) ppl (T 2) 0 0) from lz] at l3
  exact m3 _ _ l3 (N + 29) (by omega)
