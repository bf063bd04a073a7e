/-! trades: the class's side, whole -/
def lef (T : Nat → Nat) : Nat := bst (fun p => decide (fso T p ≠ 4294967295)) (T 2)
theorem lef_ok {T : Nat → Nat} : cOK (fso T) (lef T) (T 2) (T 3) := by
  refine ⟨bst_lt (Nat.le_refl _), fun i hi => ?_⟩
  have h := (bst_bit (fun p => decide (fso T p ≠ 4294967295)) (T 2) i).mp hi
  have := of_decide_eq_true h.2
  rcases fso_lt T i with q | q
  · exact absurd q this
  · exact q
theorem c0_makeTrades {N d : Nat} {X : lt_X} {I : Nat → Nat → Int32} {J : Nat → Nat → Int64} {t : Nat} {T : Nat → Nat} (ht : isT t) (hT : TC I t T) (hw : WF T) (hN : 1000 ≤ N) : ∃ K, am_G am_prog (N + 30) (d + 5) 7 [.ref 126, .ref t] (mkh X I J) = some (.null, mkh X K J) ∧ (∀ a, ¬ (127 ≤ a ∧ a ≤ 131) → K a = I a) ∧ (∀ p, p < T 2 → K 129 p = nI (fso T p)) ∧ (∀ p, p < T 2 → K 130 p = nI (trs (wth T) (fso T) (T 2) 6 (lef T) (fso T) p)) := by
  obtain ⟨h0, h1, h2, h3, h4, h5, h6⟩ := hw.1
  have t1 : t + 14 ≤ 127 := by unfold isT at ht; omega
  have h65 : 2 ^ T 2 ≤ 2 ^ 6 := Nat.pow_le_pow_right (by omega) h2
  obtain ⟨K0, e, f, hW⟩ := c0_weigh (N := N) (d := d) (X := X) (I := I) (J := J) ht hT hw hN
  have loop : ∀ k i, i + k = T 2 → ∀ K, (∀ a, a ≠ 129 → a ≠ 130 → K a = K0 a) → (∀ p, p < i → K 129 p = nI (fso T p) ∧ K 130 p = nI (fso T p)) → ∃ M, (∀ a, a ≠ 129 → a ≠ 130 → M a = K0 a) ∧ (∀ p, p < T 2 → M 129 p = nI (fso T p) ∧ M 130 p = nI (fso T p)) ∧ ∀ B R, ev (fun n => RX0_makeTrades_77 N (d + 4) n X (nI (T 2)) (nI (lef T)) (nI 0) M J) B R → ev (fun n => RX0_makeTrades_17 N (d + 4) n X t (nI (T 2)) (nI (bst (fun p => decide (fso T p ≠ 4294967295)) i)) (nI i) K J) (B + 1 + k) R := by
    intro k
    induction k with
    | zero =>
      intro i hi K a b
      have e : i = T 2 := by omega
      subst e
      refine ⟨K, a, b, fun B R e => ev_s (fun n => ?_) e⟩
      rw [sX0_makeTrades_17 N (d + 4) n ht, nc_nlt (by omega) (by omega)]
      rfl
    | succ k ih =>
      intro i hi K a b
      have hK : TC K t T := TC_frame (fun x b1 b2 => by rw [a x (by omega) (by omega), f x (by omega)]) hT
      have hl := fso_lt T i
      obtain ⟨M, m1, m2, m3⟩ := ih (i + 1) (by omega) (u2 (u2 K 129 i (nI (fso T i))) 130 i (nI (fso T i))) (fun x b1 b2 => by rw [u2_na _ _ _ _ _ b2, u2_na _ _ _ _ _ b1, a x b1 b2]) (fun p hp => by
        rw [u2_na _ _ _ 129 _ (by omega)]
        by_cases q : p = i
        · subst q; rw [u2_at, u2_at]; exact ⟨rfl, rfl⟩
        · rw [u2_nk _ _ _ _ _ q, u2_nk _ _ _ _ _ q, u2_na _ _ _ _ _ (by omega)]; exact b p (by omega))
      refine ⟨M, m1, m2, fun B R e => ev_le (ev_s (fun n => ?_) (m3 B R e)) (by omega)⟩
      have v1 : u2 K 129 i (nI (fso T i)) 129 i = nI (fso T i) := u2_at _ _ _ _
      have v2 : u2 (u2 K 129 i (nI (fso T i))) 130 i (nI (fso T i)) 129 i = nI (fso T i) := by rw [u2_na _ _ _ 129 _ (by omega), u2_at]
      have es : bst (fun p => decide (fso T p ≠ 4294967295)) (i + 1) = bst (fun p => decide (fso T p ≠ 4294967295)) i ||| (if decide (fso T i ≠ 4294967295) = true then 2 ^ i else 0) := rfl
      rw [sX0_makeTrades_17 N (d + 4) n ht, nc_lt (by omega) (by omega), c0_firstSetOf (d := d + 3) ht hK hw (by omega) hN, cI_some, kX0_makeTrades_1 N (d + 4) n ht, nc_in (by omega) (by omega), nc_in (by omega) (by omega), nc_in (by omega) (by omega), nc_in (by omega) (by omega), nI_clamp (by omega), v1, v2, es]
      by_cases q : fso T i = 4294967295
      · rw [nc_m1 q, if_neg (by simp [q]), Nat.or_zero, nI_add]
      · rw [nc_nm1 (by omega), if_pos (decide_eq_true q), no_shl (by omega), no_or, nI_add]
  obtain ⟨M, m1, m2, m3⟩ := loop (T 2) 0 (by omega) K0 (fun _ _ _ => rfl) (fun p hp => absurd hp (by omega))
  obtain ⟨Z, z1, z2, z3⟩ := c0_rounds (N := N) (d := d + 2) (X := X) (I := I) (J := J) (W := wth T) (c := fso T) (K0 := M) h3 h2 (fun i hi => (m2 i hi).1) (fun p k a b => by rw [m1 127 (by omega) (by omega)]; exact hW p k a b) (fun p s hp => wth_le hw hp s) hN 6 0 (by omega) (lef T) (fso T) M lef_ok (fun _ _ _ => rfl) (fun p hp => (m2 p hp).2)
  refine ⟨Z, ?_, fun a ha => ?_, fun p hp => ?_, z2⟩
  · have hK0 : TC K0 t T := TC_frame (fun x b1 b2 => f x (by omega)) hT
    rw [gX0_makeTrades N (d + 4) ht, sX0_makeTrades_0 N (d + 4) _ ht, e, cV_some, kX0_makeTrades_0 N (d + 4) _ ht, tc2 hK0]
    exact m3 _ _ z3 (N + 29) (by omega)
  · rw [z1 a (by omega) (by omega), m1 a (by omega) (by omega), f a (by omega)]
  · rw [z1 129 (by omega) (by omega)]; exact (m2 p hp).1
