/-! the table of worths, on both sides -/
theorem weighL {run2 : Nat → Nat → (Nat → Nat → Int32) → am_O} {run14 : Nat → Nat → Nat → (Nat → Nat → Int32) → am_O} {I : Nat → Nat → Int32} {c P S : Nat} {w : Nat → Nat → Nat} {out : (Nat → Nat → Int32) → am_O} (hP : P ≤ 6) (hS : S ≤ 6)
    (e1 : ∀ n p K, (∀ a, a ≠ c → K a = I a) → p < P → run2 (n + 1) p K = run14 n p 0 K)
    (e2 : ∀ n K, (∀ a, a ≠ c → K a = I a) → run2 (n + 1) P K = out K)
    (e3 : ∀ n p s K, (∀ a, a ≠ c → K a = I a) → p < P → s < S → run14 (n + 1) p s K = run14 n p (s + 1) (u2 K c (6 * p + s) (nI (w p s))))
    (e4 : ∀ n p K, (∀ a, a ≠ c → K a = I a) → p < P → run14 (n + 1) p S K = run2 n (p + 1) K) :
    ∃ M, (∀ a, a ≠ c → M a = I a) ∧ (∀ p s, p < P → s < S → M c (6 * p + s) = nI (w p s)) ∧ ev (fun n => run2 n 0 I) 100 (out M) := by
  have inner : ∀ p, p < P → ∀ k s, s + k = S → ∀ K, (∀ a, a ≠ c → K a = I a) → ∃ M, (∀ a, a ≠ c → M a = I a) ∧ (∀ j, j < 6 * p + s → M c j = K c j) ∧ (∀ q, s ≤ q → q < S → M c (6 * p + q) = nI (w p q)) ∧ (∀ B R, ev (fun n => run2 n (p + 1) M) B R → ev (fun n => run14 n p s K) (B + 1 + k) R) := by
    intro p hp k
    induction k with
    | zero =>
      intro s hs K f
      have e : s = S := by omega
      subst e
      exact ⟨K, f, fun _ _ => rfl, fun q h1 h2 => absurd h2 (by omega), fun B R e => ev_s (fun n => e4 n p K f hp) e⟩
    | succ k ih =>
      intro s hs K f
      obtain ⟨M, m1, m2, m3, m4⟩ := ih (s + 1) (by omega) (u2 K c (6 * p + s) (nI (w p s))) (fun a ha => by rw [u2_na _ _ _ _ _ ha, f a ha])
      refine ⟨M, m1, fun j hj => ?_, fun q h1 h2 => ?_, fun B R e => ev_s (fun n => e3 n p s K f hp (by omega)) (m4 B R e)⟩
      · rw [m2 j (by omega), u2_nk _ _ _ _ _ (by omega)]
      · by_cases r : q = s
        · subst r; rw [m2 _ (by omega), u2_at]
        · exact m3 q (by omega) h2
  have outer : ∀ k p, p + k = P → ∀ K, (∀ a, a ≠ c → K a = I a) → (∀ q s, q < p → s < S → K c (6 * q + s) = nI (w q s)) → ∃ M, (∀ a, a ≠ c → M a = I a) ∧ (∀ q s, q < P → s < S → M c (6 * q + s) = nI (w q s)) ∧ ev (fun n => run2 n p K) (1 + k * (S + 2)) (out M) := by
    intro k
    induction k with
    | zero =>
      intro p hp K f g
      have e : p = P := by omega
      subst e
      exact ⟨K, f, g, ev_le (ev_0 (fun n => e2 n K f)) (by omega)⟩
    | succ k ih =>
      intro p hp K f g
      obtain ⟨M, m1, m2, m3, m4⟩ := inner p (by omega) S 0 (by omega) K f
      obtain ⟨L, l1, l2, l3⟩ := ih (p + 1) (by omega) M m1 (fun q s hq hs => by
        by_cases r : q = p
        · subst r; exact m3 s (by omega) hs
        · rw [m2 _ (by omega)]; exact g q s (by omega) hs)
      refine ⟨L, l1, l2, ev_le (ev_s (fun n => e1 n p K f (by omega)) (m4 _ _ l3)) ?_⟩
      rw [Nat.succ_mul]; omega
  obtain ⟨M, m1, m2, m3⟩ := outer P 0 (by omega) I (fun _ _ => rfl) (fun q s hq => absurd hq (by omega))
  refine ⟨M, m1, m2, ev_le m3 ?_⟩
  have : P * (S + 2) ≤ 6 * 8 := Nat.mul_le_mul hP (by omega)
  omega
theorem c0_weigh {N d : Nat} {X : lt_X} {I : Nat → Nat → Int32} {J : Nat → Nat → Int64} {t : Nat} {T : Nat → Nat} (ht : isT t) (hT : TC I t T) (hw : WF T) (hN : 1000 ≤ N) : ∃ K, am_G am_prog (N + 30) (d + 4) 1 [.ref 126, .ref t] (mkh X I J) = some (.null, mkh X K J) ∧ (∀ a, a ≠ 127 → K a = I a) ∧ (∀ p k, p < T 2 → k < T 3 → K 127 (6 * p + k) = nI (wth T p k)) := by
  obtain ⟨h0, h1, h2, h3, h4, h5, h6⟩ := hw.1
  have t1 : t + 14 ≤ 127 := by unfold isT at ht; omega
  have tc : ∀ K : Nat → Nat → Int32, (∀ a, a ≠ 127 → K a = I a) → TC K t T := fun K f => TC_frame (fun a b1 b2 => f a (by omega)) hT
  rw [gX0_weigh N (d + 3) ht, sX0_weigh_0 N (d + 3) _ ht]
  obtain ⟨M, m1, m2, m3⟩ := weighL (run2 := fun n p K => RX0_weigh_2 N (d + 3) n X t (nI p) K J) (run14 := fun n p s K => RX0_weigh_14 N (d + 3) n X t (nI p) (nI s) K J) (I := I) (c := 127) (P := T 2) (S := T 3) (w := wth T) (out := fun K => some (.null, mkh X K J)) h2 h3
    (fun n p K f hp => by
      show RX0_weigh_2 N (d + 3) (n + 1) X t (nI p) K J = RX0_weigh_14 N (d + 3) n X t (nI p) (nI 0) K J
      rw [sX0_weigh_2 N (d + 3) n ht, tc2 (tc K f), nc_lt hp (by omega)])
    (fun n K f => by
      show RX0_weigh_2 N (d + 3) (n + 1) X t (nI (T 2)) K J = _
      rw [sX0_weigh_2 N (d + 3) n ht, tc2 (tc K f), nc_nlt (by omega) (by omega)])
    (fun n p s K f hp hs => by
      show RX0_weigh_14 N (d + 3) (n + 1) X t (nI p) (nI s) K J = RX0_weigh_14 N (d + 3) n X t (nI p) (nI (s + 1)) (u2 K 127 (6 * p + s) (nI (wth T p s))) J
      rw [sX0_weigh_14 N (d + 3) n ht, tc3 (tc K f), nc_lt hs (by omega), c5_worthTo ht (tc K f) hw hp hs hN, cI_some, kX0_weigh_0 N (d + 3) n ht, pk_mul, nI_add, nc_in (by omega) (by omega), nI_clamp (by omega), nI_add, Nat.mul_comm p 6])
    (fun n p K f hp => by
      show RX0_weigh_14 N (d + 3) (n + 1) X t (nI p) (nI (T 3)) K J = RX0_weigh_2 N (d + 3) n X t (nI (p + 1)) K J
      rw [sX0_weigh_14 N (d + 3) n ht, tc3 (tc K f), nc_nlt (by omega) (by omega), nI_add])
  exact ⟨M, m3 _ (by omega), m1, m2⟩
theorem c9_laysWorths {N d : Nat} {X : lt_X} {I : Nat → Nat → Int32} {J : Nat → Nat → Int64} {T : Nat → Nat} (hT : TM (I 140) T) (hw : WF T) (hN : 1000 ≤ N) : ∃ K, am_G am_prog (N + 30) (d + 5) 303 [.ref 135] (mkh X I J) = some (.null, mkh X K J) ∧ (∀ a, a ≠ 143 → K a = I a) ∧ (∀ p k, p < T 2 → k < T 3 → K 143 (6 * p + k) = nI (wth T p k)) := by
  obtain ⟨h0, h1, h2, h3, h4, h5, h6⟩ := hw.1
  have tm : ∀ K : Nat → Nat → Int32, (∀ a, a ≠ 143 → K a = I a) → TM (K 140) T := fun K f => by rw [f 140 (by omega)]; exact hT
  rw [gX9_laysWorths N (d + 4), sX9_laysWorths_0 N (d + 4)]
  obtain ⟨M, m1, m2, m3⟩ := weighL (run2 := fun n p K => RX9_laysWorths_2 N (d + 4) n X (nI p) K J) (run14 := fun n p s K => RX9_laysWorths_14 N (d + 4) n X (nI p) (nI s) K J) (I := I) (c := 143) (P := T 2) (S := T 3) (w := wth T) (out := fun K => some (.null, mkh X K J)) h2 h3
    (fun n p K f hp => by
      show RX9_laysWorths_2 N (d + 4) (n + 1) X (nI p) K J = RX9_laysWorths_14 N (d + 4) n X (nI p) (nI 0) K J
      rw [sX9_laysWorths_2 N (d + 4) n, tm2 (tm K f), nc_lt hp (by omega)])
    (fun n K f => by
      show RX9_laysWorths_2 N (d + 4) (n + 1) X (nI (T 2)) K J = _
      rw [sX9_laysWorths_2 N (d + 4) n, tm2 (tm K f), nc_nlt (by omega) (by omega)])
    (fun n p s K f hp hs => by
      show RX9_laysWorths_14 N (d + 4) (n + 1) X (nI p) (nI s) K J = RX9_laysWorths_14 N (d + 4) n X (nI p) (nI (s + 1)) (u2 K 143 (6 * p + s) (nI (wth T p s))) J
      rw [sX9_laysWorths_14 N (d + 4) n, tm3 (tm K f), nc_lt hs (by omega), c9_worthOf (tm K f) hw hp hs, cI_some, kX9_laysWorths_0 N (d + 4) n, pk_mul, nI_add, nc_in (by omega) (by omega), nI_clamp (by omega), nI_add])
    (fun n p K f hp => by
      show RX9_laysWorths_14 N (d + 4) (n + 1) X (nI p) (nI (T 3)) K J = RX9_laysWorths_2 N (d + 4) n X (nI (p + 1)) K J
      rw [sX9_laysWorths_14 N (d + 4) n, tm3 (tm K f), nc_nlt (by omega) (by omega), nI_add])
  exact ⟨M, m3 _ (by omega), m1, m2⟩
