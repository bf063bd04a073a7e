/-! trades: who leaves in a round -/
def onb (f : Nat → Nat) (p : Nat) : Bool := decide (fnd (fun m => itr f (m + 1) p == p) 0 6 < 6)
theorem onb_iff {f : Nat → Nat} {s : Nat → Prop} (h6 : ∀ p, s p → p < 6) (hf : ∀ p, s p → s (f p)) {p : Nat} (hp : s p) : onb f p = true ↔ ong f p := by
  obtain ⟨f1, f2, f3, f4⟩ := fnd_spec (fun m => itr f (m + 1) p == p) 6 0
  unfold onb
  rw [decide_eq_true_eq]
  constructor
  · intro h
    have := f4 (by omega)
    exact ⟨fnd (fun m => itr f (m + 1) p == p) 0 6 + 1, by omega, by simpa using this⟩
  · intro h
    obtain ⟨m, m1, m2, m3⟩ := ong_le h6 hf hp h
    by_cases q : fnd (fun m => itr f (m + 1) p == p) 0 6 < 6
    · exact q
    · have := f3 (m - 1) (by omega) (by omega)
      rw [show m - 1 + 1 = m by omega, m3] at this
      simp at this
/-- those who are in a ring -/
def rgS (f : Nat → Nat) (L P : Nat) : Nat := bst (fun p => L.testBit p && onb f p) P
theorem c0_leaveInRings {N d : Nat} {X : lt_X} {I : Nat → Nat → Int32} {J : Nat → Nat → Int64} {f c : Nat → Nat} {L P : Nat} (hP : P ≤ 6) (hL : L < 2 ^ P) (hf : ∀ i, L.testBit i = true → L.testBit (f i) = true) (hI : ∀ i, L.testBit i = true → I 131 i = nI (f i)) (hC : ∀ i, i < P → I 129 i = nI (c i)) (hN : 1000 ≤ N) : ∃ K, am_G am_prog (N + 30) (d + 2) 11 [.ref 126, .int (nI P), .int (nI L)] (mkh X I J) = some (.int (nI (rgS f L P)), mkh X K J) ∧ (∀ a, a ≠ 130 → K a = I a) ∧ (∀ p, p < P → K 130 p = if (L.testBit p && onb f p) = true then nI (c (f p)) else I 130 p) := by
  have h64 : 2 ^ P ≤ 2 ^ 6 := Nat.pow_le_pow_right (by omega) hP
  have hL6 : ∀ i, L.testBit i = true → i < 6 := fun i hi => by have := tb_lt hL hi; omega
  rw [gX0_leaveInRings N (d + 1), sX0_leaveInRings_0 N (d + 1)]
  have main : ∀ k i, i + k = P → ∀ K, (∀ a, a ≠ 130 → K a = I a) → (∀ p, p < i → K 130 p = if (L.testBit p && onb f p) = true then nI (c (f p)) else I 130 p) → (∀ p, i ≤ p → K 130 p = I 130 p) → ∃ M, (∀ a, a ≠ 130 → M a = I a) ∧ (∀ p, p < P → M 130 p = if (L.testBit p && onb f p) = true then nI (c (f p)) else I 130 p) ∧ ∀ n, k < n → RX0_leaveInRings_5 N (d + 1) n X (nI P) (nI L) (nI (bst (fun p => L.testBit p && onb f p) i)) (nI i) K J = some (.int (nI (rgS f L P)), mkh X M J) := by
    intro k
    induction k with
    | zero =>
      intro i hi K a b _
      have e : i = P := by omega
      subst e
      refine ⟨K, a, b, fun n hn => ?_⟩
      obtain ⟨n, rfl⟩ : ∃ y, n = y + 1 := ⟨n - 1, by omega⟩
      rw [sX0_leaveInRings_5 N (d + 1) n, nc_nlt (by omega) (by omega)]
      rfl
    | succ k ih =>
      intro i hi K a b z
      by_cases r : L.testBit i = true
      · obtain ⟨bb, e1, e2⟩ := c0_isInRing (N := N) (d := d) (X := X) (I := K) (J := J) hL6 hf r (fun i hi => by rw [a 131 (by omega)]; exact hI i hi) hN
        have iff := onb_iff (f := f) (s := fun i => L.testBit i = true) hL6 hf r
        rcases e2 with ⟨rfl, ho⟩ | ⟨rfl, ho⟩
        · have hb : (L.testBit i && onb f i) = true := by rw [r, iff.mpr ho]; rfl
          have hfi := tb_lt hL (hf i r)
          obtain ⟨M, m1, m2, m3⟩ := ih (i + 1) (by omega) (u2 K 130 i (nI (c (f i)))) (fun x hx => by rw [u2_na _ _ _ _ _ hx, a x hx]) (fun p hp => by
            by_cases q : p = i
            · subst q; rw [u2_at, if_pos hb]
            · rw [u2_nk _ _ _ _ _ q]; exact b p (by omega)) (fun p hp => by rw [u2_nk _ _ _ _ _ (by omega)]; exact z p (by omega))
          refine ⟨M, m1, m2, fun n hn => ?_⟩
          obtain ⟨n, rfl⟩ : ∃ y, n = y + 1 := ⟨n - 1, by omega⟩
          have es : bst (fun p => L.testBit p && onb f p) (i + 1) = bst (fun p => L.testBit p && onb f p) i ||| 2 ^ i := by
            show bst (fun p => L.testBit p && onb f p) i ||| (if (L.testBit i && onb f i) = true then 2 ^ i else 0) = _
            rw [if_pos hb]
          have := m3 n (by omega)
          rw [es] at this
          have e131 : K 131 (nI i).toNatClampNeg = nI (f i) := by rw [nI_clamp (by omega), a 131 (by omega), hI i r]
          have ein : am_in (K 131 (nI i).toNatClampNeg) 6 := by rw [e131]; exact in_nI (by omega) (by omega)
          rw [sX0_leaveInRings_5 N (d + 1) n, nc_lt (by omega) (by omega), nc_b1 r (by omega) (by omega), e1, cI_some, kX0_leaveInRings_0 N (d + 1) n, nc_ne (by omega) (by omega) (by omega), nc_in (by omega) (by omega), if_pos ein, nc_in (by omega) (by omega), e131, nI_clamp (by omega), nI_clamp (by omega), a 129 (by omega), hC _ hfi, no_shl (by omega), no_or, nI_add]
          exact this
        · have hb : ¬ (L.testBit i && onb f i) = true := by rw [r, Bool.true_and, iff]; exact ho
          obtain ⟨M, m1, m2, m3⟩ := ih (i + 1) (by omega) K a (fun p hp => by
            by_cases q : p = i
            · subst q; rw [if_neg hb]; exact z p (by omega)
            · exact b p (by omega)) (fun p hp => z p (by omega))
          refine ⟨M, m1, m2, fun n hn => ?_⟩
          obtain ⟨n, rfl⟩ : ∃ y, n = y + 1 := ⟨n - 1, by omega⟩
          have es : bst (fun p => L.testBit p && onb f p) (i + 1) = bst (fun p => L.testBit p && onb f p) i := by
            show bst (fun p => L.testBit p && onb f p) i ||| (if (L.testBit i && onb f i) = true then 2 ^ i else 0) = _
            rw [if_neg hb, Nat.or_zero]
          have := m3 n (by omega)
          rw [es] at this
          rw [sX0_leaveInRings_5 N (d + 1) n, nc_lt (by omega) (by omega), nc_b1 r (by omega) (by omega), e1, cI_some, kX0_leaveInRings_0 N (d + 1) n, nc_eq rfl, nI_add]
          exact this
      · have hb : ¬ (L.testBit i && onb f i) = true := by rw [Bool.and_eq_true]; exact fun h => r h.1
        obtain ⟨M, m1, m2, m3⟩ := ih (i + 1) (by omega) K a (fun p hp => by
          by_cases q : p = i
          · subst q; rw [if_neg hb]; exact z p (by omega)
          · exact b p (by omega)) (fun p hp => z p (by omega))
        refine ⟨M, m1, m2, fun n hn => ?_⟩
        obtain ⟨n, rfl⟩ : ∃ y, n = y + 1 := ⟨n - 1, by omega⟩
        have es : bst (fun p => L.testBit p && onb f p) (i + 1) = bst (fun p => L.testBit p && onb f p) i := by
          show bst (fun p => L.testBit p && onb f p) i ||| (if (L.testBit i && onb f i) = true then 2 ^ i else 0) = _
          rw [if_neg hb, Nat.or_zero]
        have := m3 n (by omega)
        rw [es] at this
        rw [sX0_leaveInRings_5 N (d + 1) n, nc_lt (by omega) (by omega), nc_b0 (by simpa using r) (by omega) (by omega), nI_add]
        exact this
  obtain ⟨M, m1, m2, m3⟩ := main P 0 (by omega) I (fun _ _ => rfl) (fun p hp => absurd hp (by omega)) (fun _ _ => rfl)
  exact ⟨M, m3 (N + 29) (by omega), m1, m2⟩
