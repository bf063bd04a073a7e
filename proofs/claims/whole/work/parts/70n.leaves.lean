/-! trades: a round of the reference, who leaves -/
/-- L without those below i who have something -/
def lvb (L : Nat) (h : Nat → Bool) : Nat → Nat
  | 0 => L
  | i + 1 => if h i = true then lvb L h i &&& nnot (2 ^ i) else lvb L h i
theorem lvb_bit {L : Nat} (hL : L < 2 ^ 6) (h : Nat → Bool) : ∀ i, i ≤ 6 → ∀ j, (lvb L h i).testBit j = (L.testBit j && !(decide (j < i) && h j)) := by
  intro i
  induction i with
  | zero => intro _ j; show L.testBit j = _; simp
  | succ i ih =>
    intro hi j
    have p2 : 2 ^ i < 2 ^ 32 := Nat.pow_lt_pow_right (by omega) (by omega)
    unfold lvb
    by_cases c : h i = true
    · rw [if_pos c, Nat.testBit_and, ih (by omega) j, nnot_bit p2, Nat.testBit_two_pow]
      by_cases e : j = i
      · subst e; simp [c]
      · have e1 : decide (j < i + 1) = decide (j < i) := by
          by_cases q : j < i
          · rw [decide_eq_true q, decide_eq_true (by omega)]
          · rw [decide_eq_false q, decide_eq_false (by omega)]
        rw [e1, decide_eq_false (show ¬ i = j from fun q => e q.symm)]
        by_cases q : j < 32
        · simp [q]
        · cases hb : L.testBit j with
          | false => simp
          | true => exact absurd (tb_lt hL hb) (by omega)
    · rw [if_neg c, ih (by omega) j]
      by_cases e : j = i
      · subst e; simp [c]
      · have e1 : decide (j < i + 1) = decide (j < i) := by
          by_cases q : j < i
          · rw [decide_eq_true q, decide_eq_true (by omega)]
          · rw [decide_eq_false q, decide_eq_false (by omega)]
        rw [e1]
theorem lvb_le (L : Nat) (h : Nat → Bool) : ∀ i, lvb L h i ≤ L := by
  intro i
  induction i with
  | zero => exact Nat.le_refl L
  | succ i ih =>
    unfold lvb
    split
    · exact Nat.le_trans Nat.and_le_left ih
    · exact ih
theorem c9_leaves {N d : Nat} {X : lt_X} {I : Nat → Nat → Int32} {J : Nat → Nat → Int64} {T : Nat → Nat} (hT : TM (I 140) T) (hw : WF T) {L : Nat} {h : Nat → Bool} (hL : L < 2 ^ 6) (hh : ∀ q, q < T 2 → ∃ v, I 145 q = nI v ∧ ((h q = true ∧ v < 6) ∨ (h q = false ∧ v = 4294967295))) : ∀ k i, i + k = T 2 → ∀ K : Nat → Nat → Int32, (∀ a, a ≠ 135 → K a = I a) → (∀ j, j ≠ 30 → K 135 j = I 135 j) → K 135 30 = nI (lvb L h i) → ∃ M, (∀ a, a ≠ 135 → M a = I a) ∧ (∀ j, j ≠ 30 → M 135 j = I 135 j) ∧ M 135 30 = nI (lvb L h (T 2)) ∧ ∀ B R, ev (fun n => RX9_laysTrades_70 N d n X M J) B R → ev (fun n => RX9_laysTrades_130 N d n X (nI i) K J) (B + 1 + k) R := by
  obtain ⟨h0, h1, h2, h3, h4, h5, h6⟩ := hw.1
  intro k
  induction k with
  | zero =>
    intro i hi K a b e
    have ei : i = T 2 := by omega
    subst ei
    refine ⟨K, a, b, e, fun B R e => ev_s (fun n => ?_) e⟩
    rw [sX9_laysTrades_130 N d n, a 140 (by omega), tm2 hT, nc_nlt (by omega) (by omega)]
  | succ k ih =>
    intro i hi K a b e
    obtain ⟨v, v1, v2⟩ := hh i (by omega)
    have hl := lvb_le L h i
    rcases v2 with ⟨c, v2⟩ | ⟨c, v2⟩
    · have es : lvb L h (i + 1) = lvb L h i &&& nnot (2 ^ i) := if_pos c
      obtain ⟨M, m1, m2, m3, m4⟩ := ih (i + 1) (by omega) (u2 K 135 30 (nI (lvb L h i &&& nnot (2 ^ i)))) (fun x hx => by rw [u2_na _ _ _ _ _ hx, a x hx]) (fun j hj => by rw [u2_nk _ _ _ _ _ hj, b j hj]) (by rw [u2_at, es])
      refine ⟨M, m1, m2, m3, fun B R e2 => ev_le (ev_s (fun n => ?_) (m4 B R e2)) (by omega)⟩
      rw [sX9_laysTrades_130 N d n, a 140 (by omega), tm2 hT, nc_lt (by omega) (by omega), nc_in (by omega) (by omega), nI_clamp (by omega), a 145 (by omega), v1, nc_nlt (by omega) (by omega), e, no_shl (by omega), no_not (Nat.pow_lt_pow_right (by omega) (by omega)), no_and, nI_add]
    · have es : lvb L h (i + 1) = lvb L h i := if_neg (by rw [c]; simp)
      obtain ⟨M, m1, m2, m3, m4⟩ := ih (i + 1) (by omega) K a b (by rw [es]; exact e)
      refine ⟨M, m1, m2, m3, fun B R e2 => ev_le (ev_s (fun n => ?_) (m4 B R e2)) (by omega)⟩
      rw [sX9_laysTrades_130 N d n, a 140 (by omega), tm2 hT, nc_lt (by omega) (by omega), nc_in (by omega) (by omega), nI_clamp (by omega), a 145 (by omega), v1, nc_neg v2, nI_add]
