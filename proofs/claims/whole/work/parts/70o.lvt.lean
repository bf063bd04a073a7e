/-! trades: both sides leave alike -/
theorem lvb_lvT {W : Nat → Nat → Nat} {c : Nat → Nat} {P L : Nat} {h : Nat → Bool} (hP : P ≤ 6) (hL : L < 2 ^ P) (hh : ∀ q, L.testBit q = true → h q = onb (fL W c P L) q) : lvb L h P = lvT W c P L := by
  have h64 : 2 ^ P ≤ 2 ^ 6 := Nat.pow_le_pow_right (by omega) hP
  have hg : rgS (fL W c P L) L P < 2 ^ 32 := Nat.lt_of_lt_of_le (bst_lt (Nat.le_refl P)) (Nat.pow_le_pow_right (by omega) (by omega))
  apply Nat.eq_of_testBit_eq
  intro j
  unfold lvT
  rw [lvb_bit (by omega) h P hP j, Nat.testBit_and, nnot_bit hg]
  cases hb : L.testBit j with
  | false => rfl
  | true =>
    have hj := tb_lt hL hb
    unfold rgS
    rw [bst_bit', hh j hb, hb, decide_eq_true hj, decide_eq_true (show j < 32 by omega)]
    rfl
