/-! the game: both ways of going ahead -/
/-- v is better than a, for the one whose turn it is -/
def btr (b : Bool) (a v : Int32) : Bool := if b = true then decide (a < v) else decide (v < a)
theorem btr_tr {b : Bool} {a v w : Int32} (h1 : btr b a v = false) (h2 : btr b v w = false) : btr b a w = false := by
  unfold btr at *
  cases b <;> simp only [if_true, if_false, Bool.false_eq_true, decide_eq_false_iff_not, Int32.lt_iff_toInt_lt] at * <;> omega
theorem btr_an {b : Bool} {a v : Int32} (h1 : btr b a v = false) (h2 : btr b v a = false) : a = v := by
  unfold btr at *
  apply Int32.toInt_inj.mp
  cases b <;> simp only [if_true, if_false, Bool.false_eq_true, decide_eq_false_iff_not, Int32.lt_iff_toInt_lt] at * <;> omega
theorem btr_as {b : Bool} {a v : Int32} (h1 : btr b a v = true) : btr b v a = false := by
  unfold btr at *
  cases b <;> simp only [if_true, if_false, Bool.false_eq_true, decide_eq_false_iff_not, decide_eq_true_eq, Int32.lt_iff_toInt_lt] at * <;> omega
theorem btr_ir (b : Bool) (a : Int32) : btr b a a = false := by
  unfold btr
  cases b <;> simp only [if_true, if_false, Bool.false_eq_true, decide_eq_false_iff_not, Int32.lt_iff_toInt_lt] <;> omega
def cfo (b : Bool) (g : Nat → Int32) (f : Nat) (z : Int32) : Nat → Int32
  | 0 => z
  | s + 1 => if f.testBit s = true then (if btr b (cfo b g f z s) (g s) = true then g s else cfo b g f z s) else cfo b g f z s
def mfw (b : Bool) (g : Nat → Int32) (f : Nat) : Nat → Nat
  | 0 => 4294967295
  | s + 1 => if f.testBit s = true then (if mfw b g f s = 4294967295 then s else if btr b (g (mfw b g f s)) (g s) = true then s else mfw b g f s) else mfw b g f s
def mfv (b : Bool) (g : Nat → Int32) (f s : Nat) : Int32 := if mfw b g f s = 4294967295 then nI 0 else g (mfw b g f s)
theorem cfo_ok (b : Bool) (g : Nat → Int32) (f : Nat) (z : Int32) : ∀ s, btr b (cfo b g f z s) z = false ∧ (∀ i, i < s → f.testBit i = true → btr b (cfo b g f z s) (g i) = false) ∧ (cfo b g f z s = z ∨ ∃ i, i < s ∧ f.testBit i = true ∧ cfo b g f z s = g i) := by
  intro s
  induction s with
  | zero => exact ⟨btr_ir b z, fun i hi => absurd hi (by omega), Or.inl rfl⟩
  | succ s ih =>
    obtain ⟨a1, a2, a3⟩ := ih
    have keep : (cfo b g f z s = z ∨ ∃ i, i < s ∧ f.testBit i = true ∧ cfo b g f z s = g i) → (cfo b g f z s = z ∨ ∃ i, i < s + 1 ∧ f.testBit i = true ∧ cfo b g f z s = g i) := fun h => h.imp id (fun ⟨i, h1, h2, h3⟩ => ⟨i, by omega, h2, h3⟩)
    unfold cfo
    by_cases r : f.testBit s = true
    · rw [if_pos r]
      by_cases r2 : btr b (cfo b g f z s) (g s) = true
      · rw [if_pos r2]
        have r3 := btr_as r2
        refine ⟨btr_tr r3 a1, fun i hi h => ?_, Or.inr ⟨s, by omega, r, rfl⟩⟩
        by_cases q : i = s
        · rw [q]; exact btr_ir b _
        · exact btr_tr r3 (a2 i (by omega) h)
      · rw [if_neg r2]
        refine ⟨a1, fun i hi h => ?_, keep a3⟩
        by_cases q : i = s
        · rw [q]; simpa using r2
        · exact a2 i (by omega) h
    · rw [if_neg r]
      refine ⟨a1, fun i hi h => ?_, keep a3⟩
      by_cases q : i = s
      · rw [q] at h; exact absurd h r
      · exact a2 i (by omega) h
theorem mfw_ok (b : Bool) (g : Nat → Int32) (f : Nat) : ∀ s, s ≤ 6 → (mfw b g f s = 4294967295 ∧ ∀ i, i < s → f.testBit i = false) ∨ (mfw b g f s < s ∧ f.testBit (mfw b g f s) = true ∧ (∀ i, i < s → f.testBit i = true → btr b (g (mfw b g f s)) (g i) = false) ∧ (∀ i, i < mfw b g f s → f.testBit i = true → btr b (g i) (g (mfw b g f s)) = true)) := by
  intro s
  induction s with
  | zero => intro _; exact Or.inl ⟨rfl, fun i hi => absurd hi (by omega)⟩
  | succ s ih =>
    intro hs
    have ih := ih (by omega)
    unfold mfw
    by_cases r : f.testBit s = true
    · rw [if_pos r]
      rcases ih with ⟨a1, a2⟩ | ⟨a1, a2, a3, a4⟩
      · rw [if_pos a1]
        refine Or.inr ⟨by omega, r, fun i hi h => ?_, fun i hi h => ?_⟩
        · by_cases q : i = s
          · rw [q]; exact btr_ir b _
          · rw [a2 i (by omega)] at h; cases h
        · rw [a2 i (by omega)] at h; cases h
      · rw [if_neg (by omega)]
        by_cases r2 : btr b (g (mfw b g f s)) (g s) = true
        · rw [if_pos r2]
          have r3 := btr_as r2
          refine Or.inr ⟨by omega, r, fun i hi h => ?_, fun i hi h => ?_⟩
          · by_cases q : i = s
            · rw [q]; exact btr_ir b _
            · exact btr_tr r3 (a3 i (by omega) h)
          · cases e : btr b (g i) (g s) with
            | true => rfl
            | false =>
              have := btr_tr (a3 i hi h) e
              rw [this] at r2; cases r2
        · rw [if_neg r2]
          refine Or.inr ⟨by omega, a2, fun i hi h => ?_, a4⟩
          by_cases q : i = s
          · rw [q]; simpa using r2
          · exact a3 i (by omega) h
    · rw [if_neg r]
      rcases ih with ⟨a1, a2⟩ | ⟨a1, a2, a3, a4⟩
      · refine Or.inl ⟨a1, fun i hi => ?_⟩
        by_cases q : i = s
        · rw [q]; simpa using r
        · exact a2 i (by omega)
      · refine Or.inr ⟨by omega, a2, fun i hi h => ?_, a4⟩
        by_cases q : i = s
        · rw [q] at h; exact absurd h r
        · exact a3 i (by omega) h
/-- what the reference has once none has been tried too -/
def mfx (b : Bool) (g : Nat → Int32) (f : Nat) (z : Int32) (S : Nat) : Nat := if mfw b g f S = 4294967295 then S else if btr b (g (mfw b g f S)) z = true then S else mfw b g f S
def mfz (b : Bool) (g : Nat → Int32) (f : Nat) (z : Int32) (S : Nat) : Int32 := if mfw b g f S = 4294967295 then z else if btr b (g (mfw b g f S)) z = true then z else g (mfw b g f S)
theorem tb_lt {f S i : Nat} (h : f < 2 ^ S) (hb : f.testBit i = true) : i < S := by
  by_cases q : i < S
  · exact q
  · have := Nat.testBit_lt_two_pow (x := f) (i := i) (Nat.lt_of_lt_of_le h (Nat.pow_le_pow_right (by omega) (by omega)))
    rw [this] at hb; cases hb
theorem mfz_eq {b : Bool} {g : Nat → Int32} {f : Nat} {z : Int32} {S : Nat} (hS : S ≤ 6) (hf : f < 2 ^ S) : mfz b g f z S = cfo b g f z 6 := by
  obtain ⟨c1, c2, c3⟩ := cfo_ok b g f z 6
  unfold mfz
  rcases mfw_ok b g f S hS with ⟨a1, a2⟩ | ⟨a1, a2, a3, a4⟩
  · rw [if_pos a1]
    rcases c3 with h | ⟨i, h1, h2, h3⟩
    · exact h.symm
    · rw [a2 i (tb_lt hf h2)] at h2; cases h2
  · rw [if_neg (by omega)]
    have c4 := c2 _ (by omega) a2
    by_cases r : btr b (g (mfw b g f S)) z = true
    · rw [if_pos r]
      rcases c3 with h | ⟨i, h1, h2, h3⟩
      · exact h.symm
      · have := a3 i (tb_lt hf h2) h2
        rw [← h3] at this
        have := btr_tr this c1
        rw [this] at r; cases r
    · rw [if_neg r]
      refine btr_an ?_ c4
      rcases c3 with h | ⟨i, h1, h2, h3⟩
      · rw [h]; simpa using r
      · rw [h3]; exact a3 i (tb_lt hf h2) h2
/-- the first move: the first set that does it, or none -/
theorem mfx_eq {b : Bool} {g : Nat → Int32} {f : Nat} {z : Int32} {S : Nat} (hS : S ≤ 6) (hf : f < 2 ^ S) : (mfx b g f z S = S ∧ ¬ fnd (fun s => f.testBit s && decide (g s = cfo b g f z 6)) 0 6 < 6) ∨ (mfx b g f z S < S ∧ mfx b g f z S = fnd (fun s => f.testBit s && decide (g s = cfo b g f z 6)) 0 6) := by
  have e := mfz_eq (b := b) (g := g) (z := z) hS hf
  rw [← e]
  obtain ⟨f1, f2, f3, f4⟩ := fnd_spec (fun s => f.testBit s && decide (g s = mfz b g f z S)) 6 0
  generalize hF : fnd (fun s => f.testBit s && decide (g s = mfz b g f z S)) 0 6 = F at *
  rcases mfw_ok b g f S hS with ⟨a1, a2⟩ | ⟨a1, a2, a3, a4⟩
  · refine Or.inl ⟨if_pos a1, fun h => ?_⟩
    have := f4 (by omega)
    rw [Bool.and_eq_true] at this
    rw [a2 F (tb_lt hf this.1)] at this
    cases this.1
  · by_cases r : btr b (g (mfw b g f S)) z = true
    · have ez : mfz b g f z S = z := by unfold mfz; rw [if_neg (by omega), if_pos r]
      refine Or.inl ⟨by unfold mfx; rw [if_neg (by omega), if_pos r], fun h => ?_⟩
      have := f4 (by omega)
      rw [Bool.and_eq_true, decide_eq_true_eq, ez] at this
      have h3 := a3 F (tb_lt hf this.1) this.1
      rw [this.2, r] at h3; cases h3
    · have ez : mfz b g f z S = g (mfw b g f S) := by unfold mfz; rw [if_neg (by omega), if_neg r]
      have ex : mfx b g f z S = mfw b g f S := by unfold mfx; rw [if_neg (by omega), if_neg r]
      refine Or.inr ⟨by omega, ?_⟩
      rw [ex]
      rw [ez] at f3 f4
      by_cases q : F < mfw b g f S
      · have := f4 (by omega)
        rw [Bool.and_eq_true, decide_eq_true_eq] at this
        have h4 := a4 F q this.1
        rw [this.2, btr_ir] at h4; cases h4
      · by_cases q2 : mfw b g f S < F
        · have := f3 (mfw b g f S) (by omega) q2
          rw [a2] at this
          simp at this
        · omega
def gws (W : Nat → Nat → Nat) (p q : Nat) (b : Bool) (s : Nat) : Int32 := if b = true then nI (W p s) else -(nI (W q s))
def evn (t : Nat) : Bool := decide (t % 2 = 0)
/-- what a game is worth: so many turns left, turn, free sets -/
def gvl (W : Nat → Nat → Nat) (p q : Nat) : Nat → Nat → Nat → Int32
  | 0, _, _ => nI 0
  | r + 1, t, f => cfo (evn t) (fun s => gws W p q (evn t) s + gvl W p q r (t + 1) (f &&& nnot (2 ^ s))) f (gvl W p q r (t + 1) f) 6
theorem n_par : ∀ t, t < 6 → ((nI t - nI t / nI 2 * nI 2 = nI 0) ↔ t % 2 = 0) := by decide +kernel
