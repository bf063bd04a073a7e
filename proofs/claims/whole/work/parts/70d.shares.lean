/-! best: the reference's side -/
theorem mxf_ge (g : Nat → Nat) : ∀ k i, i < k → g i ≤ mxf g k := by
  intro k
  induction k with
  | zero => intro i hi; omega
  | succ k ih =>
    intro i hi
    show g i ≤ max (mxf g k) (g k)
    by_cases q : i = k
    · subst q; omega
    · have := ih i (by omega); omega
theorem mxf_at (g : Nat → Nat) : ∀ k, mxf g k = 0 ∨ ∃ i, i < k ∧ mxf g k = g i := by
  intro k
  induction k with
  | zero => exact Or.inl rfl
  | succ k ih =>
    have e : mxf g (k + 1) = max (mxf g k) (g k) := rfl
    by_cases q : mxf g k ≤ g k
    · exact Or.inr ⟨k, by omega, by omega⟩
    · rcases ih with h | ⟨i, h1, h2⟩
      · omega
      · exact Or.inr ⟨i, by omega, by omega⟩
theorem bv_top {W : Nat → Nat → Nat} {S ppl r p g : Nat} (h : ppl.testBit p = true) : bv W S ppl r (p + 1) g ≤ bv W S ppl (r + 1) p g ∧ (∀ s, s < S → g.testBit s = false → W p s + bv W S ppl r (p + 1) (g ||| 2 ^ s) ≤ bv W S ppl (r + 1) p g) ∧ (bv W S ppl (r + 1) p g = bv W S ppl r (p + 1) g ∨ ∃ s, s < S ∧ g.testBit s = false ∧ W p s + bv W S ppl r (p + 1) (g ||| 2 ^ s) = bv W S ppl (r + 1) p g) := by
  have e : bv W S ppl (r + 1) p g = max (bv W S ppl r (p + 1) g) (mxf (bvg W (bv W S ppl r (p + 1)) p g) S) := if_pos h
  have eg : ∀ s, g.testBit s = false → bvg W (bv W S ppl r (p + 1)) p g s = W p s + bv W S ppl r (p + 1) (g ||| 2 ^ s) := fun s hs => if_neg (by rw [hs]; simp)
  refine ⟨by omega, fun s hs hb => ?_, ?_⟩
  · have := mxf_ge (bvg W (bv W S ppl r (p + 1)) p g) S s hs
    rw [eg s hb] at this
    omega
  · by_cases q : mxf (bvg W (bv W S ppl r (p + 1)) p g) S ≤ bv W S ppl r (p + 1) g
    · exact Or.inl (by omega)
    · rcases mxf_at (bvg W (bv W S ppl r (p + 1)) p g) S with h0 | ⟨i, h1, h2⟩
      · omega
      · cases hb : g.testBit i with
        | true =>
          have : bvg W (bv W S ppl r (p + 1)) p g i = 0 := if_pos hb
          omega
        | false =>
          rw [eg i hb] at h2
          exact Or.inr ⟨i, h1, hb, by omega⟩
theorem fbo_no {W : Nat → Nat → Nat} {S ppl r p g : Nat} (h : ppl.testBit p = true → ∀ s, s < S → g.testBit s = false → W p s + bv W S ppl r (p + 1) (g ||| 2 ^ s) ≠ bv W S ppl (r + 1) p g) : fbo W S ppl r p g = 4294967295 := by
  refine if_neg (fun c => ?_)
  obtain ⟨-, -, -, f4⟩ := fnd_spec (fun s => !g.testBit s && decide (W p s + bv W S ppl r (p + 1) (g ||| 2 ^ s) = bv W S ppl (r + 1) p g)) S 0
  have c2 : fnd (fun s => !g.testBit s && decide (W p s + bv W S ppl r (p + 1) (g ||| 2 ^ s) = bv W S ppl (r + 1) p g)) 0 S < S := c.2
  have := f4 (by omega)
  rw [Bool.and_eq_true, Bool.not_eq_true', decide_eq_true_eq] at this
  exact h c.1 _ c2 this.1 this.2
theorem fbo_s {W : Nat → Nat → Nat} {S ppl r p g s : Nat} (hp : ppl.testBit p = true) (hs : s < S) (hb : g.testBit s = false) (he : W p s + bv W S ppl r (p + 1) (g ||| 2 ^ s) = bv W S ppl (r + 1) p g) (hn : ∀ i, i < s → g.testBit i = false → W p i + bv W S ppl r (p + 1) (g ||| 2 ^ i) ≠ bv W S ppl (r + 1) p g) : fbo W S ppl r p g = s := by
  obtain ⟨f1, f2, f3, f4⟩ := fnd_spec (fun s => !g.testBit s && decide (W p s + bv W S ppl r (p + 1) (g ||| 2 ^ s) = bv W S ppl (r + 1) p g)) S 0
  have e : fbs W S ppl r p g = s := by
    unfold fbs
    generalize hF : fnd (fun s => !g.testBit s && decide (W p s + bv W S ppl r (p + 1) (g ||| 2 ^ s) = bv W S ppl (r + 1) p g)) 0 S = F at *
    by_cases q : F < s
    · have := f4 (by omega)
      rw [Bool.and_eq_true, Bool.not_eq_true', decide_eq_true_eq] at this
      exact absurd this.2 (hn F q this.1)
    · by_cases q2 : s < F
      · have := f3 s (by omega) q2
        rw [hb] at this
        simp [he] at this
      · omega
  unfold fbo
  rw [e, if_pos ⟨hp, hs⟩]
def shF (I M : Nat → Nat → Int32) (p : Nat) : Prop := (∀ a, a ≠ 135 → a ≠ 144 → a ≠ 145 → M a = I a) ∧ (∀ k, k ≠ 29 → M 135 k = I 135 k) ∧ (∀ i, i < p → M 144 i = I 144 i)
theorem shF_set {I K M : Nat → Nat → Int32} {p : Nat} {v : Int32} (h : shF I K p) (h2 : shF (u2 K 144 p v) M (p + 1)) : shF I M p := by
  refine ⟨fun a b1 b2 b3 => ?_, fun k hk => ?_, fun i hi => ?_⟩
  · rw [h2.1 a b1 b2 b3, u2_na _ _ _ _ _ b2, h.1 a b1 b2 b3]
  · rw [h2.2.1 k hk, u2_na _ _ _ _ _ (by omega), h.2.1 k hk]
  · rw [h2.2.2 i (by omega), u2_nk _ _ _ _ _ (by omega), h.2.2 i hi]
def shO (I M : Nat → Nat → Int32) (p P V : Nat) (f : Nat → Nat) : Prop := ((I 135 29).toInt < V ∧ M 135 29 = nI V ∧ (∀ i, i < p → M 145 i = I 144 i) ∧ (∀ i, p ≤ i → i < P → M 145 i = nI (f i))) ∨ (¬ (I 135 29).toInt < V ∧ M 135 29 = I 135 29 ∧ ∀ i, i < P → M 145 i = I 145 i)
def shL (W : Nat → Nat → Nat) (S ppl r p g sum P k : Nat) (I K : Nat → Nat → Int32) : Prop := shF I K p ∧ ((K 135 29 = I 135 29 ∧ (∀ i, i < P → K 145 i = I 145 i) ∧ ∀ s, s < k → g.testBit s = false → ¬ (I 135 29).toInt < ((sum + (W p s + bv W S ppl r (p + 1) (g ||| 2 ^ s)) : Nat) : Int)) ∨ ∃ s, s < k ∧ g.testBit s = false ∧ (I 135 29).toInt < ((sum + (W p s + bv W S ppl r (p + 1) (g ||| 2 ^ s)) : Nat) : Int) ∧ K 135 29 = nI (sum + (W p s + bv W S ppl r (p + 1) (g ||| 2 ^ s))) ∧ (∀ i, i < k → g.testBit i = false → W p i + bv W S ppl r (p + 1) (g ||| 2 ^ i) ≤ W p s + bv W S ppl r (p + 1) (g ||| 2 ^ s)) ∧ (∀ i, i < s → g.testBit i = false → W p i + bv W S ppl r (p + 1) (g ||| 2 ^ i) < W p s + bv W S ppl r (p + 1) (g ||| 2 ^ s)) ∧ (∀ i, i < p → K 145 i = I 144 i) ∧ K 145 p = nI s ∧ ∀ i, p < i → i < P → K 145 i = nI (asg W S ppl r (p + 1) (g ||| 2 ^ s) i))
theorem shL_skip {W : Nat → Nat → Nat} {S ppl r p g sum P k : Nat} {I K : Nat → Nat → Int32} (hb : g.testBit k = true) (h : shL W S ppl r p g sum P k I K) : shL W S ppl r p g sum P (k + 1) I K := by
  have ne : ∀ i, g.testBit i = false → i ≠ k := fun i hi q => by rw [q, hb] at hi; cases hi
  refine ⟨h.1, ?_⟩
  rcases h.2 with ⟨a1, a2, a3⟩ | ⟨s, a1, a2, a3, a4, a5, a6⟩
  · exact Or.inl ⟨a1, a2, fun s hs hs2 => a3 s (by have := ne s hs2; omega) hs2⟩
  · exact Or.inr ⟨s, by omega, a2, a3, a4, fun i hi hi2 => a5 i (by have := ne i hi2; omega) hi2, a6⟩
theorem shL_step {W : Nat → Nat → Nat} {S ppl r p g sum P k : Nat} {I K M : Nat → Nat → Int32} (hb : g.testBit k = false) (hp : p < P) (hV : ∀ s, s ≤ k → sum + (W p s + bv W S ppl r (p + 1) (g ||| 2 ^ s)) < 2 ^ 31) (h : shL W S ppl r p g sum P k I K) (f : shF (u2 K 144 p (nI k)) M (p + 1)) (o : shO (u2 K 144 p (nI k)) M (p + 1) P (sum + W p k + bv W S ppl r (p + 1) (g ||| 2 ^ k)) (asg W S ppl r (p + 1) (g ||| 2 ^ k))) : shL W S ppl r p g sum P (k + 1) I M := by
  have k29 : u2 K 144 p (nI k) 135 29 = K 135 29 := by rw [u2_na _ _ _ _ _ (by omega)]
  have k145 : u2 K 144 p (nI k) 145 = K 145 := by rw [u2_na _ _ _ _ _ (by omega)]
  unfold shO at o
  rw [k29, k145, Nat.add_assoc] at o
  refine ⟨shF_set h.1 f, ?_⟩
  have hVk := hV k (Nat.le_refl _)
  have key : ∀ i, i < k + 1 → i ≠ k → i < k := fun i h1 h2 => by omega
  rcases o with ⟨o1, o2, o3, o4⟩ | ⟨o1, o2, o3⟩
  · have gp : ∀ i, i < p → M 145 i = I 144 i := fun i hi => by rw [o3 i (by omega), u2_nk _ _ _ _ _ (by omega), h.1.2.2 i hi]
    have gq : M 145 p = nI k := by rw [o3 p (by omega), u2_at]
    refine Or.inr ⟨k, by omega, hb, ?_, o2, fun i hi hi2 => ?_, fun i hi hi2 => ?_, gp, gq, fun i h1 h2 => o4 i (by omega) h2⟩
    · rcases h.2 with ⟨a1, -, -⟩ | ⟨s, a1, a2, a3, a4, -⟩
      · rw [a1] at o1; exact o1
      · rw [a4, nI_toInt (hV s (by omega))] at o1; omega
    · by_cases q : i = k
      · subst q; exact Nat.le_refl _
      · rcases h.2 with ⟨a1, -, a3⟩ | ⟨s, a1, a2, a3, a4, a5, -⟩
        · have := a3 i (key i hi q) hi2
          rw [a1] at o1; omega
        · have := a5 i (key i hi q) hi2
          rw [a4, nI_toInt (hV s (by omega))] at o1; omega
    · rcases h.2 with ⟨a1, -, a3⟩ | ⟨s, a1, a2, a3, a4, a5, -⟩
      · have := a3 i hi hi2
        rw [a1] at o1; omega
      · have := a5 i hi hi2
        rw [a4, nI_toInt (hV s (by omega))] at o1; omega
  · rcases h.2 with ⟨a1, a2, a3⟩ | ⟨s, a1, a2, a3, a4, a5, a6, a7, a8, a9⟩
    · refine Or.inl ⟨by rw [o2, a1], fun i hi => by rw [o3 i hi, a2 i hi], fun s hs hs2 => ?_⟩
      by_cases q : s = k
      · subst q; rw [a1] at o1; exact o1
      · exact a3 s (key s hs q) hs2
    · rw [a4, nI_toInt (hV s (by omega))] at o1
      refine Or.inr ⟨s, by omega, a2, a3, by rw [o2, a4], fun i hi hi2 => ?_, a6, fun i hi => by rw [o3 i (by omega), a7 i hi], by rw [o3 p hp, a8], fun i h1 h2 => by rw [o3 i h2, a9 i h1 h2]⟩
      by_cases q : i = k
      · subst q; omega
      · exact a5 i (key i hi q) hi2
theorem shL_end {W : Nat → Nat → Nat} {S ppl r p g sum P : Nat} {I K M : Nat → Nat → Int32} (hS : S ≤ 6) (hp : p < P) (hpl : ppl.testBit p = true) (hV : ∀ s, s < S → sum + (W p s + bv W S ppl r (p + 1) (g ||| 2 ^ s)) < 2 ^ 31) (h : shL W S ppl r p g sum P S I K) (f : shF (u2 K 144 p (-1)) M (p + 1)) (o : shO (u2 K 144 p (-1)) M (p + 1) P (sum + bv W S ppl r (p + 1) g) (asg W S ppl r (p + 1) g)) : shO I M p P (sum + bv W S ppl (r + 1) p g) (asg W S ppl (r + 1) p g) := by
  have k29 : u2 K 144 p (-1) 135 29 = K 135 29 := by rw [u2_na _ _ _ _ _ (by omega)]
  have k145 : u2 K 144 p (-1) 145 = K 145 := by rw [u2_na _ _ _ _ _ (by omega)]
  obtain ⟨t1, t2, t3⟩ := bv_top (W := W) (S := S) (r := r) (g := g) hpl
  have ap : asg W S ppl (r + 1) p g p = fbo W S ppl r p g := if_pos rfl
  have ai : ∀ i, p < i → asg W S ppl (r + 1) p g i = asg W S ppl r (p + 1) (nxg g (fbo W S ppl r p g)) i := fun i hi => if_neg (by omega)
  unfold shO at o
  rw [k29, k145] at o
  rcases o with ⟨o1, o2, o3, o4⟩ | ⟨o1, o2, o3⟩
  · -- none is better than all
    have all : (∀ s, s < S → g.testBit s = false → W p s + bv W S ppl r (p + 1) (g ||| 2 ^ s) < bv W S ppl r (p + 1) g) ∧ (I 135 29).toInt < ((sum + bv W S ppl r (p + 1) g : Nat) : Int) := by
      rcases h.2 with ⟨a1, -, a3⟩ | ⟨s, a1, a2, a3, a4, a5, -⟩
      · rw [a1] at o1
        exact ⟨fun s hs hb => by have := a3 s hs hb; omega, o1⟩
      · rw [a4, nI_toInt (hV s a1)] at o1
        exact ⟨fun i hi hb => by have := a5 i hi hb; omega, by omega⟩
    have eV : bv W S ppl (r + 1) p g = bv W S ppl r (p + 1) g := by
      rcases t3 with t3 | ⟨s, s1, s2, s3⟩
      · exact t3
      · have := all.1 s s1 s2; omega
    have ef : fbo W S ppl r p g = 4294967295 := fbo_no (fun _ s s1 s2 s3 => by have := all.1 s s1 s2; omega)
    refine Or.inl ⟨by rw [eV]; exact all.2, by rw [eV]; exact o2, fun i hi => by rw [o3 i (by omega), u2_nk _ _ _ _ _ (by omega), h.1.2.2 i hi], fun i h1 h2 => ?_⟩
    by_cases q : i = p
    · subst q; rw [ap, ef, o3 i (by omega), u2_at, no_m1]
    · rw [ai i (by omega), ef, show nxg g 4294967295 = g from if_pos rfl]; exact o4 i (by omega) h2
  · rcases h.2 with ⟨a1, a2, a3⟩ | ⟨s, a1, a2, a3, a4, a5, a6, a7, a8, a9⟩
    · rw [a1] at o1
      refine Or.inr ⟨?_, by rw [o2, a1], fun i hi => by rw [o3 i hi, a2 i hi]⟩
      rcases t3 with t3 | ⟨s, s1, s2, s3⟩
      · rw [t3]; exact o1
      · have := a3 s s1 s2; rw [s3] at this; exact this
    · rw [a4, nI_toInt (hV s a1)] at o1
      have t2s := t2 s a1 a2
      have eV : W p s + bv W S ppl r (p + 1) (g ||| 2 ^ s) = bv W S ppl (r + 1) p g := by
        rcases t3 with t3 | ⟨i, s1, s2, s3⟩
        · omega
        · have := a5 i s1 s2; omega
      have ef : fbo W S ppl r p g = s := fbo_s hpl a1 a2 eV (fun i hi hb => by have := a6 i hi hb; omega)
      refine Or.inl ⟨by rw [← eV]; exact a3, by rw [o2, a4, eV], fun i hi => by rw [o3 i (by omega), a7 i hi], fun i h1 h2 => ?_⟩
      by_cases q : i = p
      · subst q; rw [ap, ef, o3 i h2, a8]
      · rw [ai i (by omega), ef, show nxg g s = g ||| 2 ^ s from if_neg (by omega), o3 i h2]
        exact a9 i (by omega) h2
