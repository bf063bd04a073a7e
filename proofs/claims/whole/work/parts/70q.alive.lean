/-! how many live; what a year takes -/
def alc (T : Nat → Nat) : Nat := sm (fun v => T (25 + v)) (T 1)
theorem pcn_cut {a m : Nat} (hm : m ≤ 6) (h : ∀ i, m ≤ i → a.testBit i = false) : pcn a = sm (fun k => if a.testBit k = true then 1 else 0) m := by
  unfold pcn
  exact sm_ext 6 hm (fun i h1 _ => if_neg (by rw [h i h1]; simp))
theorem dyS_cnt {U : Nat → Nat} (hw : WF U) : pcn (dyS U) + alc (yr1 U) = alc U := by
  have h1 := hw.1.2.1
  have e1 : yr1 U 1 = U 1 := yC_ag U h1 1 (by omega) (by omega)
  rw [pcn_cut h1 (fun i hi => by
    cases q : (dyS U).testBit i with
    | false => rfl
    | true => exact absurd ((dyS_bit U i).mp q).1 (by omega))]
  unfold alc
  rw [e1, ← sm_add]
  refine sm_congr _ (fun v hv => ?_)
  have hl := (hw.2.1 v hv).2.2.2.2.1
  have hl2 := ((WF_yC hw (Nat.le_refl _)).2.1 v (by rw [show yC U (U 1) 1 = U 1 from e1]; exact hv)).2.2.2.2.1
  have y := yr1_25 h1 hv
  have b := dyS_bit U v
  have hl2 : yr1 U (25 + v) ≤ 1 := hl2
  by_cases q : (dyS U).testBit v = true
  · rw [if_pos q]
    obtain ⟨-, q1, q2⟩ := b.mp q
    have : yr1 U (25 + v) ≠ 1 := fun h => (y.mp h).2 q2
    omega
  · rw [if_neg q]
    by_cases c : U (25 + v) = 1
    · have : yr1 U (25 + v) = 1 := y.mpr ⟨c, fun h => q (b.mpr ⟨hv, c, h⟩)⟩
      omega
    · have : yr1 U (25 + v) ≠ 1 := fun h => c (y.mp h).1
      omega
theorem alc_6 (U : Nat → Nat) (x : Nat) : alc (up1 U 6 x) = alc U := by
  unfold alc
  rw [up1_ne (by omega)]
  refine sm_congr _ (fun v _ => ?_)
  rw [up1_ne (by omega)]
theorem died_cnt {T : Nat → Nat} (hw : WF T) : ∀ n, sm (fun m => pcn (dyS (yrI T m))) n + alc (yrI T n) = alc T := by
  intro n
  induction n with
  | zero => show 0 + alc T = alc T; omega
  | succ n ih =>
    have := dyS_cnt (yrI_wf hw n).1
    show sm (fun m => pcn (dyS (yrI T m))) n + pcn (dyS (yrI T n)) + alc (yr1 (yrI T n)) = alc T
    omega
theorem died_bc {T : Nat → Nat} (hw : WF T) (n : Nat) : pcn (alv T &&& nnot (alv (yrI T n))) + alc (yrI T n) = alc T := by
  have h1 := hw.1.2.1
  obtain ⟨w, g⟩ := yrI_wf hw n
  have e1 : yrI T n 1 = T 1 := g 1 (by omega) (by omega)
  rw [← died_eq hw]
  have b := fun v => (died_bits hw v n).1
  have b2 := fun v => (died_bits hw v n).2
  generalize orf (fun m => dyS (yrI T m)) n = D at *
  rw [pcn_cut h1 (fun i hi => by
    cases q : D.testBit i with
    | false => rfl
    | true => exact absurd ((b i).mp q).1 (by omega))]
  unfold alc
  rw [e1, ← sm_add]
  refine sm_congr _ (fun v hv => ?_)
  have hl := (hw.2.1 v hv).2.2.2.2.1
  have hl2 := (w.2.1 v (by rw [e1]; exact hv)).2.2.2.2.1
  by_cases q : D.testBit v = true
  · rw [if_pos q]
    obtain ⟨-, q1, q2⟩ := (b v).mp q
    omega
  · rw [if_neg q]
    by_cases c : T (25 + v) = 1
    · by_cases e : yrI T n (25 + v) = 1
      · omega
      · exact absurd ((b v).mpr ⟨hv, c, e⟩) q
    · have : yrI T n (25 + v) ≠ 1 := fun h => c (b2 v hv h)
      omega
theorem alc_le {T : Nat → Nat} (hw : WF T) : alc T ≤ 6 := by
  have := sm_le (g := fun v => T (25 + v)) (b := 1) (T 1) (fun v hv => (hw.2.1 v hv).2.2.2.2.1)
  have := hw.1.2.1
  unfold alc; omega
/-- agreement where alc, smT 43 look -/
theorem alc_cg {T U : Nat → Nat} (h1 : U 1 = T 1) (h : ∀ v, v < T 1 → U (25 + v) = T (25 + v)) : alc U = alc T := by
  unfold alc
  rw [h1]; exact sm_congr _ h
theorem smT_cg {T U : Nat → Nat} (h2 : U 2 = T 2) (h : ∀ p, p < T 2 → U (43 + p) = T (43 + p)) : smT U 43 = smT T 43 := by
  unfold smT
  rw [h2]; exact sm_congr _ h
theorem smT_hr {T : Nat → Nat} (hw : WF T) (n : Nat) : smT (hrT T n) 43 = smT T 43 + sm (fun p => joyA T p (vOf T p) n) (T 2) := by
  have h2 := hw.1.2.2.1
  unfold smT
  rw [hrT_big hw n 2 (by omega), ← sm_add]
  refine sm_congr _ (fun p hp => ?_)
  show hrT T n (43 + p) = T (43 + p) + joyA T p (vOf T p) n
  rw [hrT_at hw, if_neg (show ¬ 43 + p = 5 by omega), if_pos (show 43 ≤ 43 + p ∧ 43 + p < 43 + T 2 by omega), show 43 + p - 43 = p by omega]
theorem smT_le {T : Nat → Nat} (hw : WF T) : smT T 43 ≤ 3600000 := by
  have := sm_le (g := fun p => T (43 + p)) (b := 600000) (T 2) (fun p hp => (hw.2.2.2.1 p hp).2.1)
  have := hw.1.2.2.1
  unfold smT; omega
/-! the state of a life by the dials -/
def LFS (T T' : Nat → Nat) (r dn ms hs gl dd : Nat) : Prop := WF T' ∧ GB T' ∧ (∀ j, j < 4 ∨ 157 ≤ j → T' j = T j) ∧ r < 65536 ∧ dn ≤ 300 ∧ ms ≤ dn ∧ hs ≤ 48 * dn ∧ smT T' 43 = smT T 43 + gl ∧ alc T = alc T' + dd
/-- the class's side at t, the reference's -/
def CLV (t : Nat) (I : Nat → Nat → Int32) (T' : Nat → Nat) (r dn ms hs dd : Nat) : Prop := TC I t T' ∧ I 132 1 = nI r ∧ I 132 2 = nI dn ∧ I 132 3 = nI ms ∧ I 132 4 = nI hs ∧ I 132 5 = nI dd
def RLV (M : Nat → Nat → Int32) (T' : Nat → Nat) (r dn ms hs gl dd : Nat) : Prop := TM (M 140) T' ∧ M 135 35 = nI r ∧ M 135 36 = nI dn ∧ M 135 37 = nI ms ∧ M 135 38 = nI hs ∧ M 135 39 = nI gl ∧ M 135 40 = nI dd
/-- what a step leaves as it was -/
def FCL (t : Nat) (I K : Nat → Nat → Int32) : Prop := (∀ a, ¬ (t ≤ a ∧ a < t + 14) → a ≠ 132 → K a = I a) ∧ K 132 6 = I 132 6
def FRL (I M : Nat → Nat → Int32) : Prop := (∀ a, a ≠ 140 → a ≠ 135 → M a = I a) ∧ (∀ k, 157 ≤ k → M 140 k = I 140 k) ∧ (∀ k, k ≤ 34 ∨ k = 36 ∨ k = 37 ∨ 41 ≤ k → M 135 k = I 135 k)
theorem FC_at {t : Nat} {I K : Nat → Nat → Int32} (ht : isT t) (h : FC t I K) : ∀ k, K 132 k = I 132 k := fun k => by rw [h 132 (by unfold isT at ht; omega)]
