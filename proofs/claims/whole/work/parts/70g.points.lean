/-! trades: who points to whom -/
/-- the first set that a person owns -/
def fso (T : Nat → Nat) (p : Nat) : Nat := if fnd (fun k => T (67 + k) == p) 0 (T 3) < T 3 then fnd (fun k => T (67 + k) == p) 0 (T 3) else 4294967295
theorem fso_lt (T : Nat → Nat) (p : Nat) : fso T p = 4294967295 ∨ fso T p < T 3 := by
  unfold fso
  split
  · exact Or.inr (by omega)
  · exact Or.inl rfl
theorem c0_firstSetOf {N d : Nat} {X : lt_X} {I : Nat → Nat → Int32} {J : Nat → Nat → Int64} {t : Nat} {T : Nat → Nat} (ht : isT t) (hT : TC I t T) (hw : WF T) {p : Nat} (hp : p < T 2) (hN : 1000 ≤ N) : am_G am_prog (N + 30) (d + 1) 8 [.ref t, .int (nI p)] (mkh X I J) = some (.int (nI (fso T p)), (mkh X I J)) := by
  obtain ⟨h0, h1, h2, h3, h4, h5, h6⟩ := hw.1
  have main := lqf (run := fun n i => RX0_firstSetOf_2 N d n X t (nI p) (nI i) I J) (m := T 3) (p := fun k => T (67 + k) == p) (A := fun i => some (.int (nI i), (mkh X I J))) (Z := some (.int (-1), (mkh X I J))) ?_ ?_ ?_ (T 3) 0 (N + 29) (by omega) (by omega)
  · rw [gX0_firstSetOf N d ht, sX0_firstSetOf_0 N d _ ht]
    refine main.trans ?_
    by_cases c : fnd (fun k => T (67 + k) == p) 0 (T 3) < T 3
    · rw [if_pos c, show fso T p = fnd (fun k => T (67 + k) == p) 0 (T 3) from if_pos c]
    · rw [if_neg c, show fso T p = 4294967295 from if_neg c, no_m1]
  · intro n i hi qb
    rw [sX0_firstSetOf_2 N d n ht, tc3 hT, nc_lt hi (by omega), nc_in (by omega) (by omega), nI_clamp (by omega), tcB hT i hi, nc_eq (by simpa using qb)]
  · intro n i hi qb
    have ho := (hw.2.2.2.2.2 i hi).2.2
    rw [sX0_firstSetOf_2 N d n ht, tc3 hT, nc_lt hi (by omega), nc_in (by omega) (by omega), nI_clamp (by omega), tcB hT i hi, nc_ne (by simpa using qb) (by omega) (by omega), nI_add]
  · intro n
    rw [sX0_firstSetOf_2 N d n ht, tc3 hT, nc_nlt (by omega) (by omega)]
theorem c9_firstOwn {N d : Nat} {X : lt_X} {I : Nat → Nat → Int32} {J : Nat → Nat → Int64} {T : Nat → Nat} (hT : TM (I 140) T) (hw : WF T) {p : Nat} (hp : p < T 2) (hN : 1000 ≤ N) : am_G am_prog (N + 30) (d + 1) 309 [.ref 135, .int (nI p)] (mkh X I J) = some (.int (nI (fso T p)), (mkh X I J)) := by
  obtain ⟨h0, h1, h2, h3, h4, h5, h6⟩ := hw.1
  have main := lqf (run := fun n i => RX9_firstOf_2 N d n X (nI p) (nI i) I J) (m := T 3) (p := fun k => T (67 + k) == p) (A := fun i => some (.int (nI i), (mkh X I J))) (Z := some (.int (-1), (mkh X I J))) ?_ ?_ ?_ (T 3) 0 (N + 29) (by omega) (by omega)
  · rw [gX9_firstOf N d, sX9_firstOf_0 N d]
    refine main.trans ?_
    by_cases c : fnd (fun k => T (67 + k) == p) 0 (T 3) < T 3
    · rw [if_pos c, show fso T p = fnd (fun k => T (67 + k) == p) 0 (T 3) from if_pos c]
    · rw [if_neg c, show fso T p = 4294967295 from if_neg c, no_m1]
  · intro n i hi qb
    rw [sX9_firstOf_2 N d n, tm3 hT, nc_lt hi (by omega), nI_add, nc_in (by omega) (by omega), nI_clamp (by omega), tmB hT i hi, nc_eq (by simpa using qb)]
  · intro n i hi qb
    have ho := (hw.2.2.2.2.2 i hi).2.2
    rw [sX9_firstOf_2 N d n, tm3 hT, nc_lt hi (by omega), nI_add, nc_in (by omega) (by omega), nI_clamp (by omega), tmB hT i hi, nc_ne (by simpa using qb) (by omega) (by omega), nI_add]
  · intro n
    rw [sX9_firstOf_2 N d n, tm3 hT, nc_nlt (by omega) (by omega)]
/-- for person p the one of q is better than the one of u -/
def isb (W : Nat → Nat → Nat) (c : Nat → Nat) (p q u : Nat) : Bool := decide (W p (c u) < W p (c q)) || (decide (W p (c q) = W p (c u)) && (decide (u ≠ p) && decide (c q < c u)))
def ptf (W : Nat → Nat → Nat) (c : Nat → Nat) (L p : Nat) : Nat → Nat
  | 0 => p
  | q + 1 => if L.testBit q = true ∧ isb W c p q (ptf W c L p q) = true then q else ptf W c L p q
theorem ptf_in {W : Nat → Nat → Nat} {c : Nat → Nat} {L p : Nat} (hp : L.testBit p = true) : ∀ k, L.testBit (ptf W c L p k) = true ∧ (ptf W c L p k = p ∨ ptf W c L p k < k) := by
  intro k
  induction k with
  | zero => exact ⟨hp, Or.inl rfl⟩
  | succ k ih =>
    unfold ptf
    split
    · rename_i h; exact ⟨h.1, Or.inr (by omega)⟩
    · exact ⟨ih.1, ih.2.imp id (fun h => by omega)⟩
theorem c0_isBetter {N d : Nat} {X : lt_X} {I : Nat → Nat → Int32} {J : Nat → Nat → Int64} {W : Nat → Nat → Nat} {c : Nat → Nat} {p q u S P : Nat} (hS : S ≤ 6) (hP : P ≤ 6) (hp : p < P) (hq : q < P) (hu : u < P) (hcq : c q < S) (hcu : c u < S) (hC : ∀ i, i < P → I 129 i = nI (c i)) (hW : ∀ p k, p < P → k < S → I 127 (6 * p + k) = nI (W p k)) (hl : ∀ s, W p s ≤ 648) : am_G am_prog (N + 30) (d + 1) 10 [.ref 126, .int (nI p), .int (nI q), .int (nI u)] (mkh X I J) = some (.int (nI (if isb W c p q u = true then 1 else 0)), (mkh X I J)) := by
  have a := no_sub0 (a := W p (c q)) (b := W p (c u)) (by have := hl (c q); omega) (by have := hl (c u); omega)
  have e : ∀ i, i < P → c i < S → I 127 (nI p * nI 6 + I 129 i).toNatClampNeg = nI (W p (c i)) ∧ am_in (nI p * nI 6 + I 129 i) 36 := fun i hi hs => by
    rw [hC i hi, pk_mul, nI_add]
    refine ⟨?_, in_nI (by omega) (by omega)⟩
    rw [nI_clamp (by omega), Nat.mul_comm p 6]
    exact hW p (c i) hp hs
  have q6 : (nI q).toNatClampNeg = q := nI_clamp (by omega)
  have u6 : (nI u).toNatClampNeg = u := nI_clamp (by omega)
  rw [gX0_isBetter N d, sX0_isBetter_0 N d, nc_in (by omega) (by omega), nc_in (by omega) (by omega), nc_in (by omega) (by omega), nc_in (by omega) (by omega), q6, u6, if_pos (e q hq hcq).2, if_pos (e u hu hcu).2, (e q hq hcq).1, (e u hu hcu).1, hC q hq, hC u hu]
  unfold isb
  by_cases r1 : W p (c u) < W p (c q)
  · rw [if_pos (a.2.mpr r1), decide_eq_true r1, Bool.true_or, if_pos rfl]
  · rw [if_neg (fun h => r1 (a.2.mp h)), decide_eq_false r1, Bool.false_or]
    by_cases r2 : W p (c q) = W p (c u)
    · rw [if_pos (a.1.mpr r2), decide_eq_true r2, Bool.true_and]
      by_cases r3 : u = p
      · rw [nc_eq r3, decide_eq_false (by omega), Bool.false_and, if_neg (by simp)]
      · rw [nc_ne r3 (by omega) (by omega), decide_eq_true r3, Bool.true_and]
        by_cases r4 : c q < c u
        · rw [nc_lt r4 (by omega), decide_eq_true r4, if_pos rfl]
        · rw [nc_nlt (by omega) (by omega), decide_eq_false r4, if_neg (by simp)]
    · rw [if_neg (fun h => r2 (a.1.mp h)), decide_eq_false r2, Bool.false_and, if_neg (by simp)]
/-- comes and goes are in order for those who are left -/
def cOK (c : Nat → Nat) (L P S : Nat) : Prop := L < 2 ^ P ∧ ∀ i, L.testBit i = true → c i < S
theorem ptf_s (W : Nat → Nat → Nat) (c : Nat → Nat) {L p q : Nat} (h : L.testBit q = true) : ptf W c L p (q + 1) = if isb W c p q (ptf W c L p q) = true then q else ptf W c L p q := by
  show (if L.testBit q = true ∧ isb W c p q (ptf W c L p q) = true then q else ptf W c L p q) = _
  by_cases r : isb W c p q (ptf W c L p q) = true
  · rw [if_pos ⟨h, r⟩, if_pos r]
  · rw [if_neg (fun z => r z.2), if_neg r]
theorem ptf_n (W : Nat → Nat → Nat) (c : Nat → Nat) {L p q : Nat} (h : ¬ L.testBit q = true) : ptf W c L p (q + 1) = ptf W c L p q := if_neg (fun z => h z.1)
theorem c0_pointsTo {N d : Nat} {X : lt_X} {I : Nat → Nat → Int32} {J : Nat → Nat → Int64} {W : Nat → Nat → Nat} {c : Nat → Nat} {p L S P : Nat} (hS : S ≤ 6) (hP : P ≤ 6) (hc : cOK c L P S) (hp : L.testBit p = true) (hC : ∀ i, i < P → I 129 i = nI (c i)) (hW : ∀ p k, p < P → k < S → I 127 (6 * p + k) = nI (W p k)) (hl : ∀ s, W p s ≤ 648) (hN : 1000 ≤ N) : am_G am_prog (N + 30) (d + 2) 9 [.ref 126, .int (nI P), .int (nI L), .int (nI p)] (mkh X I J) = some (.int (nI (ptf W c L p P)), (mkh X I J)) := by
  have h64 : 2 ^ P ≤ 2 ^ 6 := Nat.pow_le_pow_right (by omega) hP
  have hL := hc.1
  have hpP := tb_lt hc.1 hp
  rw [gX0_pointsTo N (d + 1), sX0_pointsTo_0 N (d + 1)]
  refine lqs (run := fun n i => RX0_pointsTo_6 N (d + 1) n X (nI P) (nI L) (nI p) (nI (ptf W c L p i)) (nI i) I J) (m := P) ?_ ?_ (N + 29) 0 (by omega) (by omega)
  · intro n i hi
    obtain ⟨b1, b2⟩ := ptf_in (W := W) (c := c) hp i
    rw [sX0_pointsTo_6 N (d + 1) n, nc_lt hi (by omega)]
    by_cases r : L.testBit i = true
    · rw [nc_b1 r (by omega) (by omega), c0_isBetter hS hP hpP hi (tb_lt hc.1 b1) (hc.2 i r) (hc.2 _ b1) hC hW hl, cI_some, kX0_pointsTo_0 N (d + 1) n, nc_10, nI_add, ptf_s W c r]
      by_cases r2 : isb W c p i (ptf W c L p i) = true
      · rw [if_pos r2, if_pos r2]
      · rw [if_neg r2, if_neg r2]
    · rw [nc_b0 (by simpa using r) (by omega) (by omega), nI_add, ptf_n W c r]
  · intro n
    rw [sX0_pointsTo_6 N (d + 1) n, nc_nlt (by omega) (by omega)]
theorem c9_pointsTo {N d : Nat} {X : lt_X} {I : Nat → Nat → Int32} {J : Nat → Nat → Int64} {T : Nat → Nat} (hT : TM (I 140) T) (hw : WF T) {c : Nat → Nat} {p L : Nat} (hc : cOK c L (T 2) (T 3)) (hp : L.testBit p = true) (hI : I 135 30 = nI L) (hC : ∀ i, i < T 2 → I 144 i = nI (c i)) (hW : ∀ p k, p < T 2 → k < T 3 → I 143 (6 * p + k) = nI (wth T p k)) (hN : 1000 ≤ N) : am_G am_prog (N + 30) (d + 2) 310 [.ref 135, .int (nI p)] (mkh X I J) = some (.int (nI (ptf (wth T) c L p (T 2))), (mkh X I J)) := by
  obtain ⟨h0, h1, h2, h3, h4, h5, h6⟩ := hw.1
  have h64 : 2 ^ T 2 ≤ 2 ^ 6 := Nat.pow_le_pow_right (by omega) h2
  have hL := hc.1
  have hpP := tb_lt hc.1 hp
  have hl : ∀ s, wth T p s ≤ 648 := fun s => wth_le hw hpP s
  have e : ∀ i, i < T 2 → c i < T 3 → I 143 (nI 6 * nI p + I 144 i).toNatClampNeg = nI (wth T p (c i)) ∧ am_in (nI 6 * nI p + I 144 i) 36 := fun i hi hs => by
    rw [hC i hi, pk_mul, nI_add]
    refine ⟨?_, in_nI (by omega) (by omega)⟩
    rw [nI_clamp (by omega)]
    exact hW p (c i) hpP hs
  rw [gX9_pointsTo N d, sX9_pointsTo_0 N d]
  refine lqs (run := fun n i => RX9_pointsTo_4 N d n X (nI p) (nI (ptf (wth T) c L p i)) (nI i) I J) (m := T 2) ?_ ?_ (N + 29) 0 (by omega) (by omega)
  · intro n i hi
    obtain ⟨b1, b2⟩ := ptf_in (W := wth T) (c := c) hp i
    rw [sX9_pointsTo_4 N d n, tm2 hT, nc_lt hi (by omega), hI, c9_has (by omega) (by omega), cI_some, kX9_pointsTo_0 N d n, nc_10]
    by_cases r : L.testBit i = true
    · have hu := tb_lt hc.1 b1
      have cq := hc.2 i r
      have cu := hc.2 _ b1
      rw [if_pos r, ptf_s (wth T) c r]
      generalize hU : ptf (wth T) c L p i = u at *
      have a := no_sub0 (a := wth T p (c i)) (b := wth T p (c u)) (by have := hl (c i); omega) (by have := hl (c u); omega)
      have q6 : (nI i).toNatClampNeg = i := nI_clamp (by omega)
      have u6 : (nI u).toNatClampNeg = u := nI_clamp (by omega)
      rw [nc_in (by omega) (by omega), nc_in (by omega) (by omega), nc_in (by omega) (by omega), nc_in (by omega) (by omega), q6, u6, if_pos (e i hi cq).2, if_pos (e u hu cu).2, (e i hi cq).1, (e u hu cu).1, hC i hi, hC u hu, nI_add]
      unfold isb
      by_cases r1 : wth T p (c u) < wth T p (c i)
      · rw [if_pos (a.2.mpr r1), decide_eq_true r1, Bool.true_or, if_pos rfl]
      · rw [if_neg (fun h => r1 (a.2.mp h)), decide_eq_false r1, Bool.false_or]
        by_cases r2 : wth T p (c i) = wth T p (c u)
        · rw [if_pos (a.1.mpr r2), decide_eq_true r2, Bool.true_and]
          by_cases r3 : u = p
          · rw [nc_eq r3, decide_eq_false (show ¬ u ≠ p by omega), Bool.false_and, if_neg (show ¬ (false = true) by simp)]
          · rw [nc_ne r3 (by omega) (by omega), decide_eq_true (show u ≠ p from r3), Bool.true_and]
            by_cases r4 : c i < c u
            · rw [nc_lt r4 (by omega), decide_eq_true r4, if_pos rfl]
            · rw [nc_nlt (by omega) (by omega), decide_eq_false r4, if_neg (show ¬ (false = true) by simp)]
        · rw [if_neg (fun h => r2 (a.1.mp h)), decide_eq_false r2, Bool.false_and, if_neg (show ¬ (false = true) by simp)]
    · rw [if_neg r, nI_add, ptf_n (wth T) c r]
  · intro n
    rw [sX9_pointsTo_4 N d n, tm2 hT, nc_nlt (by omega) (by omega)]
