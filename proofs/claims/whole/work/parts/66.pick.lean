/-! pick -/
def fm (w : Nat → Nat) (g : Nat) : Nat → Nat
  | 0 => 4294967295
  | k + 1 => if g.testBit k = true then fm w g k else if fm w g k = 4294967295 then k else if w (fm w g k) < w k then k else fm w g k
theorem fm_lt (w : Nat → Nat) (g : Nat) : ∀ k, fm w g k = 4294967295 ∨ fm w g k < k := by
  intro k
  induction k with
  | zero => exact Or.inl rfl
  | succ k ih =>
    unfold fm
    split
    · omega
    · split
      · omega
      · split <;> omega
def pgo (w : Nat → Nat → Nat) (S : Nat) (pr : Nat → Nat) : Nat → Nat
  | 0 => 0
  | i + 1 => if fm (w (pr i)) (pgo w S pr i) S = 4294967295 then pgo w S pr i else pgo w S pr i ||| 2 ^ fm (w (pr i)) (pgo w S pr i) S
def pgt (w : Nat → Nat → Nat) (S : Nat) (pr : Nat → Nat) : Nat → Nat
  | 0 => 4294967295
  | i + 1 => fm (w (pr i)) (pgo w S pr i) S
theorem or_p2 {a j w : Nat} (ha : a < 2 ^ w) (hj : j < w) : a ||| 2 ^ j < 2 ^ w := Nat.or_lt_two_pow ha (Nat.pow_lt_pow_right (by omega) hj)
theorem pgo_lt (w : Nat → Nat → Nat) {S : Nat} (hS : S ≤ 6) (pr : Nat → Nat) : ∀ i, pgo w S pr i < 2 ^ 6 := by
  intro i
  induction i with
  | zero => show 0 < 2 ^ 6; omega
  | succ i ih =>
    have h := fm_lt (w (pr i)) (pgo w S pr i) S
    unfold pgo
    split
    · exact ih
    · exact or_p2 ih (by omega)
theorem c0_firstMost {N d : Nat} {X : lt_X} {I : Nat → Nat → Int32} {J : Nat → Nat → Int64} {t : Nat} {T : Nat → Nat} (ht : isT t) (hT : TC I t T) (hw : WF T) (hW : ∀ p k, p < T 2 → k < T 3 → I 127 (6 * p + k) = nI (wth T p k)) {p g : Nat} (hp : p < T 2) (hg : g < 2 ^ 31) (hN : 1000 ≤ N) : am_G am_prog (N + 30) (d + 1) 15 [.ref 126, .ref t, .int (nI p), .int (nI g)] (mkh X I J) = some (.int (nI (fm (wth T p) g (T 3))), (mkh X I J)) := by
  obtain ⟨h0, h1, h2, h3, h4, h5, h6⟩ := hw.1
  rw [gX0_firstMost N d ht, sX0_firstMost_0 N d _ ht, no_m1]
  refine (lqc (run := fun n i => RX0_firstMost_6 N d n X t (nI p) (nI g) (nI (fm (wth T p) g i)) (nI i) I J) (m := T 3) (c := 2) (B := 1) (R := some (.int (nI (fm (wth T p) g (T 3))), (mkh X I J))) ?_ ?_ (T 3) 0 (by omega)) (N + 29) (by omega)
  · intro i B hi e
    have q := fm_lt (wth T p) g i
    by_cases r : g.testBit i = true
    · have e' : fm (wth T p) g (i + 1) = fm (wth T p) g i := if_pos r
      rw [e'] at e
      refine ev_s (g := fun n => RX0_firstMost_31 N d n X t (nI p) (nI g) (nI (fm (wth T p) g i)) (nI i) (nI 0) I J) (fun n => ?_) (ev_s (fun n => ?_) e)
      · rw [sX0_firstMost_6 N d n ht, tc3 hT, nc_lt hi (by omega), nc_b1 r hg (by omega)]
      · rw [sX0_firstMost_31 N d n ht, nc_eq rfl, nI_add]
    · have rf : g.testBit i = false := by simpa using r
      refine ev_s (g := fun n => RX0_firstMost_31 N d n X t (nI p) (nI g) (nI (fm (wth T p) g i)) (nI i) (nI 1) I J) (fun n => ?_) (ev_s (fun n => ?_) e)
      · rw [sX0_firstMost_6 N d n ht, tc3 hT, nc_lt hi (by omega), nc_b0 rf hg (by omega)]
      · rw [sX0_firstMost_31 N d n ht, nc_ne (by omega) (by omega) (by omega)]
        by_cases r2 : fm (wth T p) g i = 4294967295
        · have e' : fm (wth T p) g (i + 1) = i := (if_neg r).trans (if_pos r2)
          rw [nc_m1 r2, e', nI_add]
        · have l1 := wth_le hw hp i
          have l2 := wth_le hw hp (fm (wth T p) g i)
          rw [nc_nm1 (by omega), pk_mul, nI_add, nI_add, nc_in (by omega) (by omega), nc_in (by omega) (by omega), nI_clamp (by omega), nI_clamp (by omega), Nat.mul_comm p 6, hW p i hp hi, hW p _ hp (by omega)]
          by_cases r3 : wth T p (fm (wth T p) g i) < wth T p i
          · have e' : fm (wth T p) g (i + 1) = i := (if_neg r).trans ((if_neg r2).trans (if_pos r3))
            rw [nc_lt r3 (by omega), e', nI_add]
          · have e' : fm (wth T p) g (i + 1) = fm (wth T p) g i := (if_neg r).trans ((if_neg r2).trans (if_neg r3))
            rw [nc_nlt (by omega) (by omega), e', nI_add]
  · refine ev_0 (fun n => ?_)
    rw [sX0_firstMost_6 N d n ht, tc3 hT, nc_nlt (by omega) (by omega)]
theorem lN_i32 {j : Nat} (hj : j < 2 ^ 31) : (lN j).toInt32 = nI j := by
  apply Int32.toInt_inj.mp
  rw [Int64.toInt_toInt32, pk_lT (by omega), nI_toInt hj]
  exact Int.bmod_eq_of_le (by omega) (by omega)
theorem c0_findPick {N d : Nat} {X : lt_X} {I : Nat → Nat → Int32} {J : Nat → Nat → Int64} {t : Nat} {T : Nat → Nat} (ht : isT t) (hT : TC I t T) (hw : WF T) {tr k : Nat} (htr : isTr tr) (hk : k < 6) (pr : Nat → Nat) (hp : ∀ i, i ≤ k → J (tr + 1) i = lN (pr i) ∧ pr i < T 2) (hN : 1000 ≤ N) : ∃ K, am_G am_prog (N + 30) (d + 5) 14 [.ref 126, .ref t, .ref tr, .int (nI k)] (mkh X I J) = some (.int (nI (pgt (wth T) (T 3) pr (k + 1))), mkh X K J) ∧ (∀ a, a ≠ 127 → K a = I a) := by
  obtain ⟨h0, h1, h2, h3, h4, h5, h6⟩ := hw.1
  have t1 : t + 14 ≤ 127 := by unfold isT at ht; omega
  obtain ⟨K, e, f, hW⟩ := c0_weigh (N := N) (d := d) (X := X) (I := I) (J := J) ht hT hw hN
  have hK : TC K t T := TC_frame (fun a b1 b2 => f a (by omega)) hT
  refine ⟨K, ?_, f⟩
  rw [gX0_findPick N (d + 4) ht htr, sX0_findPick_0 N (d + 4) _ ht htr, e, cV_some, kX0_findPick_0 N (d + 4) _ ht htr, no_m1]
  refine (lqs (run := fun n i => RX0_findPick_14 N (d + 4) n X t tr (nI k) (nI (pgo (wth T) (T 3) pr i)) (nI (pgt (wth T) (T 3) pr i)) (nI i) K J) (m := k + 1) ?_ ?_ (N + 29) 0 (by omega) (by omega))
  · intro n i hi
    have hb := pgo_lt (wth T) h3 pr i
    have hf := fm_lt (wth T (pr i)) (pgo (wth T) (T 3) pr i) (T 3)
    obtain ⟨j1, j2⟩ := hp i (by omega)
    rw [sX0_findPick_14 N (d + 4) n ht htr, nc_nlt (by omega) (by omega), nc_lt (by omega) (by omega), nc_in (by omega) (by omega), nI_clamp (by omega), j1, lN_i32 (by omega), c0_firstMost (d := d + 3) ht hK hw hW j2 (by omega) hN, cI_some, kX0_findPick_1 N (d + 4) n ht htr, nI_add]
    by_cases r : fm (wth T (pr i)) (pgo (wth T) (T 3) pr i) (T 3) = 4294967295
    · have e' : pgo (wth T) (T 3) pr (i + 1) = pgo (wth T) (T 3) pr i := if_pos r
      rw [nc_m1 r, e']
      rfl
    · have e' : pgo (wth T) (T 3) pr (i + 1) = pgo (wth T) (T 3) pr i ||| 2 ^ fm (wth T (pr i)) (pgo (wth T) (T 3) pr i) (T 3) := if_neg r
      rw [nc_nm1 (by omega), no_shl (by omega), no_or, e']
      rfl
  · intro n
    rw [sX0_findPick_14 N (d + 4) n ht htr, nc_lt (by omega) (by omega)]
/-- the row of people: all there, no one twice -/
def rwp (f : Nat → Int64) (P : Nat) : Nat → Nat → Nat → Bool
  | 0, _, _ => true
  | k + 1, i, s => decide (0 ≤ (f i).toInt ∧ (f i).toInt < P) && (!(s.testBit (f i).toInt.toNat) && rwp f P k (i + 1) (s ||| 2 ^ (f i).toInt.toNat))
theorem rwp_congr {f g : Nat → Int64} {P : Nat} : ∀ k i s, (∀ j, i ≤ j → j < i + k → f j = g j) → rwp f P k i s = rwp g P k i s := by
  intro k
  induction k with
  | zero => intro i s _; rfl
  | succ k ih =>
    intro i s h
    unfold rwp
    rw [h i (by omega) (by omega), ih (i + 1) _ (fun j h1 h2 => h j (by omega) (by omega))]
theorem rwp_all {f : Nat → Int64} {P : Nat} : ∀ k i s, rwp f P k i s = true → ∀ j, i ≤ j → j < i + k → 0 ≤ (f j).toInt ∧ (f j).toInt < P := by
  intro k
  induction k with
  | zero => intro i s _ j h1 h2; omega
  | succ k ih =>
    intro i s h j h1 h2
    unfold rwp at h
    rw [Bool.and_eq_true, Bool.and_eq_true, decide_eq_true_eq] at h
    by_cases q : j = i
    · subst q; exact h.1
    · exact ih (i + 1) _ h.2.2 j (by omega) (by omega)
theorem z_lN {z : Int64} {P : Nat} (hP : P < 2 ^ 31) (h : 0 ≤ z.toInt ∧ z.toInt < P) : z = lN z.toInt.toNat := by
  apply Int64.toInt_inj.mp
  rw [pk_lT (by omega)]; omega
theorem c8_isRow {N d : Nat} {X : lt_X} {I : Nat → Nat → Int32} {J : Nat → Nat → Int64} {T : Nat → Nat} (hX : hsX X) (hT : TC I X.2.1 T) (hw : WF T) {tr n : Nat} (htr : isTr tr) (hn : n ≤ 6) (hN : 1000 ≤ N) : am_G am_prog (N + 30) (d + 1) 156 [.ref 3, .ref tr, .int (nI n)] (mkh X I J) = some (.int (nI (if rwp (J (tr + 1)) (T 2) n 0 0 = true then 1 else 0)), (mkh X I J)) := by
  have h2 := hw.1.2.2.1
  rw [gX8_isRowOfPeople N d htr, sX8_isRowOfPeople_0 N d _ hX htr]
  have main : ∀ k i s z, i + k = n → s < 2 ^ 6 → k < z → RX8_isRowOfPeople_5 N d z X tr (nI n) (nI s) (nI i) I J = some (.int (nI (if rwp (J (tr + 1)) (T 2) k i s = true then 1 else 0)), (mkh X I J)) := by
    intro k
    induction k with
    | zero =>
      intro i s z hi hs hz
      obtain ⟨z, rfl⟩ : ∃ y, z = y + 1 := ⟨z - 1, by omega⟩
      rw [sX8_isRowOfPeople_5 N d z hX htr, nc_nlt (by omega) (by omega)]
      rfl
    | succ k ih =>
      intro i s z hi hs hz
      obtain ⟨z, rfl⟩ : ∃ y, z = y + 1 := ⟨z - 1, by omega⟩
      rw [sX8_isRowOfPeople_5 N d z hX htr, nc_lt (by omega) (by omega), nc_in (by omega) (by omega), nI_clamp (by omega), tc2 hT]
      unfold rwp
      by_cases r : 0 ≤ (J (tr + 1) i).toInt ∧ (J (tr + 1) i).toInt < T 2
      · rw [if_neg (by rw [lc_lt0]; omega), if_pos (by rw [lc_ltn _ (by omega)]; omega), decide_eq_true r, Bool.true_and]
        have hj : (J (tr + 1) i).toInt.toNat < 6 := by omega
        have hz := z_lN (by omega) r
        generalize hq : (J (tr + 1) i).toInt.toNat = j at *
        rw [hz, lN_i32 (by omega)]
        by_cases r2 : s.testBit j = true
        · rw [nc_b1 r2 (by omega) (by omega), r2, if_neg (by simp)]
        · have rf : s.testBit j = false := by simpa using r2
          rw [nc_b0 rf (by omega) (by omega), rf, no_shl (by omega), no_or, nI_add, ih (i + 1) _ z (by omega) (or_p2 hs hj) (by omega), Bool.not_false, Bool.true_and]
      · rw [decide_eq_false r, Bool.false_and, if_neg (show ¬ (false = true) by simp)]
        by_cases r1 : lg_cmp (J (tr + 1) i) (lN 0) < nI 0
        · rw [if_pos r1]
        · rw [if_neg r1]
          rw [lc_lt0] at r1
          rw [if_neg (by rw [lc_ltn _ (by omega)]; omega)]
  exact main n 0 0 (N + 29) (by omega) (by omega) (by omega)
theorem c9_isPersonL {N d : Nat} {X : lt_X} {I : Nat → Nat → Int32} {J : Nat → Nat → Int64} {T : Nat → Nat} (hT : TM (I 140) T) (hw : WF T) (z : Int64) : am_G am_prog (N + 30) (d + 2) 260 [.ref 135, .long z] (mkh X I J) = some (.int (nI (if 0 ≤ z.toInt ∧ z.toInt < T 2 then 1 else 0)), (mkh X I J)) := by
  have h1 := hw.1.2.2.1
  rw [gX9_isPersonAt N d, sX9_isPersonAt_0 N d, tm2 hT, c9_isInL, cI_some, kX9_isPersonAt_0 N d, nb_10]
  have e : (lN 0 ≤ z ∧ z ≤ (nI (T 2) - nI 1).toInt64) ↔ (0 ≤ z.toInt ∧ z.toInt < T 2) := by
    rw [Int64.le_iff_toInt_le, Int64.le_iff_toInt_le, pk_lT (by omega), pred_toInt (by omega)]; omega
  simp only [e]
theorem c9_rowL {N d : Nat} {X : lt_X} {I : Nat → Nat → Int32} {J : Nat → Nat → Int64} {T : Nat → Nat} (hT : TM (I 140) T) (hw : WF T) {a n : Nat} (ha : a < 4) (hn : n ≤ 6) : ∀ k i s z, i + k = n → s < 2 ^ 6 → k < z → RX9_whyNoPick_52 N d z X (nI a) (nI n) (nI s) (nI i) I J = some (.int (nI (if rwp (fun i => J 138 (60 * a + i)) (T 2) k i s = true then 0 else 5)), (mkh X I J)) := by
  have h2 := hw.1.2.2.1
  intro k
  induction k with
  | zero =>
    intro i s z hi hs hz
    obtain ⟨z, rfl⟩ : ∃ y, z = y + 1 := ⟨z - 1, by omega⟩
    rw [sX9_whyNoPick_52 N d z, nc_nlt (by omega) (by omega)]
    rfl
  | succ k ih =>
    intro i s z hi hs hz
    obtain ⟨z, rfl⟩ : ∃ y, z = y + 1 := ⟨z - 1, by omega⟩
    rw [sX9_whyNoPick_52 N d z, nc_lt (by omega) (by omega), c9_numberOf ha (by omega), cL_some9, kX9_whyNoPick_1 N d z, c9_isPersonL hT hw, cI_some, kX9_whyNoPick_3 N d z, nc_10]
    unfold rwp
    by_cases r : 0 ≤ (J 138 (60 * a + i)).toInt ∧ (J 138 (60 * a + i)).toInt < T 2
    · rw [if_pos r, decide_eq_true r, Bool.true_and, c9_numberOf ha (by omega), cL_some9, kX9_whyNoPick_4 N d z]
      have hj : (J 138 (60 * a + i)).toInt.toNat < 6 := by omega
      have hz := z_lN (by omega) r
      generalize hq : (J 138 (60 * a + i)).toInt.toNat = j at *
      rw [hz, lN_i32 (by omega), c9_has (by omega) (by omega), cI_some, kX9_whyNoPick_5 N d z, nc_10]
      by_cases r2 : s.testBit j = true
      · rw [if_pos r2, r2, if_neg (by simp)]
      · have rf : s.testBit j = false := by simpa using r2
        rw [if_neg r2, c9_numberOf ha (by omega), cL_some9, kX9_whyNoPick_6 N d z, hz, lN_i32 (by omega), rf, no_shl (by omega), no_or, nI_add, ih (i + 1) _ z (by omega) (or_p2 hs hj) (by omega), Bool.not_false, Bool.true_and]
    · rw [if_neg r, decide_eq_false r, Bool.false_and, if_neg (by simp)]
/-- what is wrong with a row of people in a tray -/
def PKS (I : Nat → Nat → Int32) (J : Nat → Nat → Int64) (T : Nat → Nat) (x y : Int32) (s : Nat) : Prop :=
  (inb x 4 = false ∧ s = 1) ∨ ∃ a, a < 4 ∧ x = nI a ∧ ((I (5 + 2 * a) 1 = nI 0 ∧ s = 3) ∨ ∃ m, I (5 + 2 * a) 1 = nI 1 ∧ I (5 + 2 * a) 3 = nI m ∧ m ≤ 60 ∧ (((m : Int) < y.toInt ∧ s = 4) ∨ (¬ (m : Int) < y.toInt ∧ ((rng y 0 6 = false ∧ s = 5) ∨ ∃ n, n ≤ 6 ∧ y = nI n ∧ n ≤ m ∧ s = (if rwp (J (6 + 2 * a)) (T 2) n 0 0 = true then 0 else 5)))))
theorem c9_whyNoPick {N d : Nat} {X : lt_X} {I : Nat → Nat → Int32} {J : Nat → Nat → Int64} {T : Nat → Nat} (hT : TM (I 140) T) (hw : WF T) (x y : Int32) (s : Nat) (K : Nat → Nat → Int32) (h137 : I 137 = K 137) (hR : TRY K J) (hs : PKS K J T x y s) (hN : 1000 ≤ N) : am_G am_prog (N + 30) (d + 4) 318 [.ref 135, .int x, .int y] (mkh X I J) = some (.int (nI s), (mkh X I J)) := by
  rw [gX9_whyNoPick N (d + 1), sX9_whyNoPick_0 N (d + 1), c9_isTray, cI_some, kX9_whyNoPick_0 N (d + 1), nc_10]
  rcases hs with ⟨q, rfl⟩ | ⟨a, ha, rfl, hs⟩
  · rw [if_neg (by rw [q]; simp)]
  · rw [if_pos (inb_nI ha (by omega))]
    rcases hs with ⟨q, rfl⟩ | ⟨m, a1, a2, hm, hs⟩
    · have o := try_out hR ha q
      simp (disch := first | assumption | omega) only [if_true, if_false, nc_in, nI_clamp, h137, o, if_pos (show (-1 : Int32) < nI 0 by decide)]
    · obtain ⟨m', s', hm', hs', b1, b2, b3, b4, b5, b6⟩ := try_in hR ha (by rw [a1]; decide)
      rw [a2] at b4
      have em : m = m' := (no_inj (by omega) (by omega)).mp b4
      subst em
      have e : (nI m < y) ↔ (m : Int) < y.toInt := nI_lt' (by omega)
      simp (disch := first | assumption | omega) only [if_true, if_false, nc_in, nI_clamp, h137, b5, nc_nlt]
      rcases hs with ⟨q, rfl⟩ | ⟨q, hs⟩
      · rw [if_pos (e.mpr q)]
      · rw [if_neg (fun h => q (e.mp h)), c9_in (by omega) (by omega), cI_some, kX9_whyNoPick_2 N (d + 1), nc_10]
        rcases hs with ⟨q2, rfl⟩ | ⟨n, hn, rfl, hnm, rfl⟩
        · rw [if_neg (by rw [q2]; simp)]
        · have q2 : rng (nI n) 0 6 = true := by unfold rng; rw [nI_toInt (by omega)]; exact decide_eq_true ⟨by omega, by omega⟩
          rw [if_pos q2, c9_rowL hT hw ha hn n 0 0 (N + 29) (by omega) (by omega) (by omega), rwp_congr (f := J (6 + 2 * a)) (g := fun i => J 138 (60 * a + i)) n 0 0 (fun j _ hj => b6 j (by omega))]
theorem c9_pickL {N d : Nat} {X : lt_X} {I : Nat → Nat → Int32} {J : Nat → Nat → Int64} {T : Nat → Nat} (hT : TM (I 140) T) (hw : WF T) (hW : ∀ p k, p < T 2 → k < T 3 → I 143 (6 * p + k) = nI (wth T p k)) {a k : Nat} (ha : a < 4) (hk : k < 6) (pr : Nat → Nat) (hp : ∀ i, i ≤ k → J 138 (60 * a + i) = lN (pr i) ∧ pr i < T 2) (hN : 1000 ≤ N) : RX9_pick_57 N d (N + 29) X (nI a) (nI k) (nI 0) (-1) (nI 0) I J = if pgt (wth T) (T 3) pr (k + 1) = 4294967295 then some (.int (-1), mkh X (u2 I 135 0 (nI 8)) J) else some (.int (nI (pgt (wth T) (T 3) pr (k + 1))), (mkh X I J)) := by
  obtain ⟨h0, h1, h2, h3, h4, h5, h6⟩ := hw.1
  rw [no_m1]
  refine (lqc (run := fun n i => RX9_pick_57 N d n X (nI a) (nI k) (nI (pgo (wth T) (T 3) pr i)) (nI (pgt (wth T) (T 3) pr i)) (nI i) I J) (m := k + 1) (c := 10) (B := 1) ?_ ?_ (k + 1) 0 (by omega)) (N + 29) (by omega)
  · intro i B hi e
    obtain ⟨j1, j2⟩ := hp i (by omega)
    have hb := pgo_lt (wth T) h3 pr i
    have hf := fm_lt (wth T (pr i)) (pgo (wth T) (T 3) pr i) (T 3)
    have inner := lqc (run := fun n s => RX9_pick_79 N d n X (nI a) (nI k) (nI (pgo (wth T) (T 3) pr i)) (nI (fm (wth T (pr i)) (pgo (wth T) (T 3) pr i) s)) (nI i) (nI (pr i)) (nI s) I J) (m := T 3) (c := 1) (B := B + 1) (R := if pgt (wth T) (T 3) pr (k + 1) = 4294967295 then some (.int 4294967295, mkh X (u2 I 135 0 (nI 8)) J) else some (.int (nI (pgt (wth T) (T 3) pr (k + 1))), (mkh X I J))) (fun s B' hs e' => ?_) ?_ (T 3) 0 (by omega)
    · refine ev_le (ev_s (fun n => ?_) inner) (by omega)
      rw [sX9_pick_57 N d n, nc_nlt (by omega) (by omega), c9_numberOf ha (by omega), cL_some9, kX9_pick_1 N d n, j1, lN_i32 (by omega), no_m1]
      rfl
    · have q := fm_lt (wth T (pr i)) (pgo (wth T) (T 3) pr i) s
      generalize hg : pgo (wth T) (T 3) pr i = g at *
      refine ev_s (fun n => ?_) e'
      rw [sX9_pick_79 N d n, tm3 hT, nc_lt hs (by omega), c9_has (by omega) (by omega), cI_some, kX9_pick_2 N d n, nc_10, nI_add]
      by_cases r : g.testBit s = true
      · have e' : fm (wth T (pr i)) g (s + 1) = fm (wth T (pr i)) g s := if_pos r
        rw [if_pos r, e']
      · rw [if_neg r]
        by_cases r2 : fm (wth T (pr i)) g s = 4294967295
        · have e' : fm (wth T (pr i)) g (s + 1) = s := (if_neg r).trans (if_pos r2)
          rw [nc_neg r2, e']
        · have l1 := wth_le hw j2 s
          have l2 := wth_le hw j2 (fm (wth T (pr i)) g s)
          rw [nc_nlt (by omega) (by omega), pk_mul, nI_add, nI_add, nc_in (by omega) (by omega), nc_in (by omega) (by omega), nI_clamp (by omega), nI_clamp (by omega), hW _ s j2 hs, hW _ _ j2 (by omega)]
          by_cases r3 : wth T (pr i) (fm (wth T (pr i)) g s) < wth T (pr i) s
          · have e' : fm (wth T (pr i)) g (s + 1) = s := (if_neg r).trans ((if_neg r2).trans (if_pos r3))
            rw [nc_lt r3 (by omega), e']
          · have e' : fm (wth T (pr i)) g (s + 1) = fm (wth T (pr i)) g s := (if_neg r).trans ((if_neg r2).trans (if_neg r3))
            rw [nc_nlt (by omega) (by omega), e']
    · refine ev_s (fun n => ?_) e
      rw [sX9_pick_79 N d n, tm3 hT, nc_nlt (by omega) (by omega), nI_add]
      by_cases r : fm (wth T (pr i)) (pgo (wth T) (T 3) pr i) (T 3) = 4294967295
      · have e' : pgo (wth T) (T 3) pr (i + 1) = pgo (wth T) (T 3) pr i := if_pos r
        rw [nc_neg r, e', no_or0]
        rfl
      · have e' : pgo (wth T) (T 3) pr (i + 1) = pgo (wth T) (T 3) pr i ||| 2 ^ fm (wth T (pr i)) (pgo (wth T) (T 3) pr i) (T 3) := if_neg r
        rw [nc_nlt (by omega) (by omega), no_shl (by omega), no_or, e']
        rfl
  · refine ev_0 (fun n => ?_)
    have hf := fm_lt (wth T (pr k)) (pgo (wth T) (T 3) pr k) (T 3)
    have e' : pgt (wth T) (T 3) pr (k + 1) = fm (wth T (pr k)) (pgo (wth T) (T 3) pr k) (T 3) := rfl
    rw [sX9_pick_57 N d n, nc_lt (by omega) (by omega)]
    by_cases r : pgt (wth T) (T 3) pr (k + 1) = 4294967295
    · rw [nc_neg r, if_pos r, no_m1]
    · rw [nc_nlt (by omega) (by omega), if_neg r]
