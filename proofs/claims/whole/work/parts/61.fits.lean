/-! fits, ask -/
def okz (z : Int64) (b : Nat) : Bool := decide (0 ≤ z.toInt ∧ z.toInt ≤ b)
theorem okz_e {z : Int64} {b : Nat} (h : okz z b = true) (hb : b < 2 ^ 31) : ∃ j, j ≤ b ∧ z = lN j := by
  have h := of_decide_eq_true h
  obtain ⟨j, hj⟩ : ∃ j : Nat, z.toInt = j := ⟨z.toInt.toNat, by omega⟩
  refine ⟨j, by omega, Int64.toInt_inj.mp ?_⟩
  rw [hj, pk_lT (by omega)]
theorem lc_lt0 (z : Int64) : (lg_cmp z (lN 0) < nI 0) ↔ z.toInt < 0 := by
  refine (lg_cmp_lt _ _).trans ?_
  rw [Int64.lt_iff_toInt_lt, pk_lT (by omega)]; rfl
theorem lc_gtb (z : Int64) {b : Nat} (hb : b < 2 ^ 31) : (nI 0 < lg_cmp z (lN b)) ↔ (b : Int) < z.toInt := by
  refine (lg_cmp_gt _ _).trans ?_
  rw [Int64.lt_iff_toInt_lt, pk_lT (by omega)]
theorem lc_ltn (z : Int64) {b : Nat} (hb : b < 2 ^ 31) : (lg_cmp z ((nI b).toInt64) < nI 0) ↔ z.toInt < b := by
  refine (lg_cmp_lt _ _).trans ?_
  rw [Int64.lt_iff_toInt_lt, Int32.toInt_toInt64, nI_toInt hb]
/-- the two of place i is as it must be -/
def twb (f : Nat → Int64) (T : Nat → Nat) (i : Nat) : Bool := okz (f (2 * i)) 9999 && decide (0 ≤ (f (2 * i + 1)).toInt ∧ (f (2 * i + 1)).toInt < T 0)
def twbad (f : Nat → Int64) (T : Nat → Nat) (n : Nat) : Nat := fnd (fun i => !twb f T i) 0 n
/-- what is wrong with the first so many of a tray -/
theorem c8_runStatus {N d : Nat} {X : lt_X} {I : Nat → Nat → Int32} {J : Nat → Nat → Int64} (hX : hsX X) (hR : TRY I J) (x : Int32) (l : Int64) : ∃ s : Nat, am_G am_prog (N + 30) (d + 2) 119 [.ref 3, .int x, .long l] (mkh X I J) = some (.int (nI s), (mkh X I J)) ∧ ((inb x 4 = false ∧ s = 1) ∨ (∃ i, i < 4 ∧ x = nI i ∧ ((I (5 + 2 * i) 1 = nI 0 ∧ s = 3) ∨ ∃ m, I (5 + 2 * i) 1 = nI 1 ∧ I (5 + 2 * i) 3 = nI m ∧ m ≤ 60 ∧ (((m : Int) < l.toInt ∧ s = 4) ∨ (¬ (m : Int) < l.toInt ∧ s = 0))))) := by
  rw [gX8_runStatus N d, sX8_runStatus_0 N d _ hX, c8_isTray hX, cI_some, kX8_runStatus_0 N d _ hX, nc_10]
  by_cases q : inb x 4 = true
  · obtain ⟨i, hi, rfl⟩ := inb_e q (by omega)
    have htr := tr_is hi
    rw [if_pos q, lR_tr hi, gI_tr htr]
    rcases hR i hi with ⟨a, -⟩ | ⟨a, m, s, hm, -, -, -, h3, -⟩
    · refine ⟨3, ?_, Or.inr ⟨i, hi, rfl, Or.inl ⟨a, rfl⟩⟩⟩
      rw [a, nc_eq rfl]
    · have e : (nI 0 < lg_cmp l ((nI m).toInt64)) ↔ (m : Int) < l.toInt := by
        refine (lg_cmp_gt _ _).trans ?_
        rw [Int64.lt_iff_toInt_lt, Int32.toInt_toInt64, nI_toInt (by omega)]
      rw [a, nc_ne (by omega) (by omega) (by omega), lR_tr hi, gI_tr htr, h3]
      by_cases q2 : (m : Int) < l.toInt
      · exact ⟨4, by rw [if_pos (e.mpr q2)], Or.inr ⟨i, hi, rfl, Or.inr ⟨m, a, h3, hm, Or.inl ⟨q2, rfl⟩⟩⟩⟩
      · exact ⟨0, by rw [if_neg (fun h => q2 (e.mp h))], Or.inr ⟨i, hi, rfl, Or.inr ⟨m, a, h3, hm, Or.inr ⟨q2, rfl⟩⟩⟩⟩
  · exact ⟨1, by rw [if_neg q], Or.inl ⟨by simpa using q, rfl⟩⟩
theorem two64 (y : Int32) : (lN 2 * y.toInt64).toInt = 2 * y.toInt := by
  rw [Int64.toInt_mul, Int32.toInt_toInt64, pk_lT (by omega)]
  have a1 := Int32.le_toInt y; have a2 := Int32.toInt_lt y
  exact Int.bmod_eq_of_le (by omega) (by omega)
/-- the answer's shape of both checks of twos -/
def TWO (I : Nat → Nat → Int32) (J : Nat → Nat → Int64) (T : Nat → Nat) (x y : Int32) (s : Nat) : Prop :=
  (inb x 4 = false ∧ s = 1) ∨ ∃ a, a < 4 ∧ x = nI a ∧ ((I (5 + 2 * a) 1 = nI 0 ∧ s = 3) ∨ ∃ m, I (5 + 2 * a) 1 = nI 1 ∧ I (5 + 2 * a) 3 = nI m ∧ m ≤ 60 ∧ (((m : Int) < 2 * y.toInt ∧ s = 4) ∨ (¬ (m : Int) < 2 * y.toInt ∧ ((rng y 0 20 = false ∧ s = 5) ∨ ∃ n, n ≤ 20 ∧ y = nI n ∧ 2 * n ≤ m ∧ ((twbad (J (6 + 2 * a)) T n < n ∧ s = 5) ∨ (¬ twbad (J (6 + 2 * a)) T n < n ∧ s = 0))))))
theorem c8_twosStatus {N d : Nat} {X : lt_X} {I : Nat → Nat → Int32} {J : Nat → Nat → Int64} {T : Nat → Nat} (hX : hsX X) (hT : TC I X.2.1 T) (hw : WF T) (hR : TRY I J) (x y : Int32) (hN : 1000 ≤ N) : ∃ s : Nat, am_G am_prog (N + 30) (d + 3) 159 [.ref 3, .int x, .int y] (mkh X I J) = some (.int (nI s), (mkh X I J)) ∧ TWO I J T x y s := by
  have h0 := hw.1.1
  obtain ⟨s, e, hs⟩ := c8_runStatus (N := N) (d := d) (X := X) (I := I) (J := J) hX hR x (lN 2 * y.toInt64)
  rw [gX8_twosStatus N d, sX8_twosStatus_0 N d _ hX, e, cI_some, kX8_twosStatus_0 N d _ hX]
  rw [two64] at hs
  rcases hs with ⟨q, rfl⟩ | ⟨a, ha, rfl, ⟨q, rfl⟩ | ⟨m, a1, a2, hm, ⟨q, rfl⟩ | ⟨q, rfl⟩⟩⟩
  · exact ⟨1, by rw [nc_ne (by omega) (by omega) (by omega)], Or.inl ⟨q, rfl⟩⟩
  · exact ⟨3, by rw [nc_ne (by omega) (by omega) (by omega)], Or.inr ⟨a, ha, rfl, Or.inl ⟨q, rfl⟩⟩⟩
  · exact ⟨4, by rw [nc_ne (by omega) (by omega) (by omega)], Or.inr ⟨a, ha, rfl, Or.inr ⟨m, a1, a2, hm, Or.inl ⟨q, rfl⟩⟩⟩⟩
  · rw [nc_eq rfl, rng_c (by omega) (by omega)]
    by_cases q2 : rng y 0 20 = true
    rotate_left
    · exact ⟨5, by rw [if_neg q2], Or.inr ⟨a, ha, rfl, Or.inr ⟨m, a1, a2, hm, Or.inr ⟨q, Or.inl ⟨by simpa using q2, rfl⟩⟩⟩⟩⟩
    obtain ⟨n, -, hn, rfl⟩ := rng_e q2 (by omega)
    have hnm : 2 * n ≤ m := by rw [nI_toInt (by omega)] at q; omega
    have htr := tr_is ha
    have hb : ∀ k i (z : Nat), i + k = n → k < z → RX8_twosStatus_33 N d z X (nI a) (nI n) (nI i) I J = if fnd (fun i => !twb (J (6 + 2 * a)) T i) i k < n then some (.int (nI 5), (mkh X I J)) else some (.int (nI 0), (mkh X I J)) := by
      refine lqf (run := fun z i => RX8_twosStatus_33 N d z X (nI a) (nI n) (nI i) I J) (m := n) (p := fun i => !twb (J (6 + 2 * a)) T i) (A := fun _ => some (.int (nI 5), (mkh X I J))) (Z := some (.int (nI 0), (mkh X I J))) ?_ ?_ ?_
      · intro z i hi qb
        rw [sX8_twosStatus_33 N d z hX, nc_lt hi (by omega), pk_mul, nI_add, lR_tr ha, gR_tr htr, lL_tr htr (by omega), lR_tr ha, gR_tr htr, lL_tr htr (by omega), tc0 hT, show 5 + 2 * a + 1 = 6 + 2 * a by omega]
        have qb : twb (J (6 + 2 * a)) T i = false := by simpa using qb
        unfold twb okz at qb
        rw [Bool.and_eq_false_iff, decide_eq_false_iff_not, decide_eq_false_iff_not] at qb
        by_cases r1 : lg_cmp (J (6 + 2 * a) (2 * i)) (lN 0) < nI 0
        · rw [if_pos r1]
        · rw [if_neg r1]
          rw [lc_lt0] at r1
          by_cases r2 : nI 0 < lg_cmp (J (6 + 2 * a) (2 * i)) (lN 9999)
          · rw [if_pos r2]
          · rw [if_neg r2]
            rw [lc_gtb _ (by omega)] at r2
            by_cases r3 : lg_cmp (J (6 + 2 * a) (2 * i + 1)) (lN 0) < nI 0
            · rw [if_pos r3]
            · rw [if_neg r3]
              rw [lc_lt0] at r3
              rw [if_neg]
              rw [lc_ltn _ (by omega)]
              omega
      · intro z i hi qb
        rw [sX8_twosStatus_33 N d z hX, nc_lt hi (by omega), pk_mul, nI_add, lR_tr ha, gR_tr htr, lL_tr htr (by omega), lR_tr ha, gR_tr htr, lL_tr htr (by omega), tc0 hT, show 5 + 2 * a + 1 = 6 + 2 * a by omega]
        have qb : twb (J (6 + 2 * a)) T i = true := by simpa using qb
        unfold twb okz at qb
        rw [Bool.and_eq_true, decide_eq_true_eq, decide_eq_true_eq] at qb
        rw [if_neg (by rw [lc_lt0]; omega), if_neg (by rw [lc_gtb _ (by omega)]; omega), if_neg (by rw [lc_lt0]; omega), if_pos (by rw [lc_ltn _ (by omega)]; omega), nI_add]
      · intro z
        rw [sX8_twosStatus_33 N d z hX, nc_nlt (Nat.le_refl _) (by omega)]
    rw [if_pos q2]
    have e1 := hb n 0 (N + 29) (by omega) (by omega)
    by_cases r : twbad (J (6 + 2 * a)) T n < n
    · exact ⟨5, e1.trans (if_pos r), Or.inr ⟨a, ha, rfl, Or.inr ⟨m, a1, a2, hm, Or.inr ⟨q, Or.inr ⟨n, hn, rfl, hnm, Or.inl ⟨r, rfl⟩⟩⟩⟩⟩⟩
    · exact ⟨0, e1.trans (if_neg r), Or.inr ⟨a, ha, rfl, Or.inr ⟨m, a1, a2, hm, Or.inr ⟨q, Or.inr ⟨n, hn, rfl, hnm, Or.inr ⟨r, rfl⟩⟩⟩⟩⟩⟩
theorem c9_isTray {N d : Nat} {X : lt_X} {I : Nat → Nat → Int32} {J : Nat → Nat → Int64} (x : Int32) : am_G am_prog (N + 30) (d + 2) 200 [.ref 135, .int x] (mkh X I J) = some (.int (nI (if inb x 4 = true then 1 else 0)), (mkh X I J)) := by
  have e : rng x 0 3 = inb x 4 := by unfold rng inb; congr 1; apply propext; omega
  rw [gX9_isTray N d, sX9_isTray_0 N d, c9_in (by omega) (by omega), cI_some, kX9_isTray_0 N d, nb_10, e]
theorem c9_numberOf {N d : Nat} {X : lt_X} {I : Nat → Nat → Int32} {J : Nat → Nat → Int64} {a p : Nat} (ha : a < 4) (hp : p < 60) : am_G am_prog (N + 30) (d + 1) 199 [.ref 135, .int (nI a), .int (nI p)] (mkh X I J) = some (.long (J 138 (60 * a + p)), (mkh X I J)) := by
  rw [gX9_numberOf N d, sX9_numberOf_0 N d, pk_mul, nI_add, nc_in (by omega) (by omega), nI_clamp (by omega)]
theorem c9_isSubjectL {N d : Nat} {X : lt_X} {I : Nat → Nat → Int32} {J : Nat → Nat → Int64} {T : Nat → Nat} (hT : TM (I 140) T) (hw : WF T) (z : Int64) : am_G am_prog (N + 30) (d + 2) 258 [.ref 135, .long z] (mkh X I J) = some (.int (nI (if 0 ≤ z.toInt ∧ z.toInt < T 0 then 1 else 0)), (mkh X I J)) := by
  have h1 := hw.1.1
  rw [gX9_isSubjectAt N d, sX9_isSubjectAt_0 N d, tm0 hT, c9_isInL, cI_some, kX9_isSubjectAt_0 N d, nb_10]
  have e : (lN 0 ≤ z ∧ z ≤ (nI (T 0) - nI 1).toInt64) ↔ (0 ≤ z.toInt ∧ z.toInt < T 0) := by
    rw [Int64.le_iff_toInt_le, Int64.le_iff_toInt_le, pk_lT (by omega), pred_toInt (by omega)]; omega
  simp only [e]
theorem c9_inL {N d : Nat} {X : lt_X} {I : Nat → Nat → Int32} {J : Nat → Nat → Int64} (z : Int64) {b : Nat} (hb : b < 2 ^ 31) : am_G am_prog (N + 30) (d + 1) 190 [.long z, .long (lN 0), .long (lN b)] (mkh X I J) = some (.int (nI (if okz z b = true then 1 else 0)), (mkh X I J)) := by
  rw [c9_isInL]
  have e : (lN 0 ≤ z ∧ z ≤ lN b) ↔ okz z b = true := by
    rw [Int64.le_iff_toInt_le, Int64.le_iff_toInt_le, pk_lT (by omega), pk_lT (by omega)]; unfold okz; simp
  simp only [e]
theorem c9_whyNotFits {N d : Nat} {X : lt_X} {I : Nat → Nat → Int32} {J : Nat → Nat → Int64} {T : Nat → Nat} (hT : TM (I 140) T) (hw : WF T) (x y : Int32) (s : Nat) (K : Nat → Nat → Int32) (h137 : I 137 = K 137) (hR : TRY K J) (hs : TWO K J T x y s) (hN : 1000 ≤ N) : am_G am_prog (N + 30) (d + 3) 320 [.ref 135, .int x, .int y] (mkh X I J) = some (.int (nI s), (mkh X I J)) := by
  have h0 := hw.1.1
  rw [gX9_whyNotFits N d, sX9_whyNotFits_0 N d, c9_isTray, cI_some, kX9_whyNotFits_0 N d, nc_10]
  rcases hs with ⟨q, rfl⟩ | ⟨a, ha, rfl, hs⟩
  · rw [if_neg (by rw [q]; simp)]
  · rw [if_pos (inb_nI ha (by omega))]
    rcases hs with ⟨q, rfl⟩ | ⟨m, a1, a2, hm, hs⟩
    · have o := try_out hR ha q
      simp (disch := first | assumption | omega) only [if_true, if_false, nc_in, nI_clamp, h137, o, if_pos (show (-1 : Int32) < nI 0 by decide)]
    · obtain ⟨m', s', hm', hs', b1, b2, b3, b4, b5, b6⟩ := try_in hR ha (by rw [a1]; decide)
      rw [a2] at b4
      have em : m = m' := (no_inj (by omega) (by omega)).mp b4
      subst em
      have e : (lg_cmp ((nI m).toInt64) (lN 2 * y.toInt64) < nI 0) ↔ (m : Int) < 2 * y.toInt := by
        refine (lg_cmp_lt _ _).trans ?_
        rw [Int64.lt_iff_toInt_lt, Int32.toInt_toInt64, nI_toInt (by omega), two64]
      simp (disch := first | assumption | omega) only [if_true, if_false, nc_in, nI_clamp, h137, b5, nc_nlt]
      rcases hs with ⟨q, rfl⟩ | ⟨q, hs⟩
      · rw [if_pos (e.mpr q)]
      · rw [if_neg (fun h => q (e.mp h)), c9_in (by omega) (by omega), cI_some, kX9_whyNotFits_2 N d, nc_10]
        rcases hs with ⟨q2, rfl⟩ | ⟨n, hn, rfl, hnm, hs⟩
        · rw [if_neg (by rw [q2]; simp)]
        · have q2 : rng (nI n) 0 20 = true := by unfold rng; rw [nI_toInt (by omega)]; exact decide_eq_true ⟨by omega, by omega⟩
          rw [if_pos q2]
          have hb : ∀ k i (z : Nat), i + k = n → k < z → RX9_whyNotFits_56 N d z X (nI a) (nI n) (nI i) I J = if fnd (fun i => !twb (J (6 + 2 * a)) T i) i k < n then some (.int (nI 5), (mkh X I J)) else some (.int (nI 0), (mkh X I J)) := by
            refine lqf (run := fun z i => RX9_whyNotFits_56 N d z X (nI a) (nI n) (nI i) I J) (m := n) (p := fun i => !twb (J (6 + 2 * a)) T i) (A := fun _ => some (.int (nI 5), (mkh X I J))) (Z := some (.int (nI 0), (mkh X I J))) ?_ ?_ ?_
            · intro z i hi qb
              have qb : twb (J (6 + 2 * a)) T i = false := by simpa using qb
              unfold twb at qb
              rw [Bool.and_eq_false_iff, decide_eq_false_iff_not, b6 (2 * i) (by omega), b6 (2 * i + 1) (by omega)] at qb
              rw [sX9_whyNotFits_56 N d z, nc_lt hi (by omega), pk_mul, c9_numberOf ha (by omega), cL_some9, kX9_whyNotFits_1 N d z, c9_inL _ (by omega), cI_some, kX9_whyNotFits_3 N d z, nc_10]
              by_cases r1 : okz (J 138 (60 * a + 2 * i)) 9999 = true
              · rw [if_pos r1, pk_mul, nI_add, c9_numberOf ha (by omega), cL_some9, kX9_whyNotFits_4 N d z, c9_isSubjectL hT hw, cI_some, kX9_whyNotFits_5 N d z, nc_10, if_neg]
                rcases qb with qb | qb
                · rw [r1] at qb; cases qb
                · exact qb
              · rw [if_neg r1]
            · intro z i hi qb
              have qb : twb (J (6 + 2 * a)) T i = true := by simpa using qb
              unfold twb at qb
              rw [Bool.and_eq_true, decide_eq_true_eq, b6 (2 * i) (by omega), b6 (2 * i + 1) (by omega)] at qb
              rw [sX9_whyNotFits_56 N d z, nc_lt hi (by omega), pk_mul, c9_numberOf ha (by omega), cL_some9, kX9_whyNotFits_1 N d z, c9_inL _ (by omega), cI_some, kX9_whyNotFits_3 N d z, nc_10, if_pos qb.1, pk_mul, nI_add, c9_numberOf ha (by omega), cL_some9, kX9_whyNotFits_4 N d z, c9_isSubjectL hT hw, cI_some, kX9_whyNotFits_5 N d z, nc_10, if_pos qb.2, nI_add]
            · intro z
              rw [sX9_whyNotFits_56 N d z, nc_nlt (Nat.le_refl _) (by omega)]
          have e1 := hb n 0 (N + 29) (by omega) (by omega)
          rcases hs with ⟨r, rfl⟩ | ⟨r, rfl⟩
          · exact e1.trans (if_pos r)
          · exact e1.trans (if_neg r)
/-! which voices fit -/
def okn (T : Nat → Nat) (hf sf : Nat → Nat) (v : Nat) : Nat → Bool
  | 0 => true
  | i + 1 => okn T hf sf v i && (plc T v (hf i) == sf i)
def fitS (T : Nat → Nat) (hf sf : Nat → Nat) (n : Nat) : Nat := bst (fun v => okn T hf sf v n) (T 1)
theorem bst_all (m : Nat) : bst (fun _ => true) m = 2 ^ m - 1 := by
  apply Nat.eq_of_testBit_eq
  intro i
  rw [bst_bit', Nat.testBit_two_pow_sub_one, Bool.and_true]
theorem lg_z {p s : Nat} (hp : p < 2 ^ 31) (hs : s < 2 ^ 31) : (lg_cmp ((nI p).toInt64) (lN s) = nI 0) ↔ p = s := by
  rw [nI_l hp]
  refine (lg_cmp_eq _ _).trans ?_
  exact pk_lEQ (by omega) (by omega)
theorem c5_voicesThatFit {N d : Nat} {X : lt_X} {I : Nat → Nat → Int32} {J : Nat → Nat → Int64} {t : Nat} {T : Nat → Nat} (ht : isT t) (hT : TC I t T) (hw : WF T) {tr n : Nat} (htr : isTr tr) {hf sf : Nat → Nat} (hn : n ≤ 20) (hJ : ∀ i, i < n → J (tr + 1) (2 * i) = lN (hf i) ∧ hf i ≤ 9999 ∧ J (tr + 1) (2 * i + 1) = lN (sf i) ∧ sf i < T 0) (hN : 1000 ≤ N) : am_G am_prog (N + 30) (d + 2) 86 [.ref t, .ref tr, .int (nI n)] (mkh X I J) = some (.int (nI (fitS T hf sf n)), (mkh X I J)) := by
  obtain ⟨h0, h1, h2, h3, -⟩ := hw.1
  have hp1 : 2 ^ T 1 ≤ 2 ^ 6 := Nat.pow_le_pow_right (by omega) h1
  have hp0 : 0 < 2 ^ T 1 := Nat.pow_pos (by omega)
  rw [gX5_voicesThatFit N (d + 1) ht htr, sX5_voicesThatFit_0 N (d + 1) _ ht htr, tc1 hT, no_shl (by omega), pk_sub (by omega), ← bst_all]
  refine lqc (run := fun m i => RX5_voicesThatFit_14 N (d + 1) m X t tr (nI n) (nI (bst (fun v => okn T hf sf v i) (T 1))) (nI i) I J) (m := n) (c := 8) (B := 1) (R := some (.int (nI (fitS T hf sf n)), (mkh X I J))) ?_ ?_ n 0 (by omega) (N + 29) (by omega)
  · intro i B hi e0
    obtain ⟨j1, j2, j3, j4⟩ := hJ i hi
    have es : bst (fun v => okn T hf sf v i && (decide (0 ≤ v) || (plc T v (hf i) == sf i))) (T 1) = bst (fun v => okn T hf sf v i) (T 1) := bst_congr _ (fun v _ => by simp)
    have ee : bst (fun v => okn T hf sf v i && (decide (T 1 ≤ v) || (plc T v (hf i) == sf i))) (T 1) = bst (fun v => okn T hf sf v (i + 1)) (T 1) := bst_congr _ (fun v hv => by
      show (okn T hf sf v i && (decide (T 1 ≤ v) || (plc T v (hf i) == sf i))) = (okn T hf sf v i && (plc T v (hf i) == sf i))
      rw [decide_eq_false (by omega), Bool.false_or])
    have inner := lqc (run := fun m j => RX5_voicesThatFit_59 N (d + 1) m X t tr (nI n) (nI (bst (fun v => okn T hf sf v i && (decide (j ≤ v) || (plc T v (hf i) == sf i))) (T 1))) (nI i) (nI (hf i)) (lN (sf i)) (nI j) I J) (m := T 1) (c := 1) (B := B + 1) (R := some (.int (nI (fitS T hf sf n)), (mkh X I J))) (fun j B' hj e1 => by
      refine ev_s (fun m => ?_) e1
      have hpl := plc_lt hw hj (h := hf i)
      rw [sX5_voicesThatFit_59 N (d + 1) m ht htr, tc1 hT, nc_lt hj (by omega), c5_placedAt ht hT hw hj (by omega), cI_some, kX5_voicesThatFit_0 N (d + 1) m ht htr, nI_add]
      by_cases r : plc T j (hf i) = sf i
      · rw [if_pos ((lg_z (by omega) (by omega)).mpr r)]
        rw [bst_congr (c := fun v => okn T hf sf v i && (decide (j ≤ v) || (plc T v (hf i) == sf i))) (e := fun v => okn T hf sf v i && (decide (j + 1 ≤ v) || (plc T v (hf i) == sf i))) (T 1) (fun v hv => by
          by_cases rv : v = j
          · subst rv; simp [r]
          · have : decide (j ≤ v) = decide (j + 1 ≤ v) := by simp; omega
            simp only [this])]
      · rw [if_neg (fun h => r ((lg_z (by omega) (by omega)).mp h)), no_shl (by omega), no_not (Nat.pow_lt_pow_right (by omega) (by omega)), no_and]
        rw [← bst_clr (c := fun v => okn T hf sf v i && (decide (j ≤ v) || (plc T v (hf i) == sf i))) (e := fun v => okn T hf sf v i && (decide (j + 1 ≤ v) || (plc T v (hf i) == sf i))) (by omega) hj (fun v hv hne => by
          have : decide (j ≤ v) = decide (j + 1 ≤ v) := by simp; omega
          simp only [this]) (by simp [r])]) (ev_s (fun m => by
      rw [sX5_voicesThatFit_59 N (d + 1) m ht htr, tc1 hT, nc_nlt (Nat.le_refl _) (by omega), nI_add, ee]) e0) (T 1) 0 (by omega)
    rw [es] at inner
    refine ev_le (ev_s (fun m => ?_) inner) (by omega)
    rw [sX5_voicesThatFit_14 N (d + 1) m ht htr, nc_lt hi (by omega), pk_mul, nI_add, nc_lt (by omega) (by omega)]
    simp (disch := first | assumption | omega) only [nc_in, nI_clamp, j1, j3, lN_i]
  · refine ev_0 (fun m => ?_)
    rw [sX5_voicesThatFit_14 N (d + 1) m ht htr, nc_nlt (Nat.le_refl _) (by omega)]
    rfl
theorem okn_mono {T : Nat → Nat} {hf sf : Nat → Nat} {v : Nat} : ∀ k i, okn T hf sf v i = false → okn T hf sf v (i + k) = false := by
  intro k
  induction k with
  | zero => intro i h; exact h
  | succ k ih =>
    intro i h
    show (okn T hf sf v (i + k) && _) = false
    rw [ih i h]; rfl
theorem c9_fitting {N d : Nat} {X : lt_X} {I : Nat → Nat → Int32} {J : Nat → Nat → Int64} {T : Nat → Nat} (hT : TM (I 140) T) (hw : WF T) {a n : Nat} (ha : a < 4) {hf sf : Nat → Nat} (hn : n ≤ 20) (hJ : ∀ i, i < n → J 138 (60 * a + 2 * i) = lN (hf i) ∧ hf i ≤ 9999 ∧ J 138 (60 * a + (2 * i + 1)) = lN (sf i) ∧ sf i < T 0) (hN : 1000 ≤ N) : am_G am_prog (N + 30) (d + 2) 321 [.ref 135, .int (nI a), .int (nI n)] (mkh X I J) = some (.int (nI (fitS T hf sf n)), (mkh X I J)) := by
  obtain ⟨h0, h1, h2, h3, -⟩ := hw.1
  rw [gX9_fitting N d, sX9_fitting_0 N d]
  refine lqc (run := fun m v => RX9_fitting_5 N d m X (nI a) (nI n) (nI (bst (fun v => okn T hf sf v n) v)) (nI v) I J) (m := T 1) (c := 25) (B := 1) (R := some (.int (nI (fitS T hf sf n)), (mkh X I J))) ?_ ?_ (T 1) 0 (by omega) (N + 29) (by omega)
  · intro v B hv e0
    have e78 : ev (fun m => RX9_fitting_78 N d m X (nI a) (nI n) (nI (bst (fun v => okn T hf sf v n) v)) (nI v) (nI (if okn T hf sf v n = true then 1 else 0)) I J) (B + 1) (some (.int (nI (fitS T hf sf n)), (mkh X I J))) := by
      refine ev_s (fun m => ?_) e0
      rw [sX9_fitting_78 N d m, nc_10]
      by_cases r : okn T hf sf v n = true
      · have e : bst (fun v => okn T hf sf v n) (v + 1) = bst (fun v => okn T hf sf v n) v ||| 2 ^ v := by simp [bst, orf, r]
        rw [if_pos r, no_shl (by omega), no_or, nI_add, e]
      · have e : bst (fun v => okn T hf sf v n) (v + 1) = bst (fun v => okn T hf sf v n) v := by simp [bst, orf, r]
        rw [if_neg r, no_or0, nI_add, e]
    have inner : ∀ k i, i + k = n → ev (fun m => RX9_fitting_22 N d m X (nI a) (nI n) (nI (bst (fun v => okn T hf sf v n) v)) (nI v) (nI (if okn T hf sf v i = true then 1 else 0)) (nI i) I J) (B + 1 + 1 + k) (some (.int (nI (fitS T hf sf n)), (mkh X I J))) := by
      intro k
      induction k with
      | zero =>
        intro i hi
        have e : i = n := by omega
        subst e
        refine ev_s (fun m => ?_) e78
        rw [sX9_fitting_22 N d m, nc_nlt (Nat.le_refl _) (by omega)]
      | succ k ih =>
        intro i hi
        obtain ⟨j1, j2, j3, j4⟩ := hJ i (by omega)
        by_cases r : okn T hf sf v i = true
        · refine ev_s (fun m => ?_) (ih (i + 1) (by omega))
          have hpl := plc_lt hw hv (h := hf i)
          rw [sX9_fitting_22 N d m, nc_lt (by omega) (by omega), nc_10, if_pos r, pk_mul, c9_numberOf ha (by omega), cL_some9, j1, kX9_fitting_0 N d m, lN_i, c9_placeOf hT hw hv (by omega), cI_some, kX9_fitting_1 N d m, pk_mul, nI_add, c9_numberOf ha (by omega), cL_some9, j3, kX9_fitting_2 N d m, nI_add]
          by_cases r2 : plc T v (hf i) = sf i
          · have e : okn T hf sf v (i + 1) = true := by show (okn T hf sf v i && _) = true; simp [r, r2]
            rw [if_pos ((lg_z (by omega) (by omega)).mpr r2), if_pos e]
          · have e : ¬ okn T hf sf v (i + 1) = true := by show ¬ (okn T hf sf v i && _) = true; simp [r2]
            rw [if_neg (fun h => r2 ((lg_z (by omega) (by omega)).mp h)), if_neg e]
        · have rf : okn T hf sf v i = false := by simpa using r
          have rn : okn T hf sf v n = false := by rw [← hi]; exact okn_mono (k + 1) i rf
          rw [rn] at e78
          rw [rf]
          refine ev_le (ev_s (fun m => ?_) e78) (by omega)
          rw [sX9_fitting_22 N d m, nc_lt (by omega) (by omega), nc_10, if_neg (by simp)]
    refine ev_le (ev_s (fun m => ?_) (inner n 0 (by omega))) (by omega)
    rw [sX9_fitting_5 N d m, tm1 hT, nc_lt hv (by omega)]
    rfl
  · refine ev_0 (fun m => ?_)
    rw [sX9_fitting_5 N d m, tm1 hT, nc_nlt (Nat.le_refl _) (by omega)]
    rfl
theorem two_ok {f : Nat → Int64} {T : Nat → Nat} {n : Nat} (h0 : T 0 ≤ 6) (h : ¬ twbad f T n < n) : ∃ hf sf : Nat → Nat, ∀ i, i < n → f (2 * i) = lN (hf i) ∧ hf i ≤ 9999 ∧ f (2 * i + 1) = lN (sf i) ∧ sf i < T 0 := by
  obtain ⟨-, a2, a3, -⟩ := fnd_spec (fun i => !twb f T i) n 0
  have e : fnd (fun i => !twb f T i) 0 n = n := by unfold twbad at h; omega
  rw [e] at a3
  refine ⟨fun i => (f (2 * i)).toInt.toNat, fun i => (f (2 * i + 1)).toInt.toNat, fun i hi => ?_⟩
  have hb : twb f T i = true := by simpa using a3 i (by omega) hi
  unfold twb okz at hb
  rw [Bool.and_eq_true, decide_eq_true_eq, decide_eq_true_eq] at hb
  show f (2 * i) = lN (f (2 * i)).toInt.toNat ∧ (f (2 * i)).toInt.toNat ≤ 9999 ∧ f (2 * i + 1) = lN (f (2 * i + 1)).toInt.toNat ∧ (f (2 * i + 1)).toInt.toNat < T 0
  refine ⟨Int64.toInt_inj.mp ?_, by omega, Int64.toInt_inj.mp ?_, by omega⟩
  · rw [pk_lT (by omega)]; omega
  · rw [pk_lT (by omega)]; omega
theorem TWO_0 {I : Nat → Nat → Int32} {J : Nat → Nat → Int64} {T : Nat → Nat} {x y : Int32} (h : TWO I J T x y 0) : ∃ a n m, a < 4 ∧ x = nI a ∧ n ≤ 20 ∧ y = nI n ∧ 2 * n ≤ m ∧ m ≤ 60 ∧ I (5 + 2 * a) 1 = nI 1 ∧ I (5 + 2 * a) 3 = nI m ∧ ¬ twbad (J (6 + 2 * a)) T n < n := by
  rcases h with ⟨-, h⟩ | ⟨a, ha, hx, ⟨-, h⟩ | ⟨m, a1, a2, hm, ⟨-, h⟩ | ⟨-, ⟨-, h⟩ | ⟨n, hn, hy, hnm, ⟨-, h⟩ | ⟨h, -⟩⟩⟩⟩⟩
  · omega
  · omega
  · omega
  · omega
  · omega
  · exact ⟨a, n, m, ha, hx, hn, hy, hnm, hm, a1, a2, h⟩
theorem TWO_le {I : Nat → Nat → Int32} {J : Nat → Nat → Int64} {T : Nat → Nat} {x y : Int32} {s : Nat} (h : TWO I J T x y s) : s ≤ 5 := by
  rcases h with ⟨-, h⟩ | ⟨a, ha, hx, ⟨-, h⟩ | ⟨m, a1, a2, hm, ⟨-, h⟩ | ⟨-, ⟨-, h⟩ | ⟨n, hn, hy, hnm, ⟨-, h⟩ | ⟨-, h⟩⟩⟩⟩⟩ <;> omega
theorem p_fits {xs : Nat → Int32} {N d : Nat} {X : lt_X} {I : Nat → Nat → Int32} {J : Nat → Nat → Int64} (H : INV xs X I J) (hN : 100000 ≤ N) (x y : Int32) : PR xs N d X I J 157 322 [.int x, .int y] := by
  obtain ⟨T, hw, hT, hM, hX, ht⟩ := INV_T H
  obtain ⟨h0, h1, h2, h3, h4, h5, h6⟩ := hw.1
  have hR := H.2.2.2.2.1
  obtain ⟨s, e, hs⟩ := c8_twosStatus (N := N) (d := d + 36) (X := X) (I := I) (J := J) hX hT hw hR x y (by omega)
  have mm : ∀ K : Nat → Nat → Int32, (∀ a, a ≠ 3 → ¬ (126 ≤ a ∧ a ≤ 133) → K a = I a) → am_G am_prog (N + 30) (d + 39) 320 [.ref 135, .int x, .int y] (mkh X (u2 K 135 1 (nI 0)) J) = some (.int (nI s), mkh X (u2 K 135 1 (nI 0)) J) := by
    intro K hK
    exact c9_whyNotFits (d := d + 36) (I := u2 K 135 1 (nI 0)) (T := T) (by rw [u2_na _ _ _ _ _ (by omega), hK 140 (by omega) (by omega)]; exact hM) hw x y s I (by rw [u2_na _ _ _ _ _ (by omega), hK 137 (by omega) (by omega)]) hR hs (by omega)
  by_cases q : s = 0
  · subst q
    obtain ⟨a, n, m, ha, rfl, hn, rfl, hnm, hm, a1, a2, hb⟩ := TWO_0 hs
    obtain ⟨hf, sf, hJ⟩ := two_ok h0 hb
    obtain ⟨m', s', hm', hs', -, -, -, b4, -, b6⟩ := try_in hR ha (by rw [a1]; decide)
    have em : m = m' := (no_inj (by omega) (by omega)).mp (by rw [← a2, ← b4])
    refine PR_tells H (.int (nI (fitS T hf sf n))) (nI 0) (CR_st ?_) (fun K hK => MR_0 (a := nI 0) ?_)
    · rw [gX8_fits N (d + 38), sX8_fits_0 N (d + 38) _ hX]
      rw [e, cI_some, kX8_fits_0 N (d + 38) _ hX, nc_eq rfl, lR_tr ha, c5_voicesThatFit ht hT hw (tr_is ha) hn (fun i hi => by rw [show 5 + 2 * a + 1 = 6 + 2 * a by omega]; exact hJ i hi) (by omega), cI_some, kX8_fits_1 N (d + 38) _ hX]
    · rw [gX9_fits N (d + 39), sX9_fits_0 N (d + 39)]
      rw [mm K hK, cI_some, kX9_fits_0 N (d + 39), nc_nlt (by omega) (by omega), c9_fitting (I := u2 (u2 K 135 1 (nI 0)) 135 0 (nI 0)) (T := T) (by rw [u2_na _ _ _ _ _ (by omega), u2_na _ _ _ _ _ (by omega), hK 140 (by omega) (by omega)]; exact hM) hw ha hn (fun i hi => by rw [← b6 (2 * i) (by omega), ← b6 (2 * i + 1) (by omega)]; exact hJ i hi) (by omega), cI_some, kX9_fits_1 N (d + 39)]
  · have h5 := TWO_le hs
    refine PR_tells H (.int (-1)) (nI s) (CR_st ?_) (fun K hK => MR_0 (a := nI 0) ?_)
    · rw [gX8_fits N (d + 38), sX8_fits_0 N (d + 38) _ hX]
      rw [e, cI_some, kX8_fits_0 N (d + 38) _ hX, nc_ne (by omega) (by omega) (by omega)]
    · rw [gX9_fits N (d + 39), sX9_fits_0 N (d + 39)]
      rw [mm K hK, cI_some, kX9_fits_0 N (d + 39), nc_lt (by omega) (by omega)]
theorem c9_askL {N d : Nat} {X : lt_X} {I : Nat → Nat → Int32} {J : Nat → Nat → Int64} {T : Nat → Nat} (hT : TM (I 140) T) (hw : WF T) {vs : Nat} (hv : vs < 2 ^ 31) (hN : 1000 ≤ N) : RX9_ask_52 N (d + 1) (N + 29) X (nI vs) (nI 0) (nI 1) I J = some (.int (nI (hrp T vs)), (mkh X I J)) := by
  refine lqs (run := fun n i => RX9_ask_52 N (d + 1) n X (nI vs) (nI (bof (fun a b => decide (mst T vs a < mst T vs b)) i)) (nI (i + 1)) I J) (m := 99) ?_ ?_ (N + 29) 0 (by omega) (by omega)
  · intro n i hi
    have hl := mst_le hw vs (i + 1)
    have hb := bof_le (fun a b => decide (mst T vs a < mst T vs b)) i
    have hl2 := mst_le hw vs (bof (fun a b => decide (mst T vs a < mst T vs b)) i)
    rw [sX9_ask_52 N (d + 1) n, nc_nlt (by omega) (by omega), c9_alikeIn hT hw hv (by omega) hN, cI_some, kX9_ask_1 N (d + 1) n, c9_alikeIn hT hw hv (by omega) hN, cI_some, kX9_ask_3 N (d + 1) n, nI_add]
    by_cases q : mst T vs (i + 1) < mst T vs (bof (fun a b => decide (mst T vs a < mst T vs b)) i)
    · have e : bof (fun a b => decide (mst T vs a < mst T vs b)) (i + 1) = i + 1 := by simp [bof, q]
      rw [nc_lt q (by omega), e]
    · have e : bof (fun a b => decide (mst T vs a < mst T vs b)) (i + 1) = bof (fun a b => decide (mst T vs a < mst T vs b)) i := by simp [bof, q]
      rw [nc_nlt (by omega) (by omega), e]
  · intro n
    rw [sX9_ask_52 N (d + 1) n, nc_lt (by omega) (by omega)]
    rfl
theorem p_ask {xs : Nat → Int32} {N d : Nat} {X : lt_X} {I : Nat → Nat → Int32} {J : Nat → Nat → Int64} (H : INV xs X I J) (hN : 100000 ≤ N) (x y : Int32) : PR xs N d X I J 158 324 [.int x, .int y] := by
  obtain ⟨T, hw, hT, hM, hX, ht⟩ := INV_T H
  obtain ⟨h0, h1, h2, h3, h4, h5, h6⟩ := hw.1
  have hR := H.2.2.2.2.1
  obtain ⟨s, e, hs⟩ := c8_twosStatus (N := N) (d := d + 36) (X := X) (I := I) (J := J) hX hT hw hR x y (by omega)
  have mm : ∀ K : Nat → Nat → Int32, (∀ a, a ≠ 3 → ¬ (126 ≤ a ∧ a ≤ 133) → K a = I a) → am_G am_prog (N + 30) (d + 39) 320 [.ref 135, .int x, .int y] (mkh X (u2 K 135 1 (nI 0)) J) = some (.int (nI s), mkh X (u2 K 135 1 (nI 0)) J) := by
    intro K hK
    exact c9_whyNotFits (d := d + 36) (I := u2 K 135 1 (nI 0)) (T := T) (by rw [u2_na _ _ _ _ _ (by omega), hK 140 (by omega) (by omega)]; exact hM) hw x y s I (by rw [u2_na _ _ _ _ _ (by omega), hK 137 (by omega) (by omega)]) hR hs (by omega)
  by_cases q : s = 0
  · subst q
    obtain ⟨a, n, m, ha, rfl, hn, rfl, hnm, hm, a1, a2, hb⟩ := TWO_0 hs
    obtain ⟨hf, sf, hJ⟩ := two_ok h0 hb
    obtain ⟨m', s', hm', hs', -, -, -, b4, -, b6⟩ := try_in hR ha (by rw [a1]; decide)
    have em : m = m' := (no_inj (by omega) (by omega)).mp (by rw [← a2, ← b4])
    have hl : fitS T hf sf n < 2 ^ 6 := bst_lt h1
    have hp6 : pcn (fitS T hf sf n) ≤ 6 := by
      have := sm_le (g := fun k => if (fitS T hf sf n).testBit k = true then 1 else 0) (b := 1) 6 (fun i _ => by show (if (fitS T hf sf n).testBit i = true then 1 else 0) ≤ 1; split <;> omega)
      unfold pcn; omega
    have hM2 : ∀ K : Nat → Nat → Int32, (∀ a, a ≠ 3 → ¬ (126 ≤ a ∧ a ≤ 133) → K a = I a) → TM (u2 (u2 K 135 1 (nI 0)) 135 0 (nI 0) 140) T := fun K hK => by rw [u2_na _ _ _ _ _ (by omega), u2_na _ _ _ _ _ (by omega), hK 140 (by omega) (by omega)]; exact hM
    by_cases q2 : pcn (fitS T hf sf n) < 2
    · refine PR_tells H (.int (-1)) (nI 8) (CR_st ?_) (fun K hK => MR_2 (a := nI 0) (b := nI 0) ?_)
      · rw [gX8_ask N (d + 38), sX8_ask_0 N (d + 38) _ hX]
        rw [e, cI_some, kX8_ask_0 N (d + 38) _ hX, nc_eq rfl, lR_tr ha, c5_voicesThatFit ht hT hw (tr_is ha) hn (fun i hi => by rw [show 5 + 2 * a + 1 = 6 + 2 * a by omega]; exact hJ i hi) (by omega), cI_some, kX8_ask_1 N (d + 38) _ hX, cJ_bitCount (by omega), cI_some, kX8_ask_2 N (d + 38) _ hX, nc_lt q2 (by omega)]
      · rw [gX9_ask N (d + 38), sX9_ask_0 N (d + 38)]
        rw [mm K hK, cI_some, kX9_ask_0 N (d + 38), nc_nlt (by omega) (by omega), c9_fitting (I := u2 (u2 K 135 1 (nI 0)) 135 0 (nI 0)) (T := T) (hM2 K hK) hw ha hn (fun i hi => by rw [← b6 (2 * i) (by omega), ← b6 (2 * i + 1) (by omega)]; exact hJ i hi) (by omega), cI_some, kX9_ask_2 N (d + 38), c9_sizeOf (by omega), cI_some, kX9_ask_4 N (d + 38), nc_lt q2 (by omega)]
    · refine PR_tells H (.int (nI (hrp T (fitS T hf sf n)))) (nI 0) (CR_st ?_) (fun K hK => MR_0 (a := nI 0) ?_)
      · rw [gX8_ask N (d + 38), sX8_ask_0 N (d + 38) _ hX]
        rw [e, cI_some, kX8_ask_0 N (d + 38) _ hX, nc_eq rfl, lR_tr ha, c5_voicesThatFit ht hT hw (tr_is ha) hn (fun i hi => by rw [show 5 + 2 * a + 1 = 6 + 2 * a by omega]; exact hJ i hi) (by omega), cI_some, kX8_ask_1 N (d + 38) _ hX, cJ_bitCount (by omega), cI_some, kX8_ask_2 N (d + 38) _ hX, nc_nlt (by omega) (by omega), c5_hourThatParts ht hT hw (by omega) (by omega), cI_some, kX8_ask_3 N (d + 38) _ hX]
      · rw [gX9_ask N (d + 38), sX9_ask_0 N (d + 38)]
        rw [mm K hK, cI_some, kX9_ask_0 N (d + 38), nc_nlt (by omega) (by omega), c9_fitting (I := u2 (u2 K 135 1 (nI 0)) 135 0 (nI 0)) (T := T) (hM2 K hK) hw ha hn (fun i hi => by rw [← b6 (2 * i) (by omega), ← b6 (2 * i + 1) (by omega)]; exact hJ i hi) (by omega), cI_some, kX9_ask_2 N (d + 38), c9_sizeOf (by omega), cI_some, kX9_ask_4 N (d + 38), nc_nlt (by omega) (by omega), c9_askL (d := d + 37) (I := u2 (u2 K 135 1 (nI 0)) 135 0 (nI 0)) (T := T) (hM2 K hK) hw (by omega) (by omega)]
  · have h5 := TWO_le hs
    refine PR_tells H (.int (-1)) (nI s) (CR_st ?_) (fun K hK => MR_0 (a := nI 0) ?_)
    · rw [gX8_ask N (d + 38), sX8_ask_0 N (d + 38) _ hX]
      rw [e, cI_some, kX8_ask_0 N (d + 38) _ hX, nc_ne (by omega) (by omega) (by omega)]
    · rw [gX9_ask N (d + 38), sX9_ask_0 N (d + 38)]
      rw [mm K hK, cI_some, kX9_ask_0 N (d + 38), nc_lt (by omega) (by omega)]
