/-! trades: the reference's rounds, and the pairs -/
def cnt6 (L : Nat) : Nat := sm (fun i => if L.testBit i = true then 1 else 0) 6
theorem sm_mono {g h : Nat → Nat} : ∀ k, (∀ i, i < k → g i ≤ h i) → sm g k ≤ sm h k := by
  intro k
  induction k with
  | zero => intro _; exact Nat.le_refl _
  | succ k ih =>
    intro e
    have h1 := ih (fun i hi => e i (by omega))
    have h2 := e k (by omega)
    simp only [sm]; omega
theorem sm_strict {g h : Nat → Nat} {j : Nat} : ∀ k, (∀ i, i < k → g i ≤ h i) → j < k → g j < h j → sm g k < sm h k := by
  intro k
  induction k with
  | zero => intro _ hj; exact absurd hj (by omega)
  | succ k ih =>
    intro e hj hl
    simp only [sm]
    by_cases q : j = k
    · subst q
      have := sm_mono j (fun i hi => e i (by omega))
      omega
    · have h1 := ih (fun i hi => e i (by omega)) (by omega) hl
      have h2 := e k (by omega)
      omega
theorem cnt6_0 {L : Nat} (hL : L < 2 ^ 6) (h : cnt6 L = 0) : L = 0 := by
  apply Nat.eq_of_testBit_eq
  intro j
  rw [Nat.zero_testBit]
  cases hb : L.testBit j with
  | false => rfl
  | true =>
    have hj := tb_lt hL hb
    have := sm_strict (g := fun _ => 0) (h := fun i => if L.testBit i = true then 1 else 0) (j := j) 6 (fun i _ => Nat.zero_le _) hj (by show 0 < if L.testBit j = true then 1 else 0; rw [if_pos hb]; omega)
    rw [sm_zero] at this
    unfold cnt6 at h
    omega
theorem lvT_bit {W : Nat → Nat → Nat} {c : Nat → Nat} {P L : Nat} (hP : P ≤ 6) (hL : L < 2 ^ P) (j : Nat) : (lvT W c P L).testBit j = (L.testBit j && !onb (fL W c P L) j) := by
  have hg : rgS (fL W c P L) L P < 2 ^ 32 := Nat.lt_of_lt_of_le (bst_lt (Nat.le_refl P)) (Nat.pow_le_pow_right (by omega) (by omega))
  unfold lvT
  rw [Nat.testBit_and, nnot_bit hg]
  unfold rgS
  rw [bst_bit']
  cases hb : L.testBit j with
  | false => rfl
  | true =>
    have hj := tb_lt hL hb
    rw [decide_eq_true hj, decide_eq_true (show j < 32 by omega)]
    rfl
theorem lvT_cnt {W : Nat → Nat → Nat} {c : Nat → Nat} {P L S k : Nat} (hP : P ≤ 6) (hc : cOK c L P S) (h : cnt6 L ≤ k + 1) : cnt6 (lvT W c P L) ≤ k := by
  have hL := hc.1
  have h64 : 2 ^ P ≤ 2 ^ 6 := Nat.pow_le_pow_right (by omega) hP
  have le : ∀ i, i < 6 → (if (lvT W c P L).testBit i = true then 1 else 0) ≤ (if L.testBit i = true then 1 else 0) := fun i _ => by
    rw [lvT_bit hP hL]
    cases L.testBit i <;> cases onb (fL W c P L) i <;> simp
  by_cases z : L = 0
  · have : lvT W c P L = 0 := by rw [z]; exact Nat.zero_and _
    rw [this]
    have : cnt6 0 = 0 := by decide
    omega
  · obtain ⟨p, hp⟩ := Nat.exists_testBit_of_ne_zero z
    have hL6 : ∀ i, L.testBit i = true → i < 6 := fun i hi => by have := tb_lt hL hi; omega
    have hf : ∀ i, L.testBit i = true → L.testBit (fL W c P L i) = true := fun i hi => (ptf_in hi P).1
    have o6 := ong_6 (s := fun i => L.testBit i = true) hL6 hf hp
    have i6 : L.testBit (itr (fL W c P L) 6 p) = true := itr_in (s := fun i => L.testBit i = true) hf hp 6
    have ob := (onb_iff (s := fun i => L.testBit i = true) hL6 hf i6).mpr o6
    have := sm_strict (j := itr (fL W c P L) 6 p) 6 le (hL6 _ i6) (by
      show (if (lvT W c P L).testBit (itr (fL W c P L) 6 p) = true then 1 else 0) < (if L.testBit (itr (fL W c P L) 6 p) = true then 1 else 0)
      rw [lvT_bit hP hL, ob, i6]
      decide)
    unfold cnt6 at h ⊢
    omega
theorem trs_ind {W : Nat → Nat → Nat} {c : Nat → Nat} {P S : Nat} (hP : P ≤ 6) : ∀ k L g g', cOK c L P S → cnt6 L ≤ k → (∀ q, q < P → ¬ L.testBit q = true → g q = g' q) → ∀ q, q < P → trs W c P k L g q = trs W c P k L g' q := by
  intro k
  induction k with
  | zero =>
    intro L g g' hc hk e q hq
    have h64 : 2 ^ P ≤ 2 ^ 6 := Nat.pow_le_pow_right (by omega) hP
    have z := cnt6_0 (L := L) (by have := hc.1; omega) (by omega)
    exact e q hq (by rw [z, Nat.zero_testBit]; simp)
  | succ k ih =>
    intro L g g' hc hk e q hq
    show trs W c P k (lvT W c P L) (gtT W c P L g) q = trs W c P k (lvT W c P L) (gtT W c P L g') q
    refine ih _ _ _ (lvT_ok hc) (lvT_cnt hP hc hk) (fun u hup hu => ?_) q hq
    rw [lvT_bit hP hc.1] at hu
    unfold gtT
    by_cases a : L.testBit u = true
    · by_cases b : onb (fL W c P L) u = true
      · rw [if_pos (by rw [a, b]; rfl), if_pos (by rw [a, b]; rfl)]
      · rw [a] at hu; simp at b; rw [b] at hu; exact absurd rfl hu
    · simp at a
      rw [a, Bool.false_and, if_neg (by simp), if_neg (by simp)]
      exact e u hup (by rw [a]; simp)
theorem trs_lt {W : Nat → Nat → Nat} {c : Nat → Nat} {P S : Nat} : ∀ k L g, cOK c L P S → (∀ q, g q = 4294967295 ∨ g q < S) → ∀ q, trs W c P k L g q = 4294967295 ∨ trs W c P k L g q < S := by
  intro k
  induction k with
  | zero => intro L g hc h q; exact h q
  | succ k ih =>
    intro L g hc h q
    refine ih _ _ (lvT_ok hc) (fun u => ?_) q
    unfold gtT
    split
    · rename_i r
      rw [Bool.and_eq_true] at r
      exact Or.inr (hc.2 _ (ptf_in r.1 P).1)
    · exact h u
theorem c9_rounds {N d : Nat} {X : lt_X} {I : Nat → Nat → Int32} {J : Nat → Nat → Int64} {T : Nat → Nat} (hT : TM (I 140) T) (hw : WF T) {c : Nat → Nat} (hC : ∀ i, i < T 2 → I 144 i = nI (c i)) (hW : ∀ p k, p < T 2 → k < T 3 → I 143 (6 * p + k) = nI (wth T p k)) (hN : 1000 ≤ N) : ∀ k L g K, cOK c L (T 2) (T 3) → cnt6 L ≤ k → (∀ q, g q = 4294967295 ∨ g q < T 3) → (∀ q, L.testBit q = true → g q = 4294967295) → (∀ a, a ≠ 135 → a ≠ 145 → K a = I a) → (∀ j, j ≠ 30 → K 135 j = I 135 j) → K 135 30 = nI L → (∀ q, q < T 2 → K 145 q = nI (g q)) → ∃ M, (∀ a, a ≠ 135 → a ≠ 145 → M a = I a) ∧ (∀ j, j ≠ 30 → M 135 j = I 135 j) ∧ (∀ q, q < T 2 → M 145 q = nI (trs (wth T) c (T 2) k L g q)) ∧ ev (fun n => RX9_laysTrades_70 N (d + 2) n X K J) (1 + k * 20) (some (.null, mkh X M J)) := by
  obtain ⟨h0, h1, h2, h3, h4, h5, h6⟩ := hw.1
  have h65 : 2 ^ T 2 ≤ 2 ^ 6 := Nat.pow_le_pow_right (by omega) h2
  intro k
  induction k with
  | zero =>
    intro L g K hc hk hg hl f b e v
    have z := cnt6_0 (L := L) (by have := hc.1; omega) (by omega)
    refine ⟨K, f, b, v, ev_le (ev_0 (fun n => ?_)) (by omega)⟩
    rw [sX9_laysTrades_70 N (d + 2) n, e, z, nc_eq rfl]
  | succ k ih =>
    intro L g K hc hk hg hl f b e v
    have hL := hc.1
    by_cases z : L = 0
    · subst z
      refine ⟨K, f, b, fun q hq => by rw [trs_0]; exact v q hq, ev_le (ev_0 (fun n => ?_)) (by omega)⟩
      rw [sX9_laysTrades_70 N (d + 2) n, e, nc_eq rfl]
    · have hL6 : ∀ i, L.testBit i = true → i < 6 := fun i hi => by have := tb_lt hL hi; omega
      have hf : ∀ i, L.testBit i = true → L.testBit (fL (wth T) c (T 2) L i) = true := fun i hi => (ptf_in hi (T 2)).1
      have tK : TM (K 140) T := by rw [f 140 (by omega) (by omega)]; exact hT
      obtain ⟨M1, a1, a2, a3, a4⟩ := c9_round79 (N := N) (d := d) (X := X) (I := K) (J := J) tK hw hc e (fun j hj => by rw [f 144 (by omega) (by omega)]; exact hC j hj) (fun p k x y => by rw [f 143 (by omega) (by omega)]; exact hW p k x y) (fun q hq => by rw [v q (tb_lt hL hq), hl q hq]) hN (T 2) 0 (by omega) K (fun _ => False) (fun _ _ => rfl) (fun _ h => h.elim) (fun _ h => h.elim) (fun _ h => h.elim) (fun _ _ => rfl) (fun q hq => absurd hq (by omega))
      have val : ∀ q, q < T 2 → M1 145 q = nI (gtT (wth T) c (T 2) L g q) := fun q hq => by
        unfold gtT
        by_cases r : (L.testBit q && onb (fL (wth T) c (T 2) L) q) = true
        · rw [if_pos r]
          rw [Bool.and_eq_true] at r
          exact a2 q r.1 ((onb_iff (s := fun i => L.testBit i = true) hL6 hf r.1).mp r.2)
        · rw [if_neg r, a3 q (fun h => r (by rw [h.1, (onb_iff (s := fun i => L.testBit i = true) hL6 hf h.1).mpr h.2]; rfl)), v q hq]
      have gt : ∀ q, gtT (wth T) c (T 2) L g q = 4294967295 ∨ gtT (wth T) c (T 2) L g q < T 3 := fun q => by
        unfold gtT
        split
        · rename_i r
          rw [Bool.and_eq_true] at r
          exact Or.inr (hc.2 _ (hf q r.1))
        · exact hg q
      obtain ⟨M2, b1, b2, b3, b4⟩ := c9_leaves (N := N) (d := d + 2) (X := X) (I := M1) (J := J) (h := fun q => decide (gtT (wth T) c (T 2) L g q ≠ 4294967295)) (by rw [a1 140 (by omega)]; exact tK) hw (show L < 2 ^ 6 by omega) (fun q hq => ⟨_, val q hq, by
        rcases gt q with r | r
        · exact Or.inr ⟨decide_eq_false (fun h => h r), r⟩
        · exact Or.inl ⟨decide_eq_true (show gtT (wth T) c (T 2) L g q ≠ 4294967295 by omega), by omega⟩⟩) (T 2) 0 (by omega) M1 (fun _ _ => rfl) (fun _ _ => rfl) (by rw [a1 135 (by omega)]; exact e)
      have lv := lvb_lvT (W := wth T) (c := c) (h := fun q => decide (gtT (wth T) c (T 2) L g q ≠ 4294967295)) h2 hL (fun q hq => by
        show decide (gtT (wth T) c (T 2) L g q ≠ 4294967295) = _
        unfold gtT
        rw [hq, Bool.true_and]
        cases o : onb (fL (wth T) c (T 2) L) q with
        | true =>
          have := hc.2 _ (hf q hq)
          rw [if_pos rfl]
          exact decide_eq_true (by omega)
        | false =>
          rw [if_neg (by simp), hl q hq]
          exact decide_eq_false (by simp))
      rw [lv] at b3
      obtain ⟨M, c1, c2, c3, c4⟩ := ih (lvT (wth T) c (T 2) L) (gtT (wth T) c (T 2) L g) M2 (lvT_ok hc) (lvT_cnt h2 hc hk) gt (fun q hq => by
        rw [lvT_bit h2 hL, Bool.and_eq_true] at hq
        unfold gtT
        rw [if_neg (by rw [Bool.and_eq_true]; intro r; rw [r.2] at hq; exact absurd hq.2 (by simp))]
        exact hl q hq.1) (fun a x y => by rw [b1 a x, a1 a y, f a x y]) (fun j hj => by rw [b2 j hj, a1 135 (by omega), b j hj]) b3 (fun q hq => by rw [b1 145 (by omega)]; exact val q hq)
      refine ⟨M, c1, c2, c3, ev_le (ev_s (fun n => ?_) (a4 _ _ (b4 _ _ c4))) (by omega)⟩
      rw [sX9_laysTrades_70 N (d + 2) n, e, nc_ne z (by omega) (by omega)]
theorem c9_laysTrades {N d : Nat} {X : lt_X} {I : Nat → Nat → Int32} {J : Nat → Nat → Int64} {T : Nat → Nat} (hT : TM (I 140) T) (hw : WF T) (hN : 1000 ≤ N) : ∃ K, am_G am_prog (N + 30) (d + 8) 313 [.ref 135] (mkh X I J) = some (.null, mkh X K J) ∧ (∀ a, a ≠ 135 → ¬ (143 ≤ a ∧ a ≤ 145) → K a = I a) ∧ (∀ j, j ≠ 30 → K 135 j = I 135 j) ∧ (∀ p, p < T 2 → K 144 p = nI (fso T p)) ∧ (∀ p, p < T 2 → K 145 p = nI (trs (wth T) (fso T) (T 2) 6 (lef T) (fso T) p)) := by
  obtain ⟨h0, h1, h2, h3, h4, h5, h6⟩ := hw.1
  have h65 : 2 ^ T 2 ≤ 2 ^ 6 := Nat.pow_le_pow_right (by omega) h2
  obtain ⟨K0, e0, f0, w0⟩ := c9_laysWorths (N := N) (d := d + 2) (X := X) (I := I) (J := J) hT hw hN
  have loop : ∀ k i, i + k = T 2 → ∀ K, (∀ a, a ≠ 135 → a ≠ 144 → a ≠ 145 → K a = K0 a) → (∀ j, j ≠ 30 → K 135 j = K0 135 j) → K 135 30 = nI (bst (fun p => decide (fso T p ≠ 4294967295)) i) → (∀ p, p < i → K 144 p = nI (fso T p) ∧ K 145 p = nI 4294967295) → ∃ M, (∀ a, a ≠ 135 → a ≠ 144 → a ≠ 145 → M a = K0 a) ∧ (∀ j, j ≠ 30 → M 135 j = K0 135 j) ∧ M 135 30 = nI (lef T) ∧ (∀ p, p < T 2 → M 144 p = nI (fso T p) ∧ M 145 p = nI 4294967295) ∧ ∀ B R, ev (fun n => RX9_laysTrades_70 N (d + 6) n X M J) B R → ev (fun n => RX9_laysTrades_11 N (d + 6) n X (nI i) K J) (B + 1 + k) R := by
    intro k
    induction k with
    | zero =>
      intro i hi K a b e v
      have ei : i = T 2 := by omega
      subst ei
      refine ⟨K, a, b, e, v, fun B R e => ev_s (fun n => ?_) e⟩
      rw [sX9_laysTrades_11 N (d + 6) n, a 140 (by omega) (by omega) (by omega), f0 140 (by omega), tm2 hT, nc_nlt (by omega) (by omega)]
    | succ k ih =>
      intro i hi K a b e v
      have tK : TM (K 140) T := by rw [a 140 (by omega) (by omega) (by omega), f0 140 (by omega)]; exact hT
      have hl := fso_lt T i
      have es : bst (fun p => decide (fso T p ≠ 4294967295)) (i + 1) = bst (fun p => decide (fso T p ≠ 4294967295)) i ||| (if decide (fso T i ≠ 4294967295) = true then 2 ^ i else 0) := rfl
      obtain ⟨M, m1, m2, m3, m4, m5⟩ := ih (i + 1) (by omega) (u2 (u2 (u2 K 144 i (nI (fso T i))) 145 i (-1)) 135 30 (nI (bst (fun p => decide (fso T p ≠ 4294967295)) (i + 1)))) (fun x b1 b2 b3 => by rw [u2_na _ _ _ _ _ b1, u2_na _ _ _ _ _ b3, u2_na _ _ _ _ _ b2, a x b1 b2 b3]) (fun j hj => by rw [u2_nk _ _ _ _ _ hj, u2_na _ _ _ _ _ (by omega), u2_na _ _ _ _ _ (by omega), b j hj]) (u2_at _ _ _ _) (fun p hp => by
        rw [u2_na _ _ _ 144 _ (by omega), u2_na _ _ _ 144 _ (by omega), u2_na _ _ _ 145 _ (by omega)]
        by_cases q : p = i
        · subst q; rw [u2_at, u2_at, no_m1]; exact ⟨rfl, rfl⟩
        · rw [u2_nk _ _ _ _ _ q, u2_nk _ _ _ _ _ q, u2_na _ _ _ _ _ (by omega)]; exact v p (by omega))
      refine ⟨M, m1, m2, m3, m4, fun B R e2 => ev_le (ev_s (fun n => ?_) (m5 B R e2)) (by omega)⟩
      have v1 : u2 (u2 K 144 i (nI (fso T i))) 145 i (-1) 144 i = nI (fso T i) := by rw [u2_na _ _ _ 144 _ (by omega), u2_at]
      rw [sX9_laysTrades_11 N (d + 6) n, tm2 tK, nc_lt (by omega) (by omega), c9_firstOwn (d := d + 6) tK hw (by omega) hN, cI_some, kX9_laysTrades_1 N (d + 6) n, nc_in (by omega) (by omega), nc_in (by omega) (by omega), nc_in (by omega) (by omega), nI_clamp (by omega), v1, e, es]
      by_cases q : fso T i = 4294967295
      · rw [nc_neg q, if_neg (by simp [q]), no_or, nI_add]
      · rw [nc_nlt (by omega) (by omega), if_pos (decide_eq_true q), no_shl (by omega), no_or, nI_add]
  obtain ⟨M, m1, m2, m3, m4, m5⟩ := loop (T 2) 0 (by omega) (u2 K0 135 30 (nI 0)) (fun a b1 _ _ => u2_na _ _ _ _ _ b1) (fun j hj => u2_nk _ _ _ _ _ hj) (u2_at _ _ _ _) (fun p hp => absurd hp (by omega))
  have tM : TM (M 140) T := by rw [m1 140 (by omega) (by omega) (by omega), f0 140 (by omega)]; exact hT
  have cn : cnt6 (lef T) ≤ 6 := by
    have := sm_mono (g := fun i => if (lef T).testBit i = true then 1 else 0) (h := fun _ => 1) 6 (fun i _ => by
      show (if (lef T).testBit i = true then 1 else 0) ≤ 1
      split <;> omega)
    have e : sm (fun _ => 1) 6 = 6 := by decide
    unfold cnt6; omega
  obtain ⟨Z, z1, z2, z3, z4⟩ := c9_rounds (N := N) (d := d + 4) (X := X) (I := M) (J := J) tM hw (c := fso T) (fun i hi => (m4 i hi).1) (fun p k a b => by rw [m1 143 (by omega) (by omega) (by omega)]; exact w0 p k a b) hN 6 (lef T) (fun _ => 4294967295) M lef_ok cn (fun _ => Or.inl rfl) (fun _ _ => rfl) (fun _ _ _ => rfl) (fun _ _ => rfl) m3 (fun q hq => (m4 q hq).2)
  refine ⟨Z, ?_, fun a b1 b2 => ?_, fun j hj => ?_, fun p hp => ?_, fun p hp => ?_⟩
  · rw [gX9_laysTrades N (d + 6), sX9_laysTrades_0 N (d + 6), e0, cV_some, kX9_laysTrades_0 N (d + 6)]
    exact m5 _ _ z4 (N + 29) (by omega)
  · rw [z1 a b1 (by omega), m1 a b1 (by omega) (by omega), f0 a (by omega)]
  · rw [z2 j hj, m2 j hj, f0 135 (by omega)]
  · rw [z1 144 (by omega) (by omega)]; exact (m4 p hp).1
  · rw [z3 p hp, trs_ind (g' := fso T) h2 6 (lef T) (fun _ => 4294967295) lef_ok cn (fun q hqp hq => ?_) p hp]
    by_cases r : fso T q = 4294967295
    · exact r.symm
    · exact absurd ((bst_bit _ _ _).mpr ⟨hqp, decide_eq_true r⟩) hq
theorem lef_lt {T : Nat → Nat} (q : Nat) : trs (wth T) (fso T) (T 2) 6 (lef T) (fso T) q = 4294967295 ∨ trs (wth T) (fso T) (T 2) 6 (lef T) (fso T) q < T 3 := trs_lt 6 (lef T) (fso T) lef_ok (fso_lt T) q
theorem p_trade {xs : Nat → Int32} {N d : Nat} {X : lt_X} {I : Nat → Nat → Int32} {J : Nat → Nat → Int64} (H : INV xs X I J) (hN : 100000 ≤ N) (x : Int32) : PR xs N d X I J 151 314 [.int x] := by
  obtain ⟨T, hw, hT, hM, hX, ht⟩ := INV_T H
  obtain ⟨h0, h1, h2, h3, h4, h5, h6⟩ := hw.1
  have tmK : ∀ K : Nat → Nat → Int32, (∀ a, a ≠ 3 → ¬ (126 ≤ a ∧ a ≤ 133) → K a = I a) → TM (u2 (u2 K 135 1 (nI 0)) 135 0 (nI 0) 140) T := fun K hK => by rw [u2_na _ _ _ _ _ (by omega), u2_na _ _ _ _ _ (by omega), hK 140 (by omega) (by omega)]; exact hM
  by_cases q : inb x (T 2) = true
  rotate_left
  · refine PR_tells H (.int (-1)) (nI 2) (CR_st ?_) (fun K hK => MR_2 (a := nI 0) (b := nI 0) ?_)
    · rw [gX8_trade N (d + 37), sX8_trade_0 N (d + 37) _ hX]
      rw [c8_has hX hT hw (by omega), cI_some, kX8_trade_0 N (d + 37) _ hX, nc_10, if_neg q]
    · rw [gX9_trade N (d + 37), sX9_trade_0 N (d + 37)]
      rw [c9_isPersonAt (tmK K hK) hw, cI_some, kX9_trade_0 N (d + 37), nc_10, if_neg q]
  obtain ⟨u, hu, rfl⟩ := inb_e q (by omega)
  obtain ⟨K1, k1, k2, k3, k4⟩ := c0_makeTrades (N := N) (d := d + 34) (X := X) (I := I) (J := J) ht hT hw (by omega)
  have mm : ∀ K : Nat → Nat → Int32, (∀ a, a ≠ 3 → ¬ (126 ≤ a ∧ a ≤ 133) → K a = I a) → ∃ M, am_G am_prog (N + 30) (d + 40) 314 [.ref 135, .int (nI u)] (mkh X K J) = (if nI (trs (wth T) (fso T) (T 2) 6 (lef T) (fso T) u) < nI 0 then some (.int (-1), mkh X (u2 M 135 0 (nI 8)) J) else some (.int (nI (trs (wth T) (fso T) (T 2) 6 (lef T) (fso T) u)), mkh X M J)) ∧ (∀ a, a ≠ 135 → ¬ (143 ≤ a ∧ a ≤ 145) → M a = K a) ∧ (∀ j, j ≠ 30 → j ≠ 0 → j ≠ 1 → M 135 j = K 135 j) ∧ M 135 0 = nI 0 := by
    intro K hK
    obtain ⟨M, m1, m2, m3, m4, m5⟩ := c9_laysTrades (N := N) (d := d + 31) (X := X) (J := J) (tmK K hK) hw (by omega)
    refine ⟨M, ?_, fun a b1 b2 => ?_, fun j b1 b2 b3 => ?_, ?_⟩
    · rw [gX9_trade N (d + 37), sX9_trade_0 N (d + 37)]
      rw [c9_isPersonAt (tmK K hK) hw, cI_some, kX9_trade_0 N (d + 37), nc_10, if_pos q, m1, cV_some, kX9_trade_1 N (d + 37), nc_in (by omega) (by omega), nc_in (by omega) (by omega), nI_clamp (by omega), m5 u hu]
    · rw [m2 a b1 b2, u2_na _ _ _ _ _ b1, u2_na _ _ _ _ _ b1]
    · rw [m3 j b1, u2_nk _ _ _ _ _ b2, u2_nk _ _ _ _ _ b3]
    · rw [m3 0 (by omega), u2_at]
  have hl := lef_lt (T := T) u
  have k4 := k4 u hu
  generalize hF : trs (wth T) (fso T) (T 2) 6 (lef T) (fso T) u = F at *
  by_cases r : F = 4294967295
  · refine PR_tells H (.int (-1)) (nI 8) ⟨u2 K1 3 15 (nI 8), ?_, ⟨fun a b1 b2 => ?_, fun j hj => ?_⟩, u2_at _ _ _ _⟩ (fun K hK => ?_)
    · rw [gX8_trade N (d + 37), sX8_trade_0 N (d + 37) _ hX]
      rw [c8_has hX hT hw (by omega), cI_some, kX8_trade_0 N (d + 37) _ hX, nc_10, if_pos q, k1, cV_some, kX8_trade_1 N (d + 37) _ hX, nc_in (by omega) (by omega), nI_clamp (by omega), k4, c8_answerIfAny hX, nc_m1 r, cI_some, kX8_trade_2 N (d + 37) _ hX]
    · rw [u2_na _ _ _ _ _ b1, k2 a (by omega)]
    · rw [u2_nk _ _ _ _ _ hj, k2 3 (by omega)]
    · obtain ⟨M, m1, m2, m3, m4⟩ := mm K hK
      rw [nc_neg r] at m1
      refine ⟨u2 M 135 0 (nI 8), m1, ⟨fun a b1 b2 b3 => ?_, fun j hj => ?_⟩, u2_at _ _ _ _⟩
      · rw [u2_na _ _ _ _ _ b1, m2 a b1 b3]
      · rw [u2_nk _ _ _ _ _ (by omega), m3 j (by omega) (by omega) (by omega)]
  · refine PR_tells H (.int (nI F)) (nI 0) ⟨u2 K1 3 15 (nI 0), ?_, ⟨fun a b1 b2 => ?_, fun j hj => ?_⟩, u2_at _ _ _ _⟩ (fun K hK => ?_)
    · rw [gX8_trade N (d + 37), sX8_trade_0 N (d + 37) _ hX]
      rw [c8_has hX hT hw (by omega), cI_some, kX8_trade_0 N (d + 37) _ hX, nc_10, if_pos q, k1, cV_some, kX8_trade_1 N (d + 37) _ hX, nc_in (by omega) (by omega), nI_clamp (by omega), k4, c8_answerIfAny hX, nc_nm1 (by omega), cI_some, kX8_trade_2 N (d + 37) _ hX]
    · rw [u2_na _ _ _ _ _ b1, k2 a (by omega)]
    · rw [u2_nk _ _ _ _ _ hj, k2 3 (by omega)]
    · obtain ⟨M, m1, m2, m3, m4⟩ := mm K hK
      rw [nc_nlt (by omega) (by omega)] at m1
      exact ⟨M, m1, ⟨fun a b1 b2 b3 => m2 a b1 b3, fun j hj => m3 j (by omega) (by omega) (by omega)⟩, m4⟩
def oth (f g : Nat → Nat) (p : Nat) : Nat := if f p = g p then 0 else 1
theorem p_trades {xs : Nat → Int32} {N d : Nat} {X : lt_X} {I : Nat → Nat → Int32} {J : Nat → Nat → Int64} (H : INV xs X I J) (hN : 100000 ≤ N) : PR xs N d X I J 152 315 [] := by
  obtain ⟨T, hw, hT, hM, hX, ht⟩ := INV_T H
  obtain ⟨h0, h1, h2, h3, h4, h5, h6⟩ := hw.1
  have tmK : ∀ K : Nat → Nat → Int32, (∀ a, a ≠ 3 → ¬ (126 ≤ a ∧ a ≤ 133) → K a = I a) → TM (u2 (u2 K 135 1 (nI 0)) 135 0 (nI 0) 140) T := fun K hK => by rw [u2_na _ _ _ _ _ (by omega), u2_na _ _ _ _ _ (by omega), hK 140 (by omega) (by omega)]; exact hM
  obtain ⟨K1, k1, k2, k3, k4⟩ := c0_makeTrades (N := N) (d := d + 34) (X := X) (I := I) (J := J) ht hT hw (by omega)
  have hl := lef_lt (T := T)
  have hs := fso_lt T
  have htt := ht
  unfold isT at htt
  generalize hF : trs (wth T) (fso T) (T 2) 6 (lef T) (fso T) = F at *
  refine PR_tells H (.int (nI (sm (oth F (fso T)) (T 2)))) (nI 0) ⟨u2 K1 3 15 (nI 0), ?_, ⟨fun a b1 b2 => ?_, fun j hj => ?_⟩, u2_at _ _ _ _⟩ (fun K hK => ?_)
  · rw [gX8_trades N (d + 38), sX8_trades_0 N (d + 38) _ hX]
    have tK : TC K1 X.2.1 T := TC_frame (fun a b1 b2 => k2 a (by omega)) hT
    rw [k1, cV_some, kX8_trades_0 N (d + 38) _ hX]
    refine lqs (run := fun n i => RX8_trades_15 N (d + 38) n X (nI (sm (oth F (fso T)) i)) (nI i) K1 J) (m := T 2) ?_ ?_ (N + 29) 0 (by omega) (by omega)
    · intro n i hi
      have q1 := hl i
      have q2 := hs i
      rw [sX8_trades_15 N (d + 38) n hX, tc2 tK, nc_lt hi (by omega), nc_in (by omega) (by omega), nc_in (by omega) (by omega), nI_clamp (by omega), k3 i hi, k4 i hi]
      by_cases r : F i = fso T i
      · rw [nc_eq r, nI_add, show sm (oth F (fso T)) (i + 1) = sm (oth F (fso T)) i by simp only [sm, oth, if_pos r, Nat.add_zero]]
      · rw [nc_ne r (by omega) (by omega), nI_add, nI_add, show sm (oth F (fso T)) (i + 1) = sm (oth F (fso T)) i + 1 by simp only [sm, oth, if_neg r]]
    · intro n
      rw [sX8_trades_15 N (d + 38) n hX, tc2 tK, nc_nlt (by omega) (by omega)]
  · rw [u2_na _ _ _ _ _ b1, k2 a (by omega)]
  · rw [u2_nk _ _ _ _ _ hj, k2 3 (by omega)]
  · obtain ⟨M, m1, m2, m3, m4, m5⟩ := c9_laysTrades (N := N) (d := d + 31) (X := X) (J := J) (tmK K hK) hw (by omega)
    refine ⟨M, ?_, ⟨fun a b1 b2 b3 => ?_, fun j hj => ?_⟩, ?_⟩
    · have tM : TM (M 140) T := by rw [m2 140 (by omega) (by omega)]; exact tmK K hK
      rw [gX9_trades N (d + 39), sX9_trades_0 N (d + 39)]
      rw [m1, cV_some, kX9_trades_0 N (d + 39)]
      rw [hF] at m5
      refine lqs (run := fun n i => RX9_trades_18 N (d + 39) n X (nI (sm (oth F (fso T)) i)) (nI i) M J) (m := T 2) ?_ ?_ (N + 29) 0 (by omega) (by omega)
      · intro n i hi
        have q1 := hl i
        have q2 := hs i
        rw [sX9_trades_18 N (d + 39) n, tm2 tM, nc_lt hi (by omega), nc_in (by omega) (by omega), nc_in (by omega) (by omega), nI_clamp (by omega), m4 i hi, m5 i hi]
        by_cases r : F i = fso T i
        · rw [nc_eq r, nI_add, nI_add, show sm (oth F (fso T)) (i + 1) = sm (oth F (fso T)) i by simp only [sm, oth, if_pos r, Nat.add_zero], Nat.add_zero (sm (oth F (fso T)) i)]
        · rw [nc_ne r (by omega) (by omega), nI_add, nI_add, show sm (oth F (fso T)) (i + 1) = sm (oth F (fso T)) i + 1 by simp only [sm, oth, if_neg r]]
      · intro n
        rw [sX9_trades_18 N (d + 39) n, tm2 tM, nc_nlt (by omega) (by omega)]
    · rw [m2 a b1 b3, u2_na _ _ _ _ _ b1, u2_na _ _ _ _ _ b1]
    · rw [m3 j (by omega), u2_nk _ _ _ _ _ (by omega), u2_nk _ _ _ _ _ (by omega)]
    · rw [m3 0 (by omega), u2_at]
