/-! the game, the class's side -/
theorem cfo_congr {b : Bool} {g h : Nat → Int32} {f : Nat} {z : Int32} : ∀ s, (∀ i, i < s → f.testBit i = true → g i = h i) → cfo b g f z s = cfo b h f z s := by
  intro s
  induction s with
  | zero => intro _; rfl
  | succ s ih =>
    intro e
    unfold cfo
    rw [ih (fun i hi => e i (by omega))]
    by_cases r : f.testBit s = true
    · rw [e s (by omega) r]
    · rw [if_neg r, if_neg r]
theorem and_nn_lt {f0 g S : Nat} (h : f0 < 2 ^ S) : f0 &&& nnot g < 2 ^ S := Nat.lt_of_le_of_lt Nat.and_le_left h
theorem c0_firstsBest {N d : Nat} {X : lt_X} {I : Nat → Nat → Int32} {J : Nat → Nat → Int64} {f0 p t g S P : Nat} {W : Nat → Nat → Nat} {A : Nat → Int32} (hS : S ≤ 6) (hP : P ≤ 6) (hp : p < P) (hW : ∀ p k, p < P → k < S → I 127 (6 * p + k) = nI (W p k)) (hf : f0 < 2 ^ S) (hg : g < 2 ^ S) (ht : t < 6) (hA : ∀ x, x < 2 ^ S → I 128 (64 * (t + 1) + x) = A x) (hN : 1000 ≤ N) : am_G am_prog (N + 30) (d + 1) 17 [.ref 126, .int (nI f0), .int (nI p), .int (nI t), .int (nI g)] (mkh X I J) = some (.int (cfo true (fun s => nI (W p s) + A (g ||| 2 ^ s)) (f0 &&& nnot g) (A g) 6), (mkh X I J)) := by
  have h64 : 2 ^ S ≤ 2 ^ 6 := Nat.pow_le_pow_right (by omega) hS
  have hl : f0 &&& nnot g < 2 ^ S := and_nn_lt hf
  rw [gX0_firstsBest N d, sX0_firstsBest_0 N d, nI_add, pk_mul, nI_add, nc_in (by omega) (by omega), nI_clamp (by omega), Nat.mul_comm (t + 1) 64, hA g hg]
  refine lqs (run := fun n i => RX0_firstsBest_19 N d n X (nI f0) (nI p) (nI t) (nI g) (cfo true (fun s => nI (W p s) + A (g ||| 2 ^ s)) (f0 &&& nnot g) (A g) i) (nI i) I J) (m := 6) ?_ ?_ (N + 29) 0 (by omega) (by omega)
  · intro n i hi
    rw [sX0_firstsBest_19 N d n, nc_lt hi (by omega), no_not (by omega), no_and]
    by_cases r : (f0 &&& nnot g).testBit i = true
    · have hiS := tb_lt hl r
      have ho := or_p2 hg hiS
      rw [nc_b1 r (by omega) (by omega), pk_mul, nI_add, nI_add, nI_add, pk_mul, no_shl (by omega), no_or, nI_add, nc_in (by omega) (by omega), nc_in (by omega) (by omega), nI_clamp (by omega), nI_clamp (by omega), Nat.mul_comm (t + 1) 64, Nat.mul_comm p 6, hA _ ho, hW p i hp hiS]
      have e : cfo true (fun s => nI (W p s) + A (g ||| 2 ^ s)) (f0 &&& nnot g) (A g) (i + 1) = if cfo true (fun s => nI (W p s) + A (g ||| 2 ^ s)) (f0 &&& nnot g) (A g) i < nI (W p i) + A (g ||| 2 ^ i) then nI (W p i) + A (g ||| 2 ^ i) else cfo true (fun s => nI (W p s) + A (g ||| 2 ^ s)) (f0 &&& nnot g) (A g) i := by
        show (if (f0 &&& nnot g).testBit i = true then _ else _) = _
        rw [if_pos r]
        unfold btr
        simp only [if_true, decide_eq_true_eq]
      rw [e]
    · have rf : (f0 &&& nnot g).testBit i = false := by simpa using r
      have e : cfo true (fun s => nI (W p s) + A (g ||| 2 ^ s)) (f0 &&& nnot g) (A g) (i + 1) = cfo true (fun s => nI (W p s) + A (g ||| 2 ^ s)) (f0 &&& nnot g) (A g) i := if_neg r
      rw [nc_b0 rf (by omega) (by omega), e, nI_add]
  · intro n
    rw [sX0_firstsBest_19 N d n, nc_nlt (by omega) (by omega)]
theorem i_sub (a b : Int32) : a - b = -b + a := by rw [Int32.sub_eq_add_neg, Int32.add_comm]
theorem c0_secondsBest {N d : Nat} {X : lt_X} {I : Nat → Nat → Int32} {J : Nat → Nat → Int64} {f0 p t g S P : Nat} {W : Nat → Nat → Nat} {A : Nat → Int32} (hS : S ≤ 6) (hP : P ≤ 6) (hp : p < P) (hW : ∀ p k, p < P → k < S → I 127 (6 * p + k) = nI (W p k)) (hf : f0 < 2 ^ S) (hg : g < 2 ^ S) (ht : t < 6) (hA : ∀ x, x < 2 ^ S → I 128 (64 * (t + 1) + x) = A x) (hN : 1000 ≤ N) : am_G am_prog (N + 30) (d + 1) 18 [.ref 126, .int (nI f0), .int (nI p), .int (nI t), .int (nI g)] (mkh X I J) = some (.int (cfo false (fun s => -(nI (W p s)) + A (g ||| 2 ^ s)) (f0 &&& nnot g) (A g) 6), (mkh X I J)) := by
  have h64 : 2 ^ S ≤ 2 ^ 6 := Nat.pow_le_pow_right (by omega) hS
  have hl : f0 &&& nnot g < 2 ^ S := and_nn_lt hf
  rw [gX0_secondsBest N d, sX0_secondsBest_0 N d, nI_add, pk_mul, nI_add, nc_in (by omega) (by omega), nI_clamp (by omega), Nat.mul_comm (t + 1) 64, hA g hg]
  refine lqs (run := fun n i => RX0_secondsBest_19 N d n X (nI f0) (nI p) (nI t) (nI g) (cfo false (fun s => -(nI (W p s)) + A (g ||| 2 ^ s)) (f0 &&& nnot g) (A g) i) (nI i) I J) (m := 6) ?_ ?_ (N + 29) 0 (by omega) (by omega)
  · intro n i hi
    rw [sX0_secondsBest_19 N d n, nc_lt hi (by omega), no_not (by omega), no_and]
    by_cases r : (f0 &&& nnot g).testBit i = true
    · have hiS := tb_lt hl r
      have ho := or_p2 hg hiS
      rw [nc_b1 r (by omega) (by omega), pk_mul, nI_add, nI_add, nI_add, pk_mul, no_shl (by omega), no_or, nI_add, nc_in (by omega) (by omega), nc_in (by omega) (by omega), nI_clamp (by omega), nI_clamp (by omega), Nat.mul_comm (t + 1) 64, Nat.mul_comm p 6, hA _ ho, hW p i hp hiS, i_sub]
      have e : cfo false (fun s => -(nI (W p s)) + A (g ||| 2 ^ s)) (f0 &&& nnot g) (A g) (i + 1) = if -(nI (W p i)) + A (g ||| 2 ^ i) < cfo false (fun s => -(nI (W p s)) + A (g ||| 2 ^ s)) (f0 &&& nnot g) (A g) i then -(nI (W p i)) + A (g ||| 2 ^ i) else cfo false (fun s => -(nI (W p s)) + A (g ||| 2 ^ s)) (f0 &&& nnot g) (A g) i := by
        show (if (f0 &&& nnot g).testBit i = true then _ else _) = _
        rw [if_pos r]
        unfold btr
        simp only [Bool.false_eq_true, if_false, decide_eq_true_eq]
      rw [e]
    · have rf : (f0 &&& nnot g).testBit i = false := by simpa using r
      have e : cfo false (fun s => -(nI (W p s)) + A (g ||| 2 ^ s)) (f0 &&& nnot g) (A g) (i + 1) = cfo false (fun s => -(nI (W p s)) + A (g ||| 2 ^ s)) (f0 &&& nnot g) (A g) i := if_neg r
      rw [nc_b0 rf (by omega) (by omega), e, nI_add]
  · intro n
    rw [sX0_secondsBest_19 N d n, nc_nlt (by omega) (by omega)]
theorem nn_or {f0 g s : Nat} (hg : g < 2 ^ 6) (hs : s < 6) : f0 &&& nnot (g ||| 2 ^ s) = (f0 &&& nnot g) &&& nnot (2 ^ s) := by
  have h2 : 2 ^ s < 2 ^ 32 := Nat.pow_lt_pow_right (by omega) (by omega)
  have ho := or_p2 hg hs
  apply Nat.eq_of_testBit_eq
  intro i
  rw [Nat.testBit_and, Nat.testBit_and, Nat.testBit_and, nnot_bit (by omega), nnot_bit (by omega), nnot_bit h2, Nat.testBit_or]
  cases f0.testBit i <;> cases decide (i < 32) <;> cases g.testBit i <;> cases (2 ^ s).testBit i <;> rfl
/-- rows of the table from turn t on are as they should be -/
def aOK (I : Nat → Nat → Int32) (W : Nat → Nat → Nat) (p q S n f0 t : Nat) : Prop := ∀ u, t ≤ u → u ≤ n → ∀ x, x < 2 ^ S → I 128 (64 * u + x) = gvl W p q (n - u) u (f0 &&& nnot x)
theorem n_pred : ∀ t, t < 8 → nI (t + 1) - nI 1 = nI t := by decide +kernel
theorem n_m1 : ∀ t, t < 8 → nI t + (-1) = nI t - nI 1 := by decide +kernel
theorem and_nn0 {f : Nat} (h : f < 2 ^ 6) : f &&& nnot 0 = f := by
  apply Nat.eq_of_testBit_eq
  intro i
  rw [Nat.testBit_and, nnot_bit (by omega), Nat.zero_testBit]
  cases e : f.testBit i with
  | false => rfl
  | true =>
    have := tb_lt h e
    simp; omega
theorem gvl_row {W : Nat → Nat → Nat} {p q r t f0 i : Nat} (hi : i < 2 ^ 6) : gvl W p q (r + 1) t (f0 &&& nnot i) = cfo (evn t) (fun s => gws W p q (evn t) s + gvl W p q r (t + 1) (f0 &&& nnot (i ||| 2 ^ s))) (f0 &&& nnot i) (gvl W p q r (t + 1) (f0 &&& nnot i)) 6 := by
  show cfo (evn t) (fun s => gws W p q (evn t) s + gvl W p q r (t + 1) ((f0 &&& nnot i) &&& nnot (2 ^ s))) _ _ 6 = _
  refine cfo_congr 6 (fun s hs _ => ?_)
  show gws W p q (evn t) s + gvl W p q r (t + 1) ((f0 &&& nnot i) &&& nnot (2 ^ s)) = gws W p q (evn t) s + gvl W p q r (t + 1) (f0 &&& nnot (i ||| 2 ^ s))
  rw [nn_or hi hs]
theorem c0_turns {N d : Nat} {X : lt_X} {I : Nat → Nat → Int32} {J : Nat → Nat → Int64} {K0 : Nat → Nat → Int32} {W : Nat → Nat → Nat} {p q S P n f0 : Nat} (hS : S ≤ 6) (hP : P ≤ 6) (hp : p < P) (hq : q < P) (hn : n ≤ 5) (hf : f0 < 2 ^ S) (hW : ∀ p k, p < P → k < S → K0 127 (6 * p + k) = nI (W p k)) (hN : 1000 ≤ N) : ∀ t, t ≤ n → ∀ K, (∀ a, a ≠ 128 → K a = K0 a) → aOK K W p q S n f0 t → ∃ M, (∀ a, a ≠ 128 → M a = K0 a) ∧ aOK M W p q S n f0 0 ∧ ev (fun m => RX0_playGame_58 N (d + 1) m X (nI p) (nI q) (nI f0) (nI (2 ^ S)) (nI t - nI 1) K J) (1 + t * 130) (some (.int (M 128 0), mkh X M J)) := by
  have h64 : 2 ^ S ≤ 2 ^ 6 := Nat.pow_le_pow_right (by omega) hS
  intro t
  induction t with
  | zero =>
    intro _ K f a
    refine ⟨K, f, a, ev_le (ev_0 (fun m => ?_)) (by omega)⟩
    rw [sX0_playGame_58 N (d + 1) m, if_pos (by decide +kernel)]
  | succ t ih =>
    intro ht K f a
    obtain ⟨r, hr⟩ : ∃ r, n - t = r + 1 := ⟨n - t - 1, by omega⟩
    have hr2 : n - (t + 1) = r := by omega
    have inner : ∀ k i, i + k = 2 ^ S → ∀ K, (∀ a, a ≠ 128 → K a = K0 a) → aOK K W p q S n f0 (t + 1) → (∀ x, x < i → K 128 (64 * t + x) = gvl W p q (n - t) t (f0 &&& nnot x)) → ∃ M, (∀ a, a ≠ 128 → M a = K0 a) ∧ aOK M W p q S n f0 t ∧ ∀ B R, ev (fun m => RX0_playGame_58 N (d + 1) m X (nI p) (nI q) (nI f0) (nI (2 ^ S)) (nI t - nI 1) M J) B R → ev (fun m => RX0_playGame_66 N (d + 1) m X (nI p) (nI q) (nI f0) (nI (2 ^ S)) (nI t) (nI i) K J) (B + 1 + k * 2) R := by
      intro k
      induction k with
      | zero =>
        intro i hi K f a b
        refine ⟨K, f, fun u h1 h2 x hx => ?_, fun B R e => ev_s (fun m => ?_) e⟩
        · by_cases c : u = t
          · subst c; exact b x (by omega)
          · exact a u (by omega) h2 x hx
        · rw [sX0_playGame_66 N (d + 1) m, nc_nlt (by omega) (by omega), n_m1 t (by omega)]
      | succ k ih2 =>
        intro i hi K f a b
        have hA : ∀ x, x < 2 ^ S → K 128 (64 * (t + 1) + x) = gvl W p q r (t + 1) (f0 &&& nnot x) := fun x hx => by rw [a (t + 1) (by omega) (by omega) x hx, hr2]
        have hWK : ∀ p k, p < P → k < S → K 127 (6 * p + k) = nI (W p k) := fun p k h1 h2 => by rw [f 127 (by omega)]; exact hW p k h1 h2
        obtain ⟨M, m1, m2, m3⟩ := ih2 (i + 1) (by omega) (u2 K 128 (64 * t + i) (gvl W p q (n - t) t (f0 &&& nnot i))) (fun a ha => by rw [u2_na _ _ _ _ _ ha, f a ha]) (fun u h1 h2 x hx => by rw [u2_nk _ _ _ _ _ (by omega)]; exact a u h1 h2 x hx) (fun x hx => by
          by_cases c : x = i
          · subst c; rw [u2_at]
          · rw [u2_nk _ _ _ _ _ (by omega)]; exact b x (by omega))
        refine ⟨M, m1, m2, fun B R e => ?_⟩
        have e1 := m3 B R e
        have e2 : ev (fun m => RX0_playGame_105 N (d + 1) m X (nI p) (nI q) (nI f0) (nI (2 ^ S)) (nI t) (nI i) (gvl W p q (n - t) t (f0 &&& nnot i)) K J) (B + 1 + k * 2 + 1) R := ev_s (fun m => by
          rw [sX0_playGame_105 N (d + 1) m, pk_mul, nI_add, nI_add, nc_in (by omega) (by omega), nI_clamp (by omega), Nat.mul_comm t 64]) e1
        refine ev_le (ev_s (fun m => ?_) e2) (by omega)
        rw [sX0_playGame_66 N (d + 1) m, nc_lt (by omega) (by omega), hr, gvl_row (by omega)]
        by_cases c : t % 2 = 0
        · have ce : evn t = true := decide_eq_true c
          rw [if_pos ((n_par t (by omega)).mpr c), c0_firstsBest (d := d) (A := fun x => gvl W p q r (t + 1) (f0 &&& nnot x)) hS hP hp hWK hf (by omega) (by omega) hA hN, cI_some, kX0_playGame_1 N (d + 1) m, ce]
          rfl
        · have ce : evn t = false := decide_eq_false c
          rw [if_neg (fun h => c ((n_par t (by omega)).mp h)), c0_secondsBest (d := d) (A := fun x => gvl W p q r (t + 1) (f0 &&& nnot x)) hS hP hq hWK hf (by omega) (by omega) hA hN, cI_some, kX0_playGame_2 N (d + 1) m, ce]
          rfl
    obtain ⟨M, m1, m2, m3⟩ := inner (2 ^ S) 0 (by omega) K f a (fun x hx => absurd hx (by omega))
    obtain ⟨L, l1, l2, l3⟩ := ih (by omega) M m1 m2
    refine ⟨L, l1, l2, ev_le (ev_s (fun m => ?_) (m3 _ _ l3)) (by omega)⟩
    rw [n_pred t (by omega), sX0_playGame_58 N (d + 1) m, nc_nlt (by omega) (by omega)]
theorem c0_playGame {N d : Nat} {X : lt_X} {I : Nat → Nat → Int32} {J : Nat → Nat → Int64} {t : Nat} {T : Nat → Nat} (ht : isT t) (hT : TC I t T) (hw : WF T) {p q n : Nat} (hp : p < T 2) (hq : q < T 2) (hn : n ≤ 5) (hN : 1000 ≤ N) : ∃ K, am_G am_prog (N + 30) (d + 5) 16 [.ref 126, .ref t, .int (nI p), .int (nI q), .int (nI n)] (mkh X I J) = some (.int (gvl (wth T) p q n 0 (owned T 4294967295)), mkh X K J) ∧ (∀ a, a ≠ 127 → a ≠ 128 → K a = I a) ∧ aOK K (wth T) p q (T 3) n (owned T 4294967295) 0 ∧ (∀ p k, p < T 2 → k < T 3 → K 127 (6 * p + k) = nI (wth T p k)) := by
  obtain ⟨h0, h1, h2, h3, h4, h5, h6⟩ := hw.1
  have t1 : t + 14 ≤ 127 := by unfold isT at ht; omega
  have h64 : 2 ^ T 3 ≤ 2 ^ 6 := Nat.pow_le_pow_right (by omega) h3
  have hf : owned T 4294967295 < 2 ^ T 3 := bst_lt (Nat.le_refl _)
  obtain ⟨K0, e, f, hW⟩ := c0_weigh (N := N) (d := d) (X := X) (I := I) (J := J) ht hT hw hN
  have hK : TC K0 t T := TC_frame (fun a b1 b2 => f a (by omega)) hT
  have zero : ∀ k i, i + k = 2 ^ T 3 → ∀ K, (∀ a, a ≠ 128 → K a = K0 a) → (∀ x, x < i → K 128 (64 * n + x) = nI 0) → ∃ M, (∀ a, a ≠ 128 → M a = K0 a) ∧ (∀ x, x < 2 ^ T 3 → M 128 (64 * n + x) = nI 0) ∧ ∀ B R, ev (fun m => RX0_playGame_58 N (d + 4) m X (nI p) (nI q) (nI (owned T 4294967295)) (nI (2 ^ T 3)) (nI n - nI 1) M J) B R → ev (fun m => RX0_playGame_25 N (d + 4) m X (nI p) (nI q) (nI n) (nI (owned T 4294967295)) (nI (2 ^ T 3)) (nI i) K J) (B + 1 + k) R := by
    intro k
    induction k with
    | zero =>
      intro i hi K f b
      refine ⟨K, f, fun x hx => b x (by omega), fun B R e => ev_s (fun m => ?_) e⟩
      rw [sX0_playGame_25 N (d + 4) m, nc_nlt (by omega) (by omega)]
    | succ k ih =>
      intro i hi K f b
      obtain ⟨M, m1, m2, m3⟩ := ih (i + 1) (by omega) (u2 K 128 (64 * n + i) (nI 0)) (fun a ha => by rw [u2_na _ _ _ _ _ ha, f a ha]) (fun x hx => by
        by_cases c : x = i
        · subst c; rw [u2_at]
        · rw [u2_nk _ _ _ _ _ (by omega)]; exact b x (by omega))
      refine ⟨M, m1, m2, fun B R e => ev_le (ev_s (fun m => ?_) (m3 B R e)) (by omega)⟩
      rw [sX0_playGame_25 N (d + 4) m, nc_lt (by omega) (by omega), pk_mul, nI_add, nI_add, nc_in (by omega) (by omega), nI_clamp (by omega), Nat.mul_comm n 64]
  obtain ⟨M, m1, m2, m3⟩ := zero (2 ^ T 3) 0 (by omega) K0 (fun _ _ => rfl) (fun x hx => absurd hx (by omega))
  obtain ⟨L, l1, l2, l3⟩ := c0_turns (N := N) (d := d + 3) (X := X) (I := I) (J := J) (K0 := K0) (W := wth T) (p := p) (q := q) (S := T 3) (P := T 2) (n := n) (f0 := owned T 4294967295) h3 h2 hp hq hn hf hW hN n (Nat.le_refl _) M m1 (fun u h1 h2 x hx => by
    have : u = n := by omega
    subst this
    rw [m2 x hx, Nat.sub_self]; rfl)
  refine ⟨L, ?_, fun a b1 b2 => by rw [l1 a b2, f a b1], l2, fun p k a b => by rw [l1 127 (by omega)]; exact hW p k a b⟩
  have lz := l2 0 (by omega) (by omega) 0 (Nat.two_pow_pos _)
  rw [and_nn0 (by omega)] at lz
  rw [gX0_playGame N (d + 4) ht, sX0_playGame_0 N (d + 4) _ ht, e, cV_some, kX0_playGame_0 N (d + 4) _ ht, no_m1, c5_setsOf (d := d + 3) ht hK hw (by omega), cI_some, kX0_playGame_3 N (d + 4) _ ht, tc3 hK, no_shl (by omega)]
  rw [show L 128 0 = gvl (wth T) p q n 0 (owned T 4294967295) from lz] at l3
  exact m3 _ _ l3 (N + 29) (by omega)
