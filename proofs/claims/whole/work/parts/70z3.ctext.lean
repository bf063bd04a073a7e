/-! texts: the class's other text methods, names in a town -/
def fkd (f : Nat → Int32) (n q : Nat) : Nat := if tkK f n q = 4294967295 then 1 else 2
theorem tkK_lt (f : Nat → Int32) (n q : Nat) : tkK f n q < 2 ^ 32 := by
  rcases tkK_or f n q with h | h | h | h | h | h | h
  · omega
  · rcases kwk_or (tkW f n q) with k | k <;> omega
  · omega
  · omega
  · have := h.2.2.2.1
    rcases (isSg_iff _).mp this with k | k | k | k <;> omega
  · omega
  · omega
theorem tkV_le {f : Nat → Int32} {n q : Nat} (h : tkK f n q = 1) : tkV f n q ≤ 9999 := by
  rcases tkK_or f n q with g | g | g | g | g | g | g
  · omega
  · rcases kwk_or (tkW f n q) with k | k <;> omega
  · omega
  · have a := (dC_b f n (tkS f n q)).2.1
    have b := nv_lt (f := f) (s := tkS f n q) (dC f n (tkS f n q)) a
    have c : 10 ^ (dC f n (tkS f n q)) ≤ 10 ^ 4 := Nat.pow_le_pow_right (by omega) (by omega)
    unfold tkV
    omega
  · have := g.2.2.2.1
    rcases (isSg_iff _).mp this with k | k | k | k <;> omega
  · omega
  · omega
theorem lq_eq {α : Type} {a b : Int64} {x y : α} (h : a = b) : (if lg_cmp a b = nI 0 then x else y) = x := if_pos ((lg_cmp_eq _ _).mpr h)
theorem lq_ne {α : Type} {a b : Int64} {x y : α} (h : a ≠ b) : (if lg_cmp a b = nI 0 then x else y) = y := if_neg (fun e => h ((lg_cmp_eq _ _).mp e))
theorem KWS_f {J L : Nat → Nat → Int64} (H : KWS J) (h : FTJ J L) : KWS L := fun k hk => by rw [h 116 (by omega)]; exact H k hk
/-- the first so named -/
def fdN (nm : Nat → Int64) (k c : Nat) (w : Int64) : Nat := if fnd (fun i => decide (nm (6 * k + i) = w)) 0 c < c then fnd (fun i => decide (nm (6 * k + i) = w)) 0 c else 4294967295
theorem fdN_or (nm : Nat → Int64) (k c : Nat) (w : Int64) : fdN nm k c w < c ∨ fdN nm k c w = 4294967295 := by
  unfold fdN
  split
  · exact Or.inl (by omega)
  · exact Or.inr rfl
theorem fdN_congr {nm mm : Nat → Int64} {k c : Nat} (h : ∀ i, i < c → nm (6 * k + i) = mm (6 * k + i)) (w : Int64) : fdN nm k c w = fdN mm k c w := by
  unfold fdN
  rw [fnd_congr (p := fun i => decide (nm (6 * k + i) = w)) (q := fun i => decide (mm (6 * k + i) = w)) c 0 (fun j _ hj => by rw [h j (by omega)])]
section
variable {N d : Nat} {X : lt_X} {f : Nat → Int32} {n q : Nat} {I : Nat → Nat → Int32} {J : Nat → Nat → Int64}
theorem c4_next (hn : n ≤ 900) (hB : ∀ k, k < n → isB (f k)) (hN : 10000 ≤ N) (hk : KWS J) (hq : q ≤ n) (H : CT f n q I J) : ∃ K L, am_G am_prog (N + 30) (d + 2) 46 [.ref 115] (mkh X I J) = some (.null, mkh X K L) ∧ CT f n (tkE f n q) K L ∧ FTI I K ∧ FTJ J L ∧ KWS L := by
  obtain ⟨K, L, a, b, c, e⟩ := c4_advance (N := N) (d := d) (X := X) (I := I) (J := J) hn hB hk hN H.1 H.2.1 (tkE_b f hq).2.1 H.2.2.1
  exact ⟨K, L, a, b, c, e, KWS_f hk e⟩
theorem c4_fail (H : CT f n q I J) (x : Int32) : am_G am_prog (N + 30) (d + 1) 49 [.ref 115, .int x] (mkh X I J) = some (.int (nI 0), mkh X (u2 (u2 I 115 10 x) 115 11 (nI (tkS f n q))) J) := by
  rw [gX4_fail N d, sX4_fail_0 N d, H.2.2.2.2.1]
theorem c4_refuses (H : CT f n q I J) : am_G am_prog (N + 30) (d + 1) 50 [.ref 115] (mkh X I J) = some (.int (nI 0), mkh X (u2 (u2 I 115 10 (nI (fkd f n q))) 115 11 (nI (tkS f n q))) J) := by
  have h := tkK_lt f n q
  rw [gX4_refuses N d, sX4_refuses_0 N d, H.2.2.2.2.1, H.2.2.2.1]
  unfold fkd
  by_cases c : tkK f n q = 4294967295
  · rw [nc_m1 c, if_pos c]
  · rw [no_m1, nc_ne c h (by omega), if_neg c]
theorem c4_takes0 (H : CT f n q I J) {kd : Nat} (hkd : kd < 2 ^ 32) (h : tkK f n q ≠ kd) : am_G am_prog (N + 30) (d + 3) 51 [.ref 115, .int (nI kd)] (mkh X I J) = some (.int (nI 0), mkh X (u2 (u2 I 115 10 (nI (fkd f n q))) 115 11 (nI (tkS f n q))) J) := by
  rw [gX4_takes N (d + 2), sX4_takes_0 N (d + 2), H.2.2.2.1, nc_ne h (tkK_lt f n q) hkd, c4_refuses (d := d + 1) H, cI_some, kX4_takes_1 N (d + 2), nb_ok (by omega)]
theorem c4_takes1 (hn : n ≤ 900) (hB : ∀ k, k < n → isB (f k)) (hN : 10000 ≤ N) (hk : KWS J) (hq : q ≤ n) (H : CT f n q I J) {kd : Nat} (h : tkK f n q = kd) : ∃ K L, am_G am_prog (N + 30) (d + 3) 51 [.ref 115, .int (nI kd)] (mkh X I J) = some (.int (nI 1), mkh X K L) ∧ CT f n (tkE f n q) K L ∧ FTI I K ∧ FTJ J L ∧ KWS L := by
  obtain ⟨K, L, a, b⟩ := c4_next (N := N) (d := d) (X := X) hn hB hN hk hq H
  refine ⟨K, L, ?_, b⟩
  rw [gX4_takes N (d + 2), sX4_takes_0 N (d + 2), H.2.2.2.1, nc_eq h, a, cV_some, kX4_takes_0 N (d + 2)]
theorem c4_number0 (H : CT f n q I J) {lo hi : Nat} (h : tkK f n q ≠ 1) : am_G am_prog (N + 30) (d + 3) 52 [.ref 115, .int (nI lo), .int (nI hi)] (mkh X I J) = some (.int (nI 0), mkh X (u2 (u2 I 115 10 (nI (fkd f n q))) 115 11 (nI (tkS f n q))) J) := by
  rw [gX4_takesNumber N (d + 2), sX4_takesNumber_0 N (d + 2), H.2.2.2.1, nc_ne h (tkK_lt f n q) (by omega), c4_refuses (d := d + 1) H, cI_some, kX4_takesNumber_2 N (d + 2), nb_ok (by omega)]
theorem c4_number4 (H : CT f n q I J) {lo hi : Nat} (hlo : lo < 2 ^ 31) (hhi : hi < 2 ^ 31) (h : tkK f n q = 1) (hr : ¬ (lo ≤ tkV f n q ∧ tkV f n q ≤ hi)) : am_G am_prog (N + 30) (d + 3) 52 [.ref 115, .int (nI lo), .int (nI hi)] (mkh X I J) = some (.int (nI 0), mkh X (u2 (u2 I 115 10 (nI 4)) 115 11 (nI (tkS f n q))) J) := by
  have hv := tkV_le h
  rw [gX4_takesNumber N (d + 2), sX4_takesNumber_0 N (d + 2), H.2.2.2.1, nc_eq h, H.2.2.2.2.2.1 h]
  by_cases c : tkV f n q < lo
  · rw [nc_lt c hlo, c4_fail (d := d + 1) H, cI_some, kX4_takesNumber_0 N (d + 2), nb_ok (by omega)]
  · rw [nc_nlt (by omega) (by omega), nc_lt (by omega) (by omega), c4_fail (d := d + 1) H, cI_some, kX4_takesNumber_0 N (d + 2), nb_ok (by omega)]
theorem CT_o {f : Nat → Int32} {n q : Nat} {I : Nat → Nat → Int32} {J : Nat → Nat → Int64} {k : Nat} {v : Int32} (hk : k < 2 ∨ 7 < k) (H : CT f n q I J) : CT f n q (u2 I 115 k v) J := by
  obtain ⟨h1, h2, h3, h4, h5, h6, h7⟩ := H
  refine ⟨fun i hi => by rw [u2_na _ _ _ _ _ (by omega)]; exact h1 i hi, by rw [u2_nk _ _ _ _ _ (by omega)]; exact h2, by rw [u2_nk _ _ _ _ _ (by omega)]; exact h3, by rw [u2_nk _ _ _ _ _ (by omega)]; exact h4, by rw [u2_nk _ _ _ _ _ (by omega)]; exact h5, fun h => by rw [u2_nk _ _ _ _ _ (by omega)]; exact h6 h, h7⟩
theorem CT_a {f : Nat → Int32} {n q : Nat} {I K : Nat → Nat → Int32} {J L : Nat → Nat → Int64} (h13 : K 13 = I 13) (h115 : K 115 = I 115) (hL : L 115 = J 115) (H : CT f n q I J) : CT f n q K L := by
  obtain ⟨h1, h2, h3, h4, h5, h6, h7⟩ := H
  unfold CT
  rw [h13, h115, hL]
  exact ⟨h1, h2, h3, h4, h5, h6, h7⟩
theorem c4_number1 (hn : n ≤ 900) (hB : ∀ k, k < n → isB (f k)) (hN : 10000 ≤ N) (hk : KWS J) (hq : q ≤ n) (H : CT f n q I J) {lo hi : Nat} (hlo : lo < 2 ^ 31) (hhi : hi < 2 ^ 31) (h : tkK f n q = 1) (h1 : lo ≤ tkV f n q) (h2 : tkV f n q ≤ hi) : ∃ K L, am_G am_prog (N + 30) (d + 3) 52 [.ref 115, .int (nI lo), .int (nI hi)] (mkh X I J) = some (.int (nI 1), mkh X K L) ∧ CT f n (tkE f n q) K L ∧ K 115 8 = nI (tkV f n q) ∧ FTI (u2 I 115 8 (nI (tkV f n q))) K ∧ FTJ J L ∧ KWS L := by
  have hv := tkV_le h
  obtain ⟨K, L, a, b, c, e⟩ := c4_next (N := N) (d := d) (X := X) hn hB hN hk hq (CT_o (k := 8) (v := nI (tkV f n q)) (by omega) H)
  refine ⟨K, L, ?_, b, ?_, c, e⟩
  · rw [gX4_takesNumber N (d + 2), sX4_takesNumber_0 N (d + 2), H.2.2.2.1, nc_eq h, H.2.2.2.2.2.1 h, nc_nlt h1 (by omega), nc_nlt h2 (by omega), a, cV_some, kX4_takesNumber_1 N (d + 2)]
  · rw [c.2 8 (by omega), u2_at]
theorem c5_find {t : Nat} (ht : isT t) {k c : Nat} (hk : k < 4) (hc : c ≤ 6) (h2 : I (t + 2) k = nI c) (hN : 1000 ≤ N) (w : Int64) : am_G am_prog (N + 30) (d + 1) 59 [.ref t, .int (nI k), .long w] (mkh X I J) = some (.int (nI (fdN (J (t + 1)) k c w)), mkh X I J) := by
  have main := lqf (run := fun n i => RX5_find_3 N d n X t (nI k) w (nI i) I J) (m := c) (p := fun i => decide (J (t + 1) (6 * k + i) = w)) (A := fun i => some (.int (nI i), mkh X I J)) (Z := some (.int (-1), mkh X I J)) ?_ ?_ ?_ c 0 (N + 29) (by omega) (by omega)
  · rw [gX5_find N d ht, sX5_find_0 N d _ ht]
    refine main.trans ?_
    unfold fdN
    by_cases g : fnd (fun i => decide (J (t + 1) (6 * k + i) = w)) 0 c < c
    · rw [if_pos g, if_pos g]
    · rw [if_neg g, if_neg g, no_m1]
  · intro z i hi p
    rw [sX5_find_3 N d z ht, nc_in (by omega) (by omega), nI_clamp (by omega), h2, nc_lt hi (by omega), pk_mul, nI_add, nc_in (by omega) (by omega), nI_clamp (by omega), Nat.mul_comm k 6, lq_eq (of_decide_eq_true p)]
  · intro z i hi p
    rw [sX5_find_3 N d z ht, nc_in (by omega) (by omega), nI_clamp (by omega), h2, nc_lt hi (by omega), pk_mul, nI_add, nc_in (by omega) (by omega), nI_clamp (by omega), Nat.mul_comm k 6, lq_ne (of_decide_eq_false p), nI_add]
  · intro z
    rw [sX5_find_3 N d z ht, nc_in (by omega) (by omega), nI_clamp (by omega), h2, nc_nlt (by omega) (by omega)]
/-- the name is taken -/
def tkn (nm : Nat → Int64) (T : Nat → Nat) (w : Int64) : Prop := ¬ (fdN nm 0 (T 0) w = 4294967295 ∧ fdN nm 1 (T 1) w = 4294967295 ∧ fdN nm 2 (T 2) w = 4294967295 ∧ fdN nm 3 (T 3) w = 4294967295)
theorem c5_isTaken {t : Nat} (ht : isT t) {T : Nat → Nat} (hT : ∀ k, k < 4 → T k ≤ 6) (h2 : ∀ k, k < 4 → I (t + 2) k = nI (T k)) (hN : 1000 ≤ N) (w : Int64) : (tkn (J (t + 1)) T w → am_G am_prog (N + 30) (d + 2) 60 [.ref t, .long w] (mkh X I J) = some (.int (nI 1), mkh X I J)) ∧ (¬ tkn (J (t + 1)) T w → am_G am_prog (N + 30) (d + 2) 60 [.ref t, .long w] (mkh X I J) = some (.int (nI 0), mkh X I J)) := by
  have e : ∀ k, k < 4 → am_G am_prog (N + 30) (d + 1) 59 [.ref t, .int (nI k), .long w] (mkh X I J) = some (.int (nI (fdN (J (t + 1)) k (T k) w)), mkh X I J) := fun k hk => c5_find ht hk (hT k hk) (h2 k hk) hN w
  have st : ∀ k z, k < 4 → RX5_isTaken_2 N (d + 1) (z + 1) X t w (nI k) I J = if fdN (J (t + 1)) k (T k) w = 4294967295 then RX5_isTaken_2 N (d + 1) z X t w (nI (k + 1)) I J else some (.int (nI 1), mkh X I J) := by
    intro k z hk
    have b := hT k hk
    rw [sX5_isTaken_2 N (d + 1) z ht, nc_lt hk (by omega), e k hk, cI_some, kX5_isTaken_0 N (d + 1) z ht, nI_add k 1]
    rcases fdN_or (J (t + 1)) k (T k) w with g | g
    · rw [no_m1, nc_ne (by omega) (by omega) (by omega), if_neg (by omega)]
    · rw [nc_m1 g, if_pos g]
  have all : am_G am_prog (N + 30) (d + 2) 60 [.ref t, .long w] (mkh X I J) = if fdN (J (t + 1)) 0 (T 0) w = 4294967295 then (if fdN (J (t + 1)) 1 (T 1) w = 4294967295 then (if fdN (J (t + 1)) 2 (T 2) w = 4294967295 then (if fdN (J (t + 1)) 3 (T 3) w = 4294967295 then some (.int (nI 0), mkh X I J) else some (.int (nI 1), mkh X I J)) else some (.int (nI 1), mkh X I J)) else some (.int (nI 1), mkh X I J)) else some (.int (nI 1), mkh X I J) := by
    rw [gX5_isTaken N (d + 1) ht, sX5_isTaken_0 N (d + 1) (N + 29) ht, st 0 (N + 28) (by omega), st 1 (N + 27) (by omega), st 2 (N + 26) (by omega), st 3 (N + 25) (by omega), sX5_isTaken_2 N (d + 1) (N + 24) ht, nc_nlt (by omega) (by omega)]
  rw [all]
  unfold tkn
  by_cases g0 : fdN (J (t + 1)) 0 (T 0) w = 4294967295
  · by_cases g1 : fdN (J (t + 1)) 1 (T 1) w = 4294967295
    · by_cases g2 : fdN (J (t + 1)) 2 (T 2) w = 4294967295
      · by_cases g3 : fdN (J (t + 1)) 3 (T 3) w = 4294967295
        · exact ⟨fun h => absurd ⟨g0, g1, g2, g3⟩ h, fun _ => by rw [if_pos g0, if_pos g1, if_pos g2, if_pos g3]⟩
        · exact ⟨fun _ => by rw [if_pos g0, if_pos g1, if_pos g2, if_neg g3], fun h => absurd (fun k => g3 k.2.2.2) h⟩
      · exact ⟨fun _ => by rw [if_pos g0, if_pos g1, if_neg g2], fun h => absurd (fun k => g2 k.2.2.1) h⟩
    · exact ⟨fun _ => by rw [if_pos g0, if_neg g1], fun h => absurd (fun k => g1 k.2.1) h⟩
  · exact ⟨fun _ => by rw [if_neg g0], fun h => absurd (fun k => g0 k.1) h⟩
/-- a name that is told: what comes of it -/
theorem c4_isNameOf0 {t : Nat} (ht : isT t) (H : CT f n q I J) (x : Int32) (h : tkK f n q ≠ 2) : am_G am_prog (N + 30) (d + 3) 53 [.ref 115, .ref t, .int x] (mkh X I J) = some (.int (nI 0), mkh X (u2 (u2 I 115 10 (nI (fkd f n q))) 115 11 (nI (tkS f n q))) J) := by
  rw [gX4_isNameOf N (d + 2) ht, sX4_isNameOf_0 N (d + 2) _ ht, H.2.2.2.1, nc_ne h (tkK_lt f n q) (by omega), c4_refuses (d := d + 1) H, cI_some, kX4_isNameOf_1 N (d + 2), nb_ok (by omega)]
theorem c4_isNameOf3 {t : Nat} (ht : isT t) (H : CT f n q I J) {k c : Nat} (hk : k < 4) (hc : c ≤ 6) (h2 : I (t + 2) k = nI c) (hN : 1000 ≤ N) (h : tkK f n q = 2) (hf : fdN (J (t + 1)) k c (lN (tkW f n q)) = 4294967295) : am_G am_prog (N + 30) (d + 3) 53 [.ref 115, .ref t, .int (nI k)] (mkh X I J) = some (.int (nI 0), mkh X (u2 (u2 (u2 I 115 9 (-1)) 115 10 (nI 3)) 115 11 (nI (tkS f n q))) J) := by
  rw [gX4_isNameOf N (d + 2) ht, sX4_isNameOf_0 N (d + 2) _ ht, H.2.2.2.1, nc_eq h, H.2.2.2.2.2.2 h, c5_find (d := d + 1) ht hk hc h2 hN, cI_some, kX4_isNameOf_0 N (d + 2), nc_m1 hf, c4_fail (d := d + 1) (CT_o (by omega) H), cI_some, kX4_isNameOf_2 N (d + 2), nc_eq rfl, hf, no_m1]
theorem c4_isNameOf1 {t : Nat} (ht : isT t) (H : CT f n q I J) {k c : Nat} (hk : k < 4) (hc : c ≤ 6) (h2 : I (t + 2) k = nI c) (hN : 1000 ≤ N) (h : tkK f n q = 2) (hf : fdN (J (t + 1)) k c (lN (tkW f n q)) < c) : am_G am_prog (N + 30) (d + 3) 53 [.ref 115, .ref t, .int (nI k)] (mkh X I J) = some (.int (nI 1), mkh X (u2 I 115 9 (nI (fdN (J (t + 1)) k c (lN (tkW f n q))))) J) := by
  rw [gX4_isNameOf N (d + 2) ht, sX4_isNameOf_0 N (d + 2) _ ht, H.2.2.2.1, nc_eq h, H.2.2.2.2.2.2 h, c5_find (d := d + 1) ht hk hc h2 hN, cI_some, kX4_isNameOf_0 N (d + 2), nc_nm1 (by omega)]
theorem c4_takesName0 {t : Nat} (ht : isT t) (H : CT f n q I J) (x : Int32) (h : tkK f n q ≠ 2) : am_G am_prog (N + 30) (d + 4) 54 [.ref 115, .ref t, .int x] (mkh X I J) = some (.int (nI 0), mkh X (u2 (u2 I 115 10 (nI (fkd f n q))) 115 11 (nI (tkS f n q))) J) := by
  rw [gX4_takesName N (d + 3) ht, sX4_takesName_0 N (d + 3) _ ht, c4_isNameOf0 ht H x h, cI_some, kX4_takesName_0 N (d + 3), nc_eq rfl]
theorem c4_takesName3 {t : Nat} (ht : isT t) (H : CT f n q I J) {k c : Nat} (hk : k < 4) (hc : c ≤ 6) (h2 : I (t + 2) k = nI c) (hN : 1000 ≤ N) (h : tkK f n q = 2) (hf : fdN (J (t + 1)) k c (lN (tkW f n q)) = 4294967295) : am_G am_prog (N + 30) (d + 4) 54 [.ref 115, .ref t, .int (nI k)] (mkh X I J) = some (.int (nI 0), mkh X (u2 (u2 (u2 I 115 9 (-1)) 115 10 (nI 3)) 115 11 (nI (tkS f n q))) J) := by
  rw [gX4_takesName N (d + 3) ht, sX4_takesName_0 N (d + 3) _ ht, c4_isNameOf3 ht H hk hc h2 hN h hf, cI_some, kX4_takesName_0 N (d + 3), nc_eq rfl]
theorem c4_takesName1 {t : Nat} (hn : n ≤ 900) (hB : ∀ k, k < n → isB (f k)) (hkw : KWS J) (hq : q ≤ n) (ht : isT t) (H : CT f n q I J) {k c : Nat} (hk : k < 4) (hc : c ≤ 6) (h2 : I (t + 2) k = nI c) (hN : 10000 ≤ N) (h : tkK f n q = 2) (hf : fdN (J (t + 1)) k c (lN (tkW f n q)) < c) : ∃ K L, am_G am_prog (N + 30) (d + 4) 54 [.ref 115, .ref t, .int (nI k)] (mkh X I J) = some (.int (nI 1), mkh X K L) ∧ CT f n (tkE f n q) K L ∧ K 115 9 = nI (fdN (J (t + 1)) k c (lN (tkW f n q))) ∧ FTI (u2 I 115 9 (nI (fdN (J (t + 1)) k c (lN (tkW f n q))))) K ∧ FTJ J L ∧ KWS L := by
  obtain ⟨K, L, a, b, c, e⟩ := c4_next (N := N) (d := d + 1) (X := X) hn hB hN hkw hq (CT_o (k := 9) (v := nI (fdN (J (t + 1)) k c (lN (tkW f n q)))) (by omega) H)
  refine ⟨K, L, ?_, b, by rw [c.2 9 (by omega), u2_at], c, e⟩
  rw [gX4_takesName N (d + 3) ht, sX4_takesName_0 N (d + 3) _ ht, c4_isNameOf1 ht H hk hc h2 (by omega) h hf, cI_some, kX4_takesName_0 N (d + 3), nc_ne (by omega) (by omega) (by omega), a, cV_some, kX4_takesName_1 N (d + 3)]
theorem c5_isFull {t : Nat} (ht : isT t) {k c : Nat} (hk : k < 4) (hc : c ≤ 6) (h2 : I (t + 2) k = nI c) : am_G am_prog (N + 30) (d + 1) 61 [.ref t, .int (nI k)] (mkh X I J) = some (.int (nI (if c < 6 then 0 else 1)), mkh X I J) := by
  rw [gX5_isFull N d ht, sX5_isFull_0 N d _ ht, nc_in (by omega) (by omega), nI_clamp (by omega), h2]
  by_cases g : c < 6
  · rw [nc_lt g (by omega), if_pos g]
  · rw [nc_nlt (by omega) (by omega), if_neg g]
end
