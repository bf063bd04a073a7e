/-! fractions: alive, warm -/
theorem lc_eq {α : Type} {a b : Nat} {x y : α} (h : a = b) : (if lg_cmp (lN a) (lN b) = nI 0 then x else y) = x := if_pos ((lg_cmp_eq _ _).mpr (by rw [h]))
theorem lc_ne {α : Type} {a b : Nat} {x y : α} (h : a ≠ b) (ha : a < 2 ^ 63) (hb : b < 2 ^ 63) : (if lg_cmp (lN a) (lN b) = nI 0 then x else y) = y := if_neg (fun q => h ((pk_lEQ ha hb).mp ((lg_cmp_eq _ _).mp q)))
theorem lc_gt {α : Type} {a b : Nat} {x y : α} (h : b < a) (ha : a < 2 ^ 63) : (if nI 0 < lg_cmp (lN a) (lN b) then x else y) = x := if_pos ((lg_cmp_gt _ _).mpr ((pk_lLT (by omega) ha).mpr h))
theorem lc_ngt {α : Type} {a b : Nat} {x y : α} (h : a ≤ b) (hb : b < 2 ^ 63) : (if nI 0 < lg_cmp (lN a) (lN b) then x else y) = y := if_neg (fun q => by
  have := (pk_lLT hb (by omega)).mp ((lg_cmp_gt _ _).mp q); omega)
theorem nzL_ok {y : Nat} {o : am_O} (h : 0 < y) (hy : y < 2 ^ 63) : am_nzL (lN y) o = o := if_neg (fun q => by
  have := (pk_lEQ hy (by omega)).mp (show lN y = lN 0 from q); omega)
theorem mod_half {r b k : Nat} (h1 : 0 < r) (h2 : r < b) (h3 : b < 2 ^ (k + 1)) : b % r < 2 ^ k := by
  have hp : 2 ^ (k + 1) = 2 * 2 ^ k := by rw [Nat.pow_succ]; omega
  by_cases q : 2 * r ≤ b
  · have := Nat.mod_lt b h1; omega
  · have e : b % r = b - r := by
      rw [Nat.mod_eq_sub_mod (by omega), Nat.mod_eq_of_lt (by omega)]
    omega
theorem c8_tellL {N d : Nat} {X : lt_X} {I : Nat → Nat → Int32} {J : Nat → Nat → Int64} (hX : hsX X) (x1 x3 : Int64) : ∀ k a b i, b < 2 ^ k → 0 < a + b → a < 2 ^ 62 → b < 2 ^ 62 → i + 2 * k < 200 → ev (fun n => RX8_tell_9 N d n X x1 x3 (lN a) (lN b) (nI i) I J) (2 * k + 2) (some (.null, mkh X I (u2L (u2L J 3 16 (x1 / lN (Nat.gcd a b))) 3 17 (x3 / lN (Nat.gcd a b))))) := by
  have r58 : ∀ (g : Nat), 0 < g → g < 2 ^ 62 → ev (fun n => RX8_tell_58 N d n X x1 x3 (lN g) I J) 1 (some (.null, mkh X I (u2L (u2L J 3 16 (x1 / lN g)) 3 17 (x3 / lN g)))) := by
    intro g h1 h2
    refine ev_0 (fun n => ?_)
    rw [sX8_tell_58 N d n hX, nzL_ok h1 (by omega), nzL_ok h1 (by omega)]
  have r0 : ∀ a i, 0 < a → a < 2 ^ 62 → i < 200 → ev (fun n => RX8_tell_9 N d n X x1 x3 (lN a) (lN 0) (nI i) I J) 2 (some (.null, mkh X I (u2L (u2L J 3 16 (x1 / lN (Nat.gcd a 0))) 3 17 (x3 / lN (Nat.gcd a 0))))) := by
    intro a i h1 h2 h3
    rw [Nat.gcd_zero_right]
    refine ev_s (fun n => ?_) (r58 a h1 h2)
    rw [sX8_tell_9 N d n hX, nc_lt h3 (by omega), lc_eq rfl, lc_gt h1 (by omega)]
  intro k
  induction k with
  | zero =>
    intro a b i hb hab ha hb2 hi
    have e : b = 0 := by simpa using hb
    subst e
    exact r0 a i (by omega) ha (by omega)
  | succ k ih =>
    intro a b i hb hab ha hb2 hi
    by_cases q : b = 0
    · subst q; exact ev_le (r0 a i (by omega) ha (by omega)) (by omega)
    · have hm : a % b < b := Nat.mod_lt _ (by omega)
      have s1 : ∀ n, RX8_tell_9 N d (n + 1) X x1 x3 (lN a) (lN b) (nI i) I J = RX8_tell_9 N d n X x1 x3 (lN b) (lN (a % b)) (nI (i + 1)) I J := by
        intro n
        rw [sX8_tell_9 N d n hX, nc_lt (by omega) (by omega), lc_ne q (by omega) (by omega), nzL_ok (by omega) (by omega), pk_lRem (by omega) (by omega) (by omega), nI_add]
      have eg : Nat.gcd a b = Nat.gcd b (a % b) := by rw [Nat.gcd_comm a b, Nat.gcd_rec b a, Nat.gcd_comm]
      by_cases q2 : a % b = 0
      · rw [eg, q2]
        have := r0 b (i + 1) (by omega) hb2 (by omega)
        exact ev_le (ev_s (fun n => by rw [s1, q2]) this) (by omega)
      · have s2 : ∀ n, RX8_tell_9 N d (n + 1) X x1 x3 (lN b) (lN (a % b)) (nI (i + 1)) I J = RX8_tell_9 N d n X x1 x3 (lN (a % b)) (lN (b % (a % b))) (nI (i + 2)) I J := by
          intro n
          rw [sX8_tell_9 N d n hX, nc_lt (by omega) (by omega), lc_ne q2 (by omega) (by omega), nzL_ok (by omega) (by omega), pk_lRem (by omega) (by omega) (by omega), nI_add]
        have hm2 : b % (a % b) < a % b := Nat.mod_lt _ (by omega)
        have eg2 : Nat.gcd b (a % b) = Nat.gcd (a % b) (b % (a % b)) := by rw [Nat.gcd_comm b, Nat.gcd_rec (a % b) b, Nat.gcd_comm]
        rw [eg, eg2]
        exact ev_le (ev_s s1 (ev_s s2 (ih (a % b) (b % (a % b)) (i + 2) (mod_half (by omega) hm hb) (by omega) (by omega) (by omega) (by omega)))) (by omega)
theorem c8_tell {N d : Nat} {X : lt_X} {I : Nat → Nat → Int32} {J : Nat → Nat → Int64} (hX : hsX X) {a b : Nat} (hb0 : 0 < b) (hb : b < 2 ^ 50) (ha : a < 2 ^ 62) (hN : 10000 ≤ N) : am_G am_prog (N + 30) (d + 1) 172 [.ref 3, .long (lN a), .long (lN b)] (mkh X I J) = some (.null, mkh X I (u2L (u2L J 3 16 (lN (a / Nat.gcd a b))) 3 17 (lN (b / Nat.gcd a b)))) := by
  have g0 : 0 < Nat.gcd a b := Nat.gcd_pos_of_pos_right a hb0
  have gl : Nat.gcd a b ≤ b := Nat.gcd_le_right a hb0
  have e := c8_tellL (N := N) (d := d) (X := X) (I := I) (J := J) hX (lN a) (lN b) 50 a b 0 hb (by omega) ha (by omega) (by omega)
  rw [gX8_tell N d, sX8_tell_0 N d _ hX]
  rw [← pk_lDiv (a := a) (b := Nat.gcd a b) (by omega) g0 (by omega), ← pk_lDiv (a := b) (b := Nat.gcd a b) (by omega) g0 (by omega)]
  exact e (N + 29) (by omega)
theorem c9_fracL {N d : Nat} {X : lt_X} {I : Nat → Nat → Int32} {J : Nat → Nat → Int64} (x1 x3 : Int64) : ∀ k a b, b < 2 ^ k → 0 < a + b → a < 2 ^ 62 → b < 2 ^ 62 → ev (fun n => RX9_fraction_9 N d n X x1 x3 (lN a) (lN b) I J) (2 * k + 2) (some (.int (nI 1), mkh X I (u2L (u2L J 135 2 (x1 / lN (Nat.gcd a b))) 135 3 (x3 / lN (Nat.gcd a b))))) := by
  have r0 : ∀ a, 0 < a → a < 2 ^ 62 → ev (fun n => RX9_fraction_9 N d n X x1 x3 (lN a) (lN 0) I J) 2 (some (.int (nI 1), mkh X I (u2L (u2L J 135 2 (x1 / lN (Nat.gcd a 0))) 135 3 (x3 / lN (Nat.gcd a 0))))) := by
    intro a h1 h2
    rw [Nat.gcd_zero_right]
    refine ev_le (ev_0 (fun n => ?_)) (by omega)
    rw [sX9_fraction_9 N d n, lc_eq rfl, nzL_ok h1 (by omega), nzL_ok h1 (by omega)]
  intro k
  induction k with
  | zero =>
    intro a b hb hab ha hb2
    have e : b = 0 := by simpa using hb
    subst e
    exact r0 a (by omega) ha
  | succ k ih =>
    intro a b hb hab ha hb2
    by_cases q : b = 0
    · subst q; exact ev_le (r0 a (by omega) ha) (by omega)
    · have hm : a % b < b := Nat.mod_lt _ (by omega)
      have s1 : ∀ n, RX9_fraction_9 N d (n + 1) X x1 x3 (lN a) (lN b) I J = RX9_fraction_9 N d n X x1 x3 (lN b) (lN (a % b)) I J := by
        intro n
        rw [sX9_fraction_9 N d n, lc_ne q (by omega) (by omega), nzL_ok (by omega) (by omega), pk_lRem (by omega) (by omega) (by omega)]
      have eg : Nat.gcd a b = Nat.gcd b (a % b) := by rw [Nat.gcd_comm a b, Nat.gcd_rec b a, Nat.gcd_comm]
      by_cases q2 : a % b = 0
      · rw [eg, q2]
        have := r0 b (by omega) hb2
        exact ev_le (ev_s (fun n => by rw [s1, q2]) this) (by omega)
      · have s2 : ∀ n, RX9_fraction_9 N d (n + 1) X x1 x3 (lN b) (lN (a % b)) I J = RX9_fraction_9 N d n X x1 x3 (lN (a % b)) (lN (b % (a % b))) I J := by
          intro n
          rw [sX9_fraction_9 N d n, lc_ne q2 (by omega) (by omega), nzL_ok (by omega) (by omega), pk_lRem (by omega) (by omega) (by omega)]
        have hm2 : b % (a % b) < a % b := Nat.mod_lt _ (by omega)
        have eg2 : Nat.gcd b (a % b) = Nat.gcd (a % b) (b % (a % b)) := by rw [Nat.gcd_comm b, Nat.gcd_rec (a % b) b, Nat.gcd_comm]
        rw [eg, eg2]
        exact ev_le (ev_s s1 (ev_s s2 (ih (a % b) (b % (a % b)) (mod_half (by omega) hm hb) (by omega) (by omega) (by omega)))) (by omega)
theorem abs_lN {a : Nat} (ha : a < 2 ^ 62) : (if 0 < lN a then lN a else -lN a) = lN a := by
  by_cases q : a = 0
  · subst q; decide +kernel
  · exact if_pos ((pk_lLT (a := 0) (by omega) (by omega)).mpr (by omega))
theorem c9_fraction {N d : Nat} {X : lt_X} {I : Nat → Nat → Int32} {J : Nat → Nat → Int64} {a b : Nat} (hb0 : 0 < b) (hb : b < 2 ^ 50) (ha : a < 2 ^ 62) (hN : 10000 ≤ N) : am_G am_prog (N + 30) (d + 1) 191 [.ref 135, .long (lN a), .long (lN b)] (mkh X I J) = some (.int (nI 1), mkh X I (u2L (u2L J 135 2 (lN (a / Nat.gcd a b))) 135 3 (lN (b / Nat.gcd a b)))) := by
  have g0 : 0 < Nat.gcd a b := Nat.gcd_pos_of_pos_right a hb0
  have gl : Nat.gcd a b ≤ b := Nat.gcd_le_right a hb0
  have e := c9_fracL (N := N) (d := d) (X := X) (I := I) (J := J) (lN a) (lN b) 50 a b hb (by omega) ha (by omega)
  rw [gX9_fraction N d, sX9_fraction_0 N d, abs_lN ha]
  rw [← pk_lDiv (a := a) (b := Nat.gcd a b) (by omega) g0 (by omega), ← pk_lDiv (a := b) (b := Nat.gcd a b) (by omega) g0 (by omega)]
  exact e (N + 29) (by omega)
theorem c8_power {N d : Nat} {X : lt_X} {I : Nat → Nat → Int32} {J : Nat → Nat → Int64} (hX : hsX X) {b m : Nat} (hb : b < 2 ^ 31) (hm : m ≤ 20) : am_G am_prog (N + 30) (d + 1) 171 [.int (nI b), .int (nI m)] (mkh X I J) = some (.long (lN (b ^ m)), (mkh X I J)) := by
  rw [gX8_power N d, sX8_power_0 N d _ hX]
  refine lqs (run := fun n i => RX8_power_5 N d n X (nI b) (nI m) (lN (b ^ i)) (nI i) I J) (m := m) ?_ ?_ (N + 29) 0 (by omega) (by omega)
  · intro n i hi
    rw [sX8_power_5 N d n hX, nc_lt hi (by omega), nI_l hb, lN_mul, nI_add, Nat.pow_succ]
  · intro n
    rw [sX8_power_5 N d n hX, nc_nlt (Nat.le_refl _) (by omega)]
theorem c9_power {N d : Nat} {X : lt_X} {I : Nat → Nat → Int32} {J : Nat → Nat → Int64} {b m : Nat} (hb : b < 2 ^ 31) (hm : m ≤ 20) : am_G am_prog (N + 30) (d + 1) 338 [.int (nI b), .int (nI m)] (mkh X I J) = some (.long (lN (b ^ m)), (mkh X I J)) := by
  rw [gX9_power N d, sX9_power_0 N d]
  refine lqs (run := fun n i => RX9_power_5 N d n X (nI b) (nI m) (lN (b ^ i)) (nI i) I J) (m := m) ?_ ?_ (N + 29) 0 (by omega) (by omega)
  · intro n i hi
    rw [sX9_power_5 N d n, nc_lt hi (by omega), nI_l hb, lN_mul, nI_add, Nat.pow_succ]
  · intro n
    rw [sX9_power_5 N d n, nc_nlt (Nat.le_refl _) (by omega)]
theorem INV_J {xs : Nat → Int32} {X : lt_X} {I : Nat → Nat → Int32} {J M : Nat → Nat → Int64} (H : INV xs X I J) (h : ∀ a, a ≠ 3 → a ≠ 135 → M a = J a) (hf : FRC M) : INV xs X I M := by
  obtain ⟨hX, a1, a2, a3, a4, a5, a6, a7, a8, a9, a10⟩ := H
  have he := hsX_no hX
  refine ⟨hX, a1, ?_, ?_, ?_, a5, a6, a7, hf, ?_, a10⟩
  · exact TW_frame (fun _ _ _ => rfl) (fun _ _ => rfl) (fun k _ => by rw [h _ (by omega) (by omega)]) (fun k _ => by rw [h _ (by omega) (by omega)]) a2
  · obtain ⟨m, b1, b2, b3, b4⟩ := a3
    exact ⟨m, b1, b2, b3, fun j hj => TW_frame (fun _ _ _ => rfl) (fun _ _ => rfl) (fun k _ => by rw [h _ (by omega) (by omega)]) (fun k _ => by rw [h _ (by omega) (by omega)]) (b4 j hj)⟩
  · intro i hi
    rw [h (6 + 2 * i) (by omega) (by omega), h 138 (by omega) (by omega)]
    exact a4 i hi
  · intro k hk
    rw [h 116 (by omega) (by omega)]; exact a9 k hk
/-- a pair that tells a fraction -/
theorem PR_frac {xs : Nat → Int32} {N d : Nat} {X : lt_X} {I : Nat → Nat → Int32} {J : Nat → Nat → Int64} {c m : Nat} {as : List Value} {T : Nat → Nat} (H : INV xs X I J) (hM : TM (I 140) T) (u w : Int64) (hc : am_G am_prog (N + 30) (d + 40) c (.ref 3 :: as) (mkh X I J) = some (.int (nI 1), mkh X (u2 I 3 15 (nI 0)) (u2L (u2L J 3 16 u) 3 17 w))) (hm : ∀ K L, TM (K 140) T → am_G am_prog (N + 30) (d + 40) m (.ref 135 :: as) (mkh X K L) = some (.int (nI 1), mkh X (u2 (u2 K 135 1 (nI 0)) 135 0 (nI 0)) (u2L (u2L L 135 2 u) 135 3 w))) : PR xs N d X I J c m as := by
  refine ⟨.int (nI 1), X, _, _, X, _, _, hc, hm _ _ (by rw [u2_na _ _ _ _ _ (by omega)]; exact hM), ?_, rfl⟩
  refine INV_J (J := J) (INV_tells H (K := u2 I 3 15 (nI 0)) ⟨fun a h1 _ => u2_na _ _ _ _ _ h1, fun k hk => u2_nk _ _ _ _ _ hk⟩ ⟨fun a h1 _ _ => by rw [u2_na _ _ _ _ _ h1, u2_na _ _ _ _ _ h1], fun k hk => by rw [u2_nk _ _ _ _ _ (by omega), u2_nk _ _ _ _ _ (by omega)]⟩ ?_) (fun a h1 h2 => ?_) ⟨?_, ?_⟩
  · rw [u2_at, u2_na _ _ _ _ _ (by omega), u2_na _ _ _ _ _ (by omega), u2_at]
  · rw [u2L_na _ _ _ _ _ h2, u2L_na _ _ _ _ _ h2, u2L_na _ _ _ _ _ h1, u2L_na _ _ _ _ _ h1]
  · rw [u2L_na _ _ _ _ _ (by omega), u2L_na _ _ _ _ _ (by omega), u2L_nk _ _ _ _ _ (by omega), u2L_at, u2L_nk _ _ _ _ _ (by omega), u2L_at]
  · rw [u2L_na _ _ _ _ _ (by omega), u2L_na _ _ _ _ _ (by omega), u2L_at, u2L_at]
theorem cL_some9 (x : Int64) (h : am_H) (f : Int64 → am_H → am_O) : am_cL (some (.long x, h)) f = f x h := Eq.trans rfl rfl
theorem p_alive {xs : Nat → Int32} {N d : Nat} {X : lt_X} {I : Nat → Nat → Int32} {J : Nat → Nat → Int64} (H : INV xs X I J) (hN : 100000 ≤ N) (x y : Int32) : PR xs N d X I J 169 339 [.int x, .int y] := by
  obtain ⟨T, hw, hT, hM, hX, ht⟩ := INV_T H
  obtain ⟨h0, h1, h2, h3, h4, h5, h6⟩ := hw.1
  by_cases q : inb x (T 1) = true
  · obtain ⟨v, hv, rfl⟩ := inb_e q (by omega)
    have hr := hw.2.1 v hv
    by_cases q2 : rng y 0 12 = true
    · obtain ⟨n, -, hn, rfl⟩ := rng_e q2 (by omega)
      by_cases q3 : T (25 + v) = 1
      · have p1 : 16 ^ n ≤ 16 ^ 12 := Nat.pow_le_pow_right (by omega) hn
        have p2 : (16 - T 4) ^ n ≤ 16 ^ n := Nat.pow_le_pow_left (by omega) n
        have p0 : 0 < 16 ^ n := Nat.pow_pos (by omega)
        have p3 : (16 : Nat) ^ 12 = 2 ^ 48 := by decide
        refine PR_frac H hM (lN ((16 - T 4) ^ n / Nat.gcd ((16 - T 4) ^ n) (16 ^ n))) (lN (16 ^ n / Nat.gcd ((16 - T 4) ^ n) (16 ^ n))) ?_ (fun K L hK => ?_)
        · rw [gX8_alive N (d + 38), sX8_alive_0 N (d + 38) _ hX]
          rw [c8_has hX hT hw (by omega), cI_some, kX8_alive_0 N (d + 38) _ hX, nc_10, if_pos q, rng_c (by omega) (by omega), if_pos q2, c5_isLiving ht hT hw hv, cI_some, kX8_alive_1 N (d + 38) _ hX, nc_10, if_pos q3, tcO hT, pk_sub h4, c8_power hX (by omega) (by omega), cL_some9, kX8_alive_2 N (d + 38) _ hX, c8_power hX (by omega) (by omega), cL_some9, kX8_alive_3 N (d + 38) _ hX, c8_tell hX p0 (by omega) (by omega) (by omega), cV_some, kX8_alive_4 N (d + 38) _ hX]
        · rw [gX9_alive N (d + 37), sX9_alive_0 N (d + 37)]
          rw [c9_isVoiceAt (I := u2 (u2 K 135 1 (nI 0)) 135 0 (nI 0)) hK hw, cI_some, kX9_alive_0 N (d + 37), nc_10, if_pos q, c9_in (by omega) (by omega), cI_some, kX9_alive_1 N (d + 37), nc_10, if_pos q2, nI_add, nc_in (by omega) (by omega), nI_clamp (by omega), show (u2 (u2 K 135 1 (nI 0)) 135 0 (nI 0)) 140 (25 + v) = nI (T (25 + v)) from tmV hK v hv, nc_ne (by omega) (by omega) (by omega), show (u2 (u2 K 135 1 (nI 0)) 135 0 (nI 0)) 140 4 = nI (T 4) from tm4 hK, pk_sub h4, c9_power (by omega) (by omega), cL_some9, kX9_alive_2 N (d + 37), c9_power (by omega) (by omega), cL_some9, kX9_alive_3 N (d + 37), c9_fraction p0 (by omega) (by omega) (by omega), cI_some, kX9_alive_4 N (d + 37), nb_ok (by omega)]
      · have q4 : T (25 + v) = 0 := by omega
        refine PR_v H hM (nI 0) (nI 9) ?_ (fun K hK => ?_)
        · rw [gX8_alive N (d + 38), sX8_alive_0 N (d + 38) _ hX]
          rw [c8_has hX hT hw (by omega), cI_some, kX8_alive_0 N (d + 38) _ hX, nc_10, if_pos q, rng_c (by omega) (by omega), if_pos q2, c5_isLiving ht hT hw hv, cI_some, kX8_alive_1 N (d + 38) _ hX, nc_10, if_neg q3]
        · rw [gX9_alive N (d + 37), sX9_alive_0 N (d + 37)]
          rw [c9_isVoiceAt (I := u2 (u2 K 135 1 (nI 0)) 135 0 (nI 0)) hK hw, cI_some, kX9_alive_0 N (d + 37), nc_10, if_pos q, c9_in (by omega) (by omega), cI_some, kX9_alive_1 N (d + 37), nc_10, if_pos q2, nI_add, nc_in (by omega) (by omega), nI_clamp (by omega), show (u2 (u2 K 135 1 (nI 0)) 135 0 (nI 0)) 140 (25 + v) = nI (T (25 + v)) from tmV hK v hv, nc_eq q4]
    · refine PR_v H hM (nI 0) (nI 5) ?_ (fun K hK => ?_)
      · rw [gX8_alive N (d + 38), sX8_alive_0 N (d + 38) _ hX]
        rw [c8_has hX hT hw (by omega), cI_some, kX8_alive_0 N (d + 38) _ hX, nc_10, if_pos q, rng_c (by omega) (by omega), if_neg q2]
      · rw [gX9_alive N (d + 37), sX9_alive_0 N (d + 37)]
        rw [c9_isVoiceAt (I := u2 (u2 K 135 1 (nI 0)) 135 0 (nI 0)) hK hw, cI_some, kX9_alive_0 N (d + 37), nc_10, if_pos q, c9_in (by omega) (by omega), cI_some, kX9_alive_1 N (d + 37), nc_10, if_neg q2]
  · refine PR_v H hM (nI 0) (nI 2) ?_ (fun K hK => ?_)
    · rw [gX8_alive N (d + 38), sX8_alive_0 N (d + 38) _ hX]
      rw [c8_has hX hT hw (by omega), cI_some, kX8_alive_0 N (d + 38) _ hX, nc_10, if_neg q]
    · rw [gX9_alive N (d + 37), sX9_alive_0 N (d + 37)]
      rw [c9_isVoiceAt (I := u2 (u2 K 135 1 (nI 0)) 135 0 (nI 0)) hK hw, cI_some, kX9_alive_0 N (d + 37), nc_10, if_neg q]
theorem sm_ext {g : Nat → Nat} {m : Nat} : ∀ n, m ≤ n → (∀ i, m ≤ i → i < n → g i = 0) → sm g n = sm g m := by
  intro n
  induction n with
  | zero => intro h _; rw [show m = 0 by omega]
  | succ n ih =>
    intro h1 h2
    by_cases q : m = n + 1
    · rw [q]
    · simp only [sm]
      rw [h2 n (by omega) (by omega), Nat.add_zero]
      exact ih (by omega) (fun i a b => h2 i a (by omega))
def wmg (T : Nat → Nat) (p v : Nat) : Nat := if T (25 + v) = 1 ∧ (hrs T v).testBit p = true then 1 else 0
def wmn (T : Nat → Nat) (p : Nat) : Nat := sm (wmg T p) (T 1)
theorem wmn_eq {T : Nat → Nat} (hw : WF T) {p : Nat} (hp : p < T 2) : pcn (vOf T p &&& bst (fun v => T (25 + v) == 1) (T 1)) = wmn T p := by
  have h1 := hw.1.2.1
  unfold pcn wmn
  rw [sm_ext (m := T 1) 6 h1 (fun i a b => ?_)]
  · refine sm_congr _ (fun v hv => ?_)
    unfold wmg hrs
    rw [Nat.testBit_and, bst_bit', bst_bit']
    by_cases a : T (25 + v) = 1 <;> simp [hv, hp, a]
  · rw [if_neg]
    rw [Nat.testBit_and, bst_bit']
    simp [show ¬ i < T 1 by omega]
theorem wmn_le {T : Nat → Nat} (hw : WF T) (p : Nat) : wmn T p ≤ 6 := by
  have e := sm_le (g := wmg T p) (b := 1) (T 1) (fun v _ => by unfold wmg; split <;> omega)
  have := hw.1.2.1
  unfold wmn; omega
theorem p_warm {xs : Nat → Int32} {N d : Nat} {X : lt_X} {I : Nat → Nat → Int32} {J : Nat → Nat → Int64} (H : INV xs X I J) (hN : 100000 ≤ N) (x : Int32) : PR xs N d X I J 170 340 [.int x] := by
  obtain ⟨T, hw, hT, hM, hX, ht⟩ := INV_T H
  obtain ⟨h0, h1, h2, h3, h4, h5, h6⟩ := hw.1
  by_cases q : inb x (T 2) = true
  · obtain ⟨p, hp, rfl⟩ := inb_e q (by omega)
    have hwl := wmn_le hw p
    have p1 : 16 ^ wmn T p ≤ 16 ^ 6 := Nat.pow_le_pow_right (by omega) hwl
    have p2 : T 4 ^ wmn T p ≤ 16 ^ wmn T p := Nat.pow_le_pow_left (by omega) _
    have p0 : 0 < 16 ^ wmn T p := Nat.pow_pos (by omega)
    have p3 : (16 : Nat) ^ 6 = 2 ^ 24 := by decide
    have hvl := vOf_lt hw p
    have hal : vOf T p &&& bst (fun v => T (25 + v) == 1) (T 1) < 64 := Nat.lt_of_le_of_lt Nat.and_le_left hvl
    refine PR_frac H hM (lN ((16 ^ wmn T p - T 4 ^ wmn T p) / Nat.gcd (16 ^ wmn T p - T 4 ^ wmn T p) (16 ^ wmn T p))) (lN (16 ^ wmn T p / Nat.gcd (16 ^ wmn T p - T 4 ^ wmn T p) (16 ^ wmn T p))) ?_ (fun K L hK => ?_)
    · rw [gX8_warm N (d + 38), sX8_warm_0 N (d + 38) _ hX]
      rw [c8_has hX hT hw (by omega), cI_some, kX8_warm_0 N (d + 38) _ hX, nc_10, if_pos q, c5_voicesOf ht hT hw (by omega), cI_some, kX8_warm_1 N (d + 38) _ hX, tcV hT, no_and, cJ_bitCount hal, wmn_eq hw hp, cI_some, kX8_warm_2 N (d + 38) _ hX, c8_power hX (by omega) (by omega), cL_some9, kX8_warm_3 N (d + 38) _ hX, tcO hT, c8_power hX (by omega) (by omega), cL_some9, kX8_warm_4 N (d + 38) _ hX, lN_sub p2, c8_tell hX p0 (by omega) (by omega) (by omega), cV_some, kX8_warm_5 N (d + 38) _ hX]
    · rw [gX9_warm N (d + 37), sX9_warm_0 N (d + 37)]
      rw [c9_isPersonAt (I := u2 (u2 K 135 1 (nI 0)) 135 0 (nI 0)) hK hw, cI_some, kX9_warm_0 N (d + 37), nc_10, if_pos q]
      refine lqs (run := fun n i => RX9_warm_29 N (d + 37) n X (nI p) (nI (sm (wmg T p) i)) (nI i) (u2 (u2 K 135 1 (nI 0)) 135 0 (nI 0)) L) (m := T 1) ?_ ?_ (N + 29) 0 (by omega) (by omega)
      · intro n i hi
        have hv := hw.2.1 i hi
        have hhl : hrs T i < 2 ^ 31 := lt6 (bst_lt h2) (by omega)
        rw [sX9_warm_29 N (d + 37) n, tm1 (c := u2 (u2 K 135 1 (nI 0)) 135 0 (nI 0) 140) hK, nc_lt hi (by omega), nI_add, nc_in (by omega) (by omega), nI_clamp (by omega), show (u2 (u2 K 135 1 (nI 0)) 135 0 (nI 0)) 140 (25 + i) = nI (T (25 + i)) from tmV hK i hi]
        by_cases a : T (25 + i) = 1
        · rw [nc_eq a, c9_crowdOf (I := u2 (u2 K 135 1 (nI 0)) 135 0 (nI 0)) hK hw hi (by omega), cI_some, kX9_warm_1 N (d + 37) n, c9_has hhl (by omega), cI_some, kX9_warm_3 N (d + 37) n, nc_10]
          by_cases b : (hrs T i).testBit p = true
          · have e : sm (wmg T p) (i + 1) = sm (wmg T p) i + 1 := by simp [sm, wmg, a, b]
            rw [if_pos b, nI_add, nI_add, e]
          · have e : sm (wmg T p) (i + 1) = sm (wmg T p) i := by simp [sm, wmg, b]
            rw [if_neg b, no_add0, nI_add, e]
        · have e : sm (wmg T p) (i + 1) = sm (wmg T p) i := by simp [sm, wmg, a]
          rw [nc_ne a (by omega) (by omega), no_add0, nI_add, e]
      · intro n
        rw [sX9_warm_29 N (d + 37) n, tm1 (c := u2 (u2 K 135 1 (nI 0)) 135 0 (nI 0) 140) hK, nc_nlt (Nat.le_refl _) (by omega), show sm (wmg T p) (T 1) = wmn T p from rfl, c9_power (by omega) (by omega), cL_some9, kX9_warm_2 N (d + 37) n, show (u2 (u2 K 135 1 (nI 0)) 135 0 (nI 0)) 140 4 = nI (T 4) from tm4 hK, c9_power (by omega) (by omega), cL_some9, kX9_warm_4 N (d + 37) n, lN_sub p2, c9_power (by omega) (by omega), cL_some9, kX9_warm_5 N (d + 37) n, c9_fraction p0 (by omega) (by omega) (by omega), cI_some, kX9_warm_6 N (d + 37) n, nb_ok (by omega)]
  · refine PR_v H hM (nI 0) (nI 2) ?_ (fun K hK => ?_)
    · rw [gX8_warm N (d + 38), sX8_warm_0 N (d + 38) _ hX]
      rw [c8_has hX hT hw (by omega), cI_some, kX8_warm_0 N (d + 38) _ hX, nc_10, if_neg q]
    · rw [gX9_warm N (d + 37), sX9_warm_0 N (d + 37)]
      rw [c9_isPersonAt (I := u2 (u2 K 135 1 (nI 0)) 135 0 (nI 0)) hK hw, cI_some, kX9_warm_0 N (d + 37), nc_10, if_neg q]
