/-! texts: the class goes one token on -/
theorem skp {run run2 : Nat → Nat → am_O} {m : Nat} {p : Nat → Bool} (h1 : ∀ n i, i < m → p i = true → run (n + 1) i = run2 n i) (h0 : ∀ n i, i < m → p i = false → run (n + 1) i = run n (i + 1)) (hx : ∀ n, run (n + 1) m = run2 n m) : ∀ k i B R, i + k = m → ev (fun n => run2 n (fnd p i k)) B R → ev (fun n => run n i) (B + k + 1) R := by
  intro k
  induction k with
  | zero =>
    intro i B R hi e
    have e1 : i = m := by omega
    subst e1
    exact ev_s (fun n => hx n) e
  | succ k ih =>
    intro i B R hi e
    by_cases q : p i = true
    · rw [show fnd p i (k + 1) = i by simp [fnd, q]] at e
      exact ev_le (ev_s (fun n => h1 n i (by omega) q) e) (by omega)
    · have q' : p i = false := by simpa using q
      rw [show fnd p i (k + 1) = fnd p (i + 1) k by simp [fnd, q']] at e
      exact ev_le (ev_s (fun n => h0 n i (by omega) q') (ih (i + 1) B R (by omega) e)) (by omega)
theorem u2_cm {I : Nat → Nat → Int32} {a b k j : Nat} {v w : Int32} (h : ¬ (a = b ∧ k = j)) : u2 (u2 I a k v) b j w = u2 (u2 I b j w) a k v := by
  funext c i
  unfold u2
  by_cases q1 : c = b
  · by_cases q2 : c = a
    · subst q1; subst q2
      rw [if_pos rfl, if_pos rfl, if_pos rfl, if_pos rfl]
      unfold upd
      by_cases r1 : i = j
      · rw [if_pos r1, if_neg (fun e => h ⟨rfl, by rw [← e, ← r1]⟩), if_pos r1]
      · rw [if_neg r1]
        by_cases r2 : i = k
        · rw [if_pos r2, if_pos r2]
        · rw [if_neg r2, if_neg r2, if_neg r1]
    · rw [if_pos q1, if_neg q2, if_neg q2, if_pos q1]
  · by_cases q2 : c = a
    · rw [if_neg q1, if_pos q2, if_pos q2, if_neg q1]
    · rw [if_neg q1, if_neg q2, if_neg q2, if_neg q1]
theorem u2L_u2 (J : Nat → Nat → Int64) (a k : Nat) (v w : Int64) : u2L (u2L J a k v) a k w = u2L J a k w := by
  funext b j
  by_cases q : b = a
  · subst q
    by_cases r : j = k
    · subst r; rw [u2L_at, u2L_at]
    · rw [u2L_nk _ _ _ _ _ r, u2L_nk _ _ _ _ _ r, u2L_nk _ _ _ _ _ r]
  · rw [u2L_na _ _ _ _ _ q, u2L_na _ _ _ _ _ q, u2L_na _ _ _ _ _ q]
/-- the class's text behind a token -/
def CT (f : Nat → Int32) (n q : Nat) (I : Nat → Nat → Int32) (J : Nat → Nat → Int64) : Prop := (∀ k, k < n → I 13 k = f k) ∧ I 115 2 = nI n ∧ I 115 3 = nI (tkE f n q) ∧ I 115 4 = nI (tkK f n q) ∧ I 115 5 = nI (tkS f n q) ∧ (tkK f n q = 1 → I 115 6 = nI (tkV f n q)) ∧ (tkK f n q = 2 → J 115 7 = lN (tkW f n q))
/-- what a token's reading leaves as it was -/
def FTI (I K : Nat → Nat → Int32) : Prop := (∀ a, a ≠ 115 → K a = I a) ∧ ∀ k, k < 3 ∨ 7 < k → K 115 k = I 115 k
def FTJ (J L : Nat → Nat → Int64) : Prop := ∀ a, a ≠ 115 → L a = J a
theorem FTI_0 (I : Nat → Nat → Int32) : FTI I I := ⟨fun _ _ => rfl, fun _ _ => rfl⟩
theorem FTI_u {I K : Nat → Nat → Int32} {k : Nat} {v : Int32} (hk : 3 ≤ k ∧ k ≤ 7) (H : FTI I K) : FTI I (u2 K 115 k v) :=
  ⟨fun a ha => by rw [u2_na _ _ _ _ _ ha]; exact H.1 a ha, fun j hj => by rw [u2_nk _ _ _ _ _ (by omega)]; exact H.2 j hj⟩
theorem FTI_t {I K M : Nat → Nat → Int32} (H : FTI I K) (H2 : FTI K M) : FTI I M := ⟨fun a ha => by rw [H2.1 a ha, H.1 a ha], fun k hk => by rw [H2.2 k hk, H.2 k hk]⟩
def nl (f : Nat → Int32) (s : Nat) : Nat → Int32
  | 0 => nI 0
  | k + 1 => ((nl f s k * nI 10) + f (s + k)) - nI 48
theorem nl_nv {f : Nat → Int32} {s : Nat} : ∀ k, k ≤ 4 → (∀ i, i < k → isB (f (s + i)) ∧ isDg (cb (f (s + i))) = true) → nl f s k = nI (nv f s k) := by
  intro k
  induction k with
  | zero => intro _ _; rfl
  | succ k ih =>
    intro hk h
    obtain ⟨hB, hD⟩ := h k (by omega)
    have hD' := (isDg_iff _).mp hD
    show ((nl f s k * nI 10) + f (s + k)) - nI 48 = nI (nv f s k * 10 + (cb (f (s + k)) - 48))
    rw [ih (by omega) (fun i hi => h i (by omega)), (cb_spec hB).2.2.1 (by omega), pk_mul, nI_add, pk_sub (by omega), ← (cb_spec hB).2.2.1 (by omega)]
    congr 1; omega
theorem xl_shl (n : Nat) : lN n <<< ((nI 5).toInt64 &&& 63) = lN (n * 32) := by
  have h5 : ((nI 5).toInt64 &&& 63) = lN 5 := by decide +kernel
  have h6 : (lN 5).toBitVec.smod 64 = BitVec.ofNat 64 5 := by decide +kernel
  rw [h5]
  apply Int64.toBitVec_inj.1
  rw [Int64.toBitVec_shiftLeft, h6]
  show BitVec.ofNat 64 n <<< BitVec.ofNat 64 5 = BitVec.ofNat 64 (n * 32)
  apply BitVec.eq_of_toNat_eq
  rw [BitVec.shiftLeft_eq', BitVec.toNat_shiftLeft, BitVec.toNat_ofNat, BitVec.toNat_ofNat, BitVec.toNat_ofNat, Nat.mod_eq_of_lt (show 5 < 2 ^ 64 by omega), Nat.shiftLeft_eq, Nat.mul_mod, Nat.mod_mod, ← Nat.mul_mod]
theorem xl_or {a : Nat} (b : Nat) (h : a < 32) : lN (b * 32) ||| lN a = lN (b * 32 + a) := by
  have e : lN (b * 32) ||| lN a = lN ((b * 32) ||| a) := by
    apply Int64.toBitVec_inj.1
    show BitVec.ofNat 64 (b * 32) ||| BitVec.ofNat 64 a = BitVec.ofNat 64 ((b * 32) ||| a)
    apply BitVec.eq_of_getLsbD_eq
    intro i hi
    simp [hi]
  rw [e, Nat.mul_comm b 32, show (32 : Nat) = 2 ^ 5 from rfl, Nat.two_pow_add_eq_or_of_lt (show a < 2 ^ 5 from h)]
def xl (f : Nat → Int32) (s : Nat) : Nat → Int64
  | 0 => lN 0
  | k + 1 => (xl f s k <<< ((nI 5).toInt64 &&& 63)) ||| ((f (s + k) - nI 97) + nI 1).toInt64
theorem xl_wv {f : Nat → Int32} {s : Nat} : ∀ k, k ≤ 8 → (∀ i, i < k → isB (f (s + i)) ∧ isLt (cb (f (s + i))) = true) → xl f s k = lN (wv f s k) := by
  intro k
  induction k with
  | zero => intro _ _; rfl
  | succ k ih =>
    intro hk h
    obtain ⟨hB, hD⟩ := h k (by omega)
    have hD' := (isLt_iff _).mp hD
    have hw := wv_lt (f := f) (s := s) k (fun i hi => (h i (by omega)).2)
    have h8 : 32 ^ k ≤ 32 ^ 8 := Nat.pow_le_pow_right (by omega) (by omega)
    have h88 : (32 : Nat) ^ 8 = 2 ^ 40 := by decide
    show (xl f s k <<< ((nI 5).toInt64 &&& 63)) ||| ((f (s + k) - nI 97) + nI 1).toInt64 = lN (wv f s k * 32 + (cb (f (s + k)) - 96))
    rw [ih (by omega) (fun i hi => h i (by omega)), xl_shl, (cb_spec hB).2.2.1 (by omega), pk_sub (by omega), nI_add, nI_l (by omega), ← (cb_spec hB).2.2.1 (by omega), show cb (f (s + k)) - 97 + 1 = cb (f (s + k)) - 96 by omega]
    exact xl_or _ (by omega)
section
variable {N d : Nat} {X : lt_X} {f : Nat → Int32} {n : Nat} {K : Nat → Nat → Int32} {J : Nat → Nat → Int64} {i : Nat}
theorem num_step (hn : n ≤ 900) (hB : ∀ k, k < n → isB (f k)) (v : K 13 i = f i) (p1 : K 115 3 = nI i) (p2 : K 115 2 = nI n) (hi : i < n) (z : Nat) : RX4_advanceNumber_5 N d (z + 1) X K J = if isDg (cb (f i)) = true then RX4_advanceNumber_5 N d z X (u2 (u2 K 115 6 (((K 115 6 * nI 10) + f i) - nI 48)) 115 3 (nI (i + 1))) J else RX4_advanceNumber_81 N d z X K J := by
  have b := hB i hi
  have v' : K 13 (nI i).toNatClampNeg = f i := by rw [nI_clamp (by omega)]; exact v
  rw [sX4_advanceNumber_5 N d z, p1, p2, nc_lt hi (by omega), nc_in (by omega) (by omega)]
  by_cases q : isDg (cb (f i)) = true
  · have q' := (isDg_iff _).mp q
    rw [if_pos q, if_neg (show ¬ K 13 (nI i).toNatClampNeg < nI 48 by rw [v', cc_lt b (by omega)]; omega), nc_in (by omega) (by omega), if_neg (show ¬ nI 57 < K 13 (nI i).toNatClampNeg by rw [v', cc_gt b (by omega)]; omega), nc_in (by omega) (by omega), v', nI_add i 1]
  · have q' : ¬ (48 ≤ cb (f i) ∧ cb (f i) ≤ 57) := fun h => q ((isDg_iff _).mpr h)
    rw [if_neg q]
    by_cases r : cb (f i) < 48 ∨ 128 ≤ cb (f i)
    · rw [if_pos (show K 13 (nI i).toNatClampNeg < nI 48 by rw [v', cc_lt b (by omega)]; exact r)]
    · rw [if_neg (show ¬ K 13 (nI i).toNatClampNeg < nI 48 by rw [v', cc_lt b (by omega)]; exact r), nc_in (by omega) (by omega), if_pos (show nI 57 < K 13 (nI i).toNatClampNeg by rw [v', cc_gt b (by omega)]; omega)]
theorem word_step (hn : n ≤ 900) (hB : ∀ k, k < n → isB (f k)) (v : K 13 i = f i) (p1 : K 115 3 = nI i) (p2 : K 115 2 = nI n) (hi : i < n) (z : Nat) : RX4_advanceWord_5 N d (z + 1) X K J = if isLt (cb (f i)) = true then RX4_advanceWord_5 N d z X (u2 K 115 3 (nI (i + 1))) (u2L J 115 7 ((J 115 7 <<< ((nI 5).toInt64 &&& 63)) ||| ((f i - nI 97) + nI 1).toInt64)) else RX4_advanceWord_83 N d z X K J := by
  have b := hB i hi
  have v' : K 13 (nI i).toNatClampNeg = f i := by rw [nI_clamp (by omega)]; exact v
  rw [sX4_advanceWord_5 N d z, p1, p2, nc_lt hi (by omega), nc_in (by omega) (by omega)]
  by_cases q : isLt (cb (f i)) = true
  · have q' := (isLt_iff _).mp q
    rw [if_pos q, if_neg (show ¬ K 13 (nI i).toNatClampNeg < nI 97 by rw [v', cc_lt b (by omega)]; omega), nc_in (by omega) (by omega), if_neg (show ¬ nI 122 < K 13 (nI i).toNatClampNeg by rw [v', cc_gt b (by omega)]; omega), nc_in (by omega) (by omega), v', nI_add i 1]
  · have q' : ¬ (97 ≤ cb (f i) ∧ cb (f i) ≤ 122) := fun h => q ((isLt_iff _).mpr h)
    rw [if_neg q]
    by_cases r : cb (f i) < 97 ∨ 128 ≤ cb (f i)
    · rw [if_pos (show K 13 (nI i).toNatClampNeg < nI 97 by rw [v', cc_lt b (by omega)]; exact r)]
    · rw [if_neg (show ¬ K 13 (nI i).toNatClampNeg < nI 97 by rw [v', cc_lt b (by omega)]; exact r), nc_in (by omega) (by omega), if_pos (show nI 122 < K 13 (nI i).toNatClampNeg by rw [v', cc_gt b (by omega)]; omega)]
theorem adv0_step (hn : n ≤ 900) (hB : ∀ k, k < n → isB (f k)) (v : K 13 i = f i) (p1 : K 115 3 = nI i) (p2 : K 115 2 = nI n) (hi : i < n) (z : Nat) : RX4_advance_0 N d (z + 1) X K J = if isBl (cb (f i)) = true then RX4_advance_0 N d z X (u2 K 115 3 (nI (i + 1))) J else RX4_advance_52 N d z X K J := by
  have b := hB i hi
  have v' : K 13 (nI i).toNatClampNeg = f i := by rw [nI_clamp (by omega)]; exact v
  rw [sX4_advance_0 N d z, p1, p2, nc_lt hi (by omega), nc_in (by omega) (by omega)]
  by_cases r : cb (f i) = 10
  · rw [if_pos (show K 13 (nI i).toNatClampNeg = nI 10 by rw [v', cc_eq b (by omega)]; exact r), if_pos ((isBl_iff _).mpr (Or.inl r)), nI_add i 1]
  · rw [if_neg (show ¬ K 13 (nI i).toNatClampNeg = nI 10 by rw [v', cc_eq b (by omega)]; exact r), nc_in (by omega) (by omega)]
    by_cases r2 : cb (f i) = 32
    · rw [if_pos (show K 13 (nI i).toNatClampNeg = nI 32 by rw [v', cc_eq b (by omega)]; exact r2), if_pos ((isBl_iff _).mpr (Or.inr r2)), nI_add i 1]
    · rw [if_neg (show ¬ K 13 (nI i).toNatClampNeg = nI 32 by rw [v', cc_eq b (by omega)]; exact r2), if_neg (fun h => ((isBl_iff _).mp h).elim r r2)]
theorem adv52_step (hn : n ≤ 900) (hB : ∀ k, k < n → isB (f k)) (v : K 13 i = f i) (p1 : K 115 3 = nI i) (p2 : K 115 2 = nI n) (hi : i < n) (z : Nat) : RX4_advance_52 N d (z + 1) X K J = if isLt (cb (f i)) = true then am_cV (am_G am_prog (N + 30) d 47 [.ref 115] (mkh X (u2 K 115 5 (nI i)) J)) (KX4_advance_1 N d z) else if isDg (cb (f i)) = true then am_cV (am_G am_prog (N + 30) d 48 [.ref 115] (mkh X (u2 K 115 5 (nI i)) J)) (KX4_advance_0 N d z) else RX4_advance_125 N d z X (f i) (u2 K 115 5 (nI i)) J := by
  have b := hB i hi
  have v' : K 13 (nI i).toNatClampNeg = f i := by rw [nI_clamp (by omega)]; exact v
  have lw : ∀ c, c ≤ 128 → (K 13 (nI i).toNatClampNeg < nI c ↔ (cb (f i) < c ∨ 128 ≤ cb (f i))) := fun c hc => by rw [v', cc_lt b hc]
  have gw : ∀ c, c ≤ 128 → (nI c < K 13 (nI i).toNatClampNeg ↔ (c < cb (f i) ∧ cb (f i) < 128)) := fun c hc => by rw [v', cc_gt b hc]
  rw [sX4_advance_52 N d z, p1, p2, nc_lt hi (by omega), nc_in (by omega) (by omega)]
  by_cases q : isLt (cb (f i)) = true
  · have q' := (isLt_iff _).mp q
    rw [if_pos q, if_neg (show ¬ K 13 (nI i).toNatClampNeg < nI 97 by rw [lw _ (by omega)]; omega), if_neg (show ¬ nI 122 < K 13 (nI i).toNatClampNeg by rw [gw _ (by omega)]; omega)]
    rfl
  · have q' : ¬ (97 ≤ cb (f i) ∧ cb (f i) ≤ 122) := fun h => q ((isLt_iff _).mpr h)
    rw [if_neg q]
    by_cases e : isDg (cb (f i)) = true
    · have e' := (isDg_iff _).mp e
      rw [if_pos e, if_pos (show K 13 (nI i).toNatClampNeg < nI 97 by rw [lw _ (by omega)]; omega), if_neg (show ¬ K 13 (nI i).toNatClampNeg < nI 48 by rw [lw _ (by omega)]; omega), if_neg (show ¬ nI 57 < K 13 (nI i).toNatClampNeg by rw [gw _ (by omega)]; omega)]
      rfl
    · have e' : ¬ (48 ≤ cb (f i) ∧ cb (f i) ≤ 57) := fun h => e ((isDg_iff _).mpr h)
      rw [if_neg e]
      by_cases r : cb (f i) < 97 ∨ 128 ≤ cb (f i)
      · rw [if_pos ((lw 97 (by omega)).mpr r)]
        by_cases r2 : cb (f i) < 48 ∨ 128 ≤ cb (f i)
        · rw [if_pos ((lw 48 (by omega)).mpr r2), v']
        · rw [if_neg (fun h => r2 ((lw 48 (by omega)).mp h)), if_pos ((gw 57 (by omega)).mpr (by omega)), v']
      · rw [if_neg (fun h => r ((lw 97 (by omega)).mp h)), if_pos ((gw 122 (by omega)).mpr (by omega))]
        by_cases r2 : cb (f i) < 48 ∨ 128 ≤ cb (f i)
        · rw [if_pos ((lw 48 (by omega)).mpr r2), v']
        · rw [if_neg (fun h => r2 ((lw 48 (by omega)).mp h)), if_pos ((gw 57 (by omega)).mpr (by omega)), v']
theorem adv125_step {x : Int32} (b : isB x) (p1 : K 115 3 = nI i) (z : Nat) : RX4_advance_125 N d (z + 1) X x K J = some (.null, mkh X (u2 (u2 K 115 4 (nI (if isSg (cb x) = true then cb x else 4294967295))) 115 3 (nI (i + 1))) J) := by
  have e : ∀ c, c < 128 → (x = nI c ↔ cb x = c) := fun c hc => cc_eq b hc
  rw [sX4_advance_125 N d z, p1, nI_add i 1]
  by_cases q : isSg (cb x) = true
  · rw [if_pos q]
    have e2 : x = nI (cb x) := (cb_spec b).2.2.1 (by have := (isSg_iff _).mp q; omega)
    rcases (isSg_iff _).mp q with h | h | h | h
    · rw [if_pos ((e 59 (by omega)).mpr h), ← e2]
    · rw [if_neg (fun k => by have := (e 59 (by omega)).mp k; omega), if_pos ((e 60 (by omega)).mpr h), ← e2]
    · rw [if_neg (fun k => by have := (e 59 (by omega)).mp k; omega), if_neg (fun k => by have := (e 60 (by omega)).mp k; omega), if_pos ((e 62 (by omega)).mpr h), ← e2]
    · rw [if_neg (fun k => by have := (e 59 (by omega)).mp k; omega), if_neg (fun k => by have := (e 60 (by omega)).mp k; omega), if_neg (fun k => by have := (e 62 (by omega)).mp k; omega), if_pos ((e 61 (by omega)).mpr h), ← e2]
  · have q' : ¬ (cb x = 59 ∨ cb x = 60 ∨ cb x = 62 ∨ cb x = 61) := fun h => q ((isSg_iff _).mpr h)
    rw [if_neg q, if_neg (fun k => by have := (e 59 (by omega)).mp k; omega), if_neg (fun k => by have := (e 60 (by omega)).mp k; omega), if_neg (fun k => by have := (e 62 (by omega)).mp k; omega), if_neg (fun k => by have := (e 61 (by omega)).mp k; omega), no_m1]
end
section
variable {N d : Nat} {X : lt_X} {f : Nat → Int32} {n : Nat} {I : Nat → Nat → Int32} {J : Nat → Nat → Int64}
theorem c4_number (hn : n ≤ 900) (hB : ∀ k, k < n → isB (f k)) (hN : 10000 ≤ N) (h13 : ∀ k, k < n → I 13 k = f k) (h2 : I 115 2 = nI n) {s : Nat} (hs : s < n) (h3 : I 115 3 = nI s) (h5 : I 115 5 = nI s) : am_G am_prog (N + 30) (d + 1) 48 [.ref 115] (mkh X I J) = some (.null, mkh X (u2 (u2 (u2 I 115 6 (nl f s (dC f n s))) 115 3 (nI (s + dC f n s))) 115 4 (nI (if 4 < dC f n s then 4294967295 else 1))) J) := by
  have e1 := (dC_b f n s).1
  have hp : ∀ i a, u2 (u2 I 115 6 a) 115 3 (nI i) 115 3 = nI i ∧ u2 (u2 I 115 6 a) 115 3 (nI i) 115 2 = nI n ∧ u2 (u2 I 115 6 a) 115 3 (nI i) 115 6 = a ∧ u2 (u2 I 115 6 a) 115 3 (nI i) 115 5 = nI s ∧ u2 (u2 I 115 6 a) 115 3 (nI i) 13 = I 13 := fun i a => ⟨u2_at _ _ _ _, by rw [u2_nk _ _ _ _ _ (by omega), u2_nk _ _ _ _ _ (by omega)]; exact h2, by rw [u2_nk _ _ _ _ _ (by omega), u2_at], by rw [u2_nk _ _ _ _ _ (by omega), u2_nk _ _ _ _ _ (by omega)]; exact h5, by rw [u2_na _ _ _ _ _ (by omega), u2_na _ _ _ _ _ (by omega)]⟩
  have st := skp (run := fun z k => RX4_advanceNumber_5 N d z X (u2 (u2 I 115 6 (nl f s k)) 115 3 (nI (s + k))) J) (run2 := fun z k => RX4_advanceNumber_81 N d z X (u2 (u2 I 115 6 (nl f s k)) 115 3 (nI (s + k))) J) (m := n - s) (p := fun k => !isDg (cb (f (s + k)))) ?_ ?_ ?_ (n - s) 0 1 (some (.null, mkh X (u2 (u2 (u2 I 115 6 (nl f s (dC f n s))) 115 3 (nI (s + dC f n s))) 115 4 (nI (if 4 < dC f n s then 4294967295 else 1))) J)) (by omega) (ev_0 (fun z => ?_))
  · rw [gX4_advanceNumber N d, sX4_advanceNumber_0 N d (N + 29)]
    have e0 : u2 I 115 6 (nI 0) = u2 (u2 I 115 6 (nl f s 0)) 115 3 (nI (s + 0)) := (u2_id (by rw [u2_nk _ _ _ _ _ (by omega)]; exact h3)).symm
    rw [e0]
    exact st (N + 29) (by omega)
  · intro z k hk q
    obtain ⟨p1, p2, p3, p4, p5⟩ := hp (s + k) (nl f s k)
    show RX4_advanceNumber_5 N d (z + 1) X (u2 (u2 I 115 6 (nl f s k)) 115 3 (nI (s + k))) J = RX4_advanceNumber_81 N d z X (u2 (u2 I 115 6 (nl f s k)) 115 3 (nI (s + k))) J
    rw [num_step hn hB (by rw [p5]; exact h13 _ (by omega)) p1 p2 (by omega) z, if_neg (by simpa using q)]
  · intro z k hk q
    obtain ⟨p1, p2, p3, p4, p5⟩ := hp (s + k) (nl f s k)
    show RX4_advanceNumber_5 N d (z + 1) X (u2 (u2 I 115 6 (nl f s k)) 115 3 (nI (s + k))) J = RX4_advanceNumber_5 N d z X (u2 (u2 I 115 6 (nl f s (k + 1))) 115 3 (nI (s + (k + 1)))) J
    rw [num_step hn hB (by rw [p5]; exact h13 _ (by omega)) p1 p2 (by omega) z, if_pos (by simpa using q), p3, u2_cm (a := 115) (b := 115) (k := 3) (j := 6) (by omega), u2_u2, u2_u2]
    rfl
  · intro z
    obtain ⟨p1, p2, p3, p4, p5⟩ := hp (s + (n - s)) (nl f s (n - s))
    show RX4_advanceNumber_5 N d (z + 1) X (u2 (u2 I 115 6 (nl f s (n - s))) 115 3 (nI (s + (n - s)))) J = RX4_advanceNumber_81 N d z X (u2 (u2 I 115 6 (nl f s (n - s))) 115 3 (nI (s + (n - s)))) J
    rw [sX4_advanceNumber_5 N d z, p1, p2, nc_nlt (by omega) (by omega)]
  · show RX4_advanceNumber_81 N d (z + 1) X (u2 (u2 I 115 6 (nl f s (dC f n s))) 115 3 (nI (s + dC f n s))) J = _
    obtain ⟨p1, p2, p3, p4, p5⟩ := hp (s + dC f n s) (nl f s (dC f n s))
    rw [sX4_advanceNumber_81 N d z, p1, p4, pk_sub (by omega), Nat.add_sub_cancel_left]
    by_cases q : 4 < dC f n s
    · rw [nc_lt q (by omega), if_pos q, no_m1]
    · rw [nc_nlt (by omega) (by omega), if_neg q]
/-- a name is held against the kept words -/
theorem kw_loop (hk : KWS J) {w : Nat} (hw : w < 2 ^ 40) (h4 : I 115 4 = nI 2) (h7 : J 115 7 = lN w) : ev (fun z => RX4_advanceWord_108 N d z X (nI 0) I J) 40 (some (.null, mkh X (u2 I 115 4 (nI (kwk w))) J)) := by
  have kl : ∀ i, i < 27 → kwl.getD i 0 < 2 ^ 63 := by decide +kernel
  have st := skp (run := fun z k => RX4_advanceWord_108 N d z X (nI k) I J) (run2 := fun z k => if k < 27 then RX4_advanceWord_108 N d z X (nI (k + 1)) (u2 I 115 4 (nI (100 + k))) J else some (.null, mkh X I J)) (m := 27) (p := fun i => kwl.getD i 0 == w) ?_ ?_ ?_ 27 0 1 (some (.null, mkh X (u2 I 115 4 (nI (kwk w))) J)) (by omega) ?_
  · exact ev_le st (by omega)
  · intro z k hk2 q
    have q' : kwl.getD k 0 = w := by simpa using q
    show RX4_advanceWord_108 N d (z + 1) X (nI k) I J = if k < 27 then RX4_advanceWord_108 N d z X (nI (k + 1)) (u2 I 115 4 (nI (100 + k))) J else some (.null, mkh X I J)
    rw [if_pos hk2, sX4_advanceWord_108 N d z, nc_lt hk2 (by omega), h4, nc_eq rfl, nc_in (by omega) (by omega), nI_clamp (by omega), hk k hk2, h7, lc_eq q', nI_add k 1, nI_add 100 k]
  · intro z k hk2 q
    have q' : ¬ kwl.getD k 0 = w := by simpa using q
    show RX4_advanceWord_108 N d (z + 1) X (nI k) I J = RX4_advanceWord_108 N d z X (nI (k + 1)) I J
    rw [sX4_advanceWord_108 N d z, nc_lt hk2 (by omega), h4, nc_eq rfl, nc_in (by omega) (by omega), nI_clamp (by omega), hk k hk2, h7, lc_ne q' (kl k hk2) (by omega), nI_add k 1]
  · intro z
    show RX4_advanceWord_108 N d (z + 1) X (nI 27) I J = if 27 < 27 then _ else some (.null, mkh X I J)
    rw [if_neg (by omega), sX4_advanceWord_108 N d z, nc_nlt (by omega) (by omega)]
  · unfold kwk
    generalize fnd (fun i => kwl.getD i 0 == w) 0 27 = g at *
    by_cases q : g < 27
    · rw [if_pos q]
      refine ev_0 (fun z => ?_)
      show (if g < 27 then RX4_advanceWord_108 N d (z + 1) X (nI (g + 1)) (u2 I 115 4 (nI (100 + g))) J else some (.null, mkh X I J)) = _
      rw [if_pos q, sX4_advanceWord_108 N d z]
      by_cases q2 : g + 1 < 27
      · rw [nc_lt q2 (by omega), u2_at, nc_ne (by omega) (by omega) (by omega)]
      · rw [nc_nlt (by omega) (by omega)]
    · rw [if_neg q]
      refine ev_0 (fun z => ?_)
      show (if g < 27 then RX4_advanceWord_108 N d (z + 1) X (nI (g + 1)) (u2 I 115 4 (nI (100 + g))) J else some (.null, mkh X I J)) = _
      rw [if_neg q, u2_id h4]
theorem c4_word (hn : n ≤ 900) (hB : ∀ k, k < n → isB (f k)) (hk : KWS J) (hN : 10000 ≤ N) (h13 : ∀ k, k < n → I 13 k = f k) (h2 : I 115 2 = nI n) {s : Nat} (hs : s < n) (h3 : I 115 3 = nI s) (h5 : I 115 5 = nI s) : am_G am_prog (N + 30) (d + 1) 47 [.ref 115] (mkh X I J) = some (.null, mkh X (u2 (u2 I 115 3 (nI (s + wC f n s))) 115 4 (nI (if 8 < wC f n s then 3 else kwk (wv f s (wC f n s))))) (u2L J 115 7 (xl f s (wC f n s)))) := by
  obtain ⟨e1, e2, -⟩ := wC_b f n s
  have hp : ∀ i, u2 I 115 3 (nI i) 115 3 = nI i ∧ u2 I 115 3 (nI i) 115 2 = nI n ∧ u2 I 115 3 (nI i) 115 5 = nI s ∧ u2 I 115 3 (nI i) 13 = I 13 := fun i => ⟨u2_at _ _ _ _, by rw [u2_nk _ _ _ _ _ (by omega)]; exact h2, by rw [u2_nk _ _ _ _ _ (by omega)]; exact h5, by rw [u2_na _ _ _ _ _ (by omega)]⟩
  have st := skp (run := fun z k => RX4_advanceWord_5 N d z X (u2 I 115 3 (nI (s + k))) (u2L J 115 7 (xl f s k))) (run2 := fun z k => RX4_advanceWord_83 N d z X (u2 I 115 3 (nI (s + k))) (u2L J 115 7 (xl f s k))) (m := n - s) (p := fun k => !isLt (cb (f (s + k)))) ?_ ?_ ?_ (n - s) 0 41 (some (.null, mkh X (u2 (u2 I 115 3 (nI (s + wC f n s))) 115 4 (nI (if 8 < wC f n s then 3 else kwk (wv f s (wC f n s))))) (u2L J 115 7 (xl f s (wC f n s))))) (by omega) ?_
  · rw [gX4_advanceWord N d, sX4_advanceWord_0 N d (N + 29)]
    have e0 : I = u2 I 115 3 (nI (s + 0)) := (u2_id h3).symm
    have := st (N + 29) (by omega)
    rw [← e0] at this
    exact this
  · intro z k hk q
    obtain ⟨p1, p2, p4, p5⟩ := hp (s + k)
    show RX4_advanceWord_5 N d (z + 1) X (u2 I 115 3 (nI (s + k))) (u2L J 115 7 (xl f s k)) = RX4_advanceWord_83 N d z X (u2 I 115 3 (nI (s + k))) (u2L J 115 7 (xl f s k))
    rw [word_step hn hB (by rw [p5]; exact h13 _ (by omega)) p1 p2 (by omega) z, if_neg (by simpa using q)]
  · intro z k hk q
    obtain ⟨p1, p2, p4, p5⟩ := hp (s + k)
    show RX4_advanceWord_5 N d (z + 1) X (u2 I 115 3 (nI (s + k))) (u2L J 115 7 (xl f s k)) = RX4_advanceWord_5 N d z X (u2 I 115 3 (nI (s + (k + 1)))) (u2L J 115 7 (xl f s (k + 1)))
    rw [word_step hn hB (by rw [p5]; exact h13 _ (by omega)) p1 p2 (by omega) z, if_pos (by simpa using q), u2_u2, u2L_at, u2L_u2]
    rfl
  · intro z
    obtain ⟨p1, p2, p4, p5⟩ := hp (s + (n - s))
    show RX4_advanceWord_5 N d (z + 1) X (u2 I 115 3 (nI (s + (n - s)))) (u2L J 115 7 (xl f s (n - s))) = RX4_advanceWord_83 N d z X (u2 I 115 3 (nI (s + (n - s)))) (u2L J 115 7 (xl f s (n - s)))
    rw [sX4_advanceWord_5 N d z, p1, p2, nc_nlt (by omega) (by omega)]
  · obtain ⟨p1, p2, p4, p5⟩ := hp (s + wC f n s)
    by_cases q : 8 < wC f n s
    · rw [if_pos q]
      refine ev_le (ev_s (g := fun z => RX4_advanceWord_108 N d z X (nI 0) (u2 (u2 I 115 3 (nI (s + wC f n s))) 115 4 (nI 3)) (u2L J 115 7 (xl f s (wC f n s)))) (fun z => ?_) (ev_0 (fun z => ?_))) (by omega)
      · show RX4_advanceWord_83 N d (z + 1) X (u2 I 115 3 (nI (s + wC f n s))) (u2L J 115 7 (xl f s (wC f n s))) = _
        rw [sX4_advanceWord_83 N d z, p1, p4, pk_sub (by omega), Nat.add_sub_cancel_left, nc_lt q (by omega)]
      · show RX4_advanceWord_108 N d (z + 1) X (nI 0) (u2 (u2 I 115 3 (nI (s + wC f n s))) 115 4 (nI 3)) (u2L J 115 7 (xl f s (wC f n s))) = _
        rw [sX4_advanceWord_108 N d z, nc_lt (by omega) (by omega), u2_at, nc_ne (by omega) (by omega) (by omega)]
    · rw [if_neg q]
      have wl := wv_lt (f := f) (s := s) (wC f n s) e2
      have h8 : 32 ^ (wC f n s) ≤ 32 ^ 8 := Nat.pow_le_pow_right (by omega) (by omega)
      have h88 : (32 : Nat) ^ 8 = 2 ^ 40 := by decide
      have kl := kw_loop (N := N) (d := d) (X := X) (I := u2 (u2 I 115 3 (nI (s + wC f n s))) 115 4 (nI 2)) (J := u2L J 115 7 (xl f s (wC f n s))) (fun i hi => by rw [u2L_na _ _ _ _ _ (by omega)]; exact hk i hi) (w := wv f s (wC f n s)) (by omega) (u2_at _ _ _ _) (by rw [u2L_at, xl_wv (wC f n s) (by omega) (fun i hi => ⟨hB _ (by omega), e2 i hi⟩)])
      rw [u2_u2] at kl
      refine ev_le (ev_s (fun z => ?_) kl) (by omega)
      show RX4_advanceWord_83 N d (z + 1) X (u2 I 115 3 (nI (s + wC f n s))) (u2L J 115 7 (xl f s (wC f n s))) = _
      rw [sX4_advanceWord_83 N d z, p1, p4, pk_sub (by omega), Nat.add_sub_cancel_left, nc_nlt (by omega) (by omega)]
theorem c4_advance (hn : n ≤ 900) (hB : ∀ k, k < n → isB (f k)) (hk : KWS J) (hN : 10000 ≤ N) (h13 : ∀ k, k < n → I 13 k = f k) (h2 : I 115 2 = nI n) {q : Nat} (hq : q ≤ n) (h3 : I 115 3 = nI q) : ∃ K L, am_G am_prog (N + 30) (d + 2) 46 [.ref 115] (mkh X I J) = some (.null, mkh X K L) ∧ CT f n q K L ∧ FTI I K ∧ FTJ J L := by
  obtain ⟨t1, t2⟩ := tkS_b f hq
  obtain ⟨b1, b2, b3⟩ := bC_b f n q
  have hp : ∀ i, u2 I 115 3 (nI i) 115 3 = nI i ∧ u2 I 115 3 (nI i) 115 2 = nI n ∧ u2 I 115 3 (nI i) 13 = I 13 := fun i => ⟨u2_at _ _ _ _, by rw [u2_nk _ _ _ _ _ (by omega)]; exact h2, by rw [u2_na _ _ _ _ _ (by omega)]⟩
  -- from the token's start on
  have main : ∃ K L, ev (fun z => RX4_advance_52 N (d + 1) z X (u2 I 115 3 (nI (tkS f n q))) J) 3 (some (.null, mkh X K L)) ∧ CT f n q K L ∧ FTI I K ∧ FTJ J L := by
    obtain ⟨p1, p2, p3⟩ := hp (tkS f n q)
    have c13 : ∀ k, k < n → u2 I 115 3 (nI (tkS f n q)) 13 k = f k := fun k hk => by rw [p3]; exact h13 k hk
    generalize hK0 : u2 I 115 3 (nI (tkS f n q)) = K0 at *
    have F0 : FTI I K0 := by rw [← hK0]; exact FTI_u (by omega) (FTI_0 I)
    by_cases c : tkS f n q < n
    · have st := fun z => adv52_step (N := N) (d := d + 1) (X := X) (J := J) hn hB (c13 _ c) p1 p2 c z
      have K5 : ∀ k, k < n → u2 K0 115 5 (nI (tkS f n q)) 13 k = f k := fun k hk => by rw [u2_na _ _ _ _ _ (by omega)]; exact c13 k hk
      have K52 : u2 K0 115 5 (nI (tkS f n q)) 115 2 = nI n := by rw [u2_nk _ _ _ _ _ (by omega)]; exact p2
      have K53 : u2 K0 115 5 (nI (tkS f n q)) 115 3 = nI (tkS f n q) := by rw [u2_nk _ _ _ _ _ (by omega)]; exact p1
      rcases tkK_or f n q with ⟨_, d1, d2, d3, d4⟩ | ⟨_, d1, d2, d3, d4⟩ | ⟨_, d1, d5, d2, d3, d4⟩ | ⟨_, d1, d5, d2, d3, d4⟩ | ⟨_, d1, d5, d2, d3, d4⟩ | ⟨_, d1, d5, d2, d3, d4⟩ | ⟨d1, _⟩
      · have w := c4_word (N := N) (d := d) (X := X) (J := J) hn hB hk hN K5 K52 c K53 (u2_at _ _ _ _)
        rw [if_pos d2] at w
        refine ⟨(u2 (u2 (u2 K0 115 5 (nI (tkS f n q))) 115 3 (nI (tkS f n q + wC f n (tkS f n q)))) 115 4 (nI 3)), (u2L J 115 7 (xl f (tkS f n q) (wC f n (tkS f n q)))), ev_le (ev_0 (fun z => ?_)) (by omega), ⟨fun k hk => ?_, ?_, ?_, ?_, ?_, fun h => by omega, fun h => by omega⟩, ?_, ?_⟩
        · show RX4_advance_52 N (d + 1) (z + 1) X K0 J = _
          rw [st z, if_pos d1, w, cV_some, kX4_advance_1 N (d + 1) z]
        · rw [u2_na _ _ _ _ _ (by omega), u2_na _ _ _ _ _ (by omega)]; exact K5 k hk
        · rw [u2_nk _ _ _ _ _ (by omega), u2_nk _ _ _ _ _ (by omega)]; exact K52
        · rw [u2_nk _ _ _ _ _ (by omega), u2_at, d4]
        · rw [u2_at, d3]
        · rw [u2_nk _ _ _ _ _ (by omega), u2_nk _ _ _ _ _ (by omega), u2_at]
        · exact FTI_u (by omega) (FTI_u (by omega) (FTI_u (by omega) F0))
        · exact fun a ha => u2L_na _ _ _ _ _ ha
      · have w := c4_word (N := N) (d := d) (X := X) (J := J) hn hB hk hN K5 K52 c K53 (u2_at _ _ _ _)
        rw [if_neg d2] at w
        have e2 := (wC_b f n (tkS f n q)).2.1
        have e1 := (wC_b f n (tkS f n q)).1
        refine ⟨(u2 (u2 (u2 K0 115 5 (nI (tkS f n q))) 115 3 (nI (tkS f n q + wC f n (tkS f n q)))) 115 4 (nI (kwk (wv f (tkS f n q) (wC f n (tkS f n q)))))), (u2L J 115 7 (xl f (tkS f n q) (wC f n (tkS f n q)))), ev_le (ev_0 (fun z => ?_)) (by omega), ⟨fun k hk => ?_, ?_, ?_, ?_, ?_, fun h => ?_, fun h => ?_⟩, ?_, ?_⟩
        · show RX4_advance_52 N (d + 1) (z + 1) X K0 J = _
          rw [st z, if_pos d1, w, cV_some, kX4_advance_1 N (d + 1) z]
        · rw [u2_na _ _ _ _ _ (by omega), u2_na _ _ _ _ _ (by omega)]; exact K5 k hk
        · rw [u2_nk _ _ _ _ _ (by omega), u2_nk _ _ _ _ _ (by omega)]; exact K52
        · rw [u2_nk _ _ _ _ _ (by omega), u2_at, d4]
        · rw [u2_at, d3]; rfl
        · rw [u2_nk _ _ _ _ _ (by omega), u2_nk _ _ _ _ _ (by omega), u2_at]
        · rcases kwk_or (tkW f n q) with k | k <;> omega
        · rw [u2L_at, xl_wv (wC f n (tkS f n q)) (by omega) (fun i hi => ⟨hB _ (by omega), e2 i hi⟩)]; rfl
        · exact FTI_u (by omega) (FTI_u (by omega) (FTI_u (by omega) F0))
        · exact fun a ha => u2L_na _ _ _ _ _ ha
      · have w := c4_number (N := N) (d := d) (X := X) (J := J) hn hB hN K5 K52 c K53 (u2_at _ _ _ _)
        rw [if_pos d2] at w
        refine ⟨(u2 (u2 (u2 (u2 K0 115 5 (nI (tkS f n q))) 115 6 (nl f (tkS f n q) (dC f n (tkS f n q)))) 115 3 (nI (tkS f n q + dC f n (tkS f n q)))) 115 4 (nI 4294967295)), J, ev_le (ev_0 (fun z => ?_)) (by omega), ⟨fun k hk => ?_, ?_, ?_, ?_, ?_, fun h => by omega, fun h => by omega⟩, ?_, ?_⟩
        · show RX4_advance_52 N (d + 1) (z + 1) X K0 J = _
          rw [st z, if_neg d1, if_pos d5, w, cV_some, kX4_advance_0 N (d + 1) z]
        · rw [u2_na _ _ _ _ _ (by omega), u2_na _ _ _ _ _ (by omega), u2_na _ _ _ _ _ (by omega)]; exact K5 k hk
        · rw [u2_nk _ _ _ _ _ (by omega), u2_nk _ _ _ _ _ (by omega), u2_nk _ _ _ _ _ (by omega)]; exact K52
        · rw [u2_nk _ _ _ _ _ (by omega), u2_at, d4]
        · rw [u2_at, d3]
        · rw [u2_nk _ _ _ _ _ (by omega), u2_nk _ _ _ _ _ (by omega), u2_nk _ _ _ _ _ (by omega), u2_at]
        · exact FTI_u (by omega) (FTI_u (by omega) (FTI_u (by omega) (FTI_u (by omega) F0)))
        · exact fun a ha => rfl
      · have w := c4_number (N := N) (d := d) (X := X) (J := J) hn hB hN K5 K52 c K53 (u2_at _ _ _ _)
        rw [if_neg d2] at w
        have e2 := (dC_b f n (tkS f n q)).2.1
        have e1 := (dC_b f n (tkS f n q)).1
        refine ⟨(u2 (u2 (u2 (u2 K0 115 5 (nI (tkS f n q))) 115 6 (nl f (tkS f n q) (dC f n (tkS f n q)))) 115 3 (nI (tkS f n q + dC f n (tkS f n q)))) 115 4 (nI 1)), J, ev_le (ev_0 (fun z => ?_)) (by omega), ⟨fun k hk => ?_, ?_, ?_, ?_, ?_, fun h => ?_, fun h => by omega⟩, ?_, ?_⟩
        · show RX4_advance_52 N (d + 1) (z + 1) X K0 J = _
          rw [st z, if_neg d1, if_pos d5, w, cV_some, kX4_advance_0 N (d + 1) z]
        · rw [u2_na _ _ _ _ _ (by omega), u2_na _ _ _ _ _ (by omega), u2_na _ _ _ _ _ (by omega)]; exact K5 k hk
        · rw [u2_nk _ _ _ _ _ (by omega), u2_nk _ _ _ _ _ (by omega), u2_nk _ _ _ _ _ (by omega)]; exact K52
        · rw [u2_nk _ _ _ _ _ (by omega), u2_at, d4]
        · rw [u2_at, d3]
        · rw [u2_nk _ _ _ _ _ (by omega), u2_nk _ _ _ _ _ (by omega), u2_nk _ _ _ _ _ (by omega), u2_at]
        · rw [u2_nk _ _ _ _ _ (by omega), u2_nk _ _ _ _ _ (by omega), u2_at, nl_nv (dC f n (tkS f n q)) (by omega) (fun i hi => ⟨hB _ (by omega), e2 i hi⟩)]; rfl
        · exact FTI_u (by omega) (FTI_u (by omega) (FTI_u (by omega) (FTI_u (by omega) F0)))
        · exact fun a ha => rfl
      · have w := fun z => adv125_step (N := N) (d := d + 1) (X := X) (J := J) (hB _ c) K53 z
        refine ⟨u2 (u2 (u2 K0 115 5 (nI (tkS f n q))) 115 4 (nI (if isSg (cb (f (tkS f n q))) = true then cb (f (tkS f n q)) else 4294967295))) 115 3 (nI (tkS f n q + 1)), J, ev_le (ev_s (g := fun z => RX4_advance_125 N (d + 1) z X (f (tkS f n q)) (u2 K0 115 5 (nI (tkS f n q))) J) (fun z => ?_) (ev_0 w)) (by omega), ⟨fun k hk => ?_, ?_, ?_, ?_, ?_, fun h => ?_, fun h => ?_⟩, FTI_u (by omega) (FTI_u (by omega) (FTI_u (by omega) F0)), fun a ha => rfl⟩
        · show RX4_advance_52 N (d + 1) (z + 1) X K0 J = _
          rw [st z, if_neg d1, if_neg d5]
        · rw [u2_na _ _ _ _ _ (by omega), u2_na _ _ _ _ _ (by omega)]; exact K5 k hk
        · rw [u2_nk _ _ _ _ _ (by omega), u2_nk _ _ _ _ _ (by omega)]; exact K52
        · rw [u2_at, d4]
        · rw [u2_nk _ _ _ _ _ (by omega), u2_at, d3, if_pos d2]
        · rw [u2_nk _ _ _ _ _ (by omega), u2_nk _ _ _ _ _ (by omega), u2_at]
        · rcases (isSg_iff _).mp d2 with k | k | k | k <;> omega
        · rcases (isSg_iff _).mp d2 with k | k | k | k <;> omega
      · have w := fun z => adv125_step (N := N) (d := d + 1) (X := X) (J := J) (hB _ c) K53 z
        refine ⟨u2 (u2 (u2 K0 115 5 (nI (tkS f n q))) 115 4 (nI (if isSg (cb (f (tkS f n q))) = true then cb (f (tkS f n q)) else 4294967295))) 115 3 (nI (tkS f n q + 1)), J, ev_le (ev_s (g := fun z => RX4_advance_125 N (d + 1) z X (f (tkS f n q)) (u2 K0 115 5 (nI (tkS f n q))) J) (fun z => ?_) (ev_0 w)) (by omega), ⟨fun k hk => ?_, ?_, ?_, ?_, ?_, fun h => by omega, fun h => by omega⟩, FTI_u (by omega) (FTI_u (by omega) (FTI_u (by omega) F0)), fun a ha => rfl⟩
        · show RX4_advance_52 N (d + 1) (z + 1) X K0 J = _
          rw [st z, if_neg d1, if_neg d5]
        · rw [u2_na _ _ _ _ _ (by omega), u2_na _ _ _ _ _ (by omega)]; exact K5 k hk
        · rw [u2_nk _ _ _ _ _ (by omega), u2_nk _ _ _ _ _ (by omega)]; exact K52
        · rw [u2_at, d4]
        · rw [u2_nk _ _ _ _ _ (by omega), u2_at, d3, if_neg d2]
        · rw [u2_nk _ _ _ _ _ (by omega), u2_nk _ _ _ _ _ (by omega), u2_at]
      · exact absurd c d1
    · have e : tkS f n q = n := by omega
      have d : tkK f n q = 0 ∧ tkE f n q = tkS f n q := by
        unfold tkK tkE
        rw [if_neg c, if_neg c]; exact ⟨rfl, rfl⟩
      refine ⟨u2 (u2 K0 115 5 (nI (tkS f n q))) 115 4 (nI 0), J, ev_le (ev_0 (fun z => ?_)) (by omega), ⟨fun k hk => ?_, ?_, ?_, ?_, ?_, fun h => by omega, fun h => by omega⟩, FTI_u (by omega) (FTI_u (by omega) F0), fun a ha => rfl⟩
      · show RX4_advance_52 N _ (z + 1) X K0 J = _
        rw [sX4_advance_52 N _ z, p1, p2, nc_nlt (by omega) (by omega)]
      · rw [u2_na _ _ _ _ _ (by omega), u2_na _ _ _ _ _ (by omega)]; exact c13 k hk
      · rw [u2_nk _ _ _ _ _ (by omega), u2_nk _ _ _ _ _ (by omega)]; exact p2
      · rw [u2_nk _ _ _ _ _ (by omega), u2_nk _ _ _ _ _ (by omega), d.2]; exact p1
      · rw [u2_at, d.1]
      · rw [u2_nk _ _ _ _ _ (by omega), u2_at]
  obtain ⟨K, L, m1, m2, m3, m4⟩ := main
  have st := skp (run := fun z k => RX4_advance_0 N (d + 1) z X (u2 I 115 3 (nI (q + k))) J) (run2 := fun z k => RX4_advance_52 N (d + 1) z X (u2 I 115 3 (nI (q + k))) J) (m := n - q) (p := fun k => !isBl (cb (f (q + k)))) ?_ ?_ ?_ (n - q) 0 3 (some (.null, mkh X K L)) (by omega) m1
  · refine ⟨K, L, ?_, m2, m3, m4⟩
    rw [gX4_advance N (d + 1)]
    have := st (N + 30) (by omega)
    rw [← (show I = u2 I 115 3 (nI (q + 0)) from (u2_id h3).symm)] at this
    exact this
  · intro z k hk q2
    obtain ⟨p1, p2, p3⟩ := hp (q + k)
    show RX4_advance_0 N (d + 1) (z + 1) X (u2 I 115 3 (nI (q + k))) J = RX4_advance_52 N (d + 1) z X (u2 I 115 3 (nI (q + k))) J
    rw [adv0_step hn hB (by rw [p3]; exact h13 _ (by omega)) p1 p2 (by omega) z, if_neg (by simpa using q2)]
  · intro z k hk q2
    obtain ⟨p1, p2, p3⟩ := hp (q + k)
    show RX4_advance_0 N (d + 1) (z + 1) X (u2 I 115 3 (nI (q + k))) J = RX4_advance_0 N (d + 1) z X (u2 I 115 3 (nI (q + (k + 1)))) J
    rw [adv0_step hn hB (by rw [p3]; exact h13 _ (by omega)) p1 p2 (by omega) z, if_pos (by simpa using q2), u2_u2]
    rfl
  · intro z
    obtain ⟨p1, p2, p3⟩ := hp (q + (n - q))
    show RX4_advance_0 N (d + 1) (z + 1) X (u2 I 115 3 (nI (q + (n - q)))) J = RX4_advance_52 N (d + 1) z X (u2 I 115 3 (nI (q + (n - q)))) J
    rw [sX4_advance_0 N (d + 1) z, p1, p2, nc_nlt (by omega) (by omega)]
end
