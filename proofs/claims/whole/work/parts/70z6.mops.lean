/-! texts: the reference's steps, as long as all is well and behind a fault -/
/-- a fault is kept -/
def flt (M : Nat → Nat → Int32) (k s : Nat) : Nat → Nat → Int32 := u2 (u2 M 135 12 (nI k)) 135 13 (nI s)
theorem flt_12 (M : Nat → Nat → Int32) (k s : Nat) : flt M k s 135 12 = nI k := by
  unfold flt; rw [u2_nk _ _ _ _ _ (by omega), u2_at]
theorem flt_13 (M : Nat → Nat → Int32) (k s : Nat) : flt M k s 135 13 = nI s := u2_at _ _ _ _
theorem flt_na (M : Nat → Nat → Int32) (k s : Nat) {a : Nat} (h : a ≠ 135) : flt M k s a = M a := by
  unfold flt; rw [u2_na _ _ _ _ _ h, u2_na _ _ _ _ _ h]
theorem flt_nk (M : Nat → Nat → Int32) (k s : Nat) {j : Nat} (h : j ≠ 12) (h2 : j ≠ 13) : flt M k s 135 j = M 135 j := by
  unfold flt; rw [u2_nk _ _ _ _ _ h2, u2_nk _ _ _ _ _ h]
theorem RT_flt {f : Nat → Int32} {n q : Nat} {M : Nat → Nat → Int32} {L : Nat → Nat → Int64} (k s : Nat) (H : RT f n q M L) : RT f n q (flt M k s) L := RT_o (by omega) (by omega) (RT_o (by omega) (by omega) H)
theorem fkd_b (f : Nat → Int32) (n q : Nat) : 0 < fkd f n q ∧ fkd f n q ≤ 2 := by unfold fkd; split <;> omega
section
variable {N d : Nat} {X : lt_X} {f : Nat → Int32} {n q b : Nat} {M : Nat → Nat → Int32} {L : Nat → Nat → Int64}
theorem c9_fail0 (h : M 135 12 = nI 0) (x s : Nat) : am_G am_prog (N + 30) (d + 1) 229 [.ref 135, .int (nI x), .int (nI s)] (mkh X M L) = some (.null, mkh X (flt M x s) L) := by
  rw [gX9_fail N d, sX9_fail_0 N d, h, nc_nlt (by omega) (by omega)]
  rfl
theorem c9_failb (h : M 135 12 = nI b) (h0 : 0 < b) (hb : b < 100) (x s : Int32) : am_G am_prog (N + 30) (d + 1) 229 [.ref 135, .int x, .int s] (mkh X M L) = some (.null, mkh X M L) := by
  rw [gX9_fail N d, sX9_fail_0 N d, h, nc_lt h0 (by omega)]
theorem c9_amiss0 (H : RT f n q M L) (h : M 135 12 = nI 0) : am_G am_prog (N + 30) (d + 2) 230 [.ref 135] (mkh X M L) = some (.null, mkh X (flt M (fkd f n q) (tkS f n q)) L) := by
  rw [gX9_amiss N (d + 1), sX9_amiss_0 N (d + 1), H.2.2.2.2.1, H.2.2.2.1]
  unfold fkd
  rcases rk_or f n q with ⟨r, c⟩ | ⟨r, c⟩ | ⟨r, c⟩ | ⟨r, c⟩ | ⟨r, c⟩
  · rw [nc_ne (by omega) (by omega) (by omega), c9_fail0 (d := d) h, cV_some, kX9_amiss_0 N (d + 1), if_neg (by omega)]
  · rw [nc_ne (by omega) (by omega) (by omega), c9_fail0 (d := d) h, cV_some, kX9_amiss_0 N (d + 1), if_neg (by omega)]
  · rw [nc_ne (by omega) (by omega) (by omega), c9_fail0 (d := d) h, cV_some, kX9_amiss_0 N (d + 1), if_neg (by omega)]
  · rw [nc_ne (by omega) (by omega) (by omega), c9_fail0 (d := d) h, cV_some, kX9_amiss_0 N (d + 1), if_neg (by omega)]
  · rw [nc_eq r, c9_fail0 (d := d) h, cV_some, kX9_amiss_0 N (d + 1), if_pos c]
theorem c9_amissb (h : M 135 12 = nI b) (h0 : 0 < b) (hb : b < 100) : am_G am_prog (N + 30) (d + 2) 230 [.ref 135] (mkh X M L) = some (.null, mkh X M L) := by
  have e := fun x => c9_failb (N := N) (d := d) (X := X) (L := L) h h0 hb x (M 135 15)
  rw [gX9_amiss N (d + 1), sX9_amiss_0 N (d + 1), e, e, cV_some, kX9_amiss_0 N (d + 1), ite_self]
theorem c9_next (hn : n ≤ 900) (hB : ∀ k, k < n → isB (f k)) (hN : 10000 ≤ N) (hq : q ≤ n) (H : RT f n q M L) : ∃ K P, am_G am_prog (N + 30) (d + 2) 207 [.ref 135] (mkh X M L) = some (.null, mkh X K P) ∧ RT f n (tkE f n q) K P ∧ FTM M K ∧ FTL L P :=
  c9_advance (N := N) (d := d) (X := X) (M := M) (L := L) hn hB hN H.1 H.2.1 (tkE_b f hq).2.1 H.2.2.1
theorem c9_mustb (h : M 135 12 = nI b) (h0 : 0 < b) (hb : b < 100) (x : Int32) : am_G am_prog (N + 30) (d + 1) 231 [.ref 135, .int x] (mkh X M L) = some (.null, mkh X M L) := by
  rw [gX9_must N d, sX9_must_0 N d, h, nc_lt h0 (by omega)]
theorem c9_must0 (H : RT f n q M L) (h : M 135 12 = nI 0) {x : Int32} (hx : x = nI 0) : am_G am_prog (N + 30) (d + 3) 231 [.ref 135, .int x] (mkh X M L) = some (.null, mkh X (flt M (fkd f n q) (tkS f n q)) L) := by
  subst hx
  rw [gX9_must N (d + 2), sX9_must_0 N (d + 2), h, nc_nlt (by omega) (by omega), nc_eq rfl, c9_amiss0 H h, cV_some, kX9_must_0 N (d + 2)]
theorem c9_must1 (hn : n ≤ 900) (hB : ∀ k, k < n → isB (f k)) (hN : 10000 ≤ N) (hq : q ≤ n) (H : RT f n q M L) (h : M 135 12 = nI 0) {x : Int32} (hx : x = nI 1) : ∃ K P, am_G am_prog (N + 30) (d + 3) 231 [.ref 135, .int x] (mkh X M L) = some (.null, mkh X K P) ∧ RT f n (tkE f n q) K P ∧ FTM M K ∧ FTL L P := by
  subst hx
  obtain ⟨K, P, a, b⟩ := c9_next (N := N) (d := d) (X := X) hn hB hN hq H
  refine ⟨K, P, ?_, b⟩
  rw [gX9_must N (d + 2), sX9_must_0 N (d + 2), h, nc_nlt (by omega) (by omega), nc_ne (by omega) (by omega) (by omega), a, cV_some, kX9_must_1 N (d + 2)]
theorem c9_countb (h : M 135 12 = nI b) (h0 : 0 < b) (hb : b < 100) (lo hi : Int32) : am_G am_prog (N + 30) (d + 2) 232 [.ref 135, .int lo, .int hi] (mkh X M L) = some (.int (nI 0), mkh X M L) := by
  rw [gX9_count N d, sX9_count_0 N d, h, nc_ne (by omega) (by omega) (by omega), sX9_count_19 N d (N + 28), h, nc_ne (by omega) (by omega) (by omega), sX9_count_50 N d (N + 27), h, nc_lt h0 (by omega)]
theorem c9_count0 (H : RT f n q M L) (h : M 135 12 = nI 0) (hk : tkK f n q ≠ 1) (lo hi : Int32) : am_G am_prog (N + 30) (d + 3) 232 [.ref 135, .int lo, .int hi] (mkh X M L) = some (.int (nI 0), mkh X (flt M (fkd f n q) (tkS f n q)) L) := by
  have fb := fkd_b f n q
  have f12 := flt_12 M (fkd f n q) (tkS f n q)
  have r2 : rk (tkK f n q) ≠ 2 ∧ rk (tkK f n q) ≤ 4 := by
    rcases rk_or f n q with ⟨r, c⟩ | ⟨r, c⟩ | ⟨r, c⟩ | ⟨r, c⟩ | ⟨r, c⟩ <;> omega
  rw [gX9_count N (d + 1), sX9_count_0 N (d + 1), h, nc_eq rfl, H.2.2.2.2.1, nc_ne r2.1 (by omega) (by omega), c9_amiss0 H h, cV_some, kX9_count_0 N (d + 1), sX9_count_19 N (d + 1) (N + 28), f12, nc_ne (by omega) (by omega) (by omega), sX9_count_50 N (d + 1) (N + 27), f12, nc_lt fb.1 (by omega)]
theorem rng_nI {v a b : Nat} (hv : v < 2 ^ 31) : rng (nI v) a b = true ↔ (a ≤ v ∧ v ≤ b) := by
  unfold rng
  rw [nI_toInt hv, decide_eq_true_eq]
  omega
theorem c9_count4 (H : RT f n q M L) (h : M 135 12 = nI 0) (hk : tkK f n q = 1) {lo hi : Nat} (hlo : lo < 2 ^ 31) (hhi : hi < 2 ^ 31) (hr : ¬ (lo ≤ tkV f n q ∧ tkV f n q ≤ hi)) : am_G am_prog (N + 30) (d + 3) 232 [.ref 135, .int (nI lo), .int (nI hi)] (mkh X M L) = some (.int (nI 0), mkh X (flt M 4 (tkS f n q)) L) := by
  have f12 := flt_12 M 4 (tkS f n q)
  have hv := tkV_le hk
  have r2 : rk (tkK f n q) = 2 := by rw [hk]; rfl
  rw [gX9_count N (d + 1), sX9_count_0 N (d + 1), h, nc_eq rfl, H.2.2.2.2.1, nc_eq r2, sX9_count_19 N (d + 1) (N + 28), h, nc_eq rfl, H.2.2.2.2.2.1 hk, nI_l hlo, nI_l hhi, c9_in (d := d + 1) hlo hhi, cI_some, kX9_count_1 N (d + 1), nc_10, if_neg (fun e => hr ((rng_nI (by omega)).mp e)), H.2.2.2.1, c9_fail0 (d := d + 1) h, cV_some, kX9_count_3 N (d + 1), sX9_count_50 N (d + 1) (N + 27), f12, nc_lt (by omega) (by omega)]
theorem c9_count1 (hn : n ≤ 900) (hB : ∀ k, k < n → isB (f k)) (hN : 10000 ≤ N) (hq : q ≤ n) (H : RT f n q M L) (h : M 135 12 = nI 0) (hk : tkK f n q = 1) {lo hi : Nat} (hlo : lo < 2 ^ 31) (hhi : hi < 2 ^ 31) (h1 : lo ≤ tkV f n q) (h2 : tkV f n q ≤ hi) : ∃ K P, am_G am_prog (N + 30) (d + 3) 232 [.ref 135, .int (nI lo), .int (nI hi)] (mkh X M L) = some (.int (nI (tkV f n q)), mkh X K P) ∧ RT f n (tkE f n q) K P ∧ FTM M K ∧ FTL L P := by
  have hv := tkV_le hk
  have r2 : rk (tkK f n q) = 2 := by rw [hk]; rfl
  obtain ⟨K, P, a, b⟩ := c9_next (N := N) (d := d) (X := X) hn hB hN hq H
  refine ⟨K, P, ?_, b⟩
  rw [gX9_count N (d + 1), sX9_count_0 N (d + 1), h, nc_eq rfl, H.2.2.2.2.1, nc_eq r2, sX9_count_19 N (d + 1) (N + 28), h, nc_eq rfl, H.2.2.2.2.2.1 hk, nI_l hlo, nI_l hhi, c9_in (d := d + 1) hlo hhi, cI_some, kX9_count_1 N (d + 1), nc_10, if_pos ((rng_nI (by omega)).mpr ⟨h1, h2⟩), sX9_count_50 N (d + 1) (N + 27), h, nc_nlt (by omega) (by omega), H.2.2.2.2.2.1 hk, a, cV_some, kX9_count_2 N (d + 1)]
theorem c9_perhapsb (h : M 135 12 = nI b) (h0 : 0 < b) (hb : b < 100) (x : Int32) : am_G am_prog (N + 30) (d + 1) 234 [.ref 135, .int x] (mkh X M L) = some (.int (nI 0), mkh X M L) := by
  rw [gX9_perhaps N d, sX9_perhaps_0 N d, h, nc_lt h0 (by omega)]
theorem c9_perhaps0 (h : M 135 12 = nI 0) {x : Int32} (hx : x = nI 0) : am_G am_prog (N + 30) (d + 1) 234 [.ref 135, .int x] (mkh X M L) = some (.int (nI 0), mkh X M L) := by
  subst hx
  rw [gX9_perhaps N d, sX9_perhaps_0 N d, h, nc_nlt (by omega) (by omega), nc_eq rfl]
theorem c9_perhaps1 (hn : n ≤ 900) (hB : ∀ k, k < n → isB (f k)) (hN : 10000 ≤ N) (hq : q ≤ n) (H : RT f n q M L) (h : M 135 12 = nI 0) {x : Int32} (hx : x = nI 1) : ∃ K P, am_G am_prog (N + 30) (d + 3) 234 [.ref 135, .int x] (mkh X M L) = some (.int (nI 1), mkh X K P) ∧ RT f n (tkE f n q) K P ∧ FTM M K ∧ FTL L P := by
  subst hx
  obtain ⟨K, P, a, b⟩ := c9_next (N := N) (d := d) (X := X) hn hB hN hq H
  refine ⟨K, P, ?_, b⟩
  rw [gX9_perhaps N (d + 2), sX9_perhaps_0 N (d + 2), h, nc_nlt (by omega) (by omega), nc_ne (by omega) (by omega) (by omega), a, cV_some, kX9_perhaps_0 N (d + 2)]
/-- names of a block -/
theorem c9_named {bl k c : Nat} (hb : bl ≤ 4) (hk : k < 4) (hc : c ≤ 6) (h2 : M 140 (429 * bl + k) = nI c) (hN : 1000 ≤ N) : am_G am_prog (N + 30) (d + 1) 241 [.ref 135, .int (nI bl), .int (nI k)] (mkh X M L) = some (.int (nI (fdN (fun j => L 142 (24 * bl + j)) k c (L 135 19))), mkh X M L) := by
  have main := lqf (run := fun z i => RX9_named_2 N d z X (nI bl) (nI k) (nI i) M L) (m := c) (p := fun i => decide (L 142 (24 * bl + (6 * k + i)) = L 135 19)) (A := fun i => some (.int (nI i), mkh X M L)) (Z := some (.int (-1), mkh X M L)) ?_ ?_ ?_ c 0 (N + 29) (by omega) (by omega)
  · rw [gX9_named N d, sX9_named_0 N d]
    refine main.trans ?_
    unfold fdN
    by_cases g : fnd (fun i => decide (L 142 (24 * bl + (6 * k + i)) = L 135 19)) 0 c < c
    · rw [if_pos g, if_pos g]
    · rw [if_neg g, if_neg g, no_m1]
  · intro z i hi p
    rw [sX9_named_2 N d z, pk_mul 429 bl, nI_add (429 * bl) k, nc_in (by omega) (by omega), nI_clamp (by omega), h2, nc_lt hi (by omega), pk_mul 24 bl, pk_mul 6 k, nI_add (24 * bl) (6 * k), nI_add (24 * bl + 6 * k) i, nc_in (by omega) (by omega), nI_clamp (by omega), Nat.add_assoc (24 * bl) (6 * k) i, lq_eq (of_decide_eq_true p)]
  · intro z i hi p
    rw [sX9_named_2 N d z, pk_mul 429 bl, nI_add (429 * bl) k, nc_in (by omega) (by omega), nI_clamp (by omega), h2, nc_lt hi (by omega), pk_mul 24 bl, pk_mul 6 k, nI_add (24 * bl) (6 * k), nI_add (24 * bl + 6 * k) i, nc_in (by omega) (by omega), nI_clamp (by omega), Nat.add_assoc (24 * bl) (6 * k) i, lq_ne (of_decide_eq_false p), nI_add i 1]
  · intro z
    rw [sX9_named_2 N d z, pk_mul 429 bl, nI_add (429 * bl) k, nc_in (by omega) (by omega), nI_clamp (by omega), h2, nc_nlt (by omega) (by omega)]
theorem c9_toldb (h : M 135 12 = nI b) (h0 : 0 < b) (hb : b < 100) (x y : Int32) : am_G am_prog (N + 30) (d + 1) 244 [.ref 135, .int x, .int y] (mkh X M L) = some (.int (nI 0), mkh X M L) := by
  rw [gX9_told N d, sX9_told_0 N d, h, nc_ne (by omega) (by omega) (by omega), sX9_told_18 N d (N + 28), h, nc_lt h0 (by omega)]
theorem c9_told0 (H : RT f n q M L) (h : M 135 12 = nI 0) (hk : tkK f n q ≠ 2) (x y : Int32) : am_G am_prog (N + 30) (d + 5) 244 [.ref 135, .int x, .int y] (mkh X M L) = some (.int (nI 0), mkh X (flt M (fkd f n q) (tkS f n q)) L) := by
  have fb := fkd_b f n q
  rw [gX9_told N (d + 4), sX9_told_0 N (d + 4), h, nc_eq rfl, c9_isName H, cI_some, kX9_told_0 N (d + 4), nc_10, if_neg hk, c9_amiss0 (d := d + 2) H h, cV_some, kX9_told_2 N (d + 4), sX9_told_18 N (d + 4) (N + 28), flt_12, nc_lt fb.1 (by omega)]
theorem told_18 {bl k c : Nat} (hbl : bl ≤ 4) (hk4 : k < 4) (hc : c ≤ 6) (h2 : M 140 (429 * bl + k) = nI c) (hN : 1000 ≤ N) (H : RT f n q M L) (h : M 135 12 = nI 0) (hk : tkK f n q = 2) : am_G am_prog (N + 30) (d + 5) 244 [.ref 135, .int (nI bl), .int (nI k)] (mkh X M L) = KX9_told_1 N (d + 4) (N + 28) (nI (fdN (fun j => L 142 (24 * bl + j)) k c (lN (tkW f n q)))) (mkh X M L) := by
  have e := c9_named (N := N) (d := d + 3) (X := X) (M := M) (L := L) hbl hk4 hc h2 hN
  rw [(H.2.2.2.2.2.2.2.2 (Or.inl hk)).2] at e
  rw [gX9_told N (d + 4), sX9_told_0 N (d + 4), h, nc_eq rfl, c9_isName H, cI_some, kX9_told_0 N (d + 4), nc_10, if_pos hk, sX9_told_18 N (d + 4) (N + 28), h, nc_nlt (by omega) (by omega), e, cI_some]
theorem c9_told3 {bl k c : Nat} (hbl : bl ≤ 4) (hk4 : k < 4) (hc : c ≤ 6) (h2 : M 140 (429 * bl + k) = nI c) (hN : 1000 ≤ N) (H : RT f n q M L) (h : M 135 12 = nI 0) (hk : tkK f n q = 2) (hf : fdN (fun j => L 142 (24 * bl + j)) k c (lN (tkW f n q)) = 4294967295) : am_G am_prog (N + 30) (d + 5) 244 [.ref 135, .int (nI bl), .int (nI k)] (mkh X M L) = some (.int (nI 0), mkh X (flt M 3 (tkS f n q)) L) := by
  rw [told_18 hbl hk4 hc h2 hN H h hk, kX9_told_1 N (d + 4), nc_neg hf, H.2.2.2.1, c9_fail0 (d := d + 3) h, cV_some, kX9_told_3 N (d + 4), hf]
  rfl
theorem c9_told1 {bl k c : Nat} (hbl : bl ≤ 4) (hk4 : k < 4) (hc : c ≤ 6) (h2 : M 140 (429 * bl + k) = nI c) (hN : 1000 ≤ N) (H : RT f n q M L) (h : M 135 12 = nI 0) (hk : tkK f n q = 2) (hf : fdN (fun j => L 142 (24 * bl + j)) k c (lN (tkW f n q)) < c) : am_G am_prog (N + 30) (d + 5) 244 [.ref 135, .int (nI bl), .int (nI k)] (mkh X M L) = some (.int (nI (fdN (fun j => L 142 (24 * bl + j)) k c (lN (tkW f n q)))), mkh X M L) := by
  rw [told_18 hbl hk4 hc h2 hN H h hk, kX9_told_1 N (d + 4), nc_nlt (by omega) (by omega)]
  generalize fdN (fun j => L 142 (24 * bl + j)) k c (lN (tkW f n q)) = v at *
  by_cases g : 0 < v
  · rw [nc_lt g (by omega)]
  · rw [nc_nlt (by omega) (by omega), show v = 0 by omega]
theorem c9_readToldb (h : M 135 12 = nI b) (h0 : 0 < b) (hb : b < 100) (x y : Int32) : am_G am_prog (N + 30) (d + 2) 245 [.ref 135, .int x, .int y] (mkh X M L) = some (.int (nI 0), mkh X M L) := by
  rw [gX9_readTold N (d + 1), sX9_readTold_0 N (d + 1), c9_toldb (d := d) h h0 hb, cI_some, kX9_readTold_0 N (d + 1), c9_mustb (d := d) h h0 hb, cV_some, kX9_readTold_1 N (d + 1)]
theorem c9_readTold0 (H : RT f n q M L) (h : M 135 12 = nI 0) (hk : tkK f n q ≠ 2) (x y : Int32) : am_G am_prog (N + 30) (d + 6) 245 [.ref 135, .int x, .int y] (mkh X M L) = some (.int (nI 0), mkh X (flt M (fkd f n q) (tkS f n q)) L) := by
  have fb := fkd_b f n q
  rw [gX9_readTold N (d + 5), sX9_readTold_0 N (d + 5), c9_told0 H h hk, cI_some, kX9_readTold_0 N (d + 5), c9_mustb (d := d + 4) (flt_12 _ _ _) fb.1 (by omega), cV_some, kX9_readTold_1 N (d + 5)]
theorem c9_readTold3 {bl k c : Nat} (hbl : bl ≤ 4) (hk4 : k < 4) (hc : c ≤ 6) (h2 : M 140 (429 * bl + k) = nI c) (hN : 1000 ≤ N) (H : RT f n q M L) (h : M 135 12 = nI 0) (hk : tkK f n q = 2) (hf : fdN (fun j => L 142 (24 * bl + j)) k c (lN (tkW f n q)) = 4294967295) : am_G am_prog (N + 30) (d + 6) 245 [.ref 135, .int (nI bl), .int (nI k)] (mkh X M L) = some (.int (nI 0), mkh X (flt M 3 (tkS f n q)) L) := by
  rw [gX9_readTold N (d + 5), sX9_readTold_0 N (d + 5), c9_told3 hbl hk4 hc h2 hN H h hk hf, cI_some, kX9_readTold_0 N (d + 5), c9_mustb (d := d + 4) (flt_12 _ _ _) (by omega) (by omega), cV_some, kX9_readTold_1 N (d + 5)]
theorem c9_readTold1 (hn : n ≤ 900) (hB : ∀ k, k < n → isB (f k)) (hq : q ≤ n) {bl k c : Nat} (hbl : bl ≤ 4) (hk4 : k < 4) (hc : c ≤ 6) (h2 : M 140 (429 * bl + k) = nI c) (hN : 10000 ≤ N) (H : RT f n q M L) (h : M 135 12 = nI 0) (hk : tkK f n q = 2) (hf : fdN (fun j => L 142 (24 * bl + j)) k c (lN (tkW f n q)) < c) : ∃ K P, am_G am_prog (N + 30) (d + 6) 245 [.ref 135, .int (nI bl), .int (nI k)] (mkh X M L) = some (.int (nI (fdN (fun j => L 142 (24 * bl + j)) k c (lN (tkW f n q)))), mkh X K P) ∧ RT f n (tkE f n q) K P ∧ FTM M K ∧ FTL L P := by
  obtain ⟨K, P, a, b⟩ := c9_must1 (N := N) (d := d + 2) (X := X) hn hB hN hq H h (x := nI 1) rfl
  refine ⟨K, P, ?_, b⟩
  rw [gX9_readTold N (d + 5), sX9_readTold_0 N (d + 5), c9_told1 hbl hk4 hc h2 (by omega) H h hk hf, cI_some, kX9_readTold_0 N (d + 5), a, cV_some, kX9_readTold_1 N (d + 5)]
theorem c9_isTaken {T : Nat → Nat} (hT : ∀ k, k < 4 → T k ≤ 6) (h2 : ∀ k, k < 4 → M 140 (1716 + k) = nI (T k)) (hN : 1000 ≤ N) : (tkn (fun j => L 142 (96 + j)) T (L 135 19) → am_G am_prog (N + 30) (d + 2) 242 [.ref 135] (mkh X M L) = some (.int (nI 1), mkh X M L)) ∧ (¬ tkn (fun j => L 142 (96 + j)) T (L 135 19) → am_G am_prog (N + 30) (d + 2) 242 [.ref 135] (mkh X M L) = some (.int (nI 0), mkh X M L)) := by
  have e : ∀ k, k < 4 → am_G am_prog (N + 30) (d + 1) 241 [.ref 135, .int (nI 4), .int (nI k)] (mkh X M L) = some (.int (nI (fdN (fun j => L 142 (96 + j)) k (T k) (L 135 19))), mkh X M L) := fun k hk => c9_named (bl := 4) (by omega) hk (hT k hk) (h2 k hk) hN
  have lt : ∀ k (A B : am_O), k < 4 → (if nI (fdN (fun j => L 142 (96 + j)) k (T k) (L 135 19)) < nI 0 then A else B) = if fdN (fun j => L 142 (96 + j)) k (T k) (L 135 19) = 4294967295 then A else B := by
    intro k A B hk
    have b := hT k hk
    rcases fdN_or (fun j => L 142 (96 + j)) k (T k) (L 135 19) with g | g
    · rw [nc_nlt (by omega) (by omega), if_neg (by omega)]
    · rw [nc_neg g, if_pos g]
  have all : am_G am_prog (N + 30) (d + 2) 242 [.ref 135] (mkh X M L) = if fdN (fun j => L 142 (96 + j)) 0 (T 0) (L 135 19) = 4294967295 then (if fdN (fun j => L 142 (96 + j)) 1 (T 1) (L 135 19) = 4294967295 then (if fdN (fun j => L 142 (96 + j)) 2 (T 2) (L 135 19) = 4294967295 then (if fdN (fun j => L 142 (96 + j)) 3 (T 3) (L 135 19) = 4294967295 then some (.int (nI 0), mkh X M L) else some (.int (nI 1), mkh X M L)) else some (.int (nI 1), mkh X M L)) else some (.int (nI 1), mkh X M L)) else some (.int (nI 1), mkh X M L) := by
    rw [gX9_isTaken N (d + 1), sX9_isTaken_0 N (d + 1), e 0 (by omega), cI_some, kX9_isTaken_0 N (d + 1), lt 0 _ _ (by omega), e 1 (by omega), cI_some, kX9_isTaken_1 N (d + 1), lt 1 _ _ (by omega), e 2 (by omega), cI_some, kX9_isTaken_2 N (d + 1), lt 2 _ _ (by omega), e 3 (by omega), cI_some, kX9_isTaken_3 N (d + 1), lt 3 _ _ (by omega)]
  rw [all]
  unfold tkn
  by_cases g0 : fdN (fun j => L 142 (96 + j)) 0 (T 0) (L 135 19) = 4294967295
  · by_cases g1 : fdN (fun j => L 142 (96 + j)) 1 (T 1) (L 135 19) = 4294967295
    · by_cases g2 : fdN (fun j => L 142 (96 + j)) 2 (T 2) (L 135 19) = 4294967295
      · by_cases g3 : fdN (fun j => L 142 (96 + j)) 3 (T 3) (L 135 19) = 4294967295
        · exact ⟨fun h => absurd ⟨g0, g1, g2, g3⟩ h, fun _ => by rw [if_pos g0, if_pos g1, if_pos g2, if_pos g3]⟩
        · exact ⟨fun _ => by rw [if_pos g0, if_pos g1, if_pos g2, if_neg g3], fun h => absurd (fun k => g3 k.2.2.2) h⟩
      · exact ⟨fun _ => by rw [if_pos g0, if_pos g1, if_neg g2], fun h => absurd (fun k => g2 k.2.2.1) h⟩
    · exact ⟨fun _ => by rw [if_pos g0, if_neg g1], fun h => absurd (fun k => g1 k.2.1) h⟩
  · exact ⟨fun _ => by rw [if_neg g0], fun h => absurd (fun k => g0 k.1) h⟩
end
