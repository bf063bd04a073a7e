/-! feed -/
def byt (x : Int32) (s : Nat) : Int32 := ((x >>> (nI s &&& 31)).toInt8.toInt32).toInt8.toInt32
/-- four bytes of x from place n on -/
def pb4 (f : Nat → Int32) (n : Nat) (x : Int32) : Nat → Int32 := fun k => if k = n then byt x 24 else if k = n + 1 then byt x 16 else if k = n + 2 then byt x 8 else if k = n + 3 then byt x 0 else f k
theorem m8 : nI 24 + (-8) = nI 16 ∧ nI 16 + (-8) = nI 8 ∧ nI 8 + (-8) = nI 0 ∧ nI 0 + (-8) = (-8 : Int32) ∧ (-8 : Int32) < nI 0 := by decide +kernel
theorem m1s : nI 3 + (-1) = nI 2 ∧ nI 2 + (-1) = nI 1 ∧ nI 1 + (-1) = nI 0 ∧ nI 0 + (-1) = (-1 : Int32) ∧ (-1 : Int32) < nI 0 := by decide +kernel
theorem c8_feedFour {N d : Nat} {X : lt_X} {I : Nat → Nat → Int32} {J : Nat → Nat → Int64} (hX : hsX X) {n : Nat} (hn : n + 4 ≤ 900) (h2 : I 3 2 = nI n) (x : Int32) : ∃ K, am_G am_prog (N + 30) (d + 1) 121 [.ref 3, .int x] (mkh X I J) = some (.null, mkh X K J) ∧ K 3 2 = nI (n + 4) ∧ (∀ k, k ≠ 2 → K 3 k = I 3 k) ∧ K 13 = pb4 (I 13) n x ∧ ∀ a, a ≠ 3 → a ≠ 13 → K a = I a := by
  have st : ∀ (K : Nat → Nat → Int32) (m q : Nat) (s z : Int32), q < 900 → K 3 2 = nI q → ¬ s < nI 0 → s + (-8) = z → RX8_feedFour_3 N d (m + 1) X x s K J = RX8_feedFour_3 N d m X x z (u2 (u2 K 13 q (((x >>> (s &&& 31)).toInt8.toInt32).toInt8.toInt32)) 3 2 (nI (q + 1))) J := by
    intro K m q s z hq hk hs hz
    rw [sX8_feedFour_3 N d m hX, if_neg hs, hk, nc_lt hq (by omega), nc_in hq (by omega), nI_clamp (by omega), nI_add, hz]
  obtain ⟨a1, a2, a3, a4, a5⟩ := m8
  refine ⟨u2 (u2 (u2 (u2 (u2 (u2 (u2 (u2 I 13 n (byt x 24)) 3 2 (nI (n + 1))) 13 (n + 1) (byt x 16)) 3 2 (nI (n + 2))) 13 (n + 2) (byt x 8)) 3 2 (nI (n + 3))) 13 (n + 3) (byt x 0)) 3 2 (nI (n + 4)), ?_, u2_at _ _ _ _, fun k hk => ?_, ?_, fun a b1 b2 => ?_⟩
  · rw [gX8_feedFour N d, sX8_feedFour_0 N d _ hX, st I (N + 28) n _ _ (by omega) h2 (by decide) a1, st _ (N + 27) (n + 1) _ _ (by omega) (u2_at _ _ _ _) (by decide) a2, st _ (N + 26) (n + 2) _ _ (by omega) (u2_at _ _ _ _) (by decide) a3, st _ (N + 25) (n + 3) _ _ (by omega) (u2_at _ _ _ _) (by decide) a4, sX8_feedFour_3 N d (N + 24) hX, if_pos a5]
    rfl
  · rw [u2_nk _ _ _ _ _ hk, u2_na _ _ _ _ _ (by omega), u2_nk _ _ _ _ _ hk, u2_na _ _ _ _ _ (by omega), u2_nk _ _ _ _ _ hk, u2_na _ _ _ _ _ (by omega), u2_nk _ _ _ _ _ hk, u2_na _ _ _ _ _ (by omega)]
  · funext k
    rw [u2_na _ _ _ _ _ (by omega)]
    unfold pb4
    by_cases r3 : k = n + 3
    · subst r3; rw [u2_at, if_neg (by omega), if_neg (by omega), if_neg (by omega), if_pos rfl]
    · rw [u2_nk _ _ _ _ _ r3, u2_na _ _ _ _ _ (by omega)]
      by_cases r2 : k = n + 2
      · subst r2; rw [u2_at, if_neg (by omega), if_neg (by omega), if_pos rfl]
      · rw [u2_nk _ _ _ _ _ r2, u2_na _ _ _ _ _ (by omega)]
        by_cases r1 : k = n + 1
        · subst r1; rw [u2_at, if_neg (by omega), if_pos rfl]
        · rw [u2_nk _ _ _ _ _ r1, u2_na _ _ _ _ _ (by omega)]
          by_cases r0 : k = n
          · subst r0; rw [u2_at, if_pos rfl]
          · rw [u2_nk _ _ _ _ _ r0, if_neg r0, if_neg r1, if_neg r2, if_neg r3]
  · rw [u2_na _ _ _ _ _ b1, u2_na _ _ _ _ _ b2, u2_na _ _ _ _ _ b1, u2_na _ _ _ _ _ b2, u2_na _ _ _ _ _ b1, u2_na _ _ _ _ _ b2, u2_na _ _ _ _ _ b1, u2_na _ _ _ _ _ b2]
theorem c9_lay {N d : Nat} {X : lt_X} {I : Nat → Nat → Int32} {J : Nat → Nat → Int64} {n : Nat} (hn : n + 4 ≤ 900) (h2 : I 135 8 = nI n) (x : Int32) : ∃ K, am_G am_prog (N + 30) (d + 1) 236 [.ref 135, .int x] (mkh X I J) = some (.null, mkh X K J) ∧ K 135 8 = nI (n + 4) ∧ (∀ k, k ≠ 8 → K 135 k = I 135 k) ∧ K 139 = pb4 (I 139) n x ∧ ∀ a, a ≠ 135 → a ≠ 139 → K a = I a := by
  have st : ∀ (K : Nat → Nat → Int32) (m q : Nat) (s z : Int32), q < 900 → K 135 8 = nI q → ¬ s < nI 0 → s + (-1) = z → RX9_lay_2 N d (m + 1) X x s K J = RX9_lay_2 N d m X x z (u2 (u2 K 139 q (((x >>> (((nI 8) * s) &&& 31)).toInt8.toInt32).toInt8.toInt32)) 135 8 (nI (q + 1))) J := by
    intro K m q s z hq hk hs hz
    rw [sX9_lay_2 N d m, if_neg hs, hk, nc_in hq (by omega), nI_clamp (by omega), nI_add, hz]
  obtain ⟨a1, a2, a3, a4, a5⟩ := m1s
  refine ⟨u2 (u2 (u2 (u2 (u2 (u2 (u2 (u2 I 139 n (byt x 24)) 135 8 (nI (n + 1))) 139 (n + 1) (byt x 16)) 135 8 (nI (n + 2))) 139 (n + 2) (byt x 8)) 135 8 (nI (n + 3))) 139 (n + 3) (byt x 0)) 135 8 (nI (n + 4)), ?_, u2_at _ _ _ _, fun k hk => ?_, ?_, fun a b1 b2 => ?_⟩
  · rw [gX9_lay N d, sX9_lay_0 N d, st I (N + 28) n _ _ (by omega) h2 (by decide) a1, st _ (N + 27) (n + 1) _ _ (by omega) (u2_at _ _ _ _) (by decide) a2, st _ (N + 26) (n + 2) _ _ (by omega) (u2_at _ _ _ _) (by decide) a3, st _ (N + 25) (n + 3) _ _ (by omega) (u2_at _ _ _ _) (by decide) a4, sX9_lay_2 N d (N + 24), if_pos a5, pk_mul, pk_mul, pk_mul, pk_mul]
    rfl
  · rw [u2_nk _ _ _ _ _ hk, u2_na _ _ _ _ _ (by omega), u2_nk _ _ _ _ _ hk, u2_na _ _ _ _ _ (by omega), u2_nk _ _ _ _ _ hk, u2_na _ _ _ _ _ (by omega), u2_nk _ _ _ _ _ hk, u2_na _ _ _ _ _ (by omega)]
  · funext k
    rw [u2_na _ _ _ _ _ (by omega)]
    unfold pb4
    by_cases r3 : k = n + 3
    · subst r3; rw [u2_at, if_neg (by omega), if_neg (by omega), if_neg (by omega), if_pos rfl]
    · rw [u2_nk _ _ _ _ _ r3, u2_na _ _ _ _ _ (by omega)]
      by_cases r2 : k = n + 2
      · subst r2; rw [u2_at, if_neg (by omega), if_neg (by omega), if_pos rfl]
      · rw [u2_nk _ _ _ _ _ r2, u2_na _ _ _ _ _ (by omega)]
        by_cases r1 : k = n + 1
        · subst r1; rw [u2_at, if_neg (by omega), if_pos rfl]
        · rw [u2_nk _ _ _ _ _ r1, u2_na _ _ _ _ _ (by omega)]
          by_cases r0 : k = n
          · subst r0; rw [u2_at, if_pos rfl]
          · rw [u2_nk _ _ _ _ _ r0, if_neg r0, if_neg r1, if_neg r2, if_neg r3]
  · rw [u2_na _ _ _ _ _ b1, u2_na _ _ _ _ _ b2, u2_na _ _ _ _ _ b1, u2_na _ _ _ _ _ b2, u2_na _ _ _ _ _ b1, u2_na _ _ _ _ _ b2, u2_na _ _ _ _ _ b1, u2_na _ _ _ _ _ b2]
theorem byt_B (x : Int32) (s : Nat) : isB (byt x s) := by
  unfold isB byt
  rw [Int8.toInt_toInt32]
  have h1 := Int8.le_toInt (((x >>> (nI s &&& 31)).toInt8.toInt32).toInt8)
  have h2 := Int8.toInt_lt (((x >>> (nI s &&& 31)).toInt8.toInt32).toInt8)
  omega
theorem pb4_B {f : Nat → Int32} {n : Nat} (x : Int32) (h : ∀ k, k < n → isB (f k)) : ∀ k, k < n + 4 → isB (pb4 f n x k) := by
  intro k hk
  unfold pb4
  by_cases r0 : k = n
  · rw [if_pos r0]; exact byt_B _ _
  · rw [if_neg r0]
    by_cases r1 : k = n + 1
    · rw [if_pos r1]; exact byt_B _ _
    · rw [if_neg r1]
      by_cases r2 : k = n + 2
      · rw [if_pos r2]; exact byt_B _ _
      · rw [if_neg r2]
        by_cases r3 : k = n + 3
        · rw [if_pos r3]; exact byt_B _ _
        · rw [if_neg r3]; exact h k (by omega)
theorem pb4_eq {f g : Nat → Int32} {n : Nat} (x : Int32) (h : ∀ k, k < n → f k = g k) : ∀ k, k < n + 4 → pb4 f n x k = pb4 g n x k := by
  intro k hk
  unfold pb4
  by_cases r0 : k = n
  · rw [if_pos r0, if_pos r0]
  · by_cases r1 : k = n + 1
    · rw [if_neg r0, if_neg r0, if_pos r1, if_pos r1]
    · by_cases r2 : k = n + 2
      · rw [if_neg r0, if_neg r0, if_neg r1, if_neg r1, if_pos r2, if_pos r2]
      · by_cases r3 : k = n + 3
        · rw [if_neg r0, if_neg r0, if_neg r1, if_neg r1, if_neg r2, if_neg r2, if_pos r3, if_pos r3]
        · rw [if_neg r0, if_neg r0, if_neg r1, if_neg r1, if_neg r2, if_neg r2, if_neg r3, if_neg r3]; exact h k (by omega)
theorem INV_tape {xs : Nat → Int32} {X : lt_X} {I M : Nat → Nat → Int32} {J : Nat → Nat → Int64} (H : INV xs X I J) (h1 : ∀ a, a ≠ 3 → a ≠ 13 → a ≠ 135 → a ≠ 139 → M a = I a) (h2 : ∀ k, k ≠ 2 → M 3 k = I 3 k) (h3 : ∀ k, k ≠ 1 → k ≠ 8 → M 135 k = I 135 k) (hT : TAP M) : INV xs X M J := by
  obtain ⟨hX, a1, a2, a3, a4, a5, a6, a7, a8, a9, a10⟩ := H
  have he := hsX_no hX
  refine ⟨hX, ?_, ?_, ?_, ?_, hT, ?_, ?_, a8, a9, ?_⟩
  · rw [h1 1 (by omega) (by omega) (by omega) (by omega)]; exact a1
  · exact TW_frame (fun a b1 b2 => h1 a (by omega) (by omega) (by omega) (by omega)) (fun k _ => by rw [h1 140 (by omega) (by omega) (by omega) (by omega)]) (fun k _ => rfl) (fun k _ => rfl) a2
  · obtain ⟨m, b1, b2, b3, b4⟩ := a3
    refine ⟨m, b1, by rw [h2 6 (by omega)]; exact b2, by rw [h3 23 (by omega) (by omega)]; exact b3, fun j hj => ?_⟩
    exact TW_frame (fun a c1 c2 => h1 a (by omega) (by omega) (by omega) (by omega)) (fun k _ => by rw [h1 140 (by omega) (by omega) (by omega) (by omega)]) (fun k _ => rfl) (fun k _ => rfl) (b4 j hj)
  · intro i hi
    rw [h1 (5 + 2 * i) (by omega) (by omega) (by omega) (by omega), h1 136 (by omega) (by omega) (by omega) (by omega), h1 137 (by omega) (by omega) (by omega) (by omega)]
    exact a4 i hi
  · unfold FLT
    rw [h2 14 (by omega), h3 10 (by omega) (by omega), h3 11 (by omega) (by omega), h1 115 (by omega) (by omega) (by omega) (by omega)]; exact a6
  · unfold LVD
    rw [h2 13 (by omega), h3 33 (by omega) (by omega), h1 134 (by omega) (by omega) (by omega) (by omega), h1 146 (by omega) (by omega) (by omega) (by omega)]; exact a7
  · rw [h2 15 (by omega), h3 0 (by omega) (by omega)]; exact a10
theorem p_feed {xs : Nat → Int32} {N d : Nat} {X : lt_X} {I : Nat → Nat → Int32} {J : Nat → Nat → Int64} (H : INV xs X I J) (hN : 100000 ≤ N) (x y z w v : Int32) : PR xs N d X I J 120 235 [.int x, .int y, .int z, .int w, .int v] := by
  have hX := H.1
  obtain ⟨n, hn, t1, t2, t3⟩ := H.2.2.2.2.2.1
  by_cases q : 880 < n
  · refine PR_0 H (.int (-1)) ?_ ?_
    · rw [gX8_feed N (d + 39), sX8_feed_0 N (d + 39) _ hX]
      rw [t1, nc_lt q (by omega)]
    · rw [gX9_feed N (d + 39), sX9_feed_0 N (d + 39)]
      rw [t2, nI_add, nc_lt (by omega) (by omega)]
  · obtain ⟨K1, a1, a2, a3, a4, a5⟩ := c8_feedFour (N := N) (d := d + 38) (X := X) (J := J) hX (n := n) (by omega) t1 x
    obtain ⟨K2, b1, b2, b3, b4, b5⟩ := c8_feedFour (N := N) (d := d + 38) (X := X) (J := J) hX (n := n + 4) (by omega) a2 y
    obtain ⟨K3, c1, c2, c3, c4, c5⟩ := c8_feedFour (N := N) (d := d + 38) (X := X) (J := J) hX (n := n + 8) (by omega) b2 z
    obtain ⟨K4, d1, d2, d3, d4, d5⟩ := c8_feedFour (N := N) (d := d + 38) (X := X) (J := J) hX (n := n + 12) (by omega) c2 w
    obtain ⟨K5, e1, e2, e3, e4, e5⟩ := c8_feedFour (N := N) (d := d + 38) (X := X) (J := J) hX (n := n + 16) (by omega) d2 v
    have kk : ∀ a, a ≠ 3 → a ≠ 13 → K5 a = I a := fun a g1 g2 => by rw [e5 a g1 g2, d5 a g1 g2, c5 a g1 g2, b5 a g1 g2, a5 a g1 g2]
    have k3 : ∀ k, k ≠ 2 → K5 3 k = I 3 k := fun k g => by rw [e3 k g, d3 k g, c3 k g, b3 k g, a3 k g]
    have m0 : u2 K5 135 1 (nI 0) 135 8 = nI n := by rw [u2_nk _ _ _ _ _ (by omega), kk 135 (by omega) (by omega)]; exact t2
    obtain ⟨M1, f1, f2, f3, f4, f5⟩ := c9_lay (N := N) (d := d + 38) (X := X) (J := J) (n := n) (by omega) m0 x
    obtain ⟨M2, g1, g2, g3, g4, g5⟩ := c9_lay (N := N) (d := d + 38) (X := X) (J := J) (n := n + 4) (by omega) f2 y
    obtain ⟨M3, h1, h2, h3, h4, h5⟩ := c9_lay (N := N) (d := d + 38) (X := X) (J := J) (n := n + 8) (by omega) g2 z
    obtain ⟨M4, i1, i2, i3, i4, i5⟩ := c9_lay (N := N) (d := d + 38) (X := X) (J := J) (n := n + 12) (by omega) h2 w
    obtain ⟨M5, j1, j2, j3, j4, j5⟩ := c9_lay (N := N) (d := d + 38) (X := X) (J := J) (n := n + 16) (by omega) i2 v
    have mk : ∀ a, a ≠ 135 → a ≠ 139 → M5 a = K5 a := fun a r1 r2 => by rw [j5 a r1 r2, i5 a r1 r2, h5 a r1 r2, g5 a r1 r2, f5 a r1 r2, u2_na _ _ _ _ _ r1]
    have m3 : ∀ k, k ≠ 1 → k ≠ 8 → M5 135 k = I 135 k := fun k r1 r2 => by rw [j3 k r2, i3 k r2, h3 k r2, g3 k r2, f3 k r2, u2_nk _ _ _ _ _ r1, kk 135 (by omega) (by omega)]
    refine ⟨.int (nI (n + 20)), X, K5, J, X, M5, J, ?_, ?_, INV_tape H (fun a r1 r2 r3 r4 => by rw [mk a r3 r4, kk a r1 r2]) (fun k r => by rw [mk 3 (by omega) (by omega), k3 k r]) m3 ⟨n + 20, by omega, by rw [mk 3 (by omega) (by omega)]; exact e2, j2, ?_⟩, rfl⟩
    · rw [gX8_feed N (d + 39), sX8_feed_0 N (d + 39) _ hX, t1, nc_nlt (by omega) (by omega), a1, cV_some, kX8_feed_0 N (d + 39) _ hX, b1, cV_some, kX8_feed_1 N (d + 39) _ hX, c1, cV_some, kX8_feed_2 N (d + 39) _ hX, d1, cV_some, kX8_feed_3 N (d + 39) _ hX, e1, cV_some, kX8_feed_4 N (d + 39) _ hX, e2]
    · rw [gX9_feed N (d + 39), sX9_feed_0 N (d + 39), kk 135 (by omega) (by omega), t2, nI_add, nc_nlt (by omega) (by omega), f1, cV_some, kX9_feed_0 N (d + 39), g1, cV_some, kX9_feed_1 N (d + 39), h1, cV_some, kX9_feed_2 N (d + 39), i1, cV_some, kX9_feed_3 N (d + 39), j1, cV_some, kX9_feed_4 N (d + 39), j2]
    · have z0 : u2 K5 135 1 (nI 0) 139 = I 139 := by rw [u2_na _ _ _ _ _ (by omega), kk 139 (by omega) (by omega)]
      rw [mk 13 (by omega) (by omega), e4, d4, c4, b4, a4, j4, i4, h4, g4, f4, z0]
      exact fun k hk => ⟨pb4_eq v (pb4_eq w (pb4_eq z (pb4_eq y (pb4_eq x (fun k hk => (t3 k hk).1))))) k hk, pb4_B v (pb4_B w (pb4_B z (pb4_B y (pb4_B x (fun k hk => (t3 k hk).2))))) k hk⟩
