/-! mean -/
def cpm (f g : Nat → Int32) (i : Nat) : Nat → Int32 := fun k => if k < i then f k else g k
theorem cpm_up (f g : Nat → Int32) (i : Nat) : upd (cpm f g i) i (f i) = cpm f g (i + 1) := by
  funext k
  unfold upd cpm
  by_cases q : k = i
  · subst q; rw [if_pos rfl, if_pos (by omega)]
  · rw [if_neg q]
    by_cases r : k < i
    · rw [if_pos r, if_pos (by omega)]
    · rw [if_neg r, if_neg (by omega)]
theorem cpm_0 (f g : Nat → Int32) : cpm f g 0 = g := by
  funext k
  unfold cpm
  rw [if_neg (by omega)]
theorem INV_mean {xs : Nat → Int32} {X : lt_X} {I M : Nat → Nat → Int32} {J L : Nat → Nat → Int64} (H : INV xs X I J) (h1 : ∀ a, a < 135 → a ≠ 3 → ¬ (X.2.2.1 ≤ a ∧ a < X.2.2.1 + 20) → ¬ (126 ≤ a ∧ a ≤ 133) → M a = I a) (h2 : ∀ k, k ≠ 15 → M 3 k = I 3 k) (h3 : ∀ a, 136 ≤ a → a ≠ 141 → M a = I a) (h5 : ∀ k, k = 8 ∨ k = 10 ∨ k = 11 ∨ k = 23 ∨ k = 33 → M 135 k = I 135 k) (h6 : ∀ a, a ≠ 3 → a ≠ 135 → a ≠ X.2.2.1 + 1 → L a = J a) (hf : FRC L) (hs : M 3 15 = M 135 0) : INV xs X M L := by
  obtain ⟨hX, a1, a2, a3, a4, a5, a6, a7, a8, a9, a10⟩ := H
  have he : X.2.1 = 14 ∧ X.2.2.1 = 34 ∨ X.2.1 = 34 ∧ X.2.2.1 = 14 := hX
  refine ⟨hX, ?_, ?_, ?_, ?_, ?_, ?_, ?_, hf, ?_, hs⟩
  · rw [h1 1 (by omega) (by omega) (by omega) (by omega)]; exact a1
  · exact TW_frame (fun a c1 c2 => h1 a (by omega) (by omega) (by omega) (by omega)) (fun k _ => by rw [h3 140 (by omega) (by omega)]) (fun k _ => by rw [h6 _ (by omega) (by omega) (by omega)]) (fun k _ => by rw [h6 _ (by omega) (by omega) (by omega)]) a2
  · obtain ⟨m, b1, b2, b3, b4⟩ := a3
    refine ⟨m, b1, by rw [h2 6 (by omega)]; exact b2, by rw [h5 23 (by omega)]; exact b3, fun j hj => ?_⟩
    exact TW_frame (fun a c1 c2 => h1 a (by omega) (by omega) (by omega) (by omega)) (fun k _ => by rw [h3 140 (by omega) (by omega)]) (fun k _ => by rw [h6 _ (by omega) (by omega) (by omega)]) (fun k _ => by rw [h6 _ (by omega) (by omega) (by omega)]) (b4 j hj)
  · intro i hi
    have e := a4 i hi
    rw [h1 (5 + 2 * i) (by omega) (by omega) (by omega) (by omega), h3 137 (by omega) (by omega), h3 136 (by omega) (by omega), h6 (6 + 2 * i) (by omega) (by omega) (by omega), h6 138 (by omega) (by omega) (by omega)]
    exact e
  · obtain ⟨n, b1, b2, b3, b4⟩ := a5
    refine ⟨n, b1, by rw [h2 2 (by omega)]; exact b2, by rw [h5 8 (by omega)]; exact b3, fun k hk => ?_⟩
    rw [h1 13 (by omega) (by omega) (by omega) (by omega), h3 139 (by omega) (by omega)]; exact b4 k hk
  · unfold FLT
    rw [h2 14 (by omega), h5 10 (by omega), h5 11 (by omega), h1 115 (by omega) (by omega) (by omega) (by omega)]; exact a6
  · unfold LVD
    rw [h2 13 (by omega), h5 33 (by omega), h1 134 (by omega) (by omega) (by omega) (by omega), h3 146 (by omega) (by omega)]; exact a7
  · intro k hk
    rw [h6 116 (by omega) (by omega) (by omega)]; exact a9 k hk
/-- the frame of the class's loop -/
def FMC (X : lt_X) (I K : Nat → Nat → Int32) (J J1 : Nat → Nat → Int64) : Prop := (∀ a, ¬ (X.2.2.1 ≤ a ∧ a < X.2.2.1 + 20) → a ≠ 132 → a ≠ 133 → K a = I a) ∧ ∀ a, a ≠ X.2.2.1 + 1 → J1 a = J a
/-- that of the reference's -/
def FMR (M0 M : Nat → Nat → Int32) : Prop := (∀ a, a ≠ 135 → M a = M0 a) ∧ ∀ k, k < 34 ∨ 41 < k → M 135 k = M0 135 k
theorem mean_loops {N d : Nat} {X X2 : lt_X} {I M0 : Nat → Nat → Int32} {J J2 : Nat → Nat → Int64} {T : Nat → Nat} (hX : hsX X) (hN : 100000 ≤ N) (hw : WF T) (hg : GB T) (hT : TC I X.2.1 T) (hD : DC I X.2.1 T) (h1 : T 157 = 1) (hR : TM (M0 140) T) (hM : DM (M0 140) T) (h141 : ∀ k, k < 157 → M0 141 k = M0 140 k) {sd m : Nat} (hs : sd + m ≤ 10000) (hm : m ≤ 20) : ∀ k i, i + k = m → ∀ K J1 M s, FMC X I K J J1 → FMR M0 M → s ≤ 3600000 * i → ∃ K' J' M' s', FMC X I K' J J' ∧ FMR M0 M' ∧ s' ≤ 3600000 * m ∧ (∀ B R, ev (fun z => RX8_mean_64 N (d + 78) z X (nI sd) (nI m) (lN s') (nI m) K' J') B R → ev (fun z => RX8_mean_64 N (d + 78) z X (nI sd) (nI m) (lN s) (nI i) K J1) (B + k) R) ∧ (∀ B R, ev (fun z => RX9_mean_93 N (d + 78) z X2 (nI sd) (nI m) (lN s') (nI m) M' J2) B R → ev (fun z => RX9_mean_93 N (d + 78) z X2 (nI sd) (nI m) (lN s) (nI i) M J2) (B + k * 200) R) := by
  have he : X.2.1 = 14 ∧ X.2.2.1 = 34 ∨ X.2.1 = 34 ∧ X.2.2.1 = 14 := hX
  intro k
  induction k with
  | zero =>
    intro i hi K J1 M s f1 f2 hs1
    have e : i = m := by omega
    subst e
    exact ⟨K, J1, M, s, f1, f2, hs1, fun B R e => e, fun B R e => ev_le e (by omega)⟩
  | succ k ih =>
    intro i hi K J1 M s f1 f2 hs1
    have cH : ∀ a, X.2.1 ≤ a → a < X.2.1 + 20 → K a = I a := fun a b1 b2 => f1.1 a (by omega) (by omega) (by omega)
    obtain ⟨K1, e1, f3, g1, g2⟩ := c5_take (N := N) (d := d + 75) (X := X) (I := K) (J := J1) (hsX_sp hX) (hsX_he hX) (by omega) (TC_frame (fun a b1 b2 => cH a b1 (by omega)) hT) hw (DC_frame (fun a b1 b2 => cH a (by omega) b2) hD)
    generalize hJ3 : w2L J1 (X.2.2.1 + 1) (va_cpy (J1 (X.2.1 + 1)) (J1 (X.2.2.1 + 1)) 0 0 24) = J3 at e1
    have j3 : ∀ a, a ≠ X.2.2.1 + 1 → J3 a = J a := fun a ha => by rw [← hJ3, w2L_na ha]; exact f1.2 a ha
    have m140 : M 140 = M0 140 := f2.1 140 (by omega)
    obtain ⟨K2, L, U, r, dn, ms, hs', gl, dd, c, s1, s2, s3, s4, s5, hc, s6, s7, oc, om⟩ := play_both (N := N) (d := d + 73) (d2 := d + 9) (X := X) (X2 := X2) (J := J3) (J2 := J2) (I := K1) (M := M) (hsX_sp hX) hN hw hg g1 g2 h1 (by rw [m140]; exact hR) (by rw [m140]; exact hM) (s := sd + i) (by omega)
    have bU := smT_le s1.1
    have gU : am_G am_prog (N + 30) (d + 79) 69 [.ref X.2.2.1] (mkh X K2 J3) = some (.int (nI (smT U 43)), mkh X K2 J3) := c5_gladOfAll (hsX_sp hX) s2.1 s1.1
    have rU : am_G am_prog (N + 30) (d + 79) 264 [.ref 135, .int (nI 43)] (mkh X2 L J2) = some (.int (nI (smT U 43)), mkh X2 L J2) := c9_sumOf s3.1 s1.1 (Or.inr rfl)
    -- the reference's cells come back
    have L141 : ∀ k, k < 157 → L 141 k = M0 140 k := fun k hk => by rw [s5.1 141 (by omega) (by omega), f2.1 141 (by omega)]; exact h141 k hk
    have back : cpm (L 141) (L 140) 157 = M0 140 := by
      funext j
      unfold cpm
      by_cases q : j < 157
      · rw [if_pos q]; exact L141 j q
      · rw [if_neg q, s5.2.1 j (by omega), m140]
    have fr : FMR M0 (w2 L 140 (cpm (L 141) (L 140) 157)) := by
      refine ⟨fun a ha => ?_, fun j hj => ?_⟩
      · by_cases q : a = 140
        · subst q; rw [w2_at, back]
        · rw [w2_na q, s5.1 a q ha]; exact f2.1 a ha
      · rw [w2_na (by omega), s5.2.2 j hj]; exact f2.2 j hj
    have fc : FMC X I K2 J J3 := ⟨fun a b1 b2 b3 => by rw [s4 a (by omega) b2 b3, f3 a b1]; exact f1.1 a b1 b2 b3, j3⟩
    obtain ⟨K', J', M', s', z1, z2, z3, z4, z5⟩ := ih (i + 1) (by omega) K2 J3 (w2 L 140 (cpm (L 141) (L 140) 157)) (s + smT U 43) fc fr (by omega)
    refine ⟨K', J', M', s', z1, z2, z3, fun B R e => ev_le (ev_s (fun z => ?_) (z4 B R e)) (by omega), fun B R e => ?_⟩
    · show RX8_mean_64 N (d + 78) (z + 1) X (nI sd) (nI m) (lN s) (nI i) K J1 = RX8_mean_64 N (d + 78) z X (nI sd) (nI m) (lN (s + smT U 43)) (nI (i + 1)) K2 J3
      rw [sX8_mean_64 N (d + 78) z hX, nc_lt (by omega) (by omega), e1, cV_some, kX8_mean_0 N (d + 78) z hX, nI_add sd i, oc, cV_some, kX8_mean_2 N (d + 78) z hX, gU, cI_some, kX8_mean_3 N (d + 78) z hX, nI_l (by omega), lN_add, nI_add i 1]
    · have cp := lqc (run := fun n j => RX9_mean_120 N (d + 78) n X2 (nI sd) (nI m) (lN (s + smT U 43)) (nI i) (nI j) (w2 L 140 (cpm (L 141) (L 140) j)) J2) (m := 157) (c := 1) (B := B + k * 200 + 1) (R := R) (fun j B hj e1 => ev_s (fun n => by
        show RX9_mean_120 N (d + 78) (n + 1) X2 (nI sd) (nI m) (lN (s + smT U 43)) (nI i) (nI j) (w2 L 140 (cpm (L 141) (L 140) j)) J2 = RX9_mean_120 N (d + 78) n X2 (nI sd) (nI m) (lN (s + smT U 43)) (nI i) (nI (j + 1)) (w2 L 140 (cpm (L 141) (L 140) (j + 1))) J2
        rw [sX9_mean_120 N (d + 78) n, nc_lt hj (by omega), nc_in (by omega) (by omega), nc_in (by omega) (by omega), nI_clamp (by omega), nI_add j 1, u2_w, w2_na (by omega), cpm_up]) e1) (ev_s (fun n => by
        show RX9_mean_120 N (d + 78) (n + 1) X2 (nI sd) (nI m) (lN (s + smT U 43)) (nI i) (nI 157) (w2 L 140 (cpm (L 141) (L 140) 157)) J2 = RX9_mean_93 N (d + 78) n X2 (nI sd) (nI m) (lN (s + smT U 43)) (nI (i + 1)) (w2 L 140 (cpm (L 141) (L 140) 157)) J2
        rw [sX9_mean_120 N (d + 78) n, nc_nlt (by omega) (by omega), nI_add i 1]) (z5 B R e)) 157 0 (by omega)
      rw [cpm_0, w2_id] at cp
      refine ev_le (ev_s (fun z => ?_) cp) (by omega)
      show RX9_mean_93 N (d + 78) (z + 1) X2 (nI sd) (nI m) (lN s) (nI i) M J2 = RX9_mean_120 N (d + 78) z X2 (nI sd) (nI m) (lN (s + smT U 43)) (nI i) (nI 0) L J2
      rw [sX9_mean_93 N (d + 78) z, nc_lt (by omega) (by omega), nI_add sd i, om, cV_some, kX9_mean_1 N (d + 78) z, rU, cI_some, kX9_mean_4 N (d + 78) z, nI_l (by omega), lN_add]
theorem p_mean {xs : Nat → Int32} {N d : Nat} {X : lt_X} {I : Nat → Nat → Int32} {J : Nat → Nat → Int64} (H : INV xs X I J) (hN : 100000 ≤ N) (x y : Int32) : PR xs N (d + 40) X I J 175 352 [.int x, .int y] := by
  obtain ⟨T, hB, hw, hT, hM, hX, ht⟩ := INV_B H
  obtain ⟨-, -, -, hD, hDM, -, hg⟩ := id hB
  obtain ⟨h0, h1, h2, h3, h4, h5, h6⟩ := hw.1
  have he : X.2.1 = 14 ∧ X.2.2.1 = 34 ∨ X.2.1 = 34 ∧ X.2.2.1 = 14 := hX
  have hDM : DM (I 140) T := by
    have e : (fun k => I 140 (429 * 0 + k)) = I 140 := TM_fun
    rw [e] at hDM; exact hDM
  have i5 : I (X.2.1 + 14) 5 = nI (T 157) := hD.1
  have b157 : T 157 ≤ 1 := hD.2.1
  have c8 : am_G am_prog (N + 30) (d + 40 + 40) 175 [.ref 3, .int x, .int y] (mkh X I J) = RX8_mean_0 N (d + 78) (N + 30) X x y I J := gX8_mean N (d + 78) x y I J
  have c9 : ∀ K L, am_G am_prog (N + 30) (d + 40 + 40) 352 [.ref 135, .int x, .int y] (mkh X K L) = RX9_mean_0 N (d + 78) (N + 30) X x y K L := fun K L => gX9_mean N (d + 78) x y K L
  by_cases qm : rng y 1 20 = true
  rotate_left
  · refine PR_tells H (.int (nI 0)) (nI 5) (CR_st ?_) (fun K hK => MR_2 (a := nI 0) (b := nI 0) ?_)
    · rw [c8, sX8_mean_0 N (d + 78) _ hX, rng_c (x := x) (by omega) (by omega), rng_c (x := y) (by omega) (by omega), if_neg qm, ite_self]
    · rw [c9, sX9_mean_0 N (d + 78), c9_in (by omega) (by omega), cI_some, kX9_mean_0 N (d + 78), nc_10, if_neg qm]
  obtain ⟨m, hm1, hm, rfl⟩ := rng_e qm (by omega)
  have e10 : ((nI 10000) - (nI m)).toInt64 = lN (10000 - m) := by rw [pk_sub (by omega), nI_l (by omega)]
  by_cases qs : rng x 0 (10000 - m) = true
  rotate_left
  · refine PR_tells H (.int (nI 0)) (nI 5) (CR_st ?_) (fun K hK => MR_2 (a := nI 0) (b := nI 0) ?_)
    · rw [c8, sX8_mean_0 N (d + 78) _ hX, rng_c (x := x) (by omega) (by omega), rng_c (x := nI m) (by omega) (by omega), if_pos qm]
      by_cases q2 : rng x 0 9999 = true
      · obtain ⟨s, -, hs, rfl⟩ := rng_e q2 (by omega)
        have : 10000 - m < s := by
          by_cases r : s ≤ 10000 - m
          · refine absurd ?_ qs
            unfold rng
            rw [nI_toInt (by omega)]
            exact decide_eq_true ⟨by omega, by omega⟩
          · omega
        rw [if_pos q2, nI_add s m, pk_sub (by omega), nc_lt (by omega) (by omega)]
      · rw [if_neg q2]
    · rw [c9, sX9_mean_0 N (d + 78), c9_in (by omega) (by omega), cI_some, kX9_mean_0 N (d + 78), nc_10, if_pos qm, e10, c9_in (by omega) (by omega), cI_some, kX9_mean_3 N (d + 78), nc_10, if_neg qs]
  obtain ⟨s, -, hs, rfl⟩ := rng_e qs (by omega)
  have q2 : rng (nI s) 0 9999 = true := by
    unfold rng
    rw [nI_toInt (by omega)]
    exact decide_eq_true ⟨by omega, by omega⟩
  have cl : am_G am_prog (N + 30) (d + 40 + 40) 175 [.ref 3, .int (nI s), .int (nI m)] (mkh X I J) = if nI (T 157) = nI 0 then some (.int (nI 0), mkh X (u2 I 3 15 (nI 8)) J) else RX8_mean_64 N (d + 78) (N + 29) X (nI s) (nI m) (lN 0) (nI 0) I J := by
    rw [c8, sX8_mean_0 N (d + 78) _ hX, rng_c (x := nI s) (by omega) (by omega), rng_c (x := nI m) (by omega) (by omega), if_pos qm, if_pos q2, nI_add s m, pk_sub (by omega), nc_nlt (by omega) (by omega), i5]
  by_cases q0 : T 157 = 0
  · refine PR_tells H (.int (nI 0)) (nI 8) (CR_st ?_) (fun K hK => MR_2 (a := nI 0) (b := nI 0) ?_)
    · rw [cl, nc_eq q0]
    · have k157 : (u2 (u2 K 135 1 (nI 0)) 135 0 (nI 0)) 140 157 = nI (T 157) := by rw [u2_na _ _ _ _ _ (by omega), u2_na _ _ _ _ _ (by omega), hK 140 (by omega) (by omega)]; exact hDM.1
      rw [c9, sX9_mean_0 N (d + 78), c9_in (by omega) (by omega), cI_some, kX9_mean_0 N (d + 78), nc_10, if_pos qm, e10, c9_in (by omega) (by omega), cI_some, kX9_mean_3 N (d + 78), nc_10, if_pos qs, k157, nc_eq q0]
  rw [nc_ne q0 (by omega) (by omega)] at cl
  have h157 : T 157 = 1 := by omega
  -- the class's end, from its loop
  have cend : ∀ K' J' s', s' ≤ 3600000 * m → ev (fun z => RX8_mean_64 N (d + 78) z X (nI s) (nI m) (lN s') (nI m) K' J') 1 (some (.int (nI 1), mkh X (u2 K' 3 15 (nI 0)) (u2L (u2L J' 3 16 (lN (s' / Nat.gcd s' m))) 3 17 (lN (m / Nat.gcd s' m))))) := fun K' J' s' hs' => ev_0 (fun z => by
    show RX8_mean_64 N (d + 78) (z + 1) X (nI s) (nI m) (lN s') (nI m) K' J' = _
    rw [sX8_mean_64 N (d + 78) z hX, nc_nlt (by omega) (by omega), nI_l (by omega), c8_tell (d := d + 78) hX (by omega) (by omega) (by omega) (by omega), cV_some, kX8_mean_1 N (d + 78) z hX])
  obtain ⟨K', J', -, s', a1, -, a3, a4, -⟩ := mean_loops (N := N) (d := d) (X := X) (X2 := X) (I := I) (M0 := w2 I 141 (I 140)) (J := J) (J2 := J) hX hN hw hg hT hD h157 (by rw [w2_na (by omega)]; exact hM) (by rw [w2_na (by omega)]; exact hDM) (fun k _ => by rw [w2_at, w2_na (by omega)]) (sd := s) (m := m) (by omega) hm m 0 (by omega) I J (w2 I 141 (I 140)) 0 ⟨fun _ _ _ _ => rfl, fun _ _ => rfl⟩ ⟨fun _ _ => rfl, fun _ _ => rfl⟩ (by omega)
  have ec := a4 _ _ (cend K' J' s' a3)
  have ecl : am_G am_prog (N + 30) (d + 40 + 40) 175 [.ref 3, .int (nI s), .int (nI m)] (mkh X I J) = some (.int (nI 1), mkh X (u2 K' 3 15 (nI 0)) (u2L (u2L J' 3 16 (lN (s' / Nat.gcd s' m))) 3 17 (lN (m / Nat.gcd s' m)))) := by
    rw [cl]; exact ec (N + 29) (by omega)
  generalize hI2 : u2 K' 3 15 (nI 0) = I2 at ecl
  generalize hJ2 : u2L (u2L J' 3 16 (lN (s' / Nat.gcd s' m))) 3 17 (lN (m / Nat.gcd s' m)) = J2 at ecl
  have z0 : ∀ a, a ≠ 3 → I2 a = K' a := fun a b1 => by rw [← hI2, u2_na _ _ _ _ _ b1]
  have f135 : ∀ a, 135 ≤ a → I2 a = I a := fun a ha => by rw [z0 a (by omega)]; exact a1.1 a (by omega) (by omega) (by omega)
  generalize hM2 : u2 (u2 I2 135 1 (nI 0)) 135 0 (nI 0) = M2
  have y0 : ∀ a, a ≠ 135 → M2 a = I2 a := fun a ha => by rw [← hM2, u2_na _ _ _ _ _ ha, u2_na _ _ _ _ _ ha]
  have y140 : M2 140 = I 140 := by rw [y0 140 (by omega), f135 140 (by omega)]
  generalize hM3 : w2 M2 141 (cpm (M2 140) (M2 141) 157) = M3
  have v0 : ∀ a, a ≠ 141 → M3 a = M2 a := fun a ha => by rw [← hM3, w2_na ha]
  have v141 : ∀ k, k < 157 → M3 141 k = M3 140 k := fun k hk => by
    rw [v0 140 (by omega), ← hM3, w2_at]; unfold cpm; rw [if_pos hk]
  obtain ⟨K3, J3, M4, s3, b1, b2, b3, b4, b5⟩ := mean_loops (N := N) (d := d) (X := X) (X2 := X) (I := I) (M0 := M3) (J := J) (J2 := J2) hX hN hw hg hT hD h157 (by rw [v0 140 (by omega), y140]; exact hM) (by rw [v0 140 (by omega), y140]; exact hDM) v141 (sd := s) (m := m) (by omega) hm m 0 (by omega) I J M3 0 ⟨fun _ _ _ _ => rfl, fun _ _ => rfl⟩ ⟨fun _ _ => rfl, fun _ _ => rfl⟩ (by omega)
  have ec3 := b4 _ _ (cend K3 J3 s3 b3)
  have same := mkh_inj (ev_inj ec ec3)
  rw [hI2, hJ2] at same
  -- the fraction is the same
  have f16 : J2 3 16 = lN (s3 / Nat.gcd s3 m) := by rw [same.2.2, u2L_nk _ _ _ _ _ (by omega), u2L_at]
  have f17 : J2 3 17 = lN (m / Nat.gcd s3 m) := by rw [same.2.2, u2L_at]
  have cp := lqc (run := fun n j => RX9_mean_63 N (d + 78) n X (nI s) (nI m) (nI j) (w2 M2 141 (cpm (M2 140) (M2 141) j)) J2) (m := 157) (c := 1) (B := 1 + m * 200 + 1) (R := some (.int (nI 1), mkh X M4 (u2L (u2L J2 135 2 (lN (s3 / Nat.gcd s3 m))) 135 3 (lN (m / Nat.gcd s3 m))))) (fun j B hj e1 => ev_s (fun n => by
    show RX9_mean_63 N (d + 78) (n + 1) X (nI s) (nI m) (nI j) (w2 M2 141 (cpm (M2 140) (M2 141) j)) J2 = RX9_mean_63 N (d + 78) n X (nI s) (nI m) (nI (j + 1)) (w2 M2 141 (cpm (M2 140) (M2 141) (j + 1))) J2
    rw [sX9_mean_63 N (d + 78) n, nc_lt hj (by omega), nc_in (by omega) (by omega), nc_in (by omega) (by omega), nI_clamp (by omega), nI_add j 1, u2_w, w2_na (by omega), cpm_up]) e1) (ev_s (fun n => by
    show RX9_mean_63 N (d + 78) (n + 1) X (nI s) (nI m) (nI 157) (w2 M2 141 (cpm (M2 140) (M2 141) 157)) J2 = RX9_mean_93 N (d + 78) n X (nI s) (nI m) (lN 0) (nI 0) M3 J2
    rw [sX9_mean_63 N (d + 78) n, nc_nlt (by omega) (by omega), hM3]) (b5 1 _ (ev_0 (fun z => by
    show RX9_mean_93 N (d + 78) (z + 1) X (nI s) (nI m) (lN s3) (nI m) M4 J2 = _
    rw [sX9_mean_93 N (d + 78) z, nc_nlt (by omega) (by omega), nI_l (by omega), c9_fraction (d := d + 78) (by omega) (by omega) (by omega) (by omega), cI_some, kX9_mean_2 N (d + 78) z, nb_ok (by omega)])))) 157 0 (by omega)
  rw [cpm_0, w2_id] at cp
  have ecm : am_G am_prog (N + 30) (d + 40 + 40) 352 [.ref 135, .int (nI s), .int (nI m)] (mkh X I2 J2) = some (.int (nI 1), mkh X M4 (u2L (u2L J2 135 2 (lN (s3 / Nat.gcd s3 m))) 135 3 (lN (m / Nat.gcd s3 m)))) := by
    have k157 : M2 140 157 = nI (T 157) := by rw [y140]; exact hDM.1
    rw [c9, sX9_mean_0 N (d + 78), hM2, c9_in (by omega) (by omega), cI_some, kX9_mean_0 N (d + 78), nc_10, if_pos qm, e10, c9_in (by omega) (by omega), cI_some, kX9_mean_3 N (d + 78), nc_10, if_pos qs, k157, nc_ne q0 (by omega) (by omega)]
    exact cp (N + 29) (by omega)
  have w0 : ∀ a, a ≠ 135 → a ≠ 141 → M4 a = I2 a := fun a c1 c2 => by rw [b2.1 a c1, v0 a c2, y0 a c1]
  have w135 : ∀ k, 2 ≤ k → k < 34 → M4 135 k = I 135 k := fun k c1 c2 => by rw [b2.2 k (by omega), v0 135 (by omega), ← hM2, u2_nk _ _ _ _ _ (by omega), u2_nk _ _ _ _ _ (by omega), f135 135 (by omega)]
  refine ⟨.int (nI 1), X, I2, J2, X, M4, _, ecl, ecm, INV_mean H (fun a c1 c2 c3 c4 => ?_) (fun k hk => ?_) (fun a c1 c2 => ?_) (fun k hk => w135 k (by omega) (by omega)) (fun a c1 c2 c3 => ?_) ⟨?_, ?_⟩ ?_, rfl⟩
  · rw [w0 a (by omega) (by omega), z0 a c2]; exact a1.1 a c3 (by omega) (by omega)
  · rw [w0 3 (by omega) (by omega), ← hI2, u2_nk _ _ _ _ _ hk, a1.1 3 (by omega) (by omega) (by omega)]
  · rw [w0 a (by omega) c2, f135 a (by omega)]
  · rw [u2L_na _ _ _ _ _ c2, u2L_na _ _ _ _ _ c2, ← hJ2, u2L_na _ _ _ _ _ c1, u2L_na _ _ _ _ _ c1]; exact a1.2 a c3
  · rw [u2L_na _ _ _ _ _ (by omega), u2L_na _ _ _ _ _ (by omega), f16, u2L_nk _ _ _ _ _ (by omega), u2L_at]
  · rw [u2L_na _ _ _ _ _ (by omega), u2L_na _ _ _ _ _ (by omega), f17, u2L_at]
  · rw [w0 3 (by omega) (by omega), ← hI2, u2_at, b2.2 0 (by omega), v0 135 (by omega), ← hM2, u2_at]
