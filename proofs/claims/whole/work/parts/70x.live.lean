/-! live -/
theorem mkh_inj {X : lt_X} {I K : Nat → Nat → Int32} {J L : Nat → Nat → Int64} {v w : Value} (h : some (v, mkh X I J) = some (w, mkh X K L)) : v = w ∧ I = K ∧ J = L := by
  have h1 := Option.some.inj h
  have h2 := congrArg Prod.fst h1
  have h3 := congrArg (fun x : Value × am_H => x.2.2.2.2.1) h1
  have h4 := congrArg (fun x : Value × am_H => x.2.2.2.2.2.1) h1
  exact ⟨h2, h3, h4⟩
theorem ev_inj {f : Nat → am_O} {A B : Nat} {R S : am_O} (h : ev f A R) (g : ev f B S) : R = S := by rw [← h (A + B) (by omega), g (A + B) (by omega)]
/-- both run the dials of a town -/
theorem play_both {N d d2 : Nat} {X X2 : lt_X} {J J2 : Nat → Nat → Int64} {t : Nat} {T : Nat → Nat} {I M : Nat → Nat → Int32} (ht : isT t) (hN : 100000 ≤ N) (hw : WF T) (hg : GB T) (hT : TC I t T) (hD : DC I t T) (h1 : T 157 = 1) (hR : TM (M 140) T) (hM : DM (M 140) T) {s : Nat} (hs : s < 65536) : ∃ K L U r dn ms hs gl dd c, LFS T U r dn ms hs gl dd ∧ CLV t K U r dn ms hs dd ∧ RLV L U r dn ms hs gl dd ∧ FKL t I K ∧ FLR M L ∧ c ≤ 1 ∧ K 132 6 = nI c ∧ L 135 41 = nI c ∧ am_G am_prog (N + 30) (d + 6) 35 [.ref 132, .ref t, .int (nI s)] (mkh X I J) = some (.null, mkh X K J) ∧ am_G am_prog (N + 30) (d2 + 70) 349 [.ref 135, .int (nI s)] (mkh X2 M J2) = some (.null, mkh X2 L J2) := by
  obtain ⟨-, -, -, h158, sz, hsz, e6, hDL⟩ := hD
  have htt := ht
  unfold isT at htt
  -- the cells at the start
  generalize hI1 : u2 (u2 (u2 (u2 (u2 (u2 I 132 1 (nI s)) 132 2 (nI 0)) 132 3 (nI 0)) 132 4 (nI 0)) 132 5 (nI 0)) 132 6 (nI 0) = I1
  generalize hM1 : u2 (u2 (u2 (u2 (u2 (u2 (u2 (u2 M 135 35 (nI s)) 135 36 (nI 0)) 135 37 (nI 0)) 135 38 (nI 0)) 135 39 (nI 0)) 135 40 (nI 0)) 135 41 (nI 0)) 135 34 (nI 0) = M1
  have i0 : ∀ a, a ≠ 132 → I1 a = I a := fun a ha => by rw [← hI1, u2_na _ _ _ _ _ ha, u2_na _ _ _ _ _ ha, u2_na _ _ _ _ _ ha, u2_na _ _ _ _ _ ha, u2_na _ _ _ _ _ ha, u2_na _ _ _ _ _ ha]
  have m0 : ∀ a, a ≠ 135 → M1 a = M a := fun a ha => by rw [← hM1, u2_na _ _ _ _ _ ha, u2_na _ _ _ _ _ ha, u2_na _ _ _ _ _ ha, u2_na _ _ _ _ _ ha, u2_na _ _ _ _ _ ha, u2_na _ _ _ _ _ ha, u2_na _ _ _ _ _ ha, u2_na _ _ _ _ _ ha]
  have i6 : I1 132 6 = nI 0 := by rw [← hI1, u2_at]
  have i5 : I1 132 5 = nI 0 := by rw [← hI1, u2_nk _ _ _ _ _ (by omega), u2_at]
  have i4 : I1 132 4 = nI 0 := by rw [← hI1, u2_nk _ _ _ _ _ (by omega), u2_nk _ _ _ _ _ (by omega), u2_at]
  have i3 : I1 132 3 = nI 0 := by rw [← hI1, u2_nk _ _ _ _ _ (by omega), u2_nk _ _ _ _ _ (by omega), u2_nk _ _ _ _ _ (by omega), u2_at]
  have i2 : I1 132 2 = nI 0 := by rw [← hI1, u2_nk _ _ _ _ _ (by omega), u2_nk _ _ _ _ _ (by omega), u2_nk _ _ _ _ _ (by omega), u2_nk _ _ _ _ _ (by omega), u2_at]
  have i1 : I1 132 1 = nI s := by rw [← hI1, u2_nk _ _ _ _ _ (by omega), u2_nk _ _ _ _ _ (by omega), u2_nk _ _ _ _ _ (by omega), u2_nk _ _ _ _ _ (by omega), u2_nk _ _ _ _ _ (by omega), u2_at]
  have m34 : M1 135 34 = nI 0 := by rw [← hM1, u2_at]
  have m41 : M1 135 41 = nI 0 := by rw [← hM1, u2_nk _ _ _ _ _ (by omega), u2_at]
  have m40 : M1 135 40 = nI 0 := by rw [← hM1, u2_nk _ _ _ _ _ (by omega), u2_nk _ _ _ _ _ (by omega), u2_at]
  have m39 : M1 135 39 = nI 0 := by rw [← hM1, u2_nk _ _ _ _ _ (by omega), u2_nk _ _ _ _ _ (by omega), u2_nk _ _ _ _ _ (by omega), u2_at]
  have m38 : M1 135 38 = nI 0 := by rw [← hM1, u2_nk _ _ _ _ _ (by omega), u2_nk _ _ _ _ _ (by omega), u2_nk _ _ _ _ _ (by omega), u2_nk _ _ _ _ _ (by omega), u2_at]
  have m37 : M1 135 37 = nI 0 := by rw [← hM1, u2_nk _ _ _ _ _ (by omega), u2_nk _ _ _ _ _ (by omega), u2_nk _ _ _ _ _ (by omega), u2_nk _ _ _ _ _ (by omega), u2_nk _ _ _ _ _ (by omega), u2_at]
  have m36 : M1 135 36 = nI 0 := by rw [← hM1, u2_nk _ _ _ _ _ (by omega), u2_nk _ _ _ _ _ (by omega), u2_nk _ _ _ _ _ (by omega), u2_nk _ _ _ _ _ (by omega), u2_nk _ _ _ _ _ (by omega), u2_nk _ _ _ _ _ (by omega), u2_at]
  have m35 : M1 135 35 = nI s := by rw [← hM1, u2_nk _ _ _ _ _ (by omega), u2_nk _ _ _ _ _ (by omega), u2_nk _ _ _ _ _ (by omega), u2_nk _ _ _ _ _ (by omega), u2_nk _ _ _ _ _ (by omega), u2_nk _ _ _ _ _ (by omega), u2_nk _ _ _ _ _ (by omega), u2_at]
  have mk : ∀ k, k < 34 ∨ 41 < k → M1 135 k = M 135 k := fun k hk => by rw [← hM1, u2_nk _ _ _ _ _ (by omega), u2_nk _ _ _ _ _ (by omega), u2_nk _ _ _ _ _ (by omega), u2_nk _ _ _ _ _ (by omega), u2_nk _ _ _ _ _ (by omega), u2_nk _ _ _ _ _ (by omega), u2_nk _ _ _ _ _ (by omega), u2_nk _ _ _ _ _ (by omega)]
  have H : ST0 T t I M I1 M1 0 := ⟨T, s, 0, 0, 0, 0, ⟨hw, hg, fun _ _ => rfl, hs, by omega, by omega, by omega, by omega, by omega⟩, ⟨TC_frame (fun a _ _ => i0 a (by omega)) hT, i1, i2, i3, i4, i5⟩, ⟨by rw [m0 140 (by omega)]; exact hR, m35, m36, m37, m38, m39, m40⟩, fun a _ h _ => i0 a h, fun a _ h => m0 a h, fun k _ => by rw [m0 140 (by omega)], mk⟩
  have seg := dl_seg (N := N) (d := d) (X := X) (X2 := X2) (J := J) (J2 := J2) (I0 := I) (M0 := M) ht hN e6 hsz hM h158 30 (by omega) 0 (T 158) 0 sz (hDL h1) (by omega) (by omega) (d2 + 60) (by omega) I1 M1 0 0 H i6 m34 m41 (by omega)
  obtain ⟨K, L, dn1, j1, g1, -, -, g4, g5⟩ := seg
  obtain ⟨U, r, ms, hs', gl, dd, s1, s2, s3, s4, s5⟩ := g1
  have g4' : RX9_doAll_2 N (d2 + 68) (N + 29) X2 (nI (T 158)) (nI 0) M1 J2 = some (.null, mkh X2 L J2) := g4 (N + 29) (by omega)
  have om : am_G am_prog (N + 30) (d2 + 70) 349 [.ref 135, .int (nI s)] (mkh X2 M J2) = some (.null, mkh X2 L J2) := by
    rw [gX9_runsDials N (d2 + 69), sX9_runsDials_0 N (d2 + 69), hM1, hM.2.1, gX9_doAll N (d2 + 68), sX9_doAll_0 N (d2 + 68), g4', cV_some, kX9_runsDials_0 N (d2 + 69)]
  have os : am_G am_prog (N + 30) (d + 6) 35 [.ref 132, .ref t, .int (nI s)] (mkh X I J) = RX3_play_41 N (d + 5) (N + 29) X t (nI 0) (nI 0) I1 J := by
    rw [gX3_play N (d + 5) ht, sX3_play_0 N (d + 5) _ ht, hI1]
  rcases g5 with ⟨a1, a2, a3, a4, a5⟩ | ⟨c, a1, a2, a3, a4, a5, a6⟩
  · have dn3 := s1.2.2.2.2.1
    refine ⟨K, L, U, r, dn1, ms, hs', gl, dd, 0, s1, s2, s3, s4, s5, by omega, a1, a3, ?_, om⟩
    rw [os]
    refine (a5 1 _ (ev_0 (fun z => ?_))) (N + 29) (by omega)
    show RX3_play_41 N (d + 5) (z + 1) X t (nI sz) (nI j1) K J = _
    rw [sX3_play_41 N (d + 5) z ht, nc_lt (by omega) (by omega), dl_FK ht s4 (by omega) (by omega), e6, nc_nlt (by omega) (by omega)]
  · refine ⟨K, L, U, r, dn1, ms, hs', gl, dd, c, s1, s2, s3, s4, s5, a1, a2, a4, ?_, om⟩
    rw [os]
    exact a6 (N + 29) (by omega)
theorem INV_live {xs : Nat → Int32} {X : lt_X} {I M : Nat → Nat → Int32} {J : Nat → Nat → Int64} (H : INV xs X I J) (h1 : ∀ a, a < 135 → a ≠ 3 → a ≠ 134 → ¬ (X.2.1 ≤ a ∧ a < X.2.1 + 14) → ¬ (126 ≤ a ∧ a ≤ 133) → M a = I a) (h2 : ∀ k, k ≠ 15 → k ≠ 13 → M 3 k = I 3 k) (h3 : ∀ a, 136 ≤ a → a ≠ 140 → a ≠ 146 → M a = I a) (h4 : ∀ k, 157 ≤ k → M 140 k = I 140 k) (h5 : ∀ k, k = 8 ∨ k = 10 ∨ k = 11 ∨ k = 23 → M 135 k = I 135 k) (hl : LVD M) (hT : TW M J X.2.1 0) (hs : M 3 15 = M 135 0) : INV xs X M J := by
  obtain ⟨hX, a1, a2, a3, a4, a5, a6, a7, a8, a9, a10⟩ := H
  have he := hsX_no hX
  refine ⟨hX, ?_, hT, ?_, ?_, ?_, ?_, hl, a8, a9, hs⟩
  · rw [h1 1 (by omega) (by omega) (by omega) (by omega) (by omega)]; exact a1
  · obtain ⟨m, b1, b2, b3, b4⟩ := a3
    refine ⟨m, b1, by rw [h2 6 (by omega) (by omega)]; exact b2, by rw [h5 23 (by omega)]; exact b3, fun j hj => ?_⟩
    exact TW_frame (fun a c1 c2 => h1 a (by omega) (by omega) (by omega) (by omega) (by omega)) (fun k hk => h4 _ (by omega)) (fun _ _ => rfl) (fun _ _ => rfl) (b4 j hj)
  · intro i hi
    have e := a4 i hi
    rw [h1 (5 + 2 * i) (by omega) (by omega) (by omega) (by omega) (by omega), h3 137 (by omega) (by omega) (by omega), h3 136 (by omega) (by omega) (by omega)]
    exact e
  · obtain ⟨n, b1, b2, b3, b4⟩ := a5
    refine ⟨n, b1, by rw [h2 2 (by omega) (by omega)]; exact b2, by rw [h5 8 (by omega)]; exact b3, fun k hk => ?_⟩
    rw [h1 13 (by omega) (by omega) (by omega) (by omega) (by omega), h3 139 (by omega) (by omega) (by omega)]; exact b4 k hk
  · unfold FLT
    rw [h2 14 (by omega) (by omega), h5 10 (by omega), h5 11 (by omega), h1 115 (by omega) (by omega) (by omega) (by omega) (by omega)]; exact a6
theorem p_live {xs : Nat → Int32} {N d : Nat} {X : lt_X} {I : Nat → Nat → Int32} {J : Nat → Nat → Int64} (H : INV xs X I J) (hN : 100000 ≤ N) (x : Int32) : PR xs N (d + 40) X I J 173 350 [.int x] := by
  obtain ⟨T, hB, hw, hT, hM, hX, ht⟩ := INV_B H
  obtain ⟨-, -, -, hD, hDM, -, hg⟩ := id hB
  obtain ⟨h0, h1, h2, h3, h4, h5, h6⟩ := hw.1
  have he := hsX_no hX
  have hDM : DM (I 140) T := by
    have e : (fun k => I 140 (429 * 0 + k)) = I 140 := TM_fun
    rw [e] at hDM; exact hDM
  have i5 : I (X.2.1 + 14) 5 = nI (T 157) := hD.1
  have b157 : T 157 ≤ 1 := hD.2.1
  have c8 : am_G am_prog (N + 30) (d + 40 + 40) 173 [.ref 3, .int x] (mkh X I J) = RX8_live_0 N (d + 78) (N + 30) X x I J := gX8_live N (d + 78) x I J
  have c9 : ∀ K L, am_G am_prog (N + 30) (d + 40 + 40) 350 [.ref 135, .int x] (mkh X K L) = RX9_live_0 N (d + 78) (N + 30) X x K L := fun K L => gX9_live N (d + 78) x K L
  by_cases q : rng x 0 9999 = true
  rotate_left
  · refine PR_tells H (.int (-1)) (nI 5) (CR_st ?_) (fun K hK => MR_2 (a := nI 0) (b := nI 0) ?_)
    · rw [c8, sX8_live_0 N (d + 78) _ hX, rng_c (by omega) (by omega), if_neg q]
    · rw [c9, sX9_live_0 N (d + 78), c9_in (by omega) (by omega), cI_some, kX9_live_0 N (d + 78), nc_10, if_neg q]
  obtain ⟨s, -, hs, rfl⟩ := rng_e q (by omega)
  by_cases q2 : T 157 = 0
  · refine PR_tells H (.int (-1)) (nI 8) (CR_st ?_) (fun K hK => MR_2 (a := nI 0) (b := nI 0) ?_)
    · rw [c8, sX8_live_0 N (d + 78) _ hX, rng_c (by omega) (by omega), if_pos q, i5, nc_eq q2]
    · have k157 : (u2 (u2 K 135 1 (nI 0)) 135 0 (nI 0)) 140 157 = nI (T 157) := by rw [u2_na _ _ _ _ _ (by omega), u2_na _ _ _ _ _ (by omega), hK 140 (by omega) (by omega)]; exact hDM.1
      rw [c9, sX9_live_0 N (d + 78), c9_in (by omega) (by omega), cI_some, kX9_live_0 N (d + 78), nc_10, if_pos q, k157, nc_eq q2]
  have h157 : T 157 = 1 := by omega
  -- the class's run alone
  obtain ⟨K, -, U, r, dn, ms, hs', gl, dd, c, s1, s2, -, s4, -, hc, s6, -, oc, -⟩ := play_both (N := N) (d := d + 73) (d2 := 0) (X := X) (X2 := X) (J := J) (J2 := J) ht hN hw hg hT hD h157 hM hDM (s := s) (by omega)
  obtain ⟨wU, gU, bU, hr, hdn, hms, hhs, hgl, hdd⟩ := s1
  obtain ⟨tU, k1, k2, k3, k4, k5⟩ := s2
  have gT : am_G am_prog (N + 30) (d + 79) 69 [.ref X.2.1] (mkh X I J) = some (.int (nI (smT T 43)), (mkh X I J)) := c5_gladOfAll ht hT hw
  have tK : TC (u2 (u2 (u2 K 3 13 (nI 1)) 134 0 (K 132 3)) 134 1 (K 132 4)) X.2.1 U := TC_frame (fun a b1 b2 => by rw [u2_na _ _ _ _ _ (by omega), u2_na _ _ _ _ _ (by omega), u2_na _ _ _ _ _ (by omega)]) tU
  have gK : am_G am_prog (N + 30) (d + 79) 69 [.ref X.2.1] (mkh X (u2 (u2 (u2 K 3 13 (nI 1)) 134 0 (K 132 3)) 134 1 (K 132 4)) J) = some (.int (nI (smT U 43)), mkh X (u2 (u2 (u2 K 3 13 (nI 1)) 134 0 (K 132 3)) 134 1 (K 132 4)) J) := c5_gladOfAll ht tK wU
  have bT := smT_le hw
  have bU2 := smT_le wU
  have sub : nI (smT U 43) - nI (smT T 43) = nI gl := by rw [hgl, pk_sub (by omega)]; congr 1; omega
  have hcl : am_G am_prog (N + 30) (d + 40 + 40) 173 [.ref 3, .int (nI s)] (mkh X I J) = some (.int (nI dn), mkh X (u2 (u2 (u2 (u2 (u2 (u2 (u2 K 3 13 (nI 1)) 134 0 (nI ms)) 134 1 (nI hs')) 134 2 (nI gl)) 134 3 (nI dd)) 134 4 (nI c)) 3 15 (nI 0)) J) := by
    have w1 : (u2 (u2 (u2 K 3 13 (nI 1)) 134 0 (K 132 3)) 134 1 (K 132 4)) 132 = K 132 := by rw [u2_na _ _ _ _ _ (by omega), u2_na _ _ _ _ _ (by omega), u2_na _ _ _ _ _ (by omega)]
    rw [c8, sX8_live_0 N (d + 78) _ hX, rng_c (by omega) (by omega), if_pos q, i5, nc_ne q2 (by omega) (by omega), gT, cI_some, kX8_live_0 N (d + 78) _ hX, oc, cV_some, kX8_live_1 N (d + 78) _ hX, gK, cI_some, kX8_live_2 N (d + 78) _ hX, w1, s6, k2, k5, sub, k3, k4]
    by_cases c0 : c = 0
    · rw [nc_eq c0, c0]
    · rw [nc_ne c0 (by omega) (by omega), show c = 1 by omega]
  generalize hI2 : u2 (u2 (u2 (u2 (u2 (u2 (u2 K 3 13 (nI 1)) 134 0 (nI ms)) 134 1 (nI hs')) 134 2 (nI gl)) 134 3 (nI dd)) 134 4 (nI c)) 3 15 (nI 0) = I2 at hcl
  have z0 : ∀ a, a ≠ 3 → a ≠ 134 → I2 a = K a := fun a b1 b2 => by rw [← hI2, u2_na _ _ _ _ _ b1, u2_na _ _ _ _ _ b2, u2_na _ _ _ _ _ b2, u2_na _ _ _ _ _ b2, u2_na _ _ _ _ _ b2, u2_na _ _ _ _ _ b2, u2_na _ _ _ _ _ b1]
  have z3 : ∀ k, k ≠ 15 → k ≠ 13 → I2 3 k = K 3 k := fun k b1 b2 => by rw [← hI2, u2_nk _ _ _ _ _ b1, u2_na _ _ _ _ _ (by omega), u2_na _ _ _ _ _ (by omega), u2_na _ _ _ _ _ (by omega), u2_na _ _ _ _ _ (by omega), u2_na _ _ _ _ _ (by omega), u2_nk _ _ _ _ _ b2]
  have z15 : I2 3 15 = nI 0 := by rw [← hI2, u2_at]
  have z13 : I2 3 13 = nI 1 := by rw [← hI2, u2_nk _ _ _ _ _ (by omega), u2_na _ _ _ _ _ (by omega), u2_na _ _ _ _ _ (by omega), u2_na _ _ _ _ _ (by omega), u2_na _ _ _ _ _ (by omega), u2_na _ _ _ _ _ (by omega), u2_at]
  have z134 : I2 134 0 = nI ms ∧ I2 134 1 = nI hs' ∧ I2 134 2 = nI gl ∧ I2 134 3 = nI dd ∧ I2 134 4 = nI c := by
    rw [← hI2, u2_na _ _ _ _ _ (by omega)]
    refine ⟨?_, ?_, ?_, ?_, u2_at _ _ _ _⟩
    · rw [u2_nk _ _ _ _ _ (by omega), u2_nk _ _ _ _ _ (by omega), u2_nk _ _ _ _ _ (by omega), u2_nk _ _ _ _ _ (by omega), u2_at]
    · rw [u2_nk _ _ _ _ _ (by omega), u2_nk _ _ _ _ _ (by omega), u2_nk _ _ _ _ _ (by omega), u2_at]
    · rw [u2_nk _ _ _ _ _ (by omega), u2_nk _ _ _ _ _ (by omega), u2_at]
    · rw [u2_nk _ _ _ _ _ (by omega), u2_at]
  have f135 : ∀ a, 135 ≤ a → I2 a = I a := fun a ha => by rw [z0 a (by omega) (by omega)]; exact s4 a (by omega) (by omega) (by omega)
  generalize hM2 : u2 (u2 I2 135 1 (nI 0)) 135 0 (nI 0) = M2
  have y0 : ∀ a, a ≠ 135 → M2 a = I2 a := fun a ha => by rw [← hM2, u2_na _ _ _ _ _ ha, u2_na _ _ _ _ _ ha]
  have y140 : M2 140 = I 140 := by rw [y0 140 (by omega), f135 140 (by omega)]
  -- both once more, the reference over the cells as they are now
  obtain ⟨K', L, U', r', dn', ms', hs2, gl', dd', c', t1, t2, t3, t4, t5, -, t6, t7, oc', om⟩ := play_both (N := N) (d := d + 73) (d2 := d + 9) (X := X) (X2 := X) (J := J) (J2 := J) (M := M2) ht hN hw hg hT hD h157 (by rw [y140]; exact hM) (by rw [y140]; exact hDM) (s := s) (by omega)
  obtain ⟨-, rfl, -⟩ := mkh_inj (oc.symm.trans oc')
  obtain ⟨wV, gV, bV, hr', hdn', hms', hhs2, hgl', hdd'⟩ := t1
  obtain ⟨tV, q1, q2', q3, q4, q5⟩ := t2
  obtain ⟨tR, r1, r2, r3, r4, r5, r6⟩ := t3
  -- the numbers agree: they stand in the same cells
  have e2 : dn = dn' := (no_inj (by omega) (by omega)).mp (k2.symm.trans q2')
  have e3 : ms = ms' := (no_inj (by omega) (by omega)).mp (k3.symm.trans q3)
  have e4 : hs' = hs2 := (no_inj (by omega) (by omega)).mp (k4.symm.trans q4)
  have bdd := alc_le hw
  have e5 : dd = dd' := (no_inj (by omega) (by omega)).mp (k5.symm.trans q5)
  have eg : smT U 43 = smT U' 43 := by
    have a1 : am_G am_prog (N + 30) (0 + 1) 69 [.ref X.2.1] (mkh X K J) = some (.int (nI (smT U 43)), mkh X K J) := c5_gladOfAll ht tU wU
    have a2 : am_G am_prog (N + 30) (0 + 1) 69 [.ref X.2.1] (mkh X K J) = some (.int (nI (smT U' 43)), mkh X K J) := c5_gladOfAll ht tV wV
    have a3 := (mkh_inj (a1.symm.trans a2)).1
    have bV2 := smT_le wV
    exact (no_inj (by omega) (by omega)).mp (by injection a3)
  have e6 : gl = gl' := by omega
  have hc2 : L 135 41 = nI c := by rw [t7, ← s6, ← t6]
  subst e2 e3 e4 e5 e6
  refine ⟨.int (nI dn), X, I2, J, X, u2 (u2 (u2 (u2 (u2 (u2 L 146 0 (nI ms)) 146 1 (nI hs')) 146 2 (nI gl)) 146 3 (nI dd)) 146 4 (nI c)) 135 33 (nI 1), J, hcl, ?_, ?_, rfl⟩
  · have k157 : M2 140 157 = nI (T 157) := by rw [y140]; exact hDM.1
    rw [c9, sX9_live_0 N (d + 78), hM2, c9_in (by omega) (by omega), cI_some, kX9_live_0 N (d + 78), nc_10, if_pos q, k157, nc_ne q2 (by omega) (by omega), om, cV_some, kX9_live_1 N (d + 78), r2, r3, r4, r5, r6, hc2]
  · generalize hM3 : u2 (u2 (u2 (u2 (u2 (u2 L 146 0 (nI ms)) 146 1 (nI hs')) 146 2 (nI gl)) 146 3 (nI dd)) 146 4 (nI c)) 135 33 (nI 1) = M3
    have v0 : ∀ a, a ≠ 146 → a ≠ 135 → M3 a = L a := fun a b1 b2 => by rw [← hM3, u2_na _ _ _ _ _ b2, u2_na _ _ _ _ _ b1, u2_na _ _ _ _ _ b1, u2_na _ _ _ _ _ b1, u2_na _ _ _ _ _ b1, u2_na _ _ _ _ _ b1]
    have v1 : ∀ k, k ≠ 33 → M3 135 k = L 135 k := fun k b1 => by rw [← hM3, u2_nk _ _ _ _ _ b1, u2_na _ _ _ _ _ (by omega), u2_na _ _ _ _ _ (by omega), u2_na _ _ _ _ _ (by omega), u2_na _ _ _ _ _ (by omega), u2_na _ _ _ _ _ (by omega)]
    have v33 : M3 135 33 = nI 1 := by rw [← hM3, u2_at]
    have v146 : M3 146 0 = nI ms ∧ M3 146 1 = nI hs' ∧ M3 146 2 = nI gl ∧ M3 146 3 = nI dd ∧ M3 146 4 = nI c := by
      rw [← hM3, u2_na _ _ _ _ _ (by omega)]
      refine ⟨?_, ?_, ?_, ?_, u2_at _ _ _ _⟩
      · rw [u2_nk _ _ _ _ _ (by omega), u2_nk _ _ _ _ _ (by omega), u2_nk _ _ _ _ _ (by omega), u2_nk _ _ _ _ _ (by omega), u2_at]
      · rw [u2_nk _ _ _ _ _ (by omega), u2_nk _ _ _ _ _ (by omega), u2_nk _ _ _ _ _ (by omega), u2_at]
      · rw [u2_nk _ _ _ _ _ (by omega), u2_nk _ _ _ _ _ (by omega), u2_at]
      · rw [u2_nk _ _ _ _ _ (by omega), u2_at]
    -- a cell below 135, or from 136 on, of the reference's end is the class's end
    have w0 : ∀ a, a ≠ 135 → a ≠ 140 → a ≠ 146 → M3 a = I2 a := fun a b1 b2 b3 => by rw [v0 a b3 b1, t5.1 a b2 b1, y0 a b1]
    have w135 : ∀ k, 2 ≤ k → k < 33 → M3 135 k = I 135 k := fun k b1 b2 => by rw [v1 k (by omega), t5.2.2 k (by omega), ← hM2, u2_nk _ _ _ _ _ (by omega), u2_nk _ _ _ _ _ (by omega), f135 135 (by omega)]
    refine INV_live H (fun a b1 b2 b3 b4 b5 => ?_) (fun k b1 b2 => ?_) (fun a b1 b2 b3 => ?_) (fun k hk => ?_) (fun k hk => ?_) (Or.inr ⟨?_, v33, fun k hk => ?_⟩) ⟨U', ?_⟩ ?_
    · rw [w0 a (by omega) (by omega) (by omega), z0 a b2 b3]; exact s4 a b4 (by omega) (by omega)
    · rw [w0 3 (by omega) (by omega) (by omega), z3 k b1 b2, s4 3 (by omega) (by omega) (by omega)]
    · rw [w0 a (by omega) b2 b3, f135 a (by omega)]
    · rw [v0 140 (by omega) (by omega), t5.2.1 k hk, y140]
    · rw [w135 k (by omega) (by omega)]
    · rw [w0 3 (by omega) (by omega) (by omega)]; exact z13
    · obtain ⟨x0, x1, x2, x3, x4⟩ := z134
      obtain ⟨y0, y1, y2, y3, y4⟩ := v146
      rw [w0 134 (by omega) (by omega) (by omega)]
      match k, hk with
      | 0, _ => rw [x0, y0]
      | 1, _ => rw [x1, y1]
      | 2, _ => rw [x2, y2]
      | 3, _ => rw [x3, y3]
      | 4, _ => rw [x4, y4]
    · have tL : TM (M3 140) U' := by rw [v0 140 (by omega) (by omega)]; exact tR
      refine TB_up hB bV wV gV (TC_frame (fun a b1 b2 => ?_) tV) tL (fun a b1 b2 => ?_) (fun k b1 b2 => ?_)
      · rw [w0 a (by omega) (by omega) (by omega), z0 a (by omega) (by omega)]
      · rw [w0 a (by omega) (by omega) (by omega), z0 a (by omega) (by omega)]; exact s4 a (by omega) (by omega) (by omega)
      · rw [v0 140 (by omega) (by omega), t5.2.1 k b1, y140]
    · rw [w0 3 (by omega) (by omega) (by omega), z15, v1 0 (by omega), t5.2.2 0 (by omega), ← hM2, u2_at]
