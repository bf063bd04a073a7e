/-! a run of the dials: whole stretches -/
theorem el_when {N d d2 : Nat} {X X2 : lt_X} {J J2 : Nat → Nat → Int64} {t : Nat} {T : Nat → Nat} {I0 M0 K L : Nat → Nat → Int32} {sz : Nat} (ht : isT t) (hN : 100000 ≤ N) (e6 : I0 (t + 14) 6 = nI sz) (hsz : sz ≤ 60) (hM : DM (M0 140) T) (h158 : T 158 ≤ 30) {s e p q y j k dn W : Nat} (hs : s < e) (he : e ≤ T 158) (hy : p < y) (hyq : y < q) (hq : q ≤ sz) (hk : k ≤ 30)
    (D : DB (I0 (t + 15)) (I0 (t + 16)) (I0 (t + 17)) (I0 (t + 18)) T s p) (h7 : T (159 + 9 * s) = 7) (hw : I0 (t + 15) p = nI W) (hW1 : 121 ≤ W) (hW2 : W < 124) (hn : T (167 + 9 * s) ≤ e) (wy : I0 (t + 15) y = nI 125) (my : I0 (t + 19) y = nI p) (mp : I0 (t + 19) p = nI y)
    (H : ST0 T t I0 M0 K L dn) (h6 : K 132 6 = nI 0) (h34 : L 135 34 = nI 0) (h41 : L 135 41 = nI 0) (hj : j ≤ 100 * dn) (tgt : (Nat → Nat → Int32) → Nat → Nat → am_O)
    (body : ∀ K1 L1 dn1 j1, ST0 T t I0 M0 K1 L1 dn1 → K1 132 6 = nI 0 → L1 135 34 = nI 0 → L1 135 41 = nI 0 → j1 ≤ 100 * dn1 → OUTG T t I0 M0 X X2 J J2 (fun z => RX3_play_41 N (d + 5) z X t (nI (p + 1)) (nI j1) K1 J) (fun z => RX9_doAll_2 N (d2 + 6) z X2 (nI (T (167 + 9 * s))) (nI (s + 1)) L1 J2) (k + 1) (fun K1 j1 z => RX3_play_41 N (d + 5) z X t (nI y) (nI j1) K1 J) (fun i => p + 1 ≤ i ∧ i < y) K1 j1 dn1 0)
    (tail : ∀ K1 L1 dn1 j1, ST0 T t I0 M0 K1 L1 dn1 → K1 132 6 = nI 0 → L1 135 34 = nI 0 → L1 135 41 = nI 0 → j1 ≤ 100 * dn1 → OUTG T t I0 M0 X X2 J J2 (fun z => RX3_play_41 N (d + 5) z X t (nI (y + 1)) (nI j1) K1 J) (fun z => RX9_doAll_2 N (d2 + 8) z X2 (nI e) (nI (T (167 + 9 * s))) L1 J2) (k + 1) tgt (fun i => y + 1 ≤ i ∧ i < q) K1 j1 dn1 0) :
    OUTG T t I0 M0 X X2 J J2 (fun z => RX3_play_41 N (d + 5) z X t (nI p) (nI j) K J) (fun z => RX9_doAll_2 N (d2 + 8) z X2 (nI e) (nI s) L J2) (k + 2) tgt (fun i => p ≤ i ∧ i < q) K j dn 0 := by
  obtain ⟨b0, b1, b2, fK, fL⟩ := ST0_dn H
  by_cases d3 : dn = 300
  · subst d3
    exact el_over ht e6 hsz hM h158 hs he (by omega) hw (by omega) (by omega) (by omega) H h34 hj tgt _
  have hd : dn < 300 := by omega
  have H1 := ST0_up ht hd H
  obtain ⟨-, -, -, fK1, fL1⟩ := ST0_dn H1
  have k6 : u2 K 132 2 (nI (dn + 1)) 132 6 = nI 0 := by rw [u2_nk _ _ _ _ _ (by omega)]; exact h6
  have l34 : u2 L 135 36 (nI (dn + 1)) 135 34 = nI 0 := by rw [u2_nk _ _ _ _ _ (by omega)]; exact h34
  have l41 : u2 L 135 36 (nI (dn + 1)) 135 41 = nI 0 := by rw [u2_nk _ _ _ _ _ (by omega)]; exact h41
  have k133 : u2 K 132 2 (nI (dn + 1)) 133 = K 133 := u2_na _ _ _ _ _ (by omega)
  obtain ⟨b, hb, oc, om⟩ := tst_ok (N := N) (d := d) (d2 := d2 + 6) (X := X) (X2 := X2) (J := J) (J2 := J2) ht hM h158 (by omega) (by omega) D h7 H1
  generalize hK1 : u2 K 132 2 (nI (dn + 1)) = K1 at *
  generalize hL1 : u2 L 135 36 (nI (dn + 1)) = L1 at *
  have cl : ∀ z, RX3_play_41 N (d + 5) (z + 1) X t (nI p) (nI j) K J = RX3_play_41 N (d + 5) z X t (if nI b = nI 0 then nI (y + 1) else nI (p + 1)) (nI (j + 1)) K1 J := by
    intro z
    have kk : ∀ i, 14 ≤ i → i < 20 → K1 (t + i) = I0 (t + i) := fun i h1 h2 => dl_FK ht fK1 h1 h2
    rw [play_open ht e6 fK (by omega) hsz hw (by omega) (by omega) (by omega) b1 hd z, hK1, nc_ne (by omega) (by omega) (by omega), nc_nlt (by omega) (by omega), nc_nlt (by omega) (by omega), gX3_placeBehindOpener N (d + 4) ht, sX3_placeBehindOpener_0 N (d + 4) _ ht, nc_in (by omega) (by omega), if_neg (show ¬ K1 (t + 15) (nI p).toNatClampNeg = nI 124 by rw [nI_clamp (by omega), kk 15 (by omega) (by omega), hw, no_inj (by omega) (by omega)]; omega), oc, cI_some, kX3_placeBehindOpener_0 N (d + 4) _ ht, nc_in (by omega) (by omega), nI_clamp (by omega), kk 19 (by omega) (by omega), mp, nI_add y 1, nI_add p 1]
    by_cases c : b = 0
    · rw [nc_eq c, nc_eq c, cI_some, kX3_play_1 N (d + 5) z ht, nI_add j 1]
    · rw [nc_ne c (by omega) (by omega), nc_ne c (by omega) (by omega), cI_some, kX3_play_1 N (d + 5) z ht, nI_add j 1]
  have rf : am_G am_prog (N + 30) (d2 + 8) 347 [.ref 135, .int (nI s)] (mkh X2 L J2) = KX9_doOne_1 N (d2 + 7) (N + 29) (nI 7) (nI (159 + 9 * s)) (nI s) (nI b) (mkh X2 L1 J2) := by
    rw [one_open hM h158 fL (by omega) hd b2, hL1, h7, nc_nlt (by omega) (by omega), nc_eq rfl, om, cI_some]
  by_cases c : b = 0
  · refine OUTG_pre (sl1 := 0) (f1 := k + 1) (fun B R e1 => ev_le (ev_s (fun z => ?_) e1) (by omega)) (fun L2 e1 => ev_s (fun z => ?_) e1) (by omega) (by omega) (fun i _ => by rw [k133]) (fun i hi => ⟨by omega, hi.2⟩) (tail K1 L1 (dn + 1) (j + 1) H1 k6 l34 l41 (by omega))
    · show RX3_play_41 N (d + 5) (z + 1) X t (nI p) (nI j) K J = _
      rw [cl, nc_eq c]
    · show RX9_doAll_2 N (d2 + 8) (z + 1) X2 (nI e) (nI s) L J2 = RX9_doAll_2 N (d2 + 8) z X2 (nI e) (nI (T (167 + 9 * s))) L1 J2
      rw [all_open hs (by omega) h34, rf, kX9_doOne_1 N (d2 + 7), nc_eq c, sX9_doOne_111 N (d2 + 7) (N + 28), nc_ne (by omega) (by omega) (by omega), nc_nlt (by omega) (by omega), cV_some, all_next hM h158 fL1 (by omega)]
  · have c1 : b = 1 := by omega
    have rl : ∀ L2 z, FLR M0 L2 → ev (fun z => RX9_doAll_2 N (d2 + 6) z X2 (nI (T (167 + 9 * s))) (nI (s + 1)) L1 J2) (k + 1) (some (.null, mkh X2 L2 J2)) → RX9_doAll_2 N (d2 + 8) (z + 1) X2 (nI e) (nI s) L J2 = RX9_doAll_2 N (d2 + 8) z X2 (nI e) (nI (T (167 + 9 * s))) L2 J2 := by
      intro L2 z fL2 e1
      have e2 : RX9_doAll_2 N (d2 + 6) (N + 29) X2 (nI (T (167 + 9 * s))) (nI (s + 1)) L1 J2 = some (.null, mkh X2 L2 J2) := e1 (N + 29) (by omega)
      rw [all_open hs (by omega) h34, rf, kX9_doOne_1 N (d2 + 7), nc_ne (by omega) (by omega) (by omega), nI_add _ 8, nc_in (by omega) (by omega), nI_add s 1, nI_clamp (by omega), dl_cell hM fL1 (by omega) 8 (167 + 9 * s) (by omega) (by omega), gX9_doAll N (d2 + 6), sX9_doAll_0 N (d2 + 6), e2, cV_some, kX9_doOne_3 N (d2 + 7), cV_some, all_next hM h158 fL2 (by omega)]
    have A := OUTG_seq (rr := fun z => RX9_doAll_2 N (d2 + 8) z X2 (nI e) (nI s) L J2) (f := k + 2) (f2 := k + 1) (rr2 := fun L2 z => RX9_doAll_2 N (d2 + 8) z X2 (nI e) (nI (T (167 + 9 * s))) L2 J2) (tgt := tgt) (P := fun i => p ≤ i ∧ i < q) (P2 := fun i => y + 1 ≤ i ∧ i < q) (sl := 1) (sl2 := 1) (body K1 L1 (dn + 1) (j + 1) H1 k6 l34 l41 (by omega)) (by omega) (fun i hi => ⟨by omega, by omega⟩) (fun i hi => ⟨by omega, hi.2⟩)
      (fun K2 L2 dn2 j2 a1 a2 a3 a4 a5 a6 => by
        obtain ⟨g0, -, -, g1, g2⟩ := ST0_dn a1
        refine OUTG_pre (sl1 := 0) (f1 := k + 1) (fun B R e1 => ev_le (ev_s (fun z => ?_) e1) (by omega)) (fun L3 e1 => e1) (by omega) (by omega) (fun i _ => rfl) (fun i hi => hi) (tail K2 L2 dn2 (j2 + 1) a1 a3 a4 a5 (by omega))
        show RX3_play_41 N (d + 5) (z + 1) X t (nI y) (nI j2) K2 J = _
        rw [play_end (r := 0) ht e6 g1 (by omega) hsz wy my (by omega) hw (by omega) (fun h => by
          rw [hw, no_inj (by omega) (by omega)] at h; omega) (by omega) (by omega) z, if_neg (by omega)])
      (fun L2 L3 f2 _ e1 e2 => ev_s (fun z => rl L2 z f2 e1) e2)
      (fun L2 f2 h34 e1 => ev_s (fun z => rl L2 z f2 e1) (ev_le (ev_0 (fun z => all_over (by omega) (by omega) h34 z)) (by omega)))
    refine OUTG_pre (sl1 := 1) (f1 := k + 2) (fun B R e1 => ev_le (ev_s (fun z => ?_) e1) (by omega)) (fun L2 e1 => e1) (by omega) (by omega) (fun i _ => by rw [k133]) (fun i hi => hi) A
    show RX3_play_41 N (d + 5) (z + 1) X t (nI p) (nI j) K J = _
    rw [cl, nc_ne c (by omega) (by omega)]
/-- the rounds of a loop -/
theorem el_rounds {N d d2 : Nat} {X X2 : lt_X} {J J2 : Nat → Nat → Int64} {t : Nat} {T : Nat → Nat} {I0 M0 : Nat → Nat → Int32} {sz : Nat} (ht : isT t) (hN : 100000 ≤ N) (e6 : I0 (t + 14) 6 = nI sz) (hsz : sz ≤ 60) (hM : DM (M0 140) T) (h158 : T 158 ≤ 30) {s p y k m : Nat} (hs : s < T 158) (hn : T (167 + 9 * s) ≤ T 158) (hy : p < y) (hyq : y < sz) (hk : k ≤ 30)
    (hw : I0 (t + 15) p = nI 124) (hm : T (160 + 9 * s) = m) (hm9 : m ≤ 99) (wy : I0 (t + 15) y = nI 125) (my : I0 (t + 19) y = nI p)
    (body : ∀ K1 L1 dn1 j1, ST0 T t I0 M0 K1 L1 dn1 → K1 132 6 = nI 0 → L1 135 34 = nI 0 → L1 135 41 = nI 0 → j1 ≤ 100 * dn1 → OUTG T t I0 M0 X X2 J J2 (fun z => RX3_play_41 N (d + 5) z X t (nI (p + 1)) (nI j1) K1 J) (fun z => RX9_doAll_2 N (d2 + 6) z X2 (nI (T (167 + 9 * s))) (nI (s + 1)) L1 J2) (k + 1) (fun K1 j1 z => RX3_play_41 N (d + 5) z X t (nI y) (nI j1) K1 J) (fun i => p + 1 ≤ i ∧ i < y) K1 j1 dn1 0) :
    ∀ r i, i + r = m → 1 ≤ r → ∀ K L dn j, ST0 T t I0 M0 K L dn → K 132 6 = nI 0 → L 135 34 = nI 0 → L 135 41 = nI 0 → K 133 p = nI r → j + r ≤ 100 * dn → OUTG T t I0 M0 X X2 J J2 (fun z => RX3_play_41 N (d + 5) z X t (nI (p + 1)) (nI j) K J) (fun z => RX9_doOne_120 N (d2 + 7) z X2 (nI s) (nI (159 + 9 * s)) (nI i) L J2) (r + 1) (fun K1 j1 z => RX3_play_41 N (d + 5) z X t (nI (y + 1)) (nI j1) K1 J) (fun i => p ≤ i ∧ i < y) K j dn r := by
  intro r
  induction r with
  | zero => intro i _ h; exact absurd h (by omega)
  | succ r ih =>
    intro i hi _ K L dn j H h6 h34 h41 h133 hj
    obtain ⟨b0, b1, b2, fK, fL⟩ := ST0_dn H
    have rl : ∀ L2 z, ev (fun z => RX9_doAll_2 N (d2 + 6) z X2 (nI (T (167 + 9 * s))) (nI (s + 1)) L J2) (k + 1) (some (.null, mkh X2 L2 J2)) → RX9_doOne_120 N (d2 + 7) (z + 1) X2 (nI s) (nI (159 + 9 * s)) (nI i) L J2 = RX9_doOne_120 N (d2 + 7) z X2 (nI s) (nI (159 + 9 * s)) (nI (i + 1)) L2 J2 := by
      intro L2 z e1
      have e2 : RX9_doAll_2 N (d2 + 6) (N + 29) X2 (nI (T (167 + 9 * s))) (nI (s + 1)) L J2 = some (.null, mkh X2 L2 J2) := e1 (N + 29) (by omega)
      rw [sX9_doOne_120 N (d2 + 7) z, nI_add _ 1, nI_add _ 8, nc_in (by omega) (by omega), nc_in (by omega) (by omega), nI_clamp (by omega), nI_clamp (by omega), dl_cell hM fL hs 1 (160 + 9 * s) (by omega) (by omega), dl_cell hM fL hs 8 (167 + 9 * s) (by omega) (by omega), hm, nc_lt (by omega) (by omega), h34, nc_eq rfl, nI_add s 1, gX9_doAll N (d2 + 6), sX9_doAll_0 N (d2 + 6), e2, cV_some, kX9_doOne_2 N (d2 + 7) z, nI_add i 1]
    have rx : ∀ L2 z, FLR M0 L2 → (m ≤ i + 1 ∨ L2 135 34 = nI 1) → RX9_doOne_120 N (d2 + 7) (z + 1) X2 (nI s) (nI (159 + 9 * s)) (nI (i + 1)) L2 J2 = some (.null, mkh X2 L2 J2) := by
      intro L2 z f2 h
      rw [sX9_doOne_120 N (d2 + 7) z, nI_add _ 1, nI_add _ 8, nc_in (by omega) (by omega), nI_clamp (by omega), dl_cell hM f2 hs 1 (160 + 9 * s) (by omega) (by omega), hm]
      by_cases q : i + 1 < m
      · rcases h with h | h
        · omega
        · rw [nc_lt q (by omega), h, nc_ne (by omega) (by omega) (by omega)]
      · rw [nc_nlt (by omega) (by omega)]
    refine OUTG_seq (f2 := r + 1) (rr2 := fun L2 z => RX9_doOne_120 N (d2 + 7) z X2 (nI s) (nI (159 + 9 * s)) (nI (i + 1)) L2 J2) (P2 := fun i => p ≤ i ∧ i < y) (sl2 := r + 1) (body K L dn j H h6 h34 h41 (by omega)) (by omega) (fun i hi => ⟨by omega, hi.2⟩) (fun i hi => hi)
      (fun K2 L2 dn2 j2 a1 a2 a3 a4 a5 a6 => ?_)
      (fun L2 L3 f2 _ e1 e2 => ev_s (fun z => rl L2 z e1) e2)
      (fun L2 f2 h34 e1 => ev_s (fun z => rl L2 z e1) (ev_le (ev_0 (fun z => rx L2 z f2 (Or.inr h34))) (by omega)))
    obtain ⟨g0, -, -, g1, g2⟩ := ST0_dn a1
    have k133 : K2 133 p = nI (r + 1) := by rw [a2 p (by omega)]; exact h133
    by_cases r1 : r = 0
    · subst r1
      refine OUTG_pre (f1 := 1) (sl1 := 0) (j1 := j2 + 1) (dn1 := dn2) (K1 := K2) (fun B R e1 => ev_le (ev_s (fun z => ?_) e1) (by omega)) (fun L3 e1 => e1) (by omega) (by omega) (fun _ _ => rfl) (fun i hi => hi) (OUTG_id (tgt := fun K1 j1 z => RX3_play_41 N (d + 5) z X t (nI (y + 1)) (nI j1) K1 J) a1 a3 a4 a5 (ev_0 (fun z => rx L2 z g2 (Or.inl (by omega)))))
      show RX3_play_41 N (d + 5) (z + 1) X t (nI y) (nI j2) K2 J = _
      rw [play_end (r := 1) ht e6 g1 (by omega) hsz wy my (by omega) hw (by omega) (fun _ => k133) (by omega) (by omega) z, if_neg (by omega)]
    · refine OUTG_pre (f1 := r + 1) (sl1 := r) (j1 := j2 + 1) (dn1 := dn2) (fun B R e1 => ev_le (ev_s (fun z => ?_) e1) (by omega)) (fun L3 e1 => e1) (by omega) (by omega) (fun i hi => u2_nk _ _ _ _ _ (fun h => hi (by omega))) (fun i hi => hi) (ih (i + 1) (by omega) (by omega) (u2 K2 133 p (nI r)) L2 dn2 (j2 + 1) (ST0_K ht (Or.inl rfl) a1) (by rw [u2_na _ _ _ _ _ (by omega)]; exact a3) a4 a5 (u2_at _ _ _ _) (by omega))
      show RX3_play_41 N (d + 5) (z + 1) X t (nI y) (nI j2) K2 J = _
      rw [play_end (r := r + 1) ht e6 g1 (by omega) hsz wy my (by omega) hw (by omega) (fun _ => k133) (by omega) (by omega) z, if_pos (by omega), Nat.add_sub_cancel]
theorem el_loop {N d d2 : Nat} {X X2 : lt_X} {J J2 : Nat → Nat → Int64} {t : Nat} {T : Nat → Nat} {I0 M0 K L : Nat → Nat → Int32} {sz : Nat} (ht : isT t) (hN : 100000 ≤ N) (e6 : I0 (t + 14) 6 = nI sz) (hsz : sz ≤ 60) (hM : DM (M0 140) T) (h158 : T 158 ≤ 30) {s e p q y j k dn : Nat} (hs : s < e) (he : e ≤ T 158) (hy : p < y) (hyq : y < q) (hq : q ≤ sz) (hk : k ≤ 30)
    (h8 : T (159 + 9 * s) = 8) (hw : I0 (t + 15) p = nI 124) (np : I0 (t + 18) p = nI (T (160 + 9 * s))) (hm1 : 1 ≤ T (160 + 9 * s)) (hm9 : T (160 + 9 * s) ≤ 99) (hn : T (167 + 9 * s) ≤ e) (wy : I0 (t + 15) y = nI 125) (my : I0 (t + 19) y = nI p)
    (H : ST0 T t I0 M0 K L dn) (h6 : K 132 6 = nI 0) (h34 : L 135 34 = nI 0) (h41 : L 135 41 = nI 0) (hj : j ≤ 100 * dn) (tgt : (Nat → Nat → Int32) → Nat → Nat → am_O)
    (body : ∀ K1 L1 dn1 j1, ST0 T t I0 M0 K1 L1 dn1 → K1 132 6 = nI 0 → L1 135 34 = nI 0 → L1 135 41 = nI 0 → j1 ≤ 100 * dn1 → OUTG T t I0 M0 X X2 J J2 (fun z => RX3_play_41 N (d + 5) z X t (nI (p + 1)) (nI j1) K1 J) (fun z => RX9_doAll_2 N (d2 + 6) z X2 (nI (T (167 + 9 * s))) (nI (s + 1)) L1 J2) (k + 1) (fun K1 j1 z => RX3_play_41 N (d + 5) z X t (nI y) (nI j1) K1 J) (fun i => p + 1 ≤ i ∧ i < y) K1 j1 dn1 0)
    (tail : ∀ K1 L1 dn1 j1, ST0 T t I0 M0 K1 L1 dn1 → K1 132 6 = nI 0 → L1 135 34 = nI 0 → L1 135 41 = nI 0 → j1 ≤ 100 * dn1 → OUTG T t I0 M0 X X2 J J2 (fun z => RX3_play_41 N (d + 5) z X t (nI (y + 1)) (nI j1) K1 J) (fun z => RX9_doAll_2 N (d2 + 8) z X2 (nI e) (nI (T (167 + 9 * s))) L1 J2) (k + 1) tgt (fun i => y + 1 ≤ i ∧ i < q) K1 j1 dn1 0) :
    OUTG T t I0 M0 X X2 J J2 (fun z => RX3_play_41 N (d + 5) z X t (nI p) (nI j) K J) (fun z => RX9_doAll_2 N (d2 + 8) z X2 (nI e) (nI s) L J2) (k + 2) tgt (fun i => p ≤ i ∧ i < q) K j dn 0 := by
  obtain ⟨b0, b1, b2, fK, fL⟩ := ST0_dn H
  by_cases d3 : dn = 300
  · subst d3
    exact el_over ht e6 hsz hM h158 hs he (by omega) hw (by omega) (by omega) (by omega) H h34 hj tgt _
  have hd : dn < 300 := by omega
  have H1 := ST0_up ht hd H
  obtain ⟨-, -, -, fK1, fL1⟩ := ST0_dn H1
  have H2 := ST0_K ht (a := 133) (k := p) (v := nI (T (160 + 9 * s))) (Or.inl rfl) H1
  have k6 : u2 (u2 K 132 2 (nI (dn + 1))) 133 p (nI (T (160 + 9 * s))) 132 6 = nI 0 := by rw [u2_na _ _ _ _ _ (by omega), u2_nk _ _ _ _ _ (by omega)]; exact h6
  have l34 : u2 L 135 36 (nI (dn + 1)) 135 34 = nI 0 := by rw [u2_nk _ _ _ _ _ (by omega)]; exact h34
  have l41 : u2 L 135 36 (nI (dn + 1)) 135 41 = nI 0 := by rw [u2_nk _ _ _ _ _ (by omega)]; exact h41
  have rl : ∀ L2 z, FLR M0 L2 → ev (fun z => RX9_doOne_120 N (d2 + 7) z X2 (nI s) (nI (159 + 9 * s)) (nI 0) (u2 L 135 36 (nI (dn + 1))) J2) (T (160 + 9 * s) + 1) (some (.null, mkh X2 L2 J2)) → RX9_doAll_2 N (d2 + 8) (z + 1) X2 (nI e) (nI s) L J2 = RX9_doAll_2 N (d2 + 8) z X2 (nI e) (nI (T (167 + 9 * s))) L2 J2 := by
    intro L2 z fL2 e1
    have e2 : RX9_doOne_120 N (d2 + 7) (N + 28) X2 (nI s) (nI (159 + 9 * s)) (nI 0) (u2 L 135 36 (nI (dn + 1))) J2 = some (.null, mkh X2 L2 J2) := e1 (N + 28) (by omega)
    rw [all_open hs (by omega) h34, one_open hM h158 fL (by omega) hd b2, h8, nc_nlt (by omega) (by omega), nc_ne (by omega) (by omega) (by omega), sX9_doOne_111 N (d2 + 7) (N + 28), nc_eq rfl, e2, cV_some, all_next hM h158 fL2 (by omega)]
  have A := OUTG_seq (rr := fun z => RX9_doAll_2 N (d2 + 8) z X2 (nI e) (nI s) L J2) (f := k + 2) (f2 := k + 1) (rr2 := fun L2 z => RX9_doAll_2 N (d2 + 8) z X2 (nI e) (nI (T (167 + 9 * s))) L2 J2) (tgt := tgt) (P := fun i => p ≤ i ∧ i < q) (P2 := fun i => y + 1 ≤ i ∧ i < q) (sl := T (160 + 9 * s)) (sl2 := 0)
    (el_rounds (J := J) (J2 := J2) (X := X) (X2 := X2) (d := d) ht hN e6 hsz hM h158 (show s < T 158 by omega) (by omega) hy (by omega) hk hw rfl hm9 wy my body (T (160 + 9 * s)) 0 (by omega) hm1 _ _ (dn + 1) (j + 1) H2 k6 l34 l41 (u2_at _ _ _ _) (by omega)) (by omega) (fun i hi => ⟨by omega, by omega⟩) (fun i hi => ⟨by omega, hi.2⟩)
    (fun K2 L2 dn2 j2 a1 a2 a3 a4 a5 a6 => tail K2 L2 dn2 j2 a1 a3 a4 a5 (by omega))
    (fun L2 L3 f2 _ e1 e2 => ev_s (fun z => rl L2 z f2 e1) e2)
    (fun L2 f2 h34 e1 => ev_s (fun z => rl L2 z f2 e1) (ev_le (ev_0 (fun z => all_over (by omega) (by omega) h34 z)) (by omega)))
  refine OUTG_pre (sl1 := T (160 + 9 * s)) (f1 := k + 2) (fun B R e1 => ev_le (ev_s (fun z => ?_) e1) (by omega)) (fun L2 e1 => e1) (by omega) (by omega) (fun i hi => ?_) (fun i hi => hi) A
  · show RX3_play_41 N (d + 5) (z + 1) X t (nI p) (nI j) K J = _
    have kk : ∀ i, 14 ≤ i → i < 20 → u2 K 132 2 (nI (dn + 1)) (t + i) = I0 (t + i) := fun i h1 h2 => dl_FK ht fK1 h1 h2
    rw [play_open ht e6 fK (by omega) hsz hw (by omega) (by omega) (by omega) b1 hd z, nc_ne (by omega) (by omega) (by omega), nc_nlt (by omega) (by omega), nc_nlt (by omega) (by omega), gX3_placeBehindOpener N (d + 4) ht, sX3_placeBehindOpener_0 N (d + 4) _ ht, nc_in (by omega) (by omega), nc_in (by omega) (by omega), nc_in (by omega) (by omega), nI_clamp (by omega), kk 15 (by omega) (by omega), kk 18 (by omega) (by omega), hw, nc_eq rfl, np, cI_some, kX3_play_1 N (d + 5) z ht, nI_add p 1, nI_add j 1]
  · rw [u2_nk _ _ _ _ _ (fun h => hi (by omega)), u2_na _ _ _ _ _ (by omega)]
theorem dl_seg {N d : Nat} {X X2 : lt_X} {J J2 : Nat → Nat → Int64} {t : Nat} {T : Nat → Nat} {I0 M0 : Nat → Nat → Int32} {sz : Nat} (ht : isT t) (hN : 100000 ≤ N) (e6 : I0 (t + 14) 6 = nI sz) (hsz : sz ≤ 60) (hM : DM (M0 140) T) (h158 : T 158 ≤ 30) : ∀ k, k ≤ 30 → ∀ s e p q, DL (I0 (t + 15)) (I0 (t + 16)) (I0 (t + 17)) (I0 (t + 18)) (I0 (t + 19)) T k s e p q → e ≤ T 158 → q ≤ sz → ∀ d2, 2 * k ≤ d2 → ∀ K L dn j, ST0 T t I0 M0 K L dn → K 132 6 = nI 0 → L 135 34 = nI 0 → L 135 41 = nI 0 → j ≤ 100 * dn → OUTG T t I0 M0 X X2 J J2 (fun z => RX3_play_41 N (d + 5) z X t (nI p) (nI j) K J) (fun z => RX9_doAll_2 N (d2 + 8) z X2 (nI e) (nI s) L J2) (k + 1) (fun K1 j1 z => RX3_play_41 N (d + 5) z X t (nI q) (nI j1) K1 J) (fun i => p ≤ i ∧ i < q) K j dn 0 := by
  intro k
  have same : ∀ (f s e p q : Nat), s = e → p = q → e ≤ T 158 → ∀ d2 K L dn j, ST0 T t I0 M0 K L dn → K 132 6 = nI 0 → L 135 34 = nI 0 → L 135 41 = nI 0 → OUTG T t I0 M0 X X2 J J2 (fun z => RX3_play_41 N (d + 5) z X t (nI p) (nI j) K J) (fun z => RX9_doAll_2 N (d2 + 8) z X2 (nI e) (nI s) L J2) (f + 1) (fun K1 j1 z => RX3_play_41 N (d + 5) z X t (nI q) (nI j1) K1 J) (fun i => p ≤ i ∧ i < q) K j dn 0 := by
    intro f s e p q a b he d2 K L dn j H h6 h34 h41
    subst a
    subst b
    refine OUTG_id (tgt := fun K1 j1 z => RX3_play_41 N (d + 5) z X t (nI p) (nI j1) K1 J) H h6 h34 h41 (ev_le (ev_0 (fun z => ?_)) (by omega))
    show RX9_doAll_2 N (d2 + 8) (z + 1) X2 (nI s) (nI s) L J2 = _
    rw [sX9_doAll_2 N (d2 + 8) z, nc_nlt (by omega) (by omega)]
  induction k with
  | zero =>
    intro _ s e p q D he hq d2 hd2 K L dn j H h6 h34 h41 hj
    exact same 0 s e p q D.1 D.2 he d2 K L dn j H h6 h34 h41
  | succ k ih =>
    intro hk s e p q D he hq d2 hd2 K L dn j H h6 h34 h41 hj
    simp only [DL] at D
    rcases D with ⟨a, b⟩ | ⟨a1, a2, a3, a4, a5⟩ | ⟨a1, y, a2, a3, a4, a5, a6, a7, a8, a9, a10, a11⟩
    · exact same (k + 1) s e p q a b he d2 K L dn j H h6 h34 h41
    · obtain ⟨b0, b1, b2, fK, fL⟩ := ST0_dn H
      obtain ⟨W, hW, hW1, hW2⟩ : ∃ W, I0 (t + 15) p = nI W ∧ W ≠ 125 ∧ W < 1000 := by
        rcases a3 with ⟨-, x, -⟩ | ⟨-, x, -⟩ | ⟨-, x, -⟩ | ⟨-, x, -⟩ | ⟨-, x, -⟩ | ⟨-, x, -⟩ | ⟨-, x⟩ | ⟨-, x⟩ <;> exact ⟨_, x, by omega, by omega⟩
      by_cases d3 : dn = 300
      · subst d3
        exact el_over ht e6 hsz hM h158 a1 he (by omega) hW hW1 hW2 (by omega) H h34 hj _ _
      have hd : dn < 300 := by omega
      by_cases h9 : T (159 + 9 * s) < 7
      · obtain ⟨K1, L1, c1, c2, c3, c4, c5, c6, c7⟩ := el_does (N := N) (d := d) (d2 := d2) (X := X) (X2 := X2) (J := J) (J2 := J2) ht hN e6 hsz hM h158 (by omega) (by omega) a3 h9 H hd hj h6 h34 h41
        have fL1 := (ST0_dn c1).2.2.2.2
        refine OUTG_pre (sl1 := 0) (f1 := k + 1) (j1 := j + 1) (dn1 := dn + 1) (fun B R e1 => ev_le (c7 B R e1) (by omega)) (fun L2 e1 => ev_s (fun z => ?_) e1) (by omega) (by omega) (fun i _ => by rw [c2]) (fun i hi => ⟨by omega, hi.2⟩) (ih (by omega) (s + 1) e (p + 1) q a5 he hq d2 (by omega) K1 L1 (dn + 1) (j + 1) c1 c3 c4 c5 (by omega))
        show RX9_doAll_2 N (d2 + 8) (z + 1) X2 (nI e) (nI s) L J2 = RX9_doAll_2 N (d2 + 8) z X2 (nI e) (nI (s + 1)) L1 J2
        rw [all_open a1 (by omega) h34, c6, cV_some, all_next hM h158 fL1 (by omega), a4]
      · -- stop
        have h9' : T (159 + 9 * s) = 9 ∧ I0 (t + 15) p = nI 126 := by
          rcases a3 with ⟨x, -⟩ | ⟨x, -⟩ | ⟨x, -⟩ | ⟨x, -⟩ | ⟨x, -⟩ | ⟨x, -⟩ | ⟨x, -⟩ | x
          all_goals first | exact x | omega
        have H1 := ST0_up ht hd H
        obtain ⟨-, -, -, fK1, fL1⟩ := ST0_dn H1
        refine OUTG_end (c := 0) (K1 := u2 K 132 2 (nI (dn + 1))) (L1 := u2 (u2 L 135 36 (nI (dn + 1))) 135 34 (nI 1)) (ST0_L (Or.inl rfl) H1) (u2_na _ _ _ _ _ (by omega)) (by omega) (by rw [u2_nk _ _ _ _ _ (by omega)]; exact h6) (u2_at _ _ _ _) (by rw [u2_nk _ _ _ _ _ (by omega), u2_nk _ _ _ _ _ (by omega)]; exact h41) (by omega) (fun z => ?_) (ev_le (ev_s (g := fun z => RX9_doAll_2 N (d2 + 8) z X2 (nI e) (nI (s + 1)) (u2 (u2 L 135 36 (nI (dn + 1))) 135 34 (nI 1)) J2) (fun z => ?_) (ev_0 (fun z => all_over (s := s + 1) (e := e) (e0 := d2 + 8) (by omega) (by omega) (u2_at _ _ _ _) z))) (by omega))
        · show RX3_play_41 N (d + 5) (z + 1) X t (nI p) (nI j) K J = _
          rw [play_open ht e6 fK (by omega) hsz h9'.2 (by omega) (by omega) (by omega) b1 hd z, nc_eq rfl]
        · show RX9_doAll_2 N (d2 + 8) (z + 1) X2 (nI e) (nI s) L J2 = RX9_doAll_2 N (d2 + 8) z X2 (nI e) (nI (s + 1)) _ J2
          rw [all_open a1 (by omega) h34, one_open hM h158 fL (by omega) hd b2, h9'.1, nc_nlt (by omega) (by omega), nc_ne (by omega) (by omega) (by omega), sX9_doOne_111 N (d2 + 7) (N + 28), nc_ne (by omega) (by omega) (by omega), nc_lt (by omega) (by omega), cV_some, all_next hM h158 (ST0_dn (ST0_L (k := 34) (v := nI 1) (Or.inl rfl) H1)).2.2.2.2 (by omega), a4]
    · obtain ⟨d3, rfl⟩ : ∃ x, d2 = x + 2 := ⟨d2 - 2, by omega⟩
      have body : ∀ K1 L1 dn1 j1, ST0 T t I0 M0 K1 L1 dn1 → K1 132 6 = nI 0 → L1 135 34 = nI 0 → L1 135 41 = nI 0 → j1 ≤ 100 * dn1 → OUTG T t I0 M0 X X2 J J2 (fun z => RX3_play_41 N (d + 5) z X t (nI (p + 1)) (nI j1) K1 J) (fun z => RX9_doAll_2 N (d3 + 2 + 6) z X2 (nI (T (167 + 9 * s))) (nI (s + 1)) L1 J2) (k + 1) (fun K1 j1 z => RX3_play_41 N (d + 5) z X t (nI y) (nI j1) K1 J) (fun i => p + 1 ≤ i ∧ i < y) K1 j1 dn1 0 := fun K1 L1 dn1 j1 c1 c2 c3 c4 c5 => ih (by omega) (s + 1) _ (p + 1) y a10 (by omega) (by omega) d3 (by omega) K1 L1 dn1 j1 c1 c2 c3 c4 c5
      have tail := fun K1 L1 dn1 j1 c1 c2 c3 c4 c5 => ih (by omega) (T (167 + 9 * s)) e (y + 1) q a11 he hq (d3 + 2) (by omega) K1 L1 dn1 j1 c1 c2 c3 c4 c5
      rcases DB_word a4 with ⟨h7, W, w1, w2, w3⟩ | ⟨h8, w1, w2, w3, w4⟩
      · exact el_when ht hN e6 hsz hM h158 a1 he a2 a3 hq (by omega) a4 h7 w1 w2 w3 a6 a7 a8 a9 H h6 h34 h41 hj _ body tail
      · exact el_loop ht hN e6 hsz hM h158 a1 he a2 a3 hq (by omega) h8 w1 w2 w3 w4 a6 a7 a8 H h6 h34 h41 hj _ body tail
