/-! a run of the dials: elements -/
section
variable {N d d2 : Nat} {X X2 : lt_X} {J J2 : Nat → Nat → Int64} {t : Nat} {T : Nat → Nat} {I0 M0 K L : Nat → Nat → Int32} {sz : Nat}
theorem dl_cell (hM : DM (M0 140) T) (fL : FLR M0 L) {s : Nat} (hs : s < T 158) (i m : Nat) (hi : i < 9) (hm : m = 159 + i + 9 * s) : L 140 (159 + 9 * s + i) = nI (T m) := by
  rw [fL.2.1 _ (by omega), show 159 + 9 * s + i = 159 + (9 * s + i) by omega, hM.2.2 (9 * s + i) (by omega), hm, show 159 + (9 * s + i) = 159 + i + 9 * s by omega]
theorem dl_FK (ht : isT t) (fK : FKL t I0 K) {i : Nat} (h1 : 14 ≤ i) (h2 : i < 20) : K (t + i) = I0 (t + i) := by
  unfold isT at ht
  exact fK _ (by omega) (by omega) (by omega)
/-- the class comes to a step -/
theorem play_open (ht : isT t) (e6 : I0 (t + 14) 6 = nI sz) (fK : FKL t I0 K) {p j dn W : Nat} (hp : p < sz) (hsz : sz ≤ 60) (hw : I0 (t + 15) p = nI W) (hW : W ≠ 125) (hW2 : W < 1000) (hj : j ≤ 40000) (hd : K 132 2 = nI dn) (hd3 : dn < 300) (z : Nat) : RX3_play_41 N (d + 5) (z + 1) X t (nI p) (nI j) K J = if nI W = nI 126 then some (.null, mkh X (u2 K 132 2 (nI (dn + 1))) J) else if nI W < nI 121 then RX3_play_145 N (d + 5) z X t (nI p) (nI j) (u2 K 132 2 (nI (dn + 1))) J else if nI 124 < nI W then RX3_play_145 N (d + 5) z X t (nI p) (nI j) (u2 K 132 2 (nI (dn + 1))) J else am_cI (am_G am_prog (N + 30) (d + 5) 37 [.ref 132, .ref t, .int (nI p)] (mkh X (u2 K 132 2 (nI (dn + 1))) J)) (KX3_play_1 N (d + 5) z t (nI j)) := by
  rw [sX3_play_41 N (d + 5) z ht, nc_lt (by omega) (by omega), dl_FK ht fK (by omega) (by omega), e6, nc_lt hp (by omega), nc_in (by omega) (by omega), nI_clamp (by omega), dl_FK ht fK (by omega) (by omega), hw, nc_ne hW (by omega) (by omega), hd, nc_lt hd3 (by omega), nI_add dn 1]
theorem play_300 (ht : isT t) (e6 : I0 (t + 14) 6 = nI sz) (fK : FKL t I0 K) {p j W : Nat} (hp : p < sz) (hsz : sz ≤ 60) (hw : I0 (t + 15) p = nI W) (hW : W ≠ 125) (hW2 : W < 1000) (hj : j ≤ 40000) (hd : K 132 2 = nI 300) (z : Nat) : RX3_play_41 N (d + 5) (z + 1) X t (nI p) (nI j) K J = some (.null, mkh X (u2 K 132 6 (nI 1)) J) := by
  rw [sX3_play_41 N (d + 5) z ht, nc_lt (by omega) (by omega), dl_FK ht fK (by omega) (by omega), e6, nc_lt hp (by omega), nc_in (by omega) (by omega), nI_clamp (by omega), dl_FK ht fK (by omega) (by omega), hw, nc_ne hW (by omega) (by omega), hd, nc_nlt (by omega) (by omega)]
/-- the class comes to an end -/
theorem play_end (ht : isT t) (e6 : I0 (t + 14) 6 = nI sz) (fK : FKL t I0 K) {p y j W r : Nat} (hy : y < sz) (hsz : sz ≤ 60) (hw : I0 (t + 15) y = nI 125) (hm : I0 (t + 19) y = nI p) (hp : p < 60) (hW : I0 (t + 15) p = nI W) (hW2 : W < 1000) (hr : I0 (t + 15) p = nI 124 → K 133 p = nI r) (hr2 : r < 1000) (hj : j ≤ 40000) (z : Nat) : RX3_play_41 N (d + 5) (z + 1) X t (nI y) (nI j) K J = if W = 124 ∧ 1 < r then RX3_play_41 N (d + 5) z X t (nI (p + 1)) (nI (j + 1)) (u2 K 133 p (nI (r - 1))) J else RX3_play_41 N (d + 5) z X t (nI (y + 1)) (nI (j + 1)) K J := by
  have k15 := dl_FK ht fK (i := 15) (by omega) (by omega)
  have k19 := dl_FK ht fK (i := 19) (by omega) (by omega)
  have e19 : K (t + 19) (nI y).toNatClampNeg = nI p := by rw [nI_clamp (by omega), k19, hm]
  have i19 : am_in (K (t + 19) (nI y).toNatClampNeg) 60 := by rw [e19]; exact in_nI hp (by omega)
  have e15 : K (t + 15) ((K (t + 19) (nI y).toNatClampNeg).toNatClampNeg) = nI W := by rw [e19, nI_clamp (by omega), k15, hW]
  have w15 : K (t + 15) (nI y).toNatClampNeg = nI 125 := by rw [nI_clamp (by omega), k15, hw]
  rw [sX3_play_41 N (d + 5) z ht, nc_lt (by omega) (by omega), dl_FK ht fK (by omega) (by omega), e6, nc_lt hy (by omega), nc_in (by omega) (by omega), if_pos w15, gX3_placeBehindEnd N (d + 4) ht, sX3_placeBehindEnd_0 N (d + 4) _ ht, nc_in (by omega) (by omega), if_pos i19]
  by_cases c : W = 124
  · have kr : K 133 ((K (t + 19) (nI y).toNatClampNeg).toNatClampNeg) = nI r := by rw [e19, nI_clamp (by omega)]; exact hr (by rw [hW, c])
    rw [if_pos (show K (t + 15) ((K (t + 19) (nI y).toNatClampNeg).toNatClampNeg) = nI 124 by rw [e15, c]), if_pos i19]
    by_cases c2 : 1 < r
    · rw [if_pos (show nI 1 < K 133 ((K (t + 19) (nI y).toNatClampNeg).toNatClampNeg) by rw [kr]; exact nI_lt c2 (by omega)), if_pos i19, if_pos i19, if_pos ⟨c, c2⟩, cI_some, kX3_play_0 N (d + 5) z ht, kr, e19, nI_clamp (by omega), nI_add p 1, nI_add j 1, pk_sub (by omega)]
    · rw [if_neg (show ¬ nI 1 < K 133 ((K (t + 19) (nI y).toNatClampNeg).toNatClampNeg) by rw [kr]; exact nI_nlt (by omega) (by omega)), if_neg (fun h => c2 h.2), cI_some, kX3_play_0 N (d + 5) z ht, nI_add y 1, nI_add j 1]
  · rw [if_neg (show ¬ K (t + 15) ((K (t + 19) (nI y).toNatClampNeg).toNatClampNeg) = nI 124 by rw [e15, no_inj (by omega) (by omega)]; exact c), if_neg (fun h => c h.1), cI_some, kX3_play_0 N (d + 5) z ht, nI_add y 1, nI_add j 1]
theorem all_open {s e : Nat} (hs : s < e) (he : e < 1000) (h34 : L 135 34 = nI 0) (z : Nat) : RX9_doAll_2 N (d2 + 8) (z + 1) X2 (nI e) (nI s) L J2 = am_cV (am_G am_prog (N + 30) (d2 + 8) 347 [.ref 135, .int (nI s)] (mkh X2 L J2)) (KX9_doAll_0 N (d2 + 8) z (nI e) (nI s)) := by
  rw [sX9_doAll_2 N (d2 + 8) z, nc_lt hs (by omega), h34, nc_eq rfl]
theorem all_next (hM : DM (M0 140) T) (h158 : T 158 ≤ 30) (fL : FLR M0 L) {s e e0 : Nat} (hs : s < T 158) (z : Nat) : KX9_doAll_0 N e0 z (nI e) (nI s) (mkh X2 L J2) = RX9_doAll_2 N e0 z X2 (nI e) (nI (T (167 + 9 * s))) L J2 := by
  rw [kX9_doAll_0 N e0 z, pk_mul 9 s, nI_add 159 (9 * s), nI_add (159 + 9 * s) 8, nc_in (by omega) (by omega), nI_clamp (by omega), dl_cell hM fL hs 8 (167 + 9 * s) (by omega) (by omega)]
theorem all_over {s e e0 : Nat} (hs : s < 2 ^ 31) (he : e < 1000) (h34 : L 135 34 = nI 1) (z : Nat) : RX9_doAll_2 N e0 (z + 1) X2 (nI e) (nI s) L J2 = some (.null, mkh X2 L J2) := by
  rw [sX9_doAll_2 N e0 z]
  by_cases q : s < e
  · rw [nc_lt q (by omega), h34, nc_ne (by omega) (by omega) (by omega)]
  · rw [nc_nlt (by omega) (by omega)]
theorem one_300 (h36 : L 135 36 = nI 300) (s : Nat) : am_G am_prog (N + 30) (d2 + 8) 347 [.ref 135, .int (nI s)] (mkh X2 L J2) = some (.null, mkh X2 (u2 (u2 L 135 34 (nI 1)) 135 41 (nI 1)) J2) := by
  rw [gX9_doOne N (d2 + 7), sX9_doOne_0 N (d2 + 7), h36, nc_eq rfl]
/-- the reference comes to a step -/
theorem one_open (hM : DM (M0 140) T) (h158 : T 158 ≤ 30) (fL : FLR M0 L) {s dn : Nat} (hs : s < T 158) (hd : dn < 300) (h36 : L 135 36 = nI dn) : am_G am_prog (N + 30) (d2 + 8) 347 [.ref 135, .int (nI s)] (mkh X2 L J2) = if nI (T (159 + 9 * s)) < nI 7 then am_cI (am_G am_prog (N + 30) (d2 + 7) 345 [.ref 135, .int (nI (159 + 9 * s))] (mkh X2 (u2 L 135 36 (nI (dn + 1))) J2)) (KX9_doOne_0 N (d2 + 7) (N + 29) (L 135 37)) else if nI (T (159 + 9 * s)) = nI 7 then am_cI (am_G am_prog (N + 30) (d2 + 7) 346 [.ref 135, .int (nI (159 + 9 * s))] (mkh X2 (u2 L 135 36 (nI (dn + 1))) J2)) (KX9_doOne_1 N (d2 + 7) (N + 29) (nI (T (159 + 9 * s))) (nI (159 + 9 * s)) (nI s)) else RX9_doOne_111 N (d2 + 7) (N + 29) X2 (nI s) (nI (159 + 9 * s)) (nI (T (159 + 9 * s))) (u2 L 135 36 (nI (dn + 1))) J2 := by
  have c0 : L 140 (159 + 9 * s) = nI (T (159 + 9 * s)) := dl_cell hM fL hs 0 (159 + 9 * s) (by omega) (by omega)
  rw [gX9_doOne N (d2 + 7), sX9_doOne_0 N (d2 + 7), h36, nc_ne (by omega) (by omega) (by omega), pk_mul 9 s, nI_add 159 (9 * s), nc_in (by omega) (by omega), nI_clamp (by omega), c0, nI_add dn 1]
end
/-! a step that is no when, loop -/
theorem el_over {N d d2 : Nat} {X X2 : lt_X} {J J2 : Nat → Nat → Int64} {t : Nat} {T : Nat → Nat} {I0 M0 K L : Nat → Nat → Int32} {sz : Nat} (ht : isT t) (e6 : I0 (t + 14) 6 = nI sz) (hsz : sz ≤ 60) (hM : DM (M0 140) T) (h158 : T 158 ≤ 30) {s e p j W f : Nat} (hs : s < e) (he : e ≤ T 158) (hp : p < sz) (hw : I0 (t + 15) p = nI W) (hW : W ≠ 125) (hW2 : W < 1000) (hn : T (167 + 9 * s) < 2 ^ 31) (H : ST0 T t I0 M0 K L 300) (h34 : L 135 34 = nI 0) (hj : j ≤ 100 * 300) (tgt : (Nat → Nat → Int32) → Nat → Nat → am_O) (P : Nat → Prop) : OUTG T t I0 M0 X X2 J J2 (fun z => RX3_play_41 N (d + 5) z X t (nI p) (nI j) K J) (fun z => RX9_doAll_2 N (d2 + 8) z X2 (nI e) (nI s) L J2) (f + 2) tgt P K j 300 0 := by
  obtain ⟨-, b1, b2, fK, fL⟩ := ST0_dn H
  have H1 : ST0 T t I0 M0 (u2 K 132 6 (nI 1)) (u2 (u2 L 135 34 (nI 1)) 135 41 (nI 1)) 300 := ST0_K ht (Or.inr ⟨rfl, rfl⟩) (ST0_L (Or.inr rfl) (ST0_L (Or.inl rfl) H))
  refine OUTG_end (c := 1) H1 (u2_na _ _ _ _ _ (by omega)) (by omega) (u2_at _ _ _ _) (by rw [u2_nk _ _ _ _ _ (by omega), u2_at]) (u2_at _ _ _ _) (by omega) (fun z => play_300 ht e6 fK hp hsz hw hW hW2 (by omega) b1 z) (ev_le (ev_s (g := fun z => RX9_doAll_2 N (d2 + 8) z X2 (nI e) (nI (T (167 + 9 * s))) (u2 (u2 L 135 34 (nI 1)) 135 41 (nI 1)) J2) (fun z => ?_) (ev_0 (fun z => all_over (e := e) (L := u2 (u2 L 135 34 (nI 1)) 135 41 (nI 1)) hn (by omega) (by rw [u2_nk _ _ _ _ _ (by omega), u2_at]) z))) (by omega))
  show RX9_doAll_2 N (d2 + 8) (z + 1) X2 (nI e) (nI s) L J2 = RX9_doAll_2 N (d2 + 8) z X2 (nI e) (nI (T (167 + 9 * s))) _ J2
  rw [all_open hs (by omega) h34, one_300 b2, cV_some, all_next hM h158 (ST0_dn H1).2.2.2.2 (by omega)]
theorem el_does {N d d2 : Nat} {X X2 : lt_X} {J J2 : Nat → Nat → Int64} {t : Nat} {T : Nat → Nat} {I0 M0 K L : Nat → Nat → Int32} {sz : Nat} (ht : isT t) (hN : 100000 ≤ N) (e6 : I0 (t + 14) 6 = nI sz) (hsz : sz ≤ 60) (hM : DM (M0 140) T) (h158 : T 158 ≤ 30) {s p j dn : Nat} (hs : s < T 158) (hp : p < sz) (D : DS (I0 (t + 15)) (I0 (t + 16)) (I0 (t + 17)) (I0 (t + 18)) T s p) (h9 : T (159 + 9 * s) < 7) (H : ST0 T t I0 M0 K L dn) (hd : dn < 300) (hj : j ≤ 100 * dn) (h6 : K 132 6 = nI 0) (h34 : L 135 34 = nI 0) (h41 : L 135 41 = nI 0) : ∃ K1 L1, ST0 T t I0 M0 K1 L1 (dn + 1) ∧ K1 133 = K 133 ∧ K1 132 6 = nI 0 ∧ L1 135 34 = nI 0 ∧ L1 135 41 = nI 0 ∧ am_G am_prog (N + 30) (d2 + 8) 347 [.ref 135, .int (nI s)] (mkh X2 L J2) = some (.null, mkh X2 L1 J2) ∧ ∀ B R, ev (fun z => RX3_play_41 N (d + 5) z X t (nI (p + 1)) (nI (j + 1)) K1 J) B R → ev (fun z => RX3_play_41 N (d + 5) z X t (nI p) (nI j) K J) (B + 2) R := by
  obtain ⟨-, b1, b2, fK, fL⟩ := ST0_dn H
  have H1 := ST0_up ht hd H
  obtain ⟨-, -, -, fK1, fL1⟩ := ST0_dn H1
  obtain ⟨U, r, ms, hs', gl, dd, S, C, R1, -, -⟩ := id H1
  obtain ⟨U0, r0, ms0, hs0, gl0, dd0, S0, C0, R0, -, -⟩ := id H
  have htt := ht
  unfold isT at htt
  -- the same numbers on both sides of the count
  have eU : hs' ≤ 48 * 301 := by have := S.2.2.2.2.2.2.1; omega
  have c0 : ∀ i m, i < 9 → m = 159 + i + 9 * s → u2 L 135 36 (nI (dn + 1)) 140 (159 + 9 * s + i) = nI (T m) := fun i m hi hm => dl_cell hM fL1 hs i m hi hm
  have kk : ∀ i, 14 ≤ i → i < 20 → u2 K 132 2 (nI (dn + 1)) (t + i) = I0 (t + i) := fun i h1 h2 => dl_FK ht fK1 h1 h2
  have ag : ∀ i, i < 4 → U i = T i := fun i hi => S.2.2.1 i (by omega)
  obtain ⟨W, hW, hW1, hW2, hst⟩ : ∃ W, I0 (t + 15) p = nI W ∧ W ≠ 125 ∧ W < 121 ∧ (∀ (r ms hs' gl dd : Nat) (U : Nat → Nat), CLV t (u2 K 132 2 (nI (dn + 1))) U r (dn + 1) ms hs' dd → RLV (u2 L 135 36 (nI (dn + 1))) U r (dn + 1) ms hs' gl dd → LFS T U r (dn + 1) ms hs' gl dd → hs' + 48 ≤ 48 * (dn + 1) → (∀ i, i < 4 → U i = T i) → STP T (am_G am_prog (N + 30) (d + 5) 39 [.ref 132, .ref t, .int (nI p)] (mkh X (u2 K 132 2 (nI (dn + 1))) J)) (am_G am_prog (N + 30) (d2 + 7) 345 [.ref 135, .int (nI (159 + 9 * s))] (mkh X2 (u2 L 135 36 (nI (dn + 1))) J2)) X X2 t (u2 K 132 2 (nI (dn + 1))) (u2 L 135 36 (nI (dn + 1))) J J2 (dn + 1) ms) := by
    have cz : u2 L 135 36 (nI (dn + 1)) 140 (159 + 9 * s) = nI (T (159 + 9 * s)) := c0 0 (159 + 9 * s) (by omega) (by omega)
    rcases D with ⟨q, x1, x2, x3, x4⟩ | ⟨q, x1, x2, x3, x4⟩ | ⟨q, x1, x2, x3, x4, x5, x6, x7⟩ | ⟨q, x1, x2, x3, x4, x5⟩ | ⟨q, x1, x2, x3⟩ | ⟨q, x1, x2, x3⟩ | ⟨q, x1⟩ | ⟨q, x1⟩
    · exact ⟨113, x1, by omega, by omega, fun r ms hs' gl dd U C R S h48 ag => st_hour ht C R S h48 (by omega) (by omega) (by omega) (by rw [kk 15 (by omega) (by omega)]; exact x1) (by rw [kk 18 (by omega) (by omega)]; exact x2) (by rw [cz, q]) (c0 1 _ (by omega) (by omega)) x3 x4⟩
    · exact ⟨114, x1, by omega, by omega, fun r ms hs' gl dd U C R S h48 ag => st_year ht C R S h48 (by omega) (by omega) (by omega) (by rw [kk 15 (by omega) (by omega)]; exact x1) (by rw [kk 18 (by omega) (by omega)]; exact x2) (by rw [cz, q]) (c0 1 _ (by omega) (by omega)) x3 x4⟩
    · exact ⟨115, x1, by omega, by omega, fun r ms hs' gl dd U C R S h48 ag => st_sell ht C R S h48 (by omega) (by omega) (by omega) (by rw [kk 15 (by omega) (by omega)]; exact x1) (by rw [kk 16 (by omega) (by omega)]; exact x2) (by rw [kk 17 (by omega) (by omega)]; exact x3) (by rw [kk 18 (by omega) (by omega)]; exact x4) (by rw [cz, q]) (c0 1 _ (by omega) (by omega)) (c0 2 _ (by omega) (by omega)) (c0 3 _ (by omega) (by omega)) (by rw [ag 3 (by omega)]; exact x5) (by rw [ag 2 (by omega)]; exact x6) x7⟩
    · exact ⟨116, x1, by omega, by omega, fun r ms hs' gl dd U C R S h48 ag => st_give ht C R S h48 (by omega) (by omega) (by omega) (by rw [kk 15 (by omega) (by omega)]; exact x1) (by rw [kk 16 (by omega) (by omega)]; exact x2) (by rw [kk 17 (by omega) (by omega)]; exact x3) (by rw [cz, q]) (c0 1 _ (by omega) (by omega)) (c0 2 _ (by omega) (by omega)) (by rw [ag 3 (by omega)]; exact x4) (by rw [ag 2 (by omega)]; exact x5)⟩
    · exact ⟨117, x1, by omega, by omega, fun r ms hs' gl dd U C R S h48 ag => st_cold ht C R S h48 (by omega) (by omega) (by omega) (by rw [kk 15 (by omega) (by omega)]; exact x1) (by rw [kk 16 (by omega) (by omega)]; exact x2) (by rw [cz, q]) (c0 1 _ (by omega) (by omega)) (by rw [ag 1 (by omega)]; exact x3)⟩
    · exact ⟨118, x1, by omega, by omega, fun r ms hs' gl dd U C R S h48 ag => st_well ht C R S h48 (by omega) (by omega) (by omega) (by rw [kk 15 (by omega) (by omega)]; exact x1) (by rw [kk 16 (by omega) (by omega)]; exact x2) (by rw [cz, q]) (c0 1 _ (by omega) (by omega)) (by rw [ag 1 (by omega)]; exact x3)⟩
    · exact ⟨119, x1, by omega, by omega, fun r ms hs' gl dd U C R S h48 ag => st_any ht C R S h48 (by omega) (by omega) (by omega) (by rw [kk 15 (by omega) (by omega)]; exact x1) (by rw [cz, q])⟩
    · omega
  -- the numbers of the state ahead are those behind the count
  have S1 : LFS T U0 r0 (dn + 1) ms0 hs0 gl0 dd0 := by
    obtain ⟨s1, s2, s3, s4, s5, s6, s7, s8, s9⟩ := S0
    exact ⟨s1, s2, s3, s4, by omega, by omega, by omega, s8, s9⟩
  have C1 : CLV t (u2 K 132 2 (nI (dn + 1))) U0 r0 (dn + 1) ms0 hs0 dd0 := by
    obtain ⟨c1, c2, c3, c4, c5, c6⟩ := C0
    exact ⟨TC_frame (fun a _ _ => u2_na _ _ _ _ _ (by omega)) c1, by rw [u2_nk _ _ _ _ _ (by omega)]; exact c2, u2_at _ _ _ _, by rw [u2_nk _ _ _ _ _ (by omega)]; exact c4, by rw [u2_nk _ _ _ _ _ (by omega)]; exact c5, by rw [u2_nk _ _ _ _ _ (by omega)]; exact c6⟩
  have R2 : RLV (u2 L 135 36 (nI (dn + 1))) U0 r0 (dn + 1) ms0 hs0 gl0 dd0 := by
    obtain ⟨r1, r2, r3, r4, r5, r6, r7⟩ := R0
    exact ⟨by rw [u2_na _ _ _ _ _ (by omega)]; exact r1, by rw [u2_nk _ _ _ _ _ (by omega)]; exact r2, u2_at _ _ _ _, by rw [u2_nk _ _ _ _ _ (by omega)]; exact r4, by rw [u2_nk _ _ _ _ _ (by omega)]; exact r5, by rw [u2_nk _ _ _ _ _ (by omega)]; exact r6, by rw [u2_nk _ _ _ _ _ (by omega)]; exact r7⟩
  obtain ⟨b, V, r', hs2, gl2, dd2, K2, L2, hb, S2, oc, g1, C2, om, g2, R3⟩ := hst r0 ms0 hs0 gl0 dd0 U0 C1 R2 S1 (by have := S0.2.2.2.2.2.2.1; omega) (fun i hi => S0.2.2.1 i (by omega))
  have m0 := S0.2.2.2.2.2.1
  have e37 : L 135 37 = nI ms0 := R0.2.2.2.1
  have e3 : u2 K 132 2 (nI (dn + 1)) 132 3 = nI ms0 := by rw [u2_nk _ _ _ _ _ (by omega)]; exact C0.2.2.2.1
  -- misses
  generalize hmx : (if b = 0 then 1 else 0) = mx
  have hmx1 : mx ≤ 1 := by rw [← hmx]; split <;> omega
  refine ⟨u2 K2 132 3 (nI (ms0 + mx)), u2 L2 135 37 (nI (ms0 + mx)), ⟨V, r', ms0 + mx, hs2, gl2, dd2, ?_, ?_, ?_, ?_, ?_⟩, ?_, ?_, ?_, ?_, ?_, ?_⟩
  · obtain ⟨s1, s2, s3, s4, s5, s6, s7, s8, s9⟩ := S2
    exact ⟨s1, s2, s3, s4, s5, by omega, s7, s8, s9⟩
  · obtain ⟨c1, c2, c3, c4, c5, c6⟩ := C2
    exact ⟨TC_frame (fun a _ _ => u2_na _ _ _ _ _ (by omega)) c1, by rw [u2_nk _ _ _ _ _ (by omega)]; exact c2, by rw [u2_nk _ _ _ _ _ (by omega)]; exact c3, u2_at _ _ _ _, by rw [u2_nk _ _ _ _ _ (by omega)]; exact c5, by rw [u2_nk _ _ _ _ _ (by omega)]; exact c6⟩
  · obtain ⟨r1, r2, r3, r4, r5, r6, r7⟩ := R3
    exact ⟨by rw [u2_na _ _ _ _ _ (by omega)]; exact r1, by rw [u2_nk _ _ _ _ _ (by omega)]; exact r2, by rw [u2_nk _ _ _ _ _ (by omega)]; exact r3, u2_at _ _ _ _, by rw [u2_nk _ _ _ _ _ (by omega)]; exact r5, by rw [u2_nk _ _ _ _ _ (by omega)]; exact r6, by rw [u2_nk _ _ _ _ _ (by omega)]; exact r7⟩
  · intro a y1 y2 y3
    rw [u2_na _ _ _ _ _ y2, g1.1 a y1 y2]; exact fK1 a y1 y2 y3
  · refine ⟨fun a y1 y2 => ?_, fun k hk => ?_, fun k hk => ?_⟩
    · rw [u2_na _ _ _ _ _ y2, g2.1 a y1 y2]; exact fL1.1 a y1 y2
    · rw [u2_na _ _ _ _ _ (by omega), g2.2.1 k hk]; exact fL1.2.1 k hk
    · rw [u2_nk _ _ _ _ _ (by omega), g2.2.2 k (by omega)]; exact fL1.2.2 k hk
  · rw [u2_na _ _ _ _ _ (by omega), g1.1 133 (by omega) (by omega), u2_na _ _ _ _ _ (by omega)]
  · rw [u2_nk _ _ _ _ _ (by omega), g1.2, u2_nk _ _ _ _ _ (by omega)]; exact h6
  · rw [u2_nk _ _ _ _ _ (by omega), g2.2.2 34 (by omega), u2_nk _ _ _ _ _ (by omega)]; exact h34
  · rw [u2_nk _ _ _ _ _ (by omega), g2.2.2 41 (by omega), u2_nk _ _ _ _ _ (by omega)]; exact h41
  · rw [one_open hM h158 fL hs hd b2, nc_lt h9 (by omega), om, cI_some, kX9_doOne_0 N (d2 + 7), e37]
    by_cases b0 : b = 0
    · rw [nc_eq b0, nI_add, ← hmx, if_pos b0]
    · rw [nc_ne b0 (by omega) (by omega), nI_add, ← hmx, if_neg b0]
  · intro B R e
    refine ev_s (g := fun z => RX3_play_145 N (d + 5) z X t (nI p) (nI j) (u2 K 132 2 (nI (dn + 1))) J) (fun z => ?_) (ev_s (fun z => ?_) e)
    · show RX3_play_41 N (d + 5) (z + 1) X t (nI p) (nI j) K J = _
      rw [play_open ht e6 fK hp hsz hW hW1 (by omega) (by omega) b1 hd z, nc_ne (by omega) (by omega) (by omega), nc_lt hW2 (by omega)]
    · show RX3_play_145 N (d + 5) (z + 1) X t (nI p) (nI j) (u2 K 132 2 (nI (dn + 1))) J = RX3_play_41 N (d + 5) z X t (nI (p + 1)) (nI (j + 1)) (u2 K2 132 3 (nI (ms0 + mx))) J
      rw [sX3_play_145 N (d + 5) z ht, oc, cI_some, kX3_play_2 N (d + 5) z ht, e3, nI_add p 1, nI_add j 1]
      by_cases b0 : b = 0
      · rw [nc_eq b0, nI_add, ← hmx, if_pos b0]
      · rw [nc_ne b0 (by omega) (by omega), nI_add, ← hmx, if_neg b0]
