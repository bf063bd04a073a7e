/-! texts: dials; a step with all within it -/
section
variable {N d e : Nat} {X X2 : lt_X} {f : Nat → Int32} {n : Nat} {T : Nat → Nat}
theorem j_step (hn : n ≤ 900) (hB : ∀ k, k < n → isB (f k)) (hN : 10000 ≤ N) (hX : hsX X) (hD : X.2.2.2.2 = some X.2.1) : ∀ j l, l + j = 3 → ∀ {q s p : Nat} {I M : Nat → Nat → Int32} {J L : Nat → Nat → Int64}, JD f n T X.2.1 q l s p I J M L → ¬ trm l (tkK f n q) → SO f n T X X2 N d q l s p I J M L (am_G am_prog (N + 30) (e + j + 9) 256 [.ref 135, .int (nI l)] (mkh X2 M L)) := by
  have hX0 := hX
  obtain ⟨ht, htt⟩ := hX_H hX
  -- a step that isn't a block, and faults: at any depth
  have base : ∀ j l {q s p : Nat} {I M : Nat → Nat → Int32} {J L : Nat → Nat → Int64}, l ≤ 3 → JD f n T X.2.1 q l s p I J M L → ¬ trm l (tkK f n q) → SO f n T X X2 N d q l s p I J M L (am_G am_prog (N + 30) (e + j + 9) 256 [.ref 135, .int (nI l)] (mkh X2 M L)) ∨
      (∃ k r K Y V P, isBk k ∧ q < r ∧ s < 30 ∧ tkK f n q ≠ 0 ∧ RND N d X q 1 I J (fun z i => RX2_readsFor_19 N (d + 5) z X (nI (i + 1)) K Y) ∧ am_G am_prog (N + 30) (e + j + 9) 256 [.ref 135, .int (nI l)] (mkh X2 M L) = RX9_readStep_142 N (e + j + 8) (N + 26) X2 (nI l) (nI 1) (nI (1875 + 9 * s)) V P ∧ JD f n T X.2.1 r (l + 1) (s + 1) (p + 1) K Y V P ∧ DI p l I K ∧ DJ J Y ∧ DV s M V ∧ FTL L P ∧ K 125 l = nI p ∧ QB T s p K V (K 123 p)) := by
    intro j l q s p I M J L hl H hnt
    obtain ⟨hs, hq⟩ := JD_le H
    have hC := H.2.2.2.2.2.1
    have hR := H.2.2.2.2.2.2.2.2.2.2.2.1
    have h12 := H.2.2.2.2.2.2.2.2.2.2.2.2.1
    have h3 := H.2.2.2.2.2.2.2.2.1
    by_cases k0 : tkK f n q = 0
    · left; left
      have l0 : 0 < l := by
        by_cases g : l = 0
        · exact absurd (Or.inl ⟨g, k0⟩) hnt
        · omega
      have fb := fkd_b f n q
      refine ⟨_, _, _, _, 2, by omega, rnd_0 hn hX hq hC k0 l0 hl h3, m_nost (e := e + j) hR h12 (by rw [k0]; unfold isSt; omega) (nI l), ?_⟩
      exact ⟨fkd f n q, tkS f n q, q, fb.1, by omega, by rw [u2_nk _ _ _ _ _ (by omega), u2_at], u2_at _ _ _ _, flt_12 _ _ _, flt_13 _ _ _, RT_flt _ _ hR, ⟨fun a g1 g2 => by rw [u2_na _ _ _ _ _ g1, u2_na _ _ _ _ _ g1, u2_na _ _ _ _ _ (by omega)], fun _ _ _ _ h => absurd h (by omega), fun _ h => absurd h (by omega)⟩, DJ_0 _, DV_flt (DV_0 _ _) _ _, FTL_0 _⟩
    · rcases j_head (N := N) (d := d) (e := e + j) (X := X) (X2 := X2) hn hB hN hX hD H (fun h => hnt (Or.inr ⟨h.2, h.1⟩)) with ⟨K, Y, V, P, c1, c2, F⟩ | ⟨k, r, K, Y, V, P, hr, hs3, c1, c2, hJ, gI, gJ, gM, gL, hb, hnb⟩
      · exact Or.inl (Or.inl ⟨K, Y, V, P, 1, by omega, rnd_f hn hX hq hC k0 c1, c2, F⟩)
      · by_cases k1 : isBk k
        · right
          rw [show bk k = 1 from if_pos k1] at c2 hJ
          exact ⟨k, r, K, Y, V, P, k1, hr, hs3, k0, rnd_1 hn hX hq hC k0 c1, c2, hJ, gI, gJ, gM, gL, (hb k1).1, (hb k1).2⟩
        · left; right
          rw [show bk k = 0 from if_neg k1] at c2 hJ
          have v25 : V 135 25 = nI (s + 1) := hJ.2.2.2.2.2.2.2.2.2.2.2.2.2.1
          rw [sX9_readStep_142 N (e + j + 8) (N + 25), nc_eq rfl, sX9_readStep_170 N (e + j + 8) (N + 24), nc_eq rfl, w_8, nc_in (by omega) (by omega), nI_clamp (by omega), v25] at c2
          have hT : ∀ i, i < 167 + 9 * s → TV T (u2 V 140 (1883 + 9 * s) (nI (s + 1))) i = TV T V i := fun i hi => TV_eq (fun _ => u2_nk _ _ _ _ _ (by omega))
          obtain ⟨j1, j2, j3, j4, j5, j6, j7, j8, j9, j10, j11, j12, j13, j14, n1, n2, n3, n4⟩ := hJ
          refine ⟨r, s + 1, p + 1, K, Y, _, P, 1, hr, by omega, rnd_1 hn hX hq hC k0 c1, c2, ⟨j1, j2, j3, j4, j5, j6, j7, j8, j9, j10, j11, RT_o (by omega) (by omega) j12, by rw [u2_na _ _ _ _ _ (by omega)]; exact j13, by rw [u2_na _ _ _ _ _ (by omega)]; exact j14, n1, n2, fun i hi => by rw [u2_nk _ _ _ _ _ (by omega)]; exact n3 i hi, n4⟩, gI, gJ, DV_u (by omega) gM, gL, by omega, Or.inl ⟨rfl, rfl, ?_, TV_at (by omega) (by omega) (by rw [show 1716 + (167 + 9 * s) = 1883 + 9 * s by omega, u2_at])⟩⟩
          exact DS_loc rfl rfl rfl rfl (fun i hi => hT i (by omega)) (fun i hi => hT _ (by omega)) (hnb k1)
  intro j
  induction j with
  | zero =>
    intro l hl q s p I M J L H hnt
    rcases base 0 l (by omega) H hnt with S | ⟨k, r, K, Y, V, P, k1, hr, hs3, k0, c1, c2, hJ, -⟩
    · exact S
    · have := hJ.2.1; omega
  | succ j ih =>
    intro l hl q s p I M J L H hnt
    rcases base (j + 1) l (by omega) H hnt with S | ⟨k, r, K, Y, V, P, k1, hr, hs3, k0, c1, c2, hJ, gI, gJ, gM, gL, e125, eQ⟩
    · exact S
    · have hq := H.1
      have hrn := hJ.1
      have S := j_seq (N := N) (d := d) (e := e + j) (X := X) (X2 := X2) (f := f) (n := n) (T := T) (l := l + 1) (run := fun z M L => RX9_readStep_142 N (e + (j + 1) + 8) z X2 (nI l) (nI 1) (nI (1875 + 9 * s)) M L) (done := fun z M L => RX9_readStep_170 N (e + (j + 1) + 8) z X2 (nI 1) (nI (1875 + 9 * s)) M L) (kk := fun z => KX9_readStep_9 N (e + (j + 1) + 8) z (nI l) (nI 1) (nI (1875 + 9 * s))) hn hB hN hX hD (fun H h => ih (l + 1) (by omega) H h) (fun z q M L hR h12 ht => ?_) (fun z q b M L hR h12 h0 h8 => ?_) (fun z q M L hR h12 ht => ?_) (fun z V P => ?_) n r (by omega) hJ (N + 24 - n)
      · rw [show N + 24 - n + n + 2 = N + 26 by omega] at S
        rcases S with ⟨K2, Y2, V2, P2, c', d1, d2, ⟨y, d3⟩, F⟩ | ⟨r2, s2, p2, K2, Y2, V2, P2, c', g1, g2, g3, ⟨y, g4⟩, g5, g6, kI, kJ, kM, kL, kD⟩
        · left
          have F2 := FD_t gI gJ gM gL F
          obtain ⟨b, a, u, b0, b8, -, -, f3, -, f5, -⟩ := F
          have d3' : RX9_readStep_142 N (e + (j + 1) + 8) (N + 26) X2 (nI l) (nI 1) (nI (1875 + 9 * s)) V P = RX9_readStep_170 N (e + (j + 1) + 8) (N + 24 - n + y - 1 + 1) X2 (nI 1) (nI (1875 + 9 * s)) V2 P2 := by
            rw [d3, show N + 24 - n + y - 1 + 1 = N + 24 - n + y by omega]
          rw [d3', st170_b (e := e + (j + 1)) f5 f3 b0 (by omega) hs3] at c2
          refine ⟨K2, Y2, _, P2, c' + 1, by omega, fun z i hi => ?_, c2, FD_u (by omega) F2⟩
          have e1 := c1 (z + c') i hi
          have e2 := d2 z (i + 1) (by omega)
          rw [show z + (c' + 1) = z + c' + 1 by omega]
          exact e1.trans e2
        · have t125 : tkK f n r2 = 125 := by
            rcases g6 with ⟨h, _⟩ | ⟨_, h⟩
            · omega
            · exact h
          obtain ⟨D1, D2, D3⟩ := kD
          have e125' : K2 125 l = nI p := by rw [kI.2.2 l (by omega)]; exact e125
          have g4' : RX9_readStep_142 N (e + (j + 1) + 8) (N + 26) X2 (nI l) (nI 1) (nI (1875 + 9 * s)) V P = RX9_readStep_170 N (e + (j + 1) + 8) (N + 24 - n + y - 1 + 1) X2 (nI 1) (nI (1875 + 9 * s)) V2 P2 := by
            rw [g4, show N + 24 - n + y - 1 + 1 = N + 24 - n + y by omega]
          have gI2 : DI p l I K2 := DI_t (by omega) (by omega) gI kI
          have gM2 : DV s M V2 := DV_t (by omega) gM kM
          rcases j_end (N := N) (d := d) (e := e + (j + 1)) (X := X) (X2 := X2) (p0 := p) (s0 := s) hn hB hN hX hD g5 t125 (by omega) (by omega) e125' (N + 24 - n + y - 1) with ⟨K3, Y3, V3, P3, d1, d2, F⟩ | ⟨r3, K3, Y3, V3, P3, h1, d1, d2, hJ3, hJ3', hL3, a1, a2, a3, a4, a5, w1, w2, w3, w4⟩
          · left
            rw [g4', d2] at c2
            have c3 := rnd_f (d := d) hn hX g5.1 g5.2.2.2.2.2.1 (by omega) d1
            refine ⟨K3, Y3, V3, P3, 1 + c' + 1, by have := g5.1; omega, fun z i hi => ?_, c2, FD_t gI2 (DJ_t gJ kJ) gM2 (FTL_t gL kL) F⟩
            have e1 := c1 (z + 1 + c') i hi
            have e2 := g3 (z + 1) (i + 1) (by omega)
            have e3 := c3 z (i + 1 + c') (by omega)
            rw [show z + (1 + c' + 1) = z + 1 + c' + 1 by omega]
            exact (e1.trans e2).trans e3
          · right
            rw [g4', d2] at c2
            have c3 := rnd_1 (d := d) hn hX g5.1 g5.2.2.2.2.2.1 (by omega) d1
            have gI3 : DI p l I K3 := DI_t (Nat.le_refl p) (Nat.le_refl l) gI2 ⟨fun a g1 g2 => a1 a g1 (by omega), fun a i g1 g2 g3 => a2 a i g1 g2 (by omega) (fun _ => by omega), fun i hi => by rw [a1 125 (by omega) (by omega)]⟩
            have gM3 : DV s M V3 := DV_t (Nat.le_refl s) gM2 ⟨w1, fun k hk => w2 k (by omega), fun k g1 _ => w4 k g1⟩
            have tv : ∀ i, i ≠ 167 + 9 * s → TV T V3 i = TV T V2 i := fun i hi => TV_eq (fun _ => w2 _ (by omega))
            refine ⟨r3, s2, p2 + 1, K3, Y3, V3, P3, 1 + c' + 1, by omega, by omega, fun z i hi => ?_, c2, hJ3, gI3, DJ_t (DJ_t gJ kJ) hJ3', gM3, FTL_t (FTL_t gL kL) hL3, by omega, Or.inr ⟨p2, by omega, rfl, ?_, TV_at (by omega) (by have := hJ3.2.2.1; omega) (by rw [show 1716 + (167 + 9 * s) = 1883 + 9 * s by omega]; exact w3), by omega, a3, a4, a5, ?_⟩⟩
            · have e1 := c1 (z + 1 + c') i hi
              have e2 := g3 (z + 1) (i + 1) (by omega)
              have e3 := c3 z (i + 1 + c') (by omega)
              show RX2_readsFor_19 N (d + 5) (z + (1 + c' + 1)) X (nI i) I J = RX2_readsFor_19 N (d + 5) z X (nI (i + (1 + c' + 1))) K3 Y3
              rw [show z + (1 + c' + 1) = z + 1 + c' + 1 by omega, show i + (1 + c' + 1) = i + 1 + c' + 1 by omega]
              exact (e1.trans e2).trans e3
            · have ka : ∀ a, 120 ≤ a → a ≤ 123 → K3 a p = K a p := fun a g1 g2 => by rw [a2 a p g1 (by omega) (by omega) (fun h => by omega), kI.2.1 a p g1 (by omega) (by omega)]
              exact DB_loc (ka 120 (by omega) (by omega)) (ka 121 (by omega) (by omega)) (ka 122 (by omega) (by omega)) (ka 123 (by omega) (by omega)) (fun i hi => by rw [tv i (by omega), TV_4 hi, TV_4 hi]) (fun i hi => by rw [tv _ (by omega)]; exact TV_eq (fun _ => kM.2.1 _ (by omega))) eQ
            · exact DLs_loc (fun a i h1 h2 h3 h4 => a2 a i h1 h2 (by omega) (fun _ => by omega)) (fun i h1 h2 => w2 i (by omega)) ⟨D1, D2, D3⟩
      · show RX9_readStep_142 N (e + (j + 1) + 8) (z + 1) X2 (nI l) (nI 1) (nI (1875 + 9 * s)) M L = RX9_readStep_170 N (e + (j + 1) + 8) z X2 (nI 1) (nI (1875 + 9 * s)) M L
        have t125 : tkK f n q = 125 := by
          rcases ht with ⟨h, _⟩ | ⟨_, h⟩
          · omega
          · exact h
        rw [sX9_readStep_142 N (e + (j + 1) + 8) z, nc_ne (by omega) (by omega) (by omega), h12, nc_eq rfl, c9_isEnd (d := e + (j + 1) + 6) hR, cI_some, kX9_readStep_4 N (e + (j + 1) + 8), nc_10, if_pos t125]
      · show RX9_readStep_142 N (e + (j + 1) + 8) (z + 1) X2 (nI l) (nI 1) (nI (1875 + 9 * s)) M L = RX9_readStep_170 N (e + (j + 1) + 8) z X2 (nI 1) (nI (1875 + 9 * s)) M L
        rw [sX9_readStep_142 N (e + (j + 1) + 8) z, nc_ne (by omega) (by omega) (by omega), h12, nc_ne (by omega) (by omega) (by omega)]
      · show RX9_readStep_142 N (e + (j + 1) + 8) (z + 1) X2 (nI l) (nI 1) (nI (1875 + 9 * s)) M L = _
        have t125 : tkK f n q ≠ 125 := fun h => ht (Or.inr ⟨by omega, h⟩)
        rw [sX9_readStep_142 N (e + (j + 1) + 8) z, nc_ne (by omega) (by omega) (by omega), h12, nc_eq rfl, c9_isEnd (d := e + (j + 1) + 6) hR, cI_some, kX9_readStep_4 N (e + (j + 1) + 8), nc_10, if_neg t125, nI_add l 1, show e + (j + 1) + 8 + 0 = e + j + 9 by omega]
      · show KX9_readStep_9 N (e + (j + 1) + 8) z (nI l) (nI 1) (nI (1875 + 9 * s)) (mkh X2 V P) = RX9_readStep_142 N (e + (j + 1) + 8) z X2 (nI l) (nI 1) (nI (1875 + 9 * s)) V P
        rw [kX9_readStep_9 N (e + (j + 1) + 8)]
end
