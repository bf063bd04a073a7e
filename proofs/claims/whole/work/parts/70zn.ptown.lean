/-! texts: town -/
theorem INV_rd {xs : Nat → Int32} {X X2 : lt_X} {I M : Nat → Nat → Int32} {J L : Nat → Nat → Int64} (H : INV xs X I J) (hX2 : hsX X2) (h1 : ∀ a, a ≠ 3 → a ≠ 135 → a ≠ 140 → ¬ (14 ≤ a ∧ a < 55) → ¬ (115 ≤ a ∧ a ≤ 125) → M a = I a) (h2 : ∀ k, k ≠ 2 → k ≠ 14 → k ≠ 15 → M 3 k = I 3 k) (h3 : ∀ k, k = 23 ∨ k = 33 → M 135 k = I 135 k) (h4 : ∀ k, 429 ≤ k → k < 1716 → M 140 k = I 140 k) (h5 : M 3 2 = nI 0 ∧ M 135 8 = nI 0) (h6 : M 3 14 = nI 1) (h7 : M 115 10 = M 135 10 ∧ M 115 11 = M 135 11) (g1 : ∀ a, a ≠ 115 → a ≠ 135 → a ≠ 142 → ¬ (14 ≤ a ∧ a < 55) → L a = J a) (g2 : ∀ k, k ≠ 19 → L 135 k = J 135 k) (g3 : ∀ k, 24 ≤ k → k < 96 → L 142 k = J 142 k) (hs : M 3 15 = M 135 0) (hT : TW M L X2.2.1 0) : INV xs X2 M L := by
  obtain ⟨hX, a1, a2, a3, a4, a5, a6, a7, a8, a9, a10⟩ := H
  refine ⟨hX2, ?_, hT, ?_, ?_, ⟨0, by omega, h5.1, h5.2, fun k hk => absurd hk (by omega)⟩, Or.inr ⟨h6, h7.1, h7.2⟩, ?_, ?_, ?_, hs⟩
  · rw [h1 1 (by omega) (by omega) (by omega) (by omega) (by omega)]; exact a1
  · obtain ⟨m, b1, b2, b3, b4⟩ := a3
    refine ⟨m, b1, by rw [h2 6 (by omega) (by omega) (by omega)]; exact b2, by rw [h3 23 (by omega)]; exact b3, fun j hj => ?_⟩
    exact TW_frame (fun a c1 c2 => h1 a (by omega) (by omega) (by omega) (by omega) (by omega)) (fun k hk => h4 _ (by omega) (by omega)) (fun k hk => by rw [g1 _ (by omega) (by omega) (by omega) (by omega)]) (fun k hk => g3 _ (by omega) (by omega)) (b4 j hj)
  · intro i hi
    rw [h1 (5 + 2 * i) (by omega) (by omega) (by omega) (by omega) (by omega), h1 136 (by omega) (by omega) (by omega) (by omega) (by omega), h1 137 (by omega) (by omega) (by omega) (by omega) (by omega), g1 (6 + 2 * i) (by omega) (by omega) (by omega) (by omega), g1 138 (by omega) (by omega) (by omega) (by omega)]
    exact a4 i hi
  · unfold LVD
    rw [h2 13 (by omega) (by omega) (by omega), h3 33 (by omega), h1 134 (by omega) (by omega) (by omega) (by omega) (by omega), h1 146 (by omega) (by omega) (by omega) (by omega) (by omega)]; exact a7
  · unfold FRC
    rw [g1 3 (by omega) (by omega) (by omega) (by omega), g2 2 (by omega), g2 3 (by omega)]; exact a8
  · intro k hk
    rw [g1 116 (by omega) (by omega) (by omega) (by omega)]; exact a9 k hk
theorem JS_0 {m : Nat} {X : lt_X} {I K M V : Nat → Nat → Int32} {J L Y P : Nat → Nat → Int64} (c : CS m X I K J Y) (r : RS (I 13) m M V L P) : JS (I 13) m X.2.2.1 0 emT 0 K Y V P := by
  obtain ⟨c1, c2, c3, c4, c5, -⟩ := c
  obtain ⟨r1, r2, r3, r4, r5, -⟩ := r
  exact ⟨by omega, by omega, emT_WF, emT_frsh, c1, c2, c4, c5, r1, r2, r3, r4, r5, fun k i hk hi => by rw [emT_ne (by omega)] at hi; omega, c3⟩
theorem FLD_gI {f : Nat → Int32} {n sp : Nat} {I K M V : Nat → Nat → Int32} {J L Y P : Nat → Nat → Int64} (H : FLD f n sp I J M L K Y V P) : GI sp I K := by
  obtain ⟨b, s, p, f0, f8, f1, f2, f3, f4, f5, gI, -⟩ := H
  exact gI
theorem x_nat {x : Int32} {t : Nat} (h0 : ¬ x < nI 0) (h1 : ¬ nI t < x) (ht : t < 2 ^ 31) : ∃ m, m ≤ t ∧ x = nI m := by
  rw [lt_nI (by omega)] at h0
  rw [nI_lt' ht] at h1
  obtain ⟨j, hj⟩ : ∃ j : Nat, x.toInt = j := ⟨x.toInt.toNat, by omega⟩
  refine ⟨j, by omega, ?_⟩
  apply Int32.toInt_inj.mp
  rw [nI_toInt (by omega), hj]
theorem p_town {xs : Nat → Int32} {N d : Nat} {X : lt_X} {I : Nat → Nat → Int32} {J : Nat → Nat → Int64} (H : INV xs X I J) (hN : 100000 ≤ N) (x : Int32) : PR xs N d X I J 122 253 [.int x] := by
  have hX := H.1
  have hK := H.2.2.2.2.2.2.2.2.2.1
  obtain ⟨ht, htt⟩ := hX_T hX
  have hee : X.2.1 = 14 ∧ X.2.2.1 = 34 ∨ X.2.1 = 34 ∧ X.2.2.1 = 14 := hX
  obtain ⟨t, t9, t1, t2, t3⟩ := H.2.2.2.2.2.1
  by_cases x0 : x < nI 0
  · refine PR_tells H (.int (-1)) (nI 5) (CR_st ?_) (fun K hK => MR_2 (a := nI 0) (b := nI 0) ?_)
    · rw [gX8_town N (d + 38), sX8_town_0 N (d + 38) _ hX]
      rw [if_pos x0]
    · rw [gX9_town N (d + 39), sX9_town_0 N (d + 39)]
      rw [gX9_starts N (d + 37), sX9_starts_0 N (d + 37), if_pos x0, cI_some, kX9_town_0 N (d + 39), nc_eq rfl]
  by_cases x1 : nI t < x
  · refine PR_tells H (.int (-1)) (nI 5) (CR_st ?_) (fun K hK => MR_2 (a := nI 0) (b := nI 0) ?_)
    · rw [gX8_town N (d + 38), sX8_town_0 N (d + 38) _ hX]
      rw [if_neg x0, t1, if_pos x1]
    · rw [gX9_town N (d + 39), sX9_town_0 N (d + 39)]
      rw [gX9_starts N (d + 37), sX9_starts_0 N (d + 37), if_neg x0, u2_nk _ _ _ _ _ (by omega), u2_nk _ _ _ _ _ (by omega), hK 135 (by omega) (by omega), t2, if_pos x1, cI_some, kX9_town_0 N (d + 39), nc_eq rfl]
  obtain ⟨m, hm, rfl⟩ : ∃ m, m ≤ t ∧ x = nI m := x_nat x0 x1 (by omega)
  have hm9 : m ≤ 900 := by omega
  have hB : ∀ k, k < m → isB (I 13 k) := fun k hk => (t3 k (by omega)).2
  have h139 : ∀ k, k < m → I 139 k = I 13 k := fun k hk => (t3 k (by omega)).1.symm
  obtain ⟨K, Y, cl, cs⟩ := c_start (N := N) (d := d) (J := J) hX hm9 hB (by omega) hK t9 t1 hm
  have both : ∀ (X2 : lt_X) {M : Nat → Nat → Int32} {L : Nat → Nat → Int64}, M 135 8 = nI t → (∀ k, k < m → M 139 k = I 13 k) → ∃ V P, RS (I 13) m M V L P ∧ LO (I 13) m N (d + 39) (Xs X) X2 K Y V P (RX6_readsInto_19 N (d + 38) (N + 29) (Xs X) (nI 0) K Y) (am_G am_prog (N + 30) (d + 40) 253 [.ref 135, .int (nI m)] (mkh X2 M L)) := by
    intro X2 M L h8 h139
    obtain ⟨V, P, e, r⟩ := r_start (N := N) (d := d) (X2 := X2) (L := L) hm9 hB (by omega) t9 h8 hm h139
    refine ⟨V, P, r, ?_⟩
    rw [e]
    have W := j_parts (N := N) (d := d + 30) (e := d + 29) (X := Xs X) (X2 := X2) hm9 hB (by omega) hX rfl m 0 (by omega) (by omega) 0 (by omega) (JS_0 cs r) (N + 28 - m) (N + 26 - m)
    rw [show N + 28 - m + m + 1 = N + 29 by omega, show N + 26 - m + m + 3 = N + 29 by omega] at W
    exact W
  obtain ⟨c1, c2, c3, c4, c5, c6, c7, c8, c9, c10, c11⟩ := id cs
  obtain ⟨V0, P0, r0, o0⟩ := both X (L := J) t2 h139
  rcases o0 with ⟨q0, T0, p0, K0, Y0, W0, Q0, z0, -, gI, gJ, -, -, a1, -⟩ | ⟨K0, Y0, W0, Q0, z0, a1, -, F0⟩
  · rw [a1, cI_some, kX8_town_1 N (d + 38) _ (X := Xs X) hX, nc_ne (by omega) (by omega) (by omega)] at cl
    have k135 : ∀ a, 118 ≤ a → u2 K0 3 15 (nI 0) a = I a := fun a ha => by rw [u2_na _ _ _ _ _ (by omega), gI a (by omega) (by omega) (by show ¬ (X.2.2.1 ≤ a ∧ a < X.2.2.1 + 14); omega), c6 a (by omega) (by omega) (by omega) (by omega)]
    obtain ⟨V, P, r, o⟩ := both (X.1, X.2.2.1, X.2.1, some X.2.2.1, X.2.2.2.2) (M := u2 K0 3 15 (nI 0)) (L := Y0) (by rw [k135 135 (by omega)]; exact t2) (fun k hk => by rw [k135 139 (by omega)]; exact h139 k hk)
    rcases o with ⟨q1, T, p1, K1, Y1, W, Q, z1, S, gI, gJ, gM, gL, a2, b2⟩ | ⟨K1, Y1, W, Q, z1, a2, -, -⟩
    · rw [a1] at a2
      obtain ⟨-, rfl, rfl⟩ := mkh_inj a2
      obtain ⟨S1, S2, S3, S4, S5, S6, S7, S8, S9, S10, S11, S12, S13, S14, S15⟩ := S
      obtain ⟨r1, r2, r3, r4, r5, r6, r7, r8, r9, r10, r11⟩ := r
      have m0 : ∀ a, a ≠ 3 → a ≠ 115 → a ≠ 117 → ¬ (X.2.2.1 ≤ a ∧ a < X.2.2.1 + 15) → u2 K0 3 15 (nI 0) a = I a := fun a g1 g2 g3 g4 => by rw [u2_na _ _ _ _ _ g1, gI a g2 g3 (by show ¬ (X.2.2.1 ≤ a ∧ a < X.2.2.1 + 14); omega), c6 a g1 g2 g3 g4]
      have m3 : ∀ k, k ≠ 15 → u2 K0 3 15 (nI 0) 3 k = K 3 k := fun k hk => by rw [u2_nk _ _ _ _ _ hk, gI 3 (by omega) (by omega) (by show ¬ (X.2.2.1 ≤ 3 ∧ 3 < X.2.2.1 + 14); omega)]
      have w0 : ∀ a, a ≠ 135 → a ≠ 140 → W a = u2 K0 3 15 (nI 0) a := fun a g1 g2 => by rw [gM.1 a g1 g2, r8 a g1 g2]
      have j0 : ∀ a, a ≠ 115 → a ≠ 135 → a ≠ 142 → a ≠ X.2.2.1 + 1 → Q a = J a := fun a g1 g2 g3 g4 => by rw [gL.1 a g2 g3, r11.1 a g2, gJ a g1 g4, c11 a g1]
      have j2 : ∀ k, k < 96 → Q 142 k = J 142 k := fun k hk => by rw [gL.2.1 k hk, r11.1 142 (by omega), gJ 142 (by omega) (by show 142 ≠ X.2.2.1 + 1; omega), c11 142 (by omega)]
      have e3 : K0 ((Xs X).2.2.1 + 2) 3 = nI (T 3) := S7.1 3 (by omega)
      have w140 : u2 (u2 W 135 10 (nI 0)) 135 11 (-1) 140 = W 140 := by rw [u2_na _ _ _ _ _ (by omega), u2_na _ _ _ _ _ (by omega)]
      have rf : am_G am_prog (N + 30) (d + 40) 253 [.ref 135, .int (nI m)] (mkh (X.1, X.2.2.1, X.2.1, some X.2.2.1, X.2.2.2.2) (u2 K0 3 15 (nI 0)) Y0) = some (.int (nI (T 3)), mkh (X.1, X.2.2.1, X.2.1, some X.2.2.1, X.2.2.2.2) (w2 (u2 (u2 W 135 10 (nI 0)) 135 11 (-1)) 140 (cpB (W 140) (429 * 4) (429 * 0) 429)) (w2L Q 142 (cpA (Q 142) (24 * 4) (24 * 0) 24))) := by
        have e4 : cpB (W 140) (429 * 4) (429 * 0) 429 3 = nI (T 3) := by
          unfold cpB
          rw [if_pos (by omega)]
          exact S11.1 3 (by omega)
        rw [b2, sX9_town_64 N (d + 39) z1, c9_isWell0 (e := d + 37) S10, cI_some, kX9_town_2 N (d + 39), nc_ne (by omega) (by omega) (by omega), c9_copy (b := 4) (c := 0) (by omega) (by omega) (by omega) (by omega), cV_some, kX9_town_5 N (d + 39), w2_at, w140, e4]
      rw [e3] at cl
      generalize hMf : w2 (u2 (u2 W 135 10 (nI 0)) 135 11 (-1)) 140 (cpB (W 140) (429 * 4) (429 * 0) 429) = Mf at rf
      generalize hLf : w2L Q 142 (cpA (Q 142) (24 * 4) (24 * 0) 24) = Lf at rf
      have z0 : ∀ a, a ≠ 135 → a ≠ 140 → Mf a = u2 K0 3 15 (nI 0) a := fun a g1 g2 => by rw [← hMf, w2_na g2, u2_na _ _ _ _ _ g1, u2_na _ _ _ _ _ g1, w0 a g1 g2]
      have z5 : ∀ k, k ≠ 10 → k ≠ 11 → Mf 135 k = W 135 k := fun k g1 g2 => by rw [← hMf, w2_na (by omega), u2_nk _ _ _ _ _ g2, u2_nk _ _ _ _ _ g1]
      have z10 : Mf 135 10 = nI 0 ∧ Mf 135 11 = -1 := by
        rw [← hMf, w2_na (by omega)]
        exact ⟨by rw [u2_nk _ _ _ _ _ (by omega), u2_at], u2_at _ _ _ _⟩
      have z4 : ∀ k, k < 429 → Mf 140 k = W 140 (1716 + k) := fun k hk => by
        rw [← hMf, w2_at]
        unfold cpB
        rw [if_pos (by omega)]
        congr 1
      have z4b : ∀ k, 429 ≤ k → Mf 140 k = W 140 k := fun k hk => by
        rw [← hMf, w2_at]
        unfold cpB
        rw [if_neg (by omega)]
      have l0 : ∀ a, a ≠ 142 → Lf a = Q a := fun a ha => by rw [← hLf, w2L_na ha]
      have l1 : ∀ k, k < 24 → Lf 142 k = Q 142 (96 + k) := fun k hk => by
        rw [← hLf, w2L_at]
        unfold cpA
        rw [if_pos (by omega)]
        congr 1
      have l2 : ∀ k, 24 ≤ k → Lf 142 k = Q 142 k := fun k hk => by
        rw [← hLf, w2L_at]
        unfold cpA
        rw [if_neg (by omega)]
      refine ⟨.int (nI (T 3)), (X.1, X.2.2.1, X.2.1, some X.2.2.1, X.2.2.2.2), u2 K0 3 15 (nI 0), Y0, (X.1, X.2.2.1, X.2.1, some X.2.2.1, X.2.2.2.2), Mf, Lf, cl, rf, ?_, rfl⟩
      have wh : ∀ k, k = 8 ∨ k = 23 ∨ k = 33 ∨ k = 0 → W 135 k = V 135 k := fun k hk => gM.2.2 k (by omega) (by omega)
      refine INV_rd H (X2 := (X.1, X.2.2.1, X.2.1, some X.2.2.1, X.2.2.2.2)) (by show X.2.2.1 = 14 ∧ X.2.1 = 34 ∨ X.2.2.1 = 34 ∧ X.2.1 = 14; omega) (fun a g1 g2 g3 g4 g5 => by rw [z0 a g2 g3, m0 a g1 (by omega) (by omega) (by omega)]) (fun k g1 g2 g3 => by rw [z0 3 (by omega) (by omega), m3 k g3, c7 k g1 g2]) (fun k hk => by rw [z5 k (by omega) (by omega), wh k (by omega), r10 k (by omega), m0 135 (by omega) (by omega) (by omega) (by omega)]) (fun k g1 g2 => by rw [z4b k g1, gM.2.1 k g2, r9 k g2, m0 140 (by omega) (by omega) (by omega) (by omega)]) ⟨by rw [z0 3 (by omega) (by omega), m3 2 (by omega)]; exact c8, by rw [z5 8 (by omega) (by omega), wh 8 (by omega)]; exact r6⟩ (by rw [z0 3 (by omega) (by omega), m3 14 (by omega)]; exact c9) ⟨?_, ?_⟩ (fun a g1 g2 g3 g4 => by rw [l0 a g3, j0 a g1 g2 g3 (by omega)]) (fun k hk => ?_) (fun k g1 g2 => by rw [l2 k g1, j2 k g2]) ?_ ⟨T, S3, ?_, ?_, ?_, ?_, ?_, frsh_GB S4⟩
      · rw [z0 115 (by omega) (by omega), u2_na _ _ _ _ _ (by omega), z10.1]; exact S15.1
      · rw [z0 115 (by omega) (by omega), u2_na _ _ _ _ _ (by omega), z10.2]; exact S15.2
      · rw [l0 135 (by omega), gL.2.2 k hk, r11.2 k hk, gJ 135 (by omega) (by show 135 ≠ X.2.2.1 + 1; omega), c11 135 (by omega)]
      · rw [z0 3 (by omega) (by omega), u2_at, z5 0 (by omega) (by omega), wh 0 (by omega), r7]
      · exact TC_frame (fun a g1 g2 => by
          have g1' : X.2.2.1 ≤ a := g1
          have g2' : a < X.2.2.1 + 14 := g2
          rw [z0 a (by omega) (by omega), u2_na _ _ _ _ _ (by omega)]) S7
      · refine TM_congr S3 (fun k hk => ?_) S11
        show Mf 140 (429 * 0 + k) = W 140 (1716 + k)
        rw [show 429 * 0 + k = k by omega]
        exact z4 k (by omega)
      · have k14 : ∀ k, Mf (X.2.2.1 + 14) k = K (X.2.2.1 + 14) k := fun k => by rw [z0 _ (by omega) (by omega), u2_na _ _ _ _ _ (by omega), gI _ (by omega) (by omega) (by show ¬ (X.2.2.1 ≤ X.2.2.1 + 14 ∧ X.2.2.1 + 14 < X.2.2.1 + 14); omega)]
        obtain ⟨f5, f6, fv, fp, f157, f158⟩ := S4
        refine ⟨by rw [f157]; exact (k14 5).trans c10.1, by omega, by rw [f158]; exact (k14 7).trans c10.2.2, by omega, 0, by omega, (k14 6).trans c10.2.1, fun h => by omega⟩
      · obtain ⟨f5, f6, fv, fp, f157, f158⟩ := S4
        refine ⟨?_, ?_, fun k hk => by rw [f158] at hk; omega⟩
        · show Mf 140 (429 * 0 + 157) = _
          rw [f157]; exact (z4 157 (by omega)).trans S13.2.2.1
        · show Mf 140 (429 * 0 + 158) = _
          rw [f158]; exact (z4 158 (by omega)).trans S13.2.2.2
      · refine NM_congr S3 (fun k hk => ?_) (fun k hk => ?_) S14
        · show Lf (X.2.2.1 + 1) k = Y0 (X.2.2.1 + 1) k
          rw [l0 _ (by omega), gL.1 _ (by omega) (by omega), r11.1 _ (by omega)]
        · show Lf 142 (24 * 0 + k) = Q 142 (96 + k)
          rw [show 24 * 0 + k = k by omega]
          exact l1 k hk
    · rw [a1] at a2
      have := (mkh_inj a2).1
      injection this with this
      exact absurd this (by decide)
  · rw [a1, cI_some, kX8_town_1 N (d + 38) _ (X := Xs X) hX, nc_eq rfl] at cl
    have k135 : ∀ a, 118 ≤ a → u2 K0 3 15 (nI 10) a = I a := fun a ha => by rw [u2_na _ _ _ _ _ (by omega), FLD_gI F0 a (by omega) (by omega) (by show ¬ (X.2.2.1 ≤ a ∧ a < X.2.2.1 + 14); omega), c6 a (by omega) (by omega) (by omega) (by omega)]
    obtain ⟨V, P, r, o⟩ := both (Xs X) (M := u2 K0 3 15 (nI 10)) (L := Y0) (by rw [k135 135 (by omega)]; exact t2) (fun k hk => by rw [k135 139 (by omega)]; exact h139 k hk)
    rcases o with ⟨q1, T, p1, K1, Y1, W, Q, z1, S, gI, gJ, gM, gL, a2, b2⟩ | ⟨K1, Y1, W, Q, z1, a2, b2, F⟩
    · rw [a1] at a2
      have := (mkh_inj a2).1
      injection this with this
      exact absurd this (by decide)
    · rw [a1] at a2
      obtain ⟨-, rfl, rfl⟩ := mkh_inj a2
      obtain ⟨r1, r2, r3, r4, r5, r6, r7, r8, r9, r10, r11⟩ := r
      obtain ⟨b, s, p, f0, f8, f1, f2, f3, f4, f5, gI, gJ, gM, gL⟩ := F
      have m0 : ∀ a, a ≠ 3 → a ≠ 115 → a ≠ 117 → ¬ (X.2.2.1 ≤ a ∧ a < X.2.2.1 + 15) → u2 K0 3 15 (nI 10) a = I a := fun a g1 g2 g3 g4 => by rw [u2_na _ _ _ _ _ g1, FLD_gI F0 a g2 g3 (by show ¬ (X.2.2.1 ≤ a ∧ a < X.2.2.1 + 14); omega), c6 a g1 g2 g3 g4]
      have m3 : ∀ k, k ≠ 15 → u2 K0 3 15 (nI 10) 3 k = K 3 k := fun k hk => by rw [u2_nk _ _ _ _ _ hk, gI 3 (by omega) (by omega) (by show ¬ (X.2.2.1 ≤ 3 ∧ 3 < X.2.2.1 + 14); omega)]
      have w0 : ∀ a, a ≠ 135 → a ≠ 140 → W a = u2 K0 3 15 (nI 10) a := fun a g1 g2 => by rw [gM.1 a g1 g2, r8 a g1 g2]
      have j0 : ∀ a, a ≠ 115 → a ≠ 135 → a ≠ 142 → a ≠ X.2.2.1 + 1 → Q a = J a := fun a g1 g2 g3 g4 => by rw [gL.1 a g2 g3, r11.1 a g2, gJ a g1 g4, c11 a g1]
      have j2 : ∀ k, k < 96 → Q 142 k = J 142 k := fun k hk => by rw [gL.2.1 k hk, r11.1 142 (by omega), gJ 142 (by omega) (by show 142 ≠ X.2.2.1 + 1; omega), c11 142 (by omega)]
      have rf : am_G am_prog (N + 30) (d + 40) 253 [.ref 135, .int (nI m)] (mkh (Xs X) (u2 K0 3 15 (nI 10)) Y0) = some (.int (-1), mkh (Xs X) (u2 (u2 (u2 W 135 10 (nI b)) 135 11 (W 135 13)) 135 0 (nI 10)) Q) := by
        rw [b2, sX9_town_64 N (d + 39) z1, c9_isWellb (e := d + 37) f3 f0 (by omega), cI_some, kX9_town_2 N (d + 39), nc_eq rfl]
      generalize hMf : u2 (u2 (u2 W 135 10 (nI b)) 135 11 (W 135 13)) 135 0 (nI 10) = Mf at rf
      have z0 : ∀ a, a ≠ 135 → Mf a = W a := fun a g1 => by rw [← hMf, u2_na _ _ _ _ _ g1, u2_na _ _ _ _ _ g1, u2_na _ _ _ _ _ g1]
      have z5 : ∀ k, k ≠ 10 → k ≠ 11 → k ≠ 0 → Mf 135 k = W 135 k := fun k g1 g2 g3 => by rw [← hMf, u2_nk _ _ _ _ _ g3, u2_nk _ _ _ _ _ g2, u2_nk _ _ _ _ _ g1]
      have z10 : Mf 135 10 = nI b ∧ Mf 135 11 = W 135 13 ∧ Mf 135 0 = nI 10 := by
        rw [← hMf]
        exact ⟨by rw [u2_nk _ _ _ _ _ (by omega), u2_nk _ _ _ _ _ (by omega), u2_at], by rw [u2_nk _ _ _ _ _ (by omega), u2_at], u2_at _ _ _ _⟩
      have w140 : ∀ k, k < 1716 → W 140 k = I 140 k := fun k hk => by rw [gM.2.1 k hk, r9 k hk, m0 140 (by omega) (by omega) (by omega) (by omega)]
      have wh : ∀ k, k = 8 ∨ k = 23 ∨ k = 33 ∨ k = 0 → W 135 k = V 135 k := fun k hk => gM.2.2 k (by omega) (by omega)
      refine ⟨.int (-1), Xs X, u2 K0 3 15 (nI 10), Y0, Xs X, Mf, Q, cl, rf, ?_, rfl⟩
      refine INV_rd H (X2 := Xs X) hX (fun a g1 g2 g3 g4 g5 => by rw [z0 a g2, w0 a g2 g3, m0 a g1 (by omega) (by omega) (by omega)]) (fun k g1 g2 g3 => by rw [z0 3 (by omega), w0 3 (by omega) (by omega), m3 k g3, c7 k g1 g2]) (fun k hk => by rw [z5 k (by omega) (by omega) (by omega), wh k (by omega), r10 k (by omega), m0 135 (by omega) (by omega) (by omega) (by omega)]) (fun k g1 g2 => by rw [z0 140 (by omega)]; exact w140 k g2) ⟨by rw [z0 3 (by omega), w0 3 (by omega) (by omega), m3 2 (by omega)]; exact c8, by rw [z5 8 (by omega) (by omega) (by omega), wh 8 (by omega)]; exact r6⟩ (by rw [z0 3 (by omega), w0 3 (by omega) (by omega), m3 14 (by omega)]; exact c9) ⟨?_, ?_⟩ (fun a g1 g2 g3 g4 => j0 a g1 g2 g3 (by omega)) (fun k hk => ?_) (fun k g1 g2 => j2 k g2) ?_ ?_
      · rw [z0 115 (by omega), w0 115 (by omega) (by omega), u2_na _ _ _ _ _ (by omega), z10.1]; exact f1
      · rw [z0 115 (by omega), w0 115 (by omega) (by omega), u2_na _ _ _ _ _ (by omega), z10.2.1, f4]; exact f2
      · rw [gL.2.2 k hk, r11.2 k hk, gJ 135 (by omega) (by show 135 ≠ X.2.2.1 + 1; omega), c11 135 (by omega)]
      · rw [z0 3 (by omega), w0 3 (by omega) (by omega), u2_at, z10.2.2]
      · refine TW_frame (I := I) (J := J) (t := X.2.1) (fun a g1 g2 => ?_) (fun k hk => ?_) (fun k hk => ?_) (fun k hk => ?_) H.2.2.1
        · rw [z0 a (by omega), w0 a (by omega) (by omega), m0 a (by omega) (by omega) (by omega) (by omega)]
        · rw [z0 140 (by omega)]; exact w140 _ (by omega)
        · rw [j0 _ (by omega) (by omega) (by omega) (by omega)]
        · exact j2 _ (by omega)
