/-! texts: dials; the pair -/
section
variable {xs : Nat → Int32} {N d : Nat} {X : lt_X} {I M : Nat → Nat → Int32} {J L : Nat → Nat → Int64} {T : Nat → Nat} {m t : Nat} {K : Nat → Nat → Int32} {Y : Nat → Nat → Int64}
theorem d_both (H : INV xs X I J) (hB : TB I J X.2.1 0 T) (hm : m ≤ 300) (hmt : m ≤ t) (t9 : t ≤ 900) (hB8 : ∀ k, k < m → isB (I 13 k)) (hN : 10000 ≤ N) (cs : CD m I K J Y) (h8 : M 135 8 = nI t) (h139 : ∀ k, k < m → M 139 k = I 13 k) (h140 : ∀ k, k < 4 → M 140 k = I 140 k) (h142 : ∀ k, k < 24 → L 142 k = J 142 k) :
    ∃ V P, RD (I 13) m M V L P ∧ DO (I 13) m N (d + 39) T (Xd X) (Xd X) K Y V P (RX2_readsFor_19 N (d + 37) (N + 29) (Xd X) (nI 0) K Y) (am_G am_prog (N + 30) (d + 40) 257 [.ref 135, .int (nI m)] (mkh (Xd X) M L)) := by
  have hX := H.1
  obtain ⟨ht, htt⟩ := hX_H hX
  obtain ⟨hw, hT, hM, hDC, hDM, hNM, hGB⟩ := hB
  obtain ⟨V, P, e, r⟩ := rd_start (N := N) (d := d) (X2 := Xd X) (M := M) (L := L) (f := I 13) hm hB8 hN t9 h8 hmt h139
  refine ⟨V, P, r, ?_⟩
  rw [e]
  obtain ⟨c1, c2, c3, c4, c5, c6, c7, c8, c9, c10, c11⟩ := cs
  obtain ⟨r1, r2, r3, r4, r5, r6, r7, r8⟩ := r
  have hM0 := TM_0.mp hM
  have h6 : ∀ k, k < 4 → T k ≤ 6 := fun k hk => by
    obtain ⟨⟨w0, w1, w2, w3, -⟩, -⟩ := hw
    match k, hk with
    | 0, _ => exact w0
    | 1, _ => exact w1
    | 2, _ => exact w2
    | 3, _ => exact w3
  refine d_all hm hB8 hN (X := Xd X) (X2 := Xd X) hX rfl ⟨by omega, by omega, by omega, by omega, by omega, c1, c2, c3, c4, c5, c6, r1, r2, r3, h6, fun k hk => ?_, fun k hk => ?_, fun k i hk hi => ?_⟩
  · show K (X.2.1 + 2) k = _
    rw [c7 _ (by omega) (by omega) (by omega) (by omega)]
    exact hT.1 k hk
  · rw [r6 140 (by omega), h140 k hk]
    exact hM0.1 k (by omega)
  · have hi6 := h6 k hk
    show Y (X.2.1 + 1) _ = _
    rw [c11 _ (by omega), r8.1 142 (by omega), h142 _ (by omega)]
    have e : J (X.2.1 + 1) (6 * k + i) = J 142 (24 * 0 + (6 * k + i)) := hNM k i hk hi
    rw [show 24 * 0 + (6 * k + i) = 6 * k + i by omega] at e
    exact e
/-- the town's numbers with new dials -/
def dlT (T : Nat → Nat) (s : Nat) (V : Nat → Nat → Int32) : Nat → Nat := fun k => if k < 157 then T k else if k = 157 then 1 else if k = 158 then s else toN (V 140 (1716 + k))
theorem dlT_lt {s : Nat} {V : Nat → Nat → Int32} {k : Nat} (h : k < 157) : dlT T s V k = T k := if_pos h
theorem dlT_7 {s : Nat} {V : Nat → Nat → Int32} : dlT T s V 157 = 1 := rfl
theorem dlT_8 {s : Nat} {V : Nat → Nat → Int32} : dlT T s V 158 = s := rfl
theorem dlT_ge {s : Nat} {V : Nat → Nat → Int32} {k : Nat} (h : 159 ≤ k) : dlT T s V k = toN (V 140 (1716 + k)) := by
  unfold dlT
  rw [if_neg (by omega), if_neg (by omega), if_neg (by omega)]
theorem p_dials {xs : Nat → Int32} {N d : Nat} {X : lt_X} {I : Nat → Nat → Int32} {J : Nat → Nat → Int64} (H : INV xs X I J) (hN : 100000 ≤ N) (x : Int32) : PR xs N d X I J 123 257 [.int x] := by
  have hX := H.1
  have hK := H.2.2.2.2.2.2.2.2.2.1
  obtain ⟨ht, htt⟩ := hX_H hX
  have hee : X.2.1 = 14 ∧ X.2.2.1 = 34 ∨ X.2.1 = 34 ∧ X.2.2.1 = 14 := hX
  obtain ⟨t, t9, t1, t2, t3⟩ := H.2.2.2.2.2.1
  by_cases x0 : x < nI 0
  · refine PR_tells H (.int (-1)) (nI 5) (CR_st ?_) (fun K hK => MR_2 (a := nI 0) (b := nI 0) ?_)
    · rw [gX8_dials N (d + 38), sX8_dials_0 N (d + 38) _ hX]
      rw [if_pos x0]
    · rw [gX9_dials N (d + 39), sX9_dials_0 N (d + 39)]
      rw [gX9_starts N (d + 37), sX9_starts_0 N (d + 37), if_pos x0, cI_some, kX9_dials_0 N (d + 39), nc_eq rfl]
  by_cases x1 : nI t < x
  · refine PR_tells H (.int (-1)) (nI 5) (CR_st ?_) (fun K hK => MR_2 (a := nI 0) (b := nI 0) ?_)
    · rw [gX8_dials N (d + 38), sX8_dials_0 N (d + 38) _ hX]
      rw [if_neg x0, t1, if_pos x1]
    · rw [gX9_dials N (d + 39), sX9_dials_0 N (d + 39)]
      rw [gX9_starts N (d + 37), sX9_starts_0 N (d + 37), if_neg x0, u2_nk _ _ _ _ _ (by omega), u2_nk _ _ _ _ _ (by omega), hK 135 (by omega) (by omega), t2, if_pos x1, cI_some, kX9_dials_0 N (d + 39), nc_eq rfl]
  by_cases x3 : nI 300 < x
  · refine PR_tells H (.int (-1)) (nI 5) (CR_st ?_) (fun K hK => MR_2 (a := nI 0) (b := nI 0) ?_)
    · rw [gX8_dials N (d + 38), sX8_dials_0 N (d + 38) _ hX]
      rw [if_neg x0, t1, if_neg x1, if_pos x3]
    · rw [gX9_dials N (d + 39), sX9_dials_0 N (d + 39)]
      rw [gX9_starts N (d + 37), sX9_starts_0 N (d + 37), if_neg x0, u2_nk _ _ _ _ _ (by omega), u2_nk _ _ _ _ _ (by omega), hK 135 (by omega) (by omega), t2, if_neg x1, if_pos x3, cI_some, kX9_dials_0 N (d + 39), nc_eq rfl]
  obtain ⟨m, hm, rfl⟩ : ∃ m, m ≤ t ∧ x = nI m := x_nat x0 x1 (by omega)
  have hm3 : m ≤ 300 := by
    rw [nI_lt' (by omega), nI_toInt (by omega)] at x3
    omega
  have hB : ∀ k, k < m → isB (I 13 k) := fun k hk => (t3 k (by omega)).2
  have h139 : ∀ k, k < m → I 139 k = I 13 k := fun k hk => (t3 k (by omega)).1.symm
  obtain ⟨T, hTB⟩ := H.2.2.1
  obtain ⟨K, Y, cl, cs⟩ := cd_start (N := N) (d := d) (J := J) hX hm3 hB (by omega) hK t9 t1 hm
  have both : ∀ {M : Nat → Nat → Int32} {L : Nat → Nat → Int64}, M 135 8 = nI t → (∀ k, k < m → M 139 k = I 13 k) → (∀ k, k < 4 → M 140 k = I 140 k) → (∀ k, k < 24 → L 142 k = J 142 k) → ∃ V P, RD (I 13) m M V L P ∧ DO (I 13) m N (d + 39) T (Xd X) (Xd X) K Y V P (RX2_readsFor_19 N (d + 37) (N + 29) (Xd X) (nI 0) K Y) (am_G am_prog (N + 30) (d + 40) 257 [.ref 135, .int (nI m)] (mkh (Xd X) M L)) := fun a b c d => d_both H hTB hm3 hm t9 hB (by omega) cs a b c d
  obtain ⟨c1, c2, c3, c4, c5, c6, c7, c8, c9, c10, c11⟩ := id cs
  obtain ⟨V0, P0, -, o0⟩ := both (M := I) (L := J) t2 h139 (fun _ _ => rfl) (fun _ _ => rfl)
  rcases o0 with ⟨K0, Y0, W0, Q0, z0, a1, -, F0⟩ | ⟨s0, p0, K0, Y0, W0, Q0, z0, a1, -, s30, p60, g6, g7, g10, g11, -, -, gI, gJ, -, -, -⟩
  · rw [a1, cI_some, kX8_dials_1 N (d + 38) _ (X := Xd X) hX, nc_eq rfl] at cl
    obtain ⟨-, -, -, -, -, -, -, -, -, -, gI, gJ, -, -⟩ := F0
    have m0 : ∀ a, a ≠ 3 → a ≠ 115 → ¬ (118 ≤ a ∧ a ≤ 125) → u2 K0 3 15 (nI 10) a = I a := fun a g1 g2 g3 => by rw [u2_na _ _ _ _ _ g1, gI.1 a g2 g3, c7 a g1 g2 (by omega) (by omega)]
    have m3 : ∀ k, k ≠ 15 → u2 K0 3 15 (nI 10) 3 k = K 3 k := fun k hk => by rw [u2_nk _ _ _ _ _ hk, gI.1 3 (by omega) (by omega)]
    have y0 : ∀ a, a ≠ 115 → Y0 a = J a := fun a g1 => by rw [gJ a g1, c11 a g1]
    obtain ⟨V, P, r, o⟩ := both (M := u2 K0 3 15 (nI 10)) (L := Y0) (by rw [m0 135 (by omega) (by omega) (by omega)]; exact t2) (fun k hk => by rw [m0 139 (by omega) (by omega) (by omega)]; exact h139 k hk) (fun k _ => by rw [m0 140 (by omega) (by omega) (by omega)]) (fun k _ => by rw [y0 142 (by omega)])
    rcases o with ⟨K1, Y1, W, Q, z1, a2, b2, F⟩ | ⟨s1, p1, K1, Y1, W, Q, z1, a2, -⟩
    · rw [a1] at a2
      obtain ⟨-, rfl, rfl⟩ := mkh_inj a2
      obtain ⟨r1, r2, r3, r4, r5, r6, r7, r8⟩ := r
      obtain ⟨b, s, p, f0, f8, f1, f2, f3, f4, f5, -, -, gM, gL⟩ := F
      have w0 : ∀ a, a ≠ 135 → a ≠ 140 → W a = u2 K0 3 15 (nI 10) a := fun a g1 g2 => by rw [gM.1 a g1 g2, r6 a g1]
      have j0 : ∀ a, a ≠ 115 → a ≠ 135 → Q a = J a := fun a g1 g2 => by rw [gL.1 a g2, r8.1 a g2, y0 a g1]
      have rf : am_G am_prog (N + 30) (d + 40) 257 [.ref 135, .int (nI m)] (mkh (Xd X) (u2 K0 3 15 (nI 10)) Y0) = some (.int (-1), mkh (Xd X) (u2 (u2 (u2 W 135 10 (nI b)) 135 11 (W 135 13)) 135 0 (nI 10)) Q) := by
        rw [b2, sX9_dials_50 N (d + 39) (z1 + 301), c9_isWellb (e := d + 37) f3 f0 (by omega), cI_some, kX9_dials_2 N (d + 39), nc_eq rfl]
      generalize hMf : u2 (u2 (u2 W 135 10 (nI b)) 135 11 (W 135 13)) 135 0 (nI 10) = Mf at rf
      have z0 : ∀ a, a ≠ 135 → Mf a = W a := fun a g1 => by rw [← hMf, u2_na _ _ _ _ _ g1, u2_na _ _ _ _ _ g1, u2_na _ _ _ _ _ g1]
      have z5 : ∀ k, k ≠ 10 → k ≠ 11 → k ≠ 0 → Mf 135 k = W 135 k := fun k g1 g2 g3 => by rw [← hMf, u2_nk _ _ _ _ _ g3, u2_nk _ _ _ _ _ g2, u2_nk _ _ _ _ _ g1]
      have z10 : Mf 135 10 = nI b ∧ Mf 135 11 = W 135 13 ∧ Mf 135 0 = nI 10 := by
        rw [← hMf]
        exact ⟨by rw [u2_nk _ _ _ _ _ (by omega), u2_nk _ _ _ _ _ (by omega), u2_at], by rw [u2_nk _ _ _ _ _ (by omega), u2_at], u2_at _ _ _ _⟩
      have w140 : ∀ k, k < 1875 → W 140 k = I 140 k := fun k hk => by rw [gM.2.1 k (by omega), r6 140 (by omega), m0 140 (by omega) (by omega) (by omega)]
      have wh : ∀ k, k = 23 ∨ k = 33 → W 135 k = I 135 k := fun k hk => by rw [gM.2.2 k (by omega) (by omega), r7 k (by omega), m0 135 (by omega) (by omega) (by omega)]
      refine ⟨.int (-1), Xd X, u2 K0 3 15 (nI 10), Y0, Xd X, Mf, Q, cl, rf, ?_, rfl⟩
      refine INV_rd H (X2 := Xd X) hX (fun a g1 g2 g3 g4 g5 => by rw [z0 a g2, w0 a g2 g3, m0 a g1 (by omega) (by omega)]) (fun k g1 g2 g3 => by rw [z0 3 (by omega), w0 3 (by omega) (by omega), m3 k g3, c8 k g1 g2]) (fun k hk => by rw [z5 k (by omega) (by omega) (by omega), wh k hk]) (fun k g1 g2 => by rw [z0 140 (by omega)]; exact w140 k (by omega)) ⟨by rw [z0 3 (by omega), w0 3 (by omega) (by omega), m3 2 (by omega)]; exact c9, by rw [z5 8 (by omega) (by omega) (by omega), gM.2.2 8 (by omega) (by omega)]; exact r4⟩ (by rw [z0 3 (by omega), w0 3 (by omega) (by omega), m3 14 (by omega)]; exact c10) ⟨?_, ?_⟩ (fun a g1 g2 g3 g4 => j0 a g1 g2) (fun k hk => ?_) (fun k g1 g2 => by rw [j0 142 (by omega) (by omega)]) ?_ ?_
      · rw [z0 115 (by omega), w0 115 (by omega) (by omega), u2_na _ _ _ _ _ (by omega), z10.1]; exact f1
      · rw [z0 115 (by omega), w0 115 (by omega) (by omega), u2_na _ _ _ _ _ (by omega), z10.2.1, f4]; exact f2
      · rw [gL.2 k hk, r8.2 k hk, y0 135 (by omega)]
      · rw [z0 3 (by omega), w0 3 (by omega) (by omega), u2_at, z10.2.2]
      · refine TW_frame (I := I) (J := J) (t := X.2.1) (fun a g1 g2 => ?_) (fun k hk => ?_) (fun k hk => ?_) (fun k hk => ?_) H.2.2.1
        · rw [z0 a (by omega), w0 a (by omega) (by omega), m0 a (by omega) (by omega) (by omega)]
        · rw [z0 140 (by omega)]; exact w140 _ (by omega)
        · rw [j0 _ (by omega) (by omega)]
        · rw [j0 _ (by omega) (by omega)]
    · rw [a1] at a2
      have := (Option.some.inj a2 : (Value.int (nI 0), _) = (Value.int (nI 1), _))
      have := congrArg Prod.fst this
      injection this with this
      exact absurd this (by decide)
  · obtain ⟨K2, e1, k1, k5, k6, k7, k9⟩ := c1_take (N := N) (d := d + 38) (X := Xd X) (t := X.2.1) (I := u2 K0 119 5 (nI 1)) (J := Y0) (p := p0) (s := s0) ht (u2_at _ _ _ _) (by rw [u2_nk _ _ _ _ _ (by omega)]; exact g6) p60 (by rw [u2_nk _ _ _ _ _ (by omega)]; exact g7)
    have cl2 : am_G am_prog (N + 30) (d + 40) 123 [.ref 3, .int (nI m)] (mkh X I J) = some (.int (nI s0), mkh (Xd X) (u2 K2 3 15 (nI 0)) Y0) := by
      rw [cl, a1, cI_some, kX8_dials_1 N (d + 38) _ (X := Xd X) hX, nc_ne (by omega) (by omega) (by omega)]
      show am_cV (am_G am_prog (N + 30) (d + 38 + 1) _ [.ref (X.2.1 + 14), .ref 119] _) _ = _
      rw [e1, cV_some, kX8_dials_2 N (d + 38) _ (X := Xd X) hX]
      show some (Value.int (K2 (X.2.1 + 14) 7), _) = _
      rw [k7]
    have m0 : ∀ a, a ≠ 3 → a ≠ 115 → ¬ (118 ≤ a ∧ a ≤ 125) → ¬ (X.2.1 + 14 ≤ a ∧ a < X.2.1 + 20) → u2 K2 3 15 (nI 0) a = I a := fun a g1 g2 g3 g4 => by rw [u2_na _ _ _ _ _ g1, k1 a g4, u2_na _ _ _ _ _ (by omega), gI.1 a g2 g3, c7 a g1 g2 (by omega) (by omega)]
    have m3 : ∀ k, k ≠ 15 → u2 K2 3 15 (nI 0) 3 k = K 3 k := fun k hk => by rw [u2_nk _ _ _ _ _ hk, k1 3 (by omega), u2_na _ _ _ _ _ (by omega), gI.1 3 (by omega) (by omega)]
    have m115 : ∀ k, u2 K2 3 15 (nI 0) 115 k = K0 115 k := fun k => by rw [u2_na _ _ _ _ _ (by omega), k1 115 (by omega), u2_na _ _ _ _ _ (by omega)]
    have y0 : ∀ a, a ≠ 115 → Y0 a = J a := fun a g1 => by rw [gJ a g1, c11 a g1]
    obtain ⟨V, P, r, o⟩ := both (M := u2 K2 3 15 (nI 0)) (L := Y0) (by rw [m0 135 (by omega) (by omega) (by omega) (by omega)]; exact t2) (fun k hk => by rw [m0 139 (by omega) (by omega) (by omega) (by omega)]; exact h139 k hk) (fun k _ => by rw [m0 140 (by omega) (by omega) (by omega) (by omega)]) (fun k _ => by rw [y0 142 (by omega)])
    rcases o with ⟨K1, Y1, W, Q, z1, a2, -⟩ | ⟨s1, p1, K1, Y1, W, Q, z1, a2, b2, s31, p61, h6, h7, -, -, w12, w25, -, -, gM, gL, gD⟩
    · rw [a1] at a2
      have := (Option.some.inj a2 : (Value.int (nI 1), _) = (Value.int (nI 0), _))
      have := congrArg Prod.fst this
      injection this with this
      exact absurd this (by decide)
    · rw [a1] at a2
      obtain ⟨-, hk, rfl⟩ := mkh_inj a2
      have hk' : ∀ a, a ≠ 119 → K1 a = K0 a := fun a ha => by
        have e := congrFun hk a
        rw [u2_na _ _ _ _ _ ha, u2_na _ _ _ _ _ ha] at e
        exact e.symm
      have hk9 : ∀ k, k ≠ 5 → K1 119 k = K0 119 k := fun k hk5 => by
        have e := congrFun (congrFun hk 119) k
        rw [u2_nk _ _ _ _ _ hk5, u2_nk _ _ _ _ _ hk5] at e
        exact e.symm
      have es : s1 = s0 := by
        have e : nI s1 = nI s0 := by rw [← h7, ← g7, hk9 7 (by omega)]
        exact (no_inj (by omega) (by omega)).mp e
      have ep : p1 = p0 := by
        have e : nI p1 = nI p0 := by rw [← h6, ← g6, hk9 6 (by omega)]
        exact (no_inj (by omega) (by omega)).mp e
      subst es ep
      obtain ⟨r1, r2, r3, r4, r5, r6, r7, r8⟩ := r
      have w0 : ∀ a, a ≠ 135 → a ≠ 140 → W a = u2 K2 3 15 (nI 0) a := fun a g1 g2 => by rw [gM.1 a g1 g2, r6 a g1]
      have j0 : ∀ a, a ≠ 115 → a ≠ 135 → Q a = J a := fun a g1 g2 => by rw [gL.1 a g2, r8.1 a g2, y0 a g1]
      have w140 : ∀ k, k < 1875 → W 140 k = I 140 k := fun k hk => by rw [gM.2.1 k (by omega), r6 140 (by omega), m0 140 (by omega) (by omega) (by omega) (by omega)]
      have wh : ∀ k, k = 23 ∨ k = 33 → W 135 k = I 135 k := fun k hk => by rw [gM.2.2 k (by omega) (by omega), r7 k (by omega), m0 135 (by omega) (by omega) (by omega) (by omega)]
      have e25 : u2 (u2 W 135 10 (nI 0)) 135 11 (-1) 135 25 = nI s1 := by rw [u2_nk _ _ _ _ _ (by omega), u2_nk _ _ _ _ _ (by omega)]; exact w25
      have rf : ∃ Mf, am_G am_prog (N + 30) (d + 40) 257 [.ref 135, .int (nI m)] (mkh (Xd X) (u2 K2 3 15 (nI 0)) Y0) = some (.int (nI s1), mkh (Xd X) Mf Q) ∧ (∀ a, a ≠ 135 → a ≠ 140 → Mf a = W a) ∧ (∀ k, k ≠ 10 → k ≠ 11 → Mf 135 k = W 135 k) ∧ Mf 135 10 = nI 0 ∧ Mf 135 11 = -1 ∧ Mf 140 157 = nI 1 ∧ Mf 140 158 = nI s1 ∧ (∀ k, k < 9 * s1 → Mf 140 (159 + k) = W 140 (1875 + k)) ∧ (∀ k, k < 157 ∨ 429 ≤ k → Mf 140 k = W 140 k) := by
        have e1 : am_G am_prog (N + 30) (d + 40) 257 [.ref 135, .int (nI m)] (mkh (Xd X) (u2 K2 3 15 (nI 0)) Y0) = RX9_dials_82 N (d + 39) (z1 + 1 + 300) (Xd X) (nI 0) (u2 (u2 (u2 (u2 W 135 10 (nI 0)) 135 11 (-1)) 140 157 (nI 1)) 140 158 (nI s1)) Q := by
          rw [b2, sX9_dials_50 N (d + 39) (z1 + 301), c9_isWell0 (e := d + 37) w12, cI_some, kX9_dials_2 N (d + 39), nc_ne (by omega) (by omega) (by omega), e25]
        rw [d82 (s := s1) s31 (by rw [u2_na _ _ _ _ _ (by omega), u2_na _ _ _ _ _ (by omega)]; exact e25)] at e1
        refine ⟨_, e1, fun a g1 g2 => ?_, fun k g1 g2 => ?_, ?_, ?_, ?_, ?_, fun k hk => ?_, fun k hk => ?_⟩
        · rw [w2_na g2, u2_na _ _ _ _ _ g2, u2_na _ _ _ _ _ g2, u2_na _ _ _ _ _ g1, u2_na _ _ _ _ _ g1]
        · rw [w2_na (by omega), u2_na _ _ _ _ _ (by omega), u2_na _ _ _ _ _ (by omega), u2_nk _ _ _ _ _ g2, u2_nk _ _ _ _ _ g1]
        · rw [w2_na (by omega), u2_na _ _ _ _ _ (by omega), u2_na _ _ _ _ _ (by omega), u2_nk _ _ _ _ _ (by omega), u2_at]
        · rw [w2_na (by omega), u2_na _ _ _ _ _ (by omega), u2_na _ _ _ _ _ (by omega), u2_at]
        · rw [w2_at]
          unfold cpB
          rw [if_neg (by omega), u2_nk _ _ _ _ _ (by omega), u2_at]
        · rw [w2_at]
          unfold cpB
          rw [if_neg (by omega), u2_at]
        · rw [w2_at]
          unfold cpB
          rw [if_pos (by omega), show 1875 + (159 + k - 159) = 1875 + k by omega, u2_nk _ _ _ _ _ (by omega), u2_nk _ _ _ _ _ (by omega), u2_na _ _ _ _ _ (by omega), u2_na _ _ _ _ _ (by omega)]
        · rw [w2_at]
          unfold cpB
          rw [if_neg (by omega), u2_nk _ _ _ _ _ (by omega), u2_nk _ _ _ _ _ (by omega), u2_na _ _ _ _ _ (by omega), u2_na _ _ _ _ _ (by omega)]
      obtain ⟨Mf, rf, z0, z5, z10, z11, z157, z158, z159, z140⟩ := rf
      refine ⟨.int (nI s1), Xd X, u2 K2 3 15 (nI 0), Y0, Xd X, Mf, Q, cl2, rf, ?_, rfl⟩
      obtain ⟨hw, hT, hM, hDC, hDM, hNM, hGB⟩ := hTB
      have hlt : ∀ k, k < 157 → dlT T s1 W k = T k := fun k hk => dlT_lt hk
      refine INV_rd H (X2 := Xd X) hX (fun a g1 g2 g3 g4 g5 => by rw [z0 a g2 g3, w0 a g2 g3, m0 a g1 (by omega) (by omega) (by omega)]) (fun k g1 g2 g3 => by rw [z0 3 (by omega) (by omega), w0 3 (by omega) (by omega), m3 k g3, c8 k g1 g2]) (fun k hk => by rw [z5 k (by omega) (by omega), wh k hk]) (fun k g1 g2 => by rw [z140 k (by omega)]; exact w140 k (by omega)) ⟨by rw [z0 3 (by omega) (by omega), w0 3 (by omega) (by omega), m3 2 (by omega)]; exact c9, by rw [z5 8 (by omega) (by omega), gM.2.2 8 (by omega) (by omega)]; exact r4⟩ (by rw [z0 3 (by omega) (by omega), w0 3 (by omega) (by omega), m3 14 (by omega)]; exact c10) ⟨?_, ?_⟩ (fun a g1 g2 g3 g4 => j0 a g1 g2) (fun k hk => ?_) (fun k g1 g2 => by rw [j0 142 (by omega) (by omega)]) ?_ ⟨dlT T s1 W, WF_lt hlt hw, ?_, ?_, ?_, ?_, ?_, GB_lt hlt hw hGB⟩
      · rw [z0 115 (by omega) (by omega), w0 115 (by omega) (by omega), m115, z10]; exact g10
      · rw [z0 115 (by omega) (by omega), w0 115 (by omega) (by omega), m115, z11]; exact g11
      · rw [gL.2 k hk, r8.2 k hk, y0 135 (by omega)]
      · rw [z0 3 (by omega) (by omega), w0 3 (by omega) (by omega), u2_at, z5 0 (by omega) (by omega), gM.2.2 0 (by omega) (by omega)]; exact r5.symm
      · refine TC_lt hlt hw (TC_frame (fun a g1 g2 => ?_) hT)
        have g1' : X.2.1 ≤ a := g1
        have g2' : a < X.2.1 + 14 := g2
        rw [z0 a (by omega) (by omega), w0 a (by omega) (by omega), m0 a (by omega) (by omega) (by omega) (by omega)]
      · refine TM_lt hlt hw (TM_congr hw (fun k hk => ?_) hM)
        show Mf 140 (429 * 0 + k) = I 140 (429 * 0 + k)
        rw [z140 _ (by omega), w140 _ (by omega)]
      · have kk : ∀ a k, X.2.1 + 14 ≤ a → a < X.2.1 + 20 → Mf a k = K2 a k := fun a k g1 g2 => by rw [z0 a (by omega) (by omega), w0 a (by omega) (by omega), u2_na _ _ _ _ _ (by omega)]
        refine ⟨by show Mf (X.2.1 + 14) 5 = _; rw [kk _ _ (by omega) (by omega), dlT_7]; exact k5, by rw [dlT_7]; omega, by show Mf (X.2.1 + 14) 7 = _; rw [kk _ _ (by omega) (by omega), dlT_8]; exact k7, by rw [dlT_8]; exact s31, p1, p60, by show Mf (X.2.1 + 14) 6 = _; rw [kk _ _ (by omega) (by omega)]; exact k6, fun _ => ?_⟩
        rw [dlT_8]
        refine DL_loc (fun k hk => by rw [dlT_lt (by omega), TV_4 hk]) 30 0 s1 0 p1 (fun i _ hi => ?_) (fun j g1 g2 => ?_) (gD.2.2 30 (by omega))
        · obtain ⟨q1, q2, q3, q4, q5⟩ := k9 i hi
          have u9 : ∀ a, a ≠ 119 → u2 K0 119 5 (nI 1) a i = K1 a i := fun a ha => by rw [u2_na _ _ _ _ _ ha, hk' a ha]
          refine ⟨?_, ?_, ?_, ?_, ?_⟩
          · show Mf (X.2.1 + 15) i = _
            rw [kk _ _ (by omega) (by omega), q1, u9 _ (by omega)]
          · show Mf (X.2.1 + 16) i = _
            rw [kk _ _ (by omega) (by omega), q2, u9 _ (by omega)]
          · show Mf (X.2.1 + 17) i = _
            rw [kk _ _ (by omega) (by omega), q3, u9 _ (by omega)]
          · show Mf (X.2.1 + 18) i = _
            rw [kk _ _ (by omega) (by omega), q4, u9 _ (by omega)]
          · show Mf (X.2.1 + 19) i = _
            rw [kk _ _ (by omega) (by omega), q5, u9 _ (by omega)]
        · rw [dlT_ge (by omega)]
          unfold TV
          rw [if_neg (by omega)]
      · refine ⟨?_, ?_, fun k hk => ?_⟩
        · show Mf 140 (429 * 0 + 157) = _
          rw [dlT_7]; exact z157
        · show Mf 140 (429 * 0 + 158) = _
          rw [dlT_8]; exact z158
        · rw [dlT_8] at hk
          show Mf 140 (429 * 0 + (159 + k)) = _
          rw [show 429 * 0 + (159 + k) = 159 + k by omega, z159 k hk, dlT_ge (by omega), nI_toN, show 1716 + (159 + k) = 1875 + k by omega]
      · intro k i hk hi
        rw [dlT_lt (by omega)] at hi
        show Q (X.2.1 + 1) _ = Q 142 _
        rw [j0 _ (by omega) (by omega), j0 142 (by omega) (by omega)]
        exact hNM k i hk hi
end
