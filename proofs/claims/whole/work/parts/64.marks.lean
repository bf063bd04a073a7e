/-! marks -/
theorem lR_mkT {X : lt_X} {I : Nat → Nat → Int32} {J : Nat → Nat → Int64} {i : Nat} (hi : i < 3) (f : Nat → am_O) : am_lR (mkh X I J) 14 54 (nI i) f = f (55 + 20 * i) := by
  match i, hi with
  | 0, _ => exact Eq.trans rfl rfl
  | 1, _ => exact Eq.trans rfl rfl
  | 2, _ => exact Eq.trans rfl rfl
theorem mk_isT {i : Nat} (hi : i < 3) : isT (55 + 20 * i) := by unfold isT; omega
theorem INV_marks {xs : Nat → Int32} {X : lt_X} {I M : Nat → Nat → Int32} {J L : Nat → Nat → Int64} (H : INV xs X I J) (h1 : ∀ a, a ≠ 3 → a ≠ 135 → a ≠ 140 → ¬ (X.2.1 ≤ a ∧ a < X.2.1 + 20) → ¬ (55 ≤ a ∧ a < 115) → M a = I a) (h2 : ∀ k, k ≠ 15 → k ≠ 6 → M 3 k = I 3 k) (h3 : ∀ k, k ≠ 0 → k ≠ 1 → k ≠ 23 → M 135 k = I 135 k) (h4 : ∀ a, a ≠ 142 → a ≠ X.2.1 + 1 → ¬ (55 ≤ a ∧ a < 115) → L a = J a) (hs : M 3 15 = M 135 0) (hT : TW M L X.2.1 0) (hK : MKS M L) : INV xs X M L := by
  obtain ⟨hX, a1, a2, a3, a4, a5, a6, a7, a8, a9, a10⟩ := H
  have he := hsX_no hX
  refine ⟨hX, ?_, hT, hK, ?_, ?_, ?_, ?_, ?_, ?_, hs⟩
  · rw [h1 1 (by omega) (by omega) (by omega) (by omega) (by omega)]; exact a1
  · intro i hi
    rw [h1 (5 + 2 * i) (by omega) (by omega) (by omega) (by omega) (by omega), h1 136 (by omega) (by omega) (by omega) (by omega) (by omega), h1 137 (by omega) (by omega) (by omega) (by omega) (by omega), h4 (6 + 2 * i) (by omega) (by omega) (by omega), h4 138 (by omega) (by omega) (by omega)]
    exact a4 i hi
  · obtain ⟨n, b1, b2, b3, b4⟩ := a5
    refine ⟨n, b1, by rw [h2 2 (by omega) (by omega)]; exact b2, by rw [h3 8 (by omega) (by omega) (by omega)]; exact b3, fun k hk => ?_⟩
    rw [h1 13 (by omega) (by omega) (by omega) (by omega) (by omega), h1 139 (by omega) (by omega) (by omega) (by omega) (by omega)]; exact b4 k hk
  · unfold FLT
    rw [h2 14 (by omega) (by omega), h3 10 (by omega) (by omega) (by omega), h3 11 (by omega) (by omega) (by omega), h1 115 (by omega) (by omega) (by omega) (by omega) (by omega)]; exact a6
  · unfold LVD
    rw [h2 13 (by omega) (by omega), h3 33 (by omega) (by omega) (by omega), h1 134 (by omega) (by omega) (by omega) (by omega) (by omega), h1 146 (by omega) (by omega) (by omega) (by omega) (by omega)]; exact a7
  · unfold FRC
    rw [h4 3 (by omega) (by omega) (by omega), h4 135 (by omega) (by omega) (by omega)]; exact a8
  · intro k hk
    rw [h4 116 (by omega) (by omega) (by omega)]; exact a9 k hk
/-- a copied town -/
theorem TB_copy {I M : Nat → Nat → Int32} {J L : Nat → Nat → Int64} {t u b c : Nat} {T : Nat → Nat} (H : TB I J u b T) (h1 : TC M t T) (h2 : DC M t T) (h3 : ∀ k, k < 429 → M 140 (429 * c + k) = I 140 (429 * b + k)) (h4 : ∀ k, k < 24 → L (t + 1) k = J (u + 1) k) (h5 : ∀ k, k < 24 → L 142 (24 * c + k) = J 142 (24 * b + k)) : TB M L t c T := by
  obtain ⟨hw, -, c2, c3, c4, c5, c6⟩ := H
  exact ⟨hw, h1, TM_congr hw (fun k hk => h3 k (by omega)) c2, h2, DM_congr c3.2.2.2.1 (fun k _ hk => h3 k hk) c4, NM_congr hw h4 h5 c5, c6⟩
theorem p_mark {xs : Nat → Int32} {N d : Nat} {X : lt_X} {I : Nat → Nat → Int32} {J : Nat → Nat → Int64} (H : INV xs X I J) (hN : 100000 ≤ N) : PR xs N d X I J 176 354 [] := by
  have hX := H.1
  have he := hsX_no hX
  obtain ⟨m, hm, m1, m2, m3⟩ := H.2.2.2.1
  by_cases q : m = 3
  · subst q
    refine PR_tells H (.int (-1)) (nI 7) (CR_st ?_) (fun K hK => MR_2 (a := nI 0) (b := nI 0) ?_)
    · rw [gX8_mark N (d + 38), sX8_mark_0 N (d + 38) _ hX]
      rw [m1, nc_nlt (by omega) (by omega)]
    · rw [gX9_mark N (d + 38), sX9_mark_0 N (d + 38)]
      rw [hK 135 (by omega) (by omega), m2, nc_eq rfl]
  · obtain ⟨T, hB⟩ := H.2.2.1
    obtain ⟨hw, hT, hM, hD, hE, hN2, hG⟩ := id hB
    obtain ⟨K1, e1, f1, g1, g2⟩ := c5_take (N := N) (d := d + 35) (X := X) (J := J) (mk_isT (show m < 3 by omega)) (hsX_he hX) (by omega) hT hw hD
    have k3 : K1 3 = I 3 := f1 3 (by omega)
    have hc : am_G am_prog (N + 30) (d + 40) 176 [.ref 3] (mkh X I J) = some (.int (nI (m + 1)), mkh X (u2 (u2 K1 3 6 (nI (m + 1))) 3 15 (nI 0)) (w2L J (55 + 20 * m + 1) (va_cpy (J (X.2.1 + 1)) (J (55 + 20 * m + 1)) 0 0 24))) := by
      rw [gX8_mark N (d + 38), sX8_mark_0 N (d + 38) _ hX]
      rw [m1, nc_lt (by omega) (by omega), lR_mkT (by omega), e1, cV_some, kX8_mark_0 N (d + 38) _ hX, k3, m1, nI_add]
    generalize hI2 : u2 (u2 K1 3 6 (nI (m + 1))) 3 15 (nI 0) = I2 at hc
    generalize hJ2 : w2L J (55 + 20 * m + 1) (va_cpy (J (X.2.1 + 1)) (J (55 + 20 * m + 1)) 0 0 24) = J2 at hc
    have i0 : ∀ a, a ≠ 3 → I2 a = K1 a := fun a ha => by rw [← hI2, u2_na _ _ _ _ _ ha, u2_na _ _ _ _ _ ha]
    have j0 : ∀ a, a ≠ 55 + 20 * m + 1 → J2 a = J a := fun a ha => by rw [← hJ2, w2L_na ha]
    have hm2 : am_G am_prog (N + 30) (d + 40) 354 [.ref 135] (mkh X I2 J2) = some (.int (nI (m + 1)), mkh X (w2 (u2 (u2 (u2 I2 135 1 (nI 0)) 135 0 (nI 0)) 135 23 (nI (m + 1))) 140 (cpB (I 140) (429 * 0) (429 * (m + 1)) 429)) (w2L J2 142 (cpA (J 142) (24 * 0) (24 * (m + 1)) 24))) := by
      rw [gX9_mark N (d + 38), sX9_mark_0 N (d + 38)]
      rw [i0 135 (by omega), f1 135 (by omega), m2, nc_ne q (by omega) (by omega), nI_add, c9_copy (b := 0) (c := m + 1) (by omega) (by omega) (by omega) (by omega), cV_some, kX9_mark_0 N (d + 38), w2_na (by omega), u2_at, u2_na _ _ _ _ _ (by omega), u2_na _ _ _ _ _ (by omega), u2_na _ _ _ _ _ (by omega), i0 140 (by omega), f1 140 (by omega), j0 142 (by omega)]
    generalize hM2 : w2 (u2 (u2 (u2 I2 135 1 (nI 0)) 135 0 (nI 0)) 135 23 (nI (m + 1))) 140 (cpB (I 140) (429 * 0) (429 * (m + 1)) 429) = M at hm2
    generalize hL2 : w2L J2 142 (cpA (J 142) (24 * 0) (24 * (m + 1)) 24) = L at hm2
    have z0 : ∀ a, a ≠ 3 → a ≠ 135 → a ≠ 140 → M a = K1 a := fun a b1 b2 b3 => by
      rw [← hM2, w2_na b3, u2_na _ _ _ _ _ b2, u2_na _ _ _ _ _ b2, u2_na _ _ _ _ _ b2, i0 a b1]
    have z3 : M 3 = I2 3 := by rw [← hM2, w2_na (by omega), u2_na _ _ _ _ _ (by omega), u2_na _ _ _ _ _ (by omega), u2_na _ _ _ _ _ (by omega)]
    have z140 : M 140 = cpB (I 140) (429 * 0) (429 * (m + 1)) 429 := by rw [← hM2, w2_at]
    have y0 : ∀ a, a ≠ 142 → a ≠ 55 + 20 * m + 1 → L a = J a := fun a b1 b2 => by rw [← hL2, w2L_na b1, j0 a b2]
    have y142 : L 142 = cpA (J 142) (24 * 0) (24 * (m + 1)) 24 := by rw [← hL2, w2L_at]
    refine ⟨_, X, _, _, X, M, L, hc, hm2, INV_marks H (fun a b1 b2 b3 b4 b5 => ?_) (fun k b1 b2 => ?_) (fun k b1 b2 b3 => ?_) (fun a b1 b2 b3 => y0 a b1 (by omega)) ?_ ?_ ?_, rfl⟩
    · rw [z0 a b1 b2 b3, f1 a (by omega)]
    · rw [z3, ← hI2, u2_nk _ _ _ _ _ b1, u2_nk _ _ _ _ _ b2, k3]
    · rw [← hM2, w2_na (by omega), u2_nk _ _ _ _ _ b3, u2_nk _ _ _ _ _ b1, u2_nk _ _ _ _ _ b2, i0 135 (by omega), f1 135 (by omega)]
    · rw [z3, ← hI2, u2_at, ← hM2, w2_na (by omega), u2_nk _ _ _ _ _ (by omega), u2_at]
    · refine ⟨T, TB_frame (fun a b1 b2 => ?_) (fun k hk => ?_) (fun k hk => ?_) (fun k hk => ?_) hB⟩
      · rw [z0 a (by omega) (by omega) (by omega), f1 a (by omega)]
      · rw [z140]; unfold cpB; rw [if_neg (by omega)]
      · rw [y0 _ (by omega) (by omega)]
      · rw [y142]; unfold cpA; rw [if_neg (by omega)]
    · refine ⟨m + 1, by omega, ?_, ?_, fun j hj => ?_⟩
      · rw [z3, ← hI2, u2_nk _ _ _ _ _ (by omega), u2_at]
      · rw [← hM2, w2_na (by omega), u2_at]
      · by_cases r : j = m
        · subst r
          refine ⟨T, TB_copy hB (TC_frame (fun a b1 b2 => z0 a (by omega) (by omega) (by omega)) g1) (DC_frame (fun a b1 b2 => z0 a (by omega) (by omega) (by omega)) g2) (fun k hk => ?_) (fun k hk => ?_) (fun k hk => ?_)⟩
          · rw [z140]; unfold cpB; rw [if_pos (by omega)]; exact congrArg (I 140) (by omega)
          · rw [← hL2, w2L_na (by omega), ← hJ2, w2L_at, cpy0 hk]
          · rw [y142]; unfold cpA; rw [if_pos (by omega)]; congr 1; omega
        · refine TW_frame (fun a b1 b2 => ?_) (fun k hk => ?_) (fun k hk => ?_) (fun k hk => ?_) (m3 j (by omega))
          · rw [z0 a (by omega) (by omega) (by omega), f1 a (by omega)]
          · rw [z140]; unfold cpB; rw [if_neg (by omega)]
          · rw [y0 _ (by omega) (by omega)]
          · rw [y142]; unfold cpA; rw [if_neg (by omega)]
theorem p_back {xs : Nat → Int32} {N d : Nat} {X : lt_X} {I : Nat → Nat → Int32} {J : Nat → Nat → Int64} (H : INV xs X I J) (hN : 100000 ≤ N) : PR xs N d X I J 177 355 [] := by
  have hX := H.1
  have he := hsX_no hX
  obtain ⟨m, hm, m1, m2, m3⟩ := H.2.2.2.1
  by_cases q : m = 0
  · subst q
    refine PR_tells H (.int (-1)) (nI 8) (CR_st ?_) (fun K hK => MR_2 (a := nI 0) (b := nI 0) ?_)
    · rw [gX8_back N (d + 38), sX8_back_0 N (d + 38) _ hX]
      rw [m1, nc_nlt (by omega) (by omega)]
    · rw [gX9_back N (d + 38), sX9_back_0 N (d + 38)]
      rw [hK 135 (by omega) (by omega), m2, nc_eq rfl]
  · obtain ⟨n, rfl⟩ : ∃ n, m = n + 1 := ⟨m - 1, by omega⟩
    obtain ⟨T, hB⟩ := m3 n (by omega)
    have i36 : ∀ a, a ≠ 3 → u2 I 3 6 (nI n) a = I a := fun a ha => u2_na _ _ _ _ _ ha
    obtain ⟨hw, hT, hM, hD, hE, hN2, hG⟩ := id hB
    obtain ⟨K1, e1, f1, g1, g2⟩ := c5_take (N := N) (d := d + 35) (X := X) (J := J) (I := u2 I 3 6 (nI n)) (hsX_he hX) (mk_isT (show n < 3 by omega)) (by omega) (TC_frame (fun a b1 b2 => i36 a (by omega)) hT) hw (DC_frame (fun a b1 b2 => i36 a (by omega)) hD)
    have k3 : K1 3 = u2 I 3 6 (nI n) 3 := f1 3 (by omega)
    have es : nI (n + 1) - nI 1 = nI n := pk_sub (by omega)
    have hc : am_G am_prog (N + 30) (d + 40) 177 [.ref 3] (mkh X I J) = some (.int (nI n), mkh X (u2 K1 3 15 (nI 0)) (w2L J (X.2.1 + 1) (va_cpy (J (55 + 20 * n + 1)) (J (X.2.1 + 1)) 0 0 24))) := by
      rw [gX8_back N (d + 38), sX8_back_0 N (d + 38) _ hX]
      rw [m1, nc_lt (by omega) (by omega), es, lR_mkT (by omega), e1, cV_some, kX8_back_0 N (d + 38) _ hX, k3, u2_at]
    generalize hI2 : u2 K1 3 15 (nI 0) = I2 at hc
    generalize hJ2 : w2L J (X.2.1 + 1) (va_cpy (J (55 + 20 * n + 1)) (J (X.2.1 + 1)) 0 0 24) = J2 at hc
    have i0 : ∀ a, a ≠ 3 → I2 a = K1 a := fun a ha => by rw [← hI2, u2_na _ _ _ _ _ ha]
    have j0 : ∀ a, a ≠ X.2.1 + 1 → J2 a = J a := fun a ha => by rw [← hJ2, w2L_na ha]
    have k135 : I2 135 = I 135 := by rw [i0 135 (by omega), f1 135 (by omega), i36 135 (by omega)]
    have k140 : I2 140 = I 140 := by rw [i0 140 (by omega), f1 140 (by omega), i36 140 (by omega)]
    have hm2 : am_G am_prog (N + 30) (d + 40) 355 [.ref 135] (mkh X I2 J2) = some (.int (nI n), mkh X (u2 (w2 (u2 (u2 I2 135 1 (nI 0)) 135 0 (nI 0)) 140 (cpB (I 140) (429 * (n + 1)) (429 * 0) 429)) 135 23 (nI n)) (w2L J2 142 (cpA (J 142) (24 * (n + 1)) (24 * 0) 24))) := by
      rw [gX9_back N (d + 38), sX9_back_0 N (d + 38)]
      rw [k135, m2, nc_ne q (by omega) (by omega), c9_copy (b := n + 1) (c := 0) (by omega) (by omega) (by omega) (by omega), cV_some, kX9_back_0 N (d + 38), w2_na (by omega), u2_nk _ _ _ _ _ (by omega), u2_nk _ _ _ _ _ (by omega), k135, m2, es, u2_na _ _ _ _ _ (by omega), u2_na _ _ _ _ _ (by omega), k140, j0 142 (by omega)]
    generalize hM2 : u2 (w2 (u2 (u2 I2 135 1 (nI 0)) 135 0 (nI 0)) 140 (cpB (I 140) (429 * (n + 1)) (429 * 0) 429)) 135 23 (nI n) = M at hm2
    generalize hL2 : w2L J2 142 (cpA (J 142) (24 * (n + 1)) (24 * 0) 24) = L at hm2
    have z0 : ∀ a, a ≠ 3 → a ≠ 135 → a ≠ 140 → M a = K1 a := fun a b1 b2 b3 => by
      rw [← hM2, u2_na _ _ _ _ _ b2, w2_na b3, u2_na _ _ _ _ _ b2, u2_na _ _ _ _ _ b2, i0 a b1]
    have z3 : M 3 = I2 3 := by rw [← hM2, u2_na _ _ _ _ _ (by omega), w2_na (by omega), u2_na _ _ _ _ _ (by omega), u2_na _ _ _ _ _ (by omega)]
    have z140 : M 140 = cpB (I 140) (429 * (n + 1)) (429 * 0) 429 := by rw [← hM2, u2_na _ _ _ _ _ (by omega), w2_at]
    have y0 : ∀ a, a ≠ 142 → a ≠ X.2.1 + 1 → L a = J a := fun a b1 b2 => by rw [← hL2, w2L_na b1, j0 a b2]
    have y142 : L 142 = cpA (J 142) (24 * (n + 1)) (24 * 0) 24 := by rw [← hL2, w2L_at]
    refine ⟨_, X, _, _, X, M, L, hc, hm2, INV_marks H (fun a b1 b2 b3 b4 b5 => ?_) (fun k b1 b2 => ?_) (fun k b1 b2 b3 => ?_) (fun a b1 b2 b3 => y0 a b1 b2) ?_ ?_ ?_, rfl⟩
    · rw [z0 a b1 b2 b3, f1 a b4, i36 a b1]
    · rw [z3, ← hI2, u2_nk _ _ _ _ _ b1, k3, u2_nk _ _ _ _ _ b2]
    · rw [← hM2, u2_nk _ _ _ _ _ b3, w2_na (by omega), u2_nk _ _ _ _ _ b1, u2_nk _ _ _ _ _ b2, k135]
    · rw [z3, ← hI2, u2_at, ← hM2, u2_nk _ _ _ _ _ (by omega), w2_na (by omega), u2_at]
    · refine ⟨T, TB_copy hB (TC_frame (fun a b1 b2 => z0 a (by omega) (by omega) (by omega)) g1) (DC_frame (fun a b1 b2 => z0 a (by omega) (by omega) (by omega)) g2) (fun k hk => ?_) (fun k hk => ?_) (fun k hk => ?_)⟩
      · rw [z140]; unfold cpB; rw [if_pos (by omega)]; congr 1; omega
      · rw [← hL2, w2L_na (by omega), ← hJ2, w2L_at, cpy0 hk]
      · rw [y142]; unfold cpA; rw [if_pos (by omega)]; congr 1; omega
    · refine ⟨n, by omega, ?_, ?_, fun j hj => ?_⟩
      · rw [z3, ← hI2, u2_nk _ _ _ _ _ (by omega), k3, u2_at]
      · rw [← hM2, u2_at]
      · refine TW_frame (fun a b1 b2 => ?_) (fun k hk => ?_) (fun k hk => ?_) (fun k hk => ?_) (m3 j (by omega))
        · rw [z0 a (by omega) (by omega) (by omega), f1 a (by omega), i36 a (by omega)]
        · rw [z140]; unfold cpB; rw [if_neg (by omega)]
        · rw [y0 _ (by omega) (by omega)]
        · rw [y142]; unfold cpA; rw [if_neg (by omega)]
