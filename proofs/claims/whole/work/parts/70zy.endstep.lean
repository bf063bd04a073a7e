/-! texts: dials; the end of a block, rounds of the class -/
section
variable {N d e : Nat} {X X2 : lt_X} {f : Nat → Int32} {n q r p s l b c p0 s0 : Nat} {I M K V Z V0 V1 Z1 W : Nat → Nat → Int32} {J L Y P Y0 P0 : Nat → Nat → Int64} {T : Nat → Nat}
theorem rnd_1 (hn : n ≤ 900) (hX : hsX X) (hq : q ≤ n) (hC : CT f n q I J) (hk : tkK f n q ≠ 0) (h : am_G am_prog (N + 30) (d + 6) 25 [.ref 118] (mkh X I J) = some (.int (nI 1), mkh X K Y)) : RND N d X q 1 I J (fun z i => RX2_readsFor_19 N (d + 5) z X (nI (i + 1)) K Y) := by
  intro z i hi
  rw [sX2_readsFor_19 N (d + 5) z hX, nc_nlt (by omega) (by omega), hC.2.2.2.1, nc_ne hk (tkK_lt f n q) (by omega), h, cI_some, kX2_readsFor_0 N (d + 5) z hX, nc_ne (by omega) (by omega) (by omega), nI_add]
theorem rnd_f (hn : n ≤ 900) (hX : hsX X) (hq : q ≤ n) (hC : CT f n q I J) (hk : tkK f n q ≠ 0) (h : am_G am_prog (N + 30) (d + 6) 25 [.ref 118] (mkh X I J) = some (.int (nI 0), mkh X K Y)) : RND N d X q 1 I J (fun _ _ => some (.int (nI 0), mkh X K Y)) := by
  intro z i hi
  rw [sX2_readsFor_19 N (d + 5) z hX, nc_nlt (by omega) (by omega), hC.2.2.2.1, nc_ne hk (tkK_lt f n q) (by omega), h, cI_some, kX2_readsFor_0 N (d + 5) z hX, nc_eq rfl]
theorem rnd_0 (hn : n ≤ 900) (hX : hsX X) (hq : q ≤ n) (hC : CT f n q I J) (hk : tkK f n q = 0) (hl : 0 < l) (hl3 : l ≤ 3) (h3 : I 118 3 = nI l) : RND N d X q 2 I J (fun _ _ => some (.int (nI 0), mkh X (u2 (u2 (u2 I 119 5 (nI 1)) 115 10 (nI (fkd f n q))) 115 11 (nI (tkS f n q))) J)) := by
  intro z i hi
  rw [sX2_readsFor_19 N (d + 5) (z + 1) hX, nc_nlt (by omega) (by omega), hC.2.2.2.1, nc_eq hk, sX2_readsFor_51 N (d + 5) z hX, h3, nc_ne (by omega) (by omega) (by omega), c4_refuses (d := d + 5) (CT_o2 (by omega) (by omega) hC), cI_some, kX2_readsFor_1 N (d + 5) z hX, nc_eq rfl]
theorem m_nost (H : RT f n q M L) (h12 : M 135 12 = nI 0) (st : ¬ isSt (tkK f n q)) (x : Int32) : am_G am_prog (N + 30) (e + 9) 256 [.ref 135, .int x] (mkh X2 M L) = some (.null, mkh X2 (flt M (fkd f n q) (tkS f n q)) L) := by
  have fb := fkd_b f n q
  rw [gX9_readStep N (e + 8), sX9_readStep_0 N (e + 8), c9_stepWord (d := e + 6) H, cI_some, swK_no st, kX9_readStep_0 N (e + 8), nc_ne (by omega) (by omega) (by omega), nc_ne (by omega) (by omega) (by omega), nc_neg rfl, c9_amiss0 (d := e + 6) H h12, cV_some, kX9_readStep_7 N (e + 8), st31_b (z := N + 26) (flt_12 _ _ _) fb.1 (by omega)]
theorem j_end (hn : n ≤ 900) (hB : ∀ k, k < n → isB (f k)) (hN : 10000 ≤ N) (hX : hsX X) (hD : X.2.2.2.2 = some X.2.1) (H : JD f n T X.2.1 q (l + 1) s p I J M L) (hk : tkK f n q = 125) (hp0 : p0 < p) (hs0 : s0 < s) (h0 : I 125 l = nI p0) (z : Nat) :
    (∃ K Y V P, am_G am_prog (N + 30) (d + 6) 25 [.ref 118] (mkh X I J) = some (.int (nI 0), mkh X K Y) ∧ RX9_readStep_170 N (e + 8) (z + 1) X2 (nI 1) (nI (1875 + 9 * s0)) M L = some (.null, mkh X2 V P) ∧ FD f n I J M L K Y V P) ∨
    (∃ r K Y V P, q < r ∧ am_G am_prog (N + 30) (d + 6) 25 [.ref 118] (mkh X I J) = some (.int (nI 1), mkh X K Y) ∧ RX9_readStep_170 N (e + 8) (z + 1) X2 (nI 1) (nI (1875 + 9 * s0)) M L = some (.null, mkh X2 V P) ∧ JD f n T X.2.1 r l s (p + 1) K Y V P ∧ DJ J Y ∧ FTL L P ∧ (∀ a, a ≠ 115 → ¬ (118 ≤ a ∧ a ≤ 124) → K a = I a) ∧ (∀ a i, 120 ≤ a → a ≤ 124 → i ≠ p → (a = 124 → i ≠ p0) → K a i = I a i) ∧ K 120 p = nI 125 ∧ K 124 p = nI p0 ∧ K 124 p0 = nI p ∧ (∀ a, a ≠ 135 → a ≠ 140 → V a = M a) ∧ (∀ k, k ≠ 1883 + 9 * s0 → V 140 k = M 140 k) ∧ V 140 (1883 + 9 * s0) = nI s ∧ (∀ k, ¬ (12 ≤ k ∧ k ≤ 18) → V 135 k = M 135 k)) := by
  obtain ⟨hq, hl, hs, hpl, hsp, hC, hK, hOK, h3, h6, h7, hR, h12, h25, hNH⟩ := H
  obtain ⟨ht, htt⟩ := hX_H hX
  have hp6 : p < 60 := by omega
  have v0 := VS_0 hR h12
  have cl := gX2_readsNext N (d + 5) (X := X) I J
  have hs1 : I 118 3 - nI 1 = nI l := by rw [h3, pk_sub (by omega), show l + 1 - 1 = l by omega]
  have h0' : I 125 (nI l).toNatClampNeg = nI p0 := by rw [nI_clamp (by omega)]; exact h0
  have ce := gX2_readsEnd N (d + 4) (X := X) I J
  rw [sX2_readsEnd_0 N (d + 4) _ hX hD] at ce
  simp only [hs1, h0', h6, nI_add p 1] at ce
  rw [nc_lt hp6 (by omega), nc_in (by omega) (by omega), nc_in (by omega) (by omega), nc_in (by omega) (by omega), nc_in (by omega) (by omega), nc_in (by omega) (by omega), nI_clamp (by omega), nI_clamp (by omega)] at ce
  rw [sX2_readsNext_0 N (d + 5) _ hX hD, hC.2.2.2.1, nc_eq hk, h3, nc_lt (by omega) (by omega)] at cl
  have ze : ∀ a, ¬ (118 ≤ a ∧ a ≤ 120) → a ≠ 124 → u2 (u2 (u2 (u2 (u2 I 118 3 (nI l)) 120 p (nI 125)) 124 p (nI p0)) 124 p0 (nI p)) 119 6 (nI (p + 1)) a = I a := fun a g1 g2 => by rw [u2_na _ _ _ _ _ (by omega), u2_na _ _ _ _ _ g2, u2_na _ _ _ _ _ g2, u2_na _ _ _ _ _ (by omega), u2_na _ _ _ _ _ (by omega)]
  have z118 : u2 (u2 (u2 (u2 (u2 I 118 3 (nI l)) 120 p (nI 125)) 124 p (nI p0)) 124 p0 (nI p)) 119 6 (nI (p + 1)) 118 3 = nI l := by rw [u2_na _ _ _ _ _ (by omega), u2_na _ _ _ _ _ (by omega), u2_na _ _ _ _ _ (by omega), u2_na _ _ _ _ _ (by omega), u2_at]
  have z119 : u2 (u2 (u2 (u2 (u2 I 118 3 (nI l)) 120 p (nI 125)) 124 p (nI p0)) 124 p0 (nI p)) 119 6 (nI (p + 1)) 119 6 = nI (p + 1) ∧ u2 (u2 (u2 (u2 (u2 I 118 3 (nI l)) 120 p (nI 125)) 124 p (nI p0)) 124 p0 (nI p)) 119 6 (nI (p + 1)) 119 7 = nI s := ⟨u2_at _ _ _ _, by rw [u2_nk _ _ _ _ _ (by omega), u2_na _ _ _ _ _ (by omega), u2_na _ _ _ _ _ (by omega), u2_na _ _ _ _ _ (by omega), u2_na _ _ _ _ _ (by omega)]; exact h7⟩
  have z120 : u2 (u2 (u2 (u2 (u2 I 118 3 (nI l)) 120 p (nI 125)) 124 p (nI p0)) 124 p0 (nI p)) 119 6 (nI (p + 1)) 120 = u2 I 120 p (nI 125) 120 := by rw [u2_na _ _ _ _ _ (by omega), u2_na _ _ _ _ _ (by omega), u2_na _ _ _ _ _ (by omega)]; exact u2_fr (u2_na _ _ _ _ _ (by omega))
  have z124 : u2 (u2 (u2 (u2 (u2 I 118 3 (nI l)) 120 p (nI 125)) 124 p (nI p0)) 124 p0 (nI p)) 119 6 (nI (p + 1)) 124 = u2 (u2 I 124 p (nI p0)) 124 p0 (nI p) 124 := by rw [u2_na _ _ _ _ _ (by omega)]; exact u2_fr (u2_fr (by rw [u2_na _ _ _ _ _ (by omega), u2_na _ _ _ _ _ (by omega)]))
  generalize u2 (u2 (u2 (u2 (u2 I 118 3 (nI l)) 120 p (nI 125)) 124 p (nI p0)) 124 p0 (nI p)) 119 6 (nI (p + 1)) = Ze at *
  have mz : MS f n q q Ze J Ze J := MS_0 hq (CT_a (ze 13 (by omega) (by omega)) (ze 115 (by omega) (by omega)) rfl hC) hK ⟨by rw [ze 115 (by omega) (by omega)]; exact hOK.1, by rw [ze 115 (by omega) (by omega)]; exact hOK.2⟩
  obtain ⟨K1, Y1, a1, m1⟩ := zs_next (N := N) (d := d + 2) (X := X) hn hB hN mz
  rw [a1, cV_some, kX2_readsEnd_0 N (d + 4) _ hX hD] at ce
  have rf := sX9_readStep_170 N (e + 8) z (X := X2) (nI 1) (nI (1875 + 9 * s0)) M L
  obtain ⟨V1, P1, b1, b2, b3, b4⟩ := c9_must1 (N := N) (d := e + 5) (X := X2) hn hB hN hq hR h12 (x := nI (if tkK f n q = 125 then 1 else 0)) (by rw [if_pos hk])
  have v1 := vs_t v0 b2 b3 b4
  rw [nc_ne (by omega) (by omega) (by omega), c9_isEnd (d := e + 6) hR, cI_some, kX9_readStep_5 N (e + 8), b1, cV_some, kX9_readStep_10 N (e + 8), c9_isSign (d := e + 7) v1.1 (by omega) (by omega), cI_some, kX9_readStep_12 N (e + 8)] at rf
  rcases j_takes (N := N) (d := d + 1) (e := e + 5) (X := X) (X2 := X2) hn hB hN (kd := 59) (by omega) rfl m1 v1 with ⟨b, c, b0, b8, k1, k2⟩ | ⟨K4, Y4, V4, P4, k59, k1, k2, m4, v4⟩
  · left
    rw [k1, cI_some, kX2_readsEnd_2 N (d + 4) _ hX hD, nb_ok (by omega)] at ce
    rw [ce, cI_some, kX2_readsNext_0 N (d + 5) _ hX hD, nb_ok (by omega)] at cl
    have F := FW_v (b := b) (c := c) (s := 0) v1 (DV_0 0 M)
    rw [k2, cV_some, kX9_readStep_14 N (e + 8), w_8, nc_in (by omega) (by omega), nI_clamp (by omega)] at rf
    exact ⟨_, _, _, _, cl, rf, FD_u (by omega) (FD_W b0 b8 m1 ⟨fun a g1 g2 => ze a (by omega) (by omega), fun _ _ _ _ h => absurd h (by omega), fun _ h => absurd h (by omega)⟩ (DJ_0 _) F (DV_0 _ _) (FTL_0 _))⟩
  · right
    rw [k1, cI_some, kX2_readsEnd_2 N (d + 4) _ hX hD, nb_ok (by omega)] at ce
    rw [ce, cI_some, kX2_readsNext_0 N (d + 5) _ hX hD, nb_ok (by omega)] at cl
    have v25 : V4 135 25 = nI s := by rw [v4.2.2.1.2 25 (by omega)]; exact h25
    rw [k2, cV_some, kX9_readStep_14 N (e + 8), w_8, nc_in (by omega) (by omega), nI_clamp (by omega), v25] at rf
    have q2 := tkE_s (f := f) (n := n) hq (by omega)
    have q3 := tkE_s (f := f) m1.2.1 (by omega)
    have kZ : ∀ a, a ≠ 115 → K4 a = Ze a := fun a ha => m4.2.2.2.2.1 a ha
    have v5 := vs_u (k := 1883 + 9 * s0) (v := nI s) v4
    have vM : ∀ a, a ≠ 135 → a ≠ 140 → u2 V4 140 (1883 + 9 * s0) (nI s) a = M a := fun a g1 g2 => by rw [u2_na _ _ _ _ _ g2]; exact v4.2.2.1.1 a g1
    have vk : ∀ k, k ≠ 1883 + 9 * s0 → u2 V4 140 (1883 + 9 * s0) (nI s) 140 k = M 140 k := fun k hk => by rw [u2_nk _ _ _ _ _ hk, v4.2.2.1.1 140 (by omega)]
    obtain ⟨n1, n2, n3, n4⟩ := hNH
    refine ⟨_, K4, Y4, _, P4, by omega, cl, rf, ⟨m4.2.1, by omega, hs, by omega, by omega, m4.2.2.1, m4.2.2.2.1, m4.2.2.2.2.2.2, ?_, ?_, ?_, v5.1, v5.2.1, ?_, n1, fun k hk => ?_, fun k hk => ?_, fun k i hk hi => ?_⟩, fun a ha => m4.2.2.2.2.2.1 a ha, v4.2.2.2, fun a g1 g2 => ?_, fun a i g1 g2 g3 g4 => ?_, ?_, ?_, ?_, vM, vk, u2_at _ _ _ _, fun k hk => ?_⟩
    · rw [kZ 118 (by omega)]; exact z118
    · rw [kZ 119 (by omega)]; exact z119.1
    · rw [kZ 119 (by omega)]; exact z119.2
    · rw [u2_na _ _ _ _ _ (by omega)]; exact v25
    · rw [kZ _ (by omega), ze _ (by omega) (by omega)]; exact n2 k hk
    · rw [vk _ (by omega)]; exact n3 k hk
    · rw [m4.2.2.2.2.2.1 _ (by omega), v4.2.2.2.1 142 (by omega)]; exact n4 k i hk hi
    · rw [kZ a g1]; exact ze a (by omega) (by omega)
    · rw [kZ a (by omega)]
      by_cases g : a = 120
      · subst g; rw [z120, u2_nk _ _ _ _ _ g3]
      · by_cases g' : a = 124
        · subst g'; rw [z124, u2_nk _ _ _ _ _ (g4 rfl), u2_nk _ _ _ _ _ g3]
        · rw [ze a (by omega) g']
    · rw [kZ 120 (by omega), z120, u2_at]
    · rw [kZ 124 (by omega), z124, u2_nk _ _ _ _ _ (by omega), u2_at]
    · rw [kZ 124 (by omega), z124, u2_at]
    · rw [u2_na _ _ _ _ _ (by omega)]; exact v4.2.2.1.2 k (by omega)
end
