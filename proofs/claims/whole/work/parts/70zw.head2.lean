/-! texts: dials; a step's head, class and reference -/
section
variable {N d e : Nat} {X X2 : lt_X} {f : Nat → Int32} {n q r p s l b c : Nat} {I M K V Z V0 V1 Z1 W : Nat → Nat → Int32} {J L Y P Y0 P0 : Nat → Nat → Int64} {T : Nat → Nat}
theorem step_0 {k : Nat} (hk : isSt k) (z : Nat) (x : Int32) : KX9_readStep_0 N (e + 8) z x (nI (swK k)) (mkh X2 M L) = RX9_readStep_31 N (e + 8) z X2 x (nI (swK k)) (nI (bk k)) M L := by
  rw [kX9_readStep_0 N (e + 8)]
  rcases hk with h | h | h | h | h | h | h | h | h | h <;> subst h
  · rw [show swK 113 = 0 from rfl, show bk 113 = 0 from rfl, nc_ne (by omega) (by omega) (by omega), nc_ne (by omega) (by omega) (by omega), nc_nlt (by omega) (by omega)]
  · rw [show swK 114 = 1 from rfl, show bk 114 = 0 from rfl, nc_ne (by omega) (by omega) (by omega), nc_ne (by omega) (by omega) (by omega), nc_nlt (by omega) (by omega)]
  · rw [show swK 115 = 2 from rfl, show bk 115 = 0 from rfl, nc_ne (by omega) (by omega) (by omega), nc_ne (by omega) (by omega) (by omega), nc_nlt (by omega) (by omega)]
  · rw [show swK 116 = 3 from rfl, show bk 116 = 0 from rfl, nc_ne (by omega) (by omega) (by omega), nc_ne (by omega) (by omega) (by omega), nc_nlt (by omega) (by omega)]
  · rw [show swK 117 = 4 from rfl, show bk 117 = 0 from rfl, nc_ne (by omega) (by omega) (by omega), nc_ne (by omega) (by omega) (by omega), nc_nlt (by omega) (by omega)]
  · rw [show swK 118 = 5 from rfl, show bk 118 = 0 from rfl, nc_ne (by omega) (by omega) (by omega), nc_ne (by omega) (by omega) (by omega), nc_nlt (by omega) (by omega)]
  · rw [show swK 119 = 6 from rfl, show bk 119 = 0 from rfl, nc_ne (by omega) (by omega) (by omega), nc_ne (by omega) (by omega) (by omega), nc_nlt (by omega) (by omega)]
  · rw [show swK 120 = 7 from rfl, show bk 120 = 1 from rfl, nc_eq rfl, nc_nlt (by omega) (by omega)]
  · rw [show swK 124 = 8 from rfl, show bk 124 = 1 from rfl, nc_ne (by omega) (by omega) (by omega), nc_eq rfl, nc_nlt (by omega) (by omega)]
  · rw [show swK 126 = 9 from rfl, show bk 126 = 0 from rfl, nc_ne (by omega) (by omega) (by omega), nc_ne (by omega) (by omega) (by omega), nc_nlt (by omega) (by omega)]
theorem swK_no {k : Nat} (h : ¬ isSt k) : swK k = 4294967295 := by
  unfold isSt at h
  unfold swK
  rw [if_neg (by omega), if_neg (by omega), if_neg (by omega), if_neg (by omega), if_neg (by omega), if_neg (by omega), if_neg (by omega), if_neg (by omega), if_neg (by omega), if_neg (by omega)]
theorem swK_lt {k : Nat} (h : isSt k) : swK k < 10 := by
  rcases h with h | h | h | h | h | h | h | h | h | h <;> subst h <;> decide
theorem tk_or (f : Nat → Int32) (n q : Nat) : tkK f n q < 2 ^ 31 ∨ tkK f n q = 4294967295 := by
  rcases rk_or f n q with ⟨r, c⟩ | ⟨r, c⟩ | ⟨r, c⟩ | ⟨r, c⟩ | ⟨r, c⟩ <;> omega
theorem st83_b (h : M 135 12 = nI b) (h0 : 0 < b) (hb : b < 100) (z : Nat) (x y w : Int32) : RX9_readStep_83 N (e + 8) (z + 1) X2 x y w M L = some (.null, mkh X2 M L) := by
  rw [sX9_readStep_83 N (e + 8) z, h, nc_lt h0 (by omega)]
theorem st57_b (h : M 135 12 = nI b) (h0 : 0 < b) (hb : b < 100) (z : Nat) (x y w : Int32) : RX9_readStep_57 N (e + 8) (z + 2) X2 x y w M L = some (.null, mkh X2 M L) := by
  rw [sX9_readStep_57 N (e + 8) (z + 1), h, nc_ne (by omega) (by omega) (by omega), st83_b h h0 hb]
theorem st31_b (h : M 135 12 = nI b) (h0 : 0 < b) (hb : b < 100) (z : Nat) (x y w : Int32) : RX9_readStep_31 N (e + 8) (z + 3) X2 x y w M L = some (.null, mkh X2 M L) := by
  rw [sX9_readStep_31 N (e + 8) (z + 2), h, nc_ne (by omega) (by omega) (by omega), st57_b h h0 hb]
theorem ro_all (hn : n ≤ 900) (hB : ∀ k, k < n → isB (f k)) (hN : 10000 ≤ N) (hX : hsX X) (hD : X.2.2.2.2 = some X.2.1) {tk : Nat} (hst : isSt tk) (hp : p < 60) (hs : s < 30) (hI : Z 120 p = nI tk) (hM : V0 140 (1875 + 9 * s) = nI (swK tk)) (hZ : NZ T X Z V0 Y0 P0) (m : MS f n q r Z Y0 I J) (v : VS f n r V0 P0 M L) (z : Nat) : RO f n q X X2 N d s p Z Y0 V0 P0 (fun Zf Vf num => (isBk tk → QB T s p Zf Vf num) ∧ (¬ isBk tk → QS T s p Zf Vf num)) (KX2_readsNext_7 N (d + 5) (z + 1) (nI p) (nI tk) (mkh X I J)) (am_G am_prog (N + 30) (e + 8) 255 [.ref 135, .int (nI (1875 + 9 * s))] (mkh X2 M L)) := by
  have mono : ∀ {Q R : (Nat → Nat → Int32) → (Nat → Nat → Int32) → Int32 → Prop} {A B : am_O}, (∀ a b c, Q a b c → R a b c) → RO f n q X X2 N d s p Z Y0 V0 P0 Q A B → RO f n q X X2 N d s p Z Y0 V0 P0 R A B := by
    intro Q R A B h H
    rcases H with H | ⟨Zf, Vf, K, Y, V, P, r, z, h1, h2, h3, h4, h5, h6, h7, h8, h9⟩
    · exact Or.inl H
    · exact Or.inr ⟨Zf, Vf, K, Y, V, P, r, z, h1, h2, h3, h4, h5, h6, h7, h8, h _ _ _ h9⟩
  by_cases h0 : tk = 120
  · subst h0
    exact mono (fun a b c h => ⟨fun _ => h, fun g => absurd (Or.inl rfl) g⟩) (ro_when hn hB hN hX hD hp hs hM hZ m v z)
  · by_cases h4 : tk = 124
    · subst h4
      exact mono (fun a b c h => ⟨fun _ => h, fun g => absurd (Or.inr rfl) g⟩) (ro_loop hn hB hN hX hD hp hs hI hM m v z)
    · exact mono (fun a b c h => ⟨fun g => absurd g (by unfold isBk; omega), fun _ => h⟩) (ro_plain hn hB hN hX hD hst h0 h4 hp hs hI hM hZ m v z)
theorem j_head (hn : n ≤ 900) (hB : ∀ k, k < n → isB (f k)) (hN : 10000 ≤ N) (hX : hsX X) (hD : X.2.2.2.2 = some X.2.1) (H : JD f n T X.2.1 q l s p I J M L) (hne : ¬ (tkK f n q = 125 ∧ 0 < l)) : HO f n T X X2 N e q l s p I J M L (am_G am_prog (N + 30) (d + 6) 25 [.ref 118] (mkh X I J)) (am_G am_prog (N + 30) (e + 9) 256 [.ref 135, .int (nI l)] (mkh X2 M L)) := by
  have H0 := H
  obtain ⟨hq, hl, hs, hpl, hsp, hC, hK, hOK, h3, h6, h7, hR, h12, h25, hNH⟩ := H
  obtain ⟨ht, htt⟩ := hX_H hX
  have hlt := tkK_lt f n q
  have fb := fkd_b f n q
  have m0 := MS_0 hq hC hK hOK
  have v0 := VS_0 hR h12
  have cl := gX2_readsNext N (d + 5) (X := X) I J
  have c0 : am_G am_prog (N + 30) (d + 6) 25 [.ref 118] (mkh X I J) = RX2_readsNext_26 N (d + 5) (N + 29) X (nI (tkK f n q)) I J := by
    rw [sX2_readsNext_0 N (d + 5) _ hX hD, hC.2.2.2.1, h3] at cl
    by_cases k : tkK f n q = 125
    · have : l = 0 := by omega
      rw [nc_eq k, nc_nlt (by omega) (by omega)] at cl; exact cl
    · rw [nc_ne k hlt (by omega)] at cl; exact cl
  rw [sX2_readsNext_26 N (d + 5) _ hX hD, c2_isStep (d := d + 4) hX hD (tk_or f n q), cI_some, kX2_readsNext_1 N (d + 5) _ hX hD, nc_10, h6, h7, h3] at c0
  have rf := gX9_readStep N (e + 8) (X := X2) (nI l) M L
  rw [sX9_readStep_0 N (e + 8), c9_stepWord (d := e + 6) hR, cI_some] at rf
  by_cases st : isSt (tkK f n q)
  rotate_left
  · left
    rw [if_neg st, c4_refuses (d := d + 4) hC, cI_some, kX2_readsNext_4 N (d + 5) _ hX hD, nb_ok (by omega)] at c0
    have F := FW_v (b := fkd f n q) (c := tkS f n q) (s := 0) v0 (DV_0 0 M)
    rw [swK_no st, kX9_readStep_0 N (e + 8), nc_ne (by omega) (by omega) (by omega), nc_ne (by omega) (by omega) (by omega), nc_neg rfl, c9_amiss0 (d := e + 6) hR h12, cV_some, kX9_readStep_7 N (e + 8), st31_b (z := N + 26) F.1 fb.1 (by omega)] at rf
    exact ⟨_, _, _, _, c0, rf, FD_W fb.1 (by omega) m0 (DI_0 _ _ _) (DJ_0 _) F (DV_0 _ _) (FTL_0 _)⟩
  rw [if_pos st] at c0
  rw [step_0 st, sX9_readStep_31 N (e + 8) (N + 28), h12, nc_eq rfl, h25] at rf
  have tk31 : tkK f n q < 2 ^ 31 := by
    have := st
    unfold isSt at this
    omega
  by_cases s30 : s = 30
  · left
    rw [nc_nlt (by omega) (by omega), c4_fail (d := d + 4) hC, cI_some, kX2_readsNext_6 N (d + 5) _ hX hD, nb_ok (by omega)] at c0
    have F := FW_v (b := 6) (c := tkS f n q) (s := 0) v0 (DV_0 0 M)
    rw [nc_eq s30, hR.2.2.2.1, c9_fail0 (d := e + 7) h12, cV_some, kX9_readStep_1 N (e + 8), st57_b (z := N + 26) F.1 (by omega) (by omega)] at rf
    exact ⟨_, _, _, _, c0, rf, FD_W (by omega) (by omega) m0 (DI_0 _ _ _) (DJ_0 _) F (DV_0 _ _) (FTL_0 _)⟩
  have hs3 : s < 30 := by omega
  have hp6 : p < 60 := by omega
  rw [nc_lt hs3 (by omega), nc_lt hp6 (by omega)] at c0
  rw [nc_ne s30 (by omega) (by omega), sX9_readStep_57 N (e + 8) (N + 27), h12, nc_eq rfl] at rf
  by_cases b7 : isBk (tkK f n q) ∧ l = 3
  · left
    obtain ⟨b7, l3⟩ := b7
    have c1 : am_G am_prog (N + 30) (d + 6) 25 [.ref 118] (mkh X I J) = am_cI (am_G am_prog (N + 30) (d + 5) 49 [.ref 115, .int (nI 7)] (mkh X I J)) (KX2_readsNext_5 N (d + 5) (N + 28)) := by
      rcases b7 with k | k
      · rw [nc_eq k, nc_nlt (by omega) (by omega)] at c0; exact c0
      · rw [nc_ne (by omega) hlt (by omega), nc_eq k, nc_nlt (by omega) (by omega)] at c0; exact c0
    rw [c4_fail (d := d + 4) hC, cI_some, kX2_readsNext_5 N (d + 5) _ hX hD, nb_ok (by omega)] at c1
    have F := FW_v (b := 7) (c := tkS f n q) (s := 0) v0 (DV_0 0 M)
    rw [show bk (tkK f n q) = 1 from if_pos b7, nc_ne (by omega) (by omega) (by omega), nc_eq l3, hR.2.2.2.1, c9_fail0 (d := e + 7) h12, cV_some, kX9_readStep_2 N (e + 8), st83_b (z := N + 26) F.1 (by omega) (by omega)] at rf
    exact ⟨_, _, _, _, c1, rf, FD_W (by omega) (by omega) m0 (DI_0 _ _ _) (DJ_0 _) F (DV_0 _ _) (FTL_0 _)⟩
  have hlb : isBk (tkK f n q) → l < 3 := fun h => by
    have : ¬ l = 3 := fun g => b7 ⟨h, g⟩
    omega
  have c1 : am_G am_prog (N + 30) (d + 6) 25 [.ref 118] (mkh X I J) = RX2_readsNext_105 N (d + 5) (N + 28) X (nI (tkK f n q)) I J := by
    by_cases k : tkK f n q = 120
    · rw [nc_eq k, nc_lt (hlb (Or.inl k)) (by omega)] at c0; exact c0
    · rw [nc_ne k hlt (by omega)] at c0
      by_cases k4 : tkK f n q = 124
      · rw [nc_eq k4, nc_lt (hlb (Or.inr k4)) (by omega)] at c0; exact c0
      · rw [nc_ne k4 hlt (by omega)] at c0; exact c0
  have r1 : am_G am_prog (N + 30) (e + 9) 256 [.ref 135, .int (nI l)] (mkh X2 M L) = RX9_readStep_83 N (e + 8) (N + 27) X2 (nI l) (nI (swK (tkK f n q))) (nI (bk (tkK f n q))) M L := by
    by_cases k : isBk (tkK f n q)
    · have := hlb k
      rw [show bk (tkK f n q) = 1 from if_pos k, nc_ne (by omega) (by omega) (by omega), nc_ne (by omega) (by omega) (by omega)] at rf
      rw [show bk (tkK f n q) = 1 from if_pos k]
      exact rf
    · rw [show bk (tkK f n q) = 0 from if_neg k, nc_eq rfl] at rf
      rw [show bk (tkK f n q) = 0 from if_neg k]
      exact rf
  clear cl rf c0
  obtain ⟨z1, z2, z3, z4, z5, z6, z7, z8⟩ := zH_f (I := I) (k := tkK f n q) (s := s) (p := p) (l := l)
  have ad := c2_adds (N := N) (d := d + 4) (X := X) (J := J) hX hD tk31 hp6 hs3 hlb h3 h6 h7
  rw [sX2_readsNext_105 N (d + 5) _ hX hD, ad, cI_some, kX2_readsNext_2 N (d + 5) _ hX hD] at c1
  have mz : MS f n q q (zH I (tkK f n q) s p l) J (zH I (tkK f n q) s p l) J := MS_0 hq (CT_a (z1 13 (by omega) (by omega)) (z1 115 (by omega) (by omega)) rfl hC) hK ⟨by rw [z1 115 (by omega) (by omega)]; exact hOK.1, by rw [z1 115 (by omega) (by omega)]; exact hOK.2⟩
  generalize zH I (tkK f n q) s p l = Zh at *
  obtain ⟨K1, Y1, a1, m1⟩ := zs_next (N := N) (d := d + 3) (X := X) hn hB hN mz
  rw [a1, cV_some] at c1
  have v25 := vs_25 (v := nI (s + 1)) v0
  obtain ⟨V1, P1, b1, v1⟩ := vs_next (N := N) (d := e + 6) (X := X2) hn hB hN hq v25
  have w9 : nI 1875 + nI 9 * nI s = nI (1875 + 9 * s) := by rw [pk_mul, nI_add]
  rw [sX9_readStep_83 N (e + 8) (N + 26), h12, nc_nlt (by omega) (by omega), h25, nI_add, b1, cV_some, w9, kX9_readStep_3 N (e + 8), nc_in (by omega) (by omega), nI_clamp (by omega)] at r1
  have v2 := vs_u (k := 1875 + 9 * s) (v := nI (swK (tkK f n q))) v1
  have hZ : NZ T X Zh (u2 (u2 M 135 25 (nI (s + 1))) 140 (1875 + 9 * s) (nI (swK (tkK f n q)))) J L := by
    obtain ⟨n1, n2, n3, n4⟩ := hNH
    exact ⟨n1, fun k hk => by rw [z1 _ (by omega) (by omega)]; exact n2 k hk, fun k hk => by rw [u2_nk _ _ _ _ _ (by omega), u2_na _ _ _ _ _ (by omega)]; exact n3 k hk, n4⟩
  have gM : DV s M (u2 (u2 M 135 25 (nI (s + 1))) 140 (1875 + 9 * s) (nI (swK (tkK f n q)))) := DV_u (by omega) (DV_25 (DV_0 _ _))
  have hM0 : u2 (u2 M 135 25 (nI (s + 1))) 140 (1875 + 9 * s) (nI (swK (tkK f n q))) 140 (1875 + 9 * s) = nI (swK (tkK f n q)) := u2_at _ _ _ _
  have hM25 : u2 (u2 M 135 25 (nI (s + 1))) 140 (1875 + 9 * s) (nI (swK (tkK f n q))) 135 25 = nI (s + 1) := by rw [u2_na _ _ _ _ _ (by omega), u2_at]
  generalize u2 (u2 M 135 25 (nI (s + 1))) 140 (1875 + 9 * s) (nI (swK (tkK f n q))) = Vh at *
  have gI : DI p l I Zh := ⟨fun a g1 g2 => z1 a (by omega) (by omega), fun a i g1 g2 g3 => by
    by_cases g : a = 120
    · subst g; exact z2 i (by omega)
    · rw [z1 a (by omega) (by omega)], fun i hi => z6 i (by omega)⟩
  rcases ro_all (N := N) (d := d) (e := e) (X := X) (X2 := X2) hn hB hN hX hD st hp6 hs3 z3 hM0 hZ m1 v2 (N + 26) with ⟨Zf, K, Y, W, P, b, c, r, b0, b8, g1, g2, g3, g4, F⟩ | ⟨Zf, Vf, K, Y, V, P, r, z, g1, g2, m3, v3, e1, e2, e3, e4, QQ⟩
  · left
    have c1' := c1.trans g1
    obtain ⟨u, F3⟩ := F.2.2.1
    rw [g2, cV_some, kX9_readStep_8 N (e + 8), c9_isSign (d := e + 7) F3 (by omega) (by omega), cI_some, kX9_readStep_11 N (e + 8), c9_mustb (d := e + 7) F.1 b0 (by omega), cV_some, kX9_readStep_13 N (e + 8), st142_b (z := N + 24) F3 F.1 b0 (by omega) hs3] at r1
    refine ⟨_, _, _, _, c1', r1, FD_u (by omega) (FD_W b0 b8 g3 ⟨fun a h1 h2 => by rw [g4.1 a h1 h2, gI.1 a h1 h2], fun _ _ _ _ h => absurd h (by omega), fun _ h => absurd h (by omega)⟩ (DJ_0 _) F ⟨gM.1, fun k hk => gM.2.1 k (by omega), gM.2.2⟩ (FTL_0 _))⟩
  · have c1' := c1.trans g1
    rw [g2, cV_some, kX9_readStep_8 N (e + 8), c9_isSign (d := e + 7) v3.1 (by omega) (by omega), cI_some, kX9_readStep_11 N (e + 8)] at r1
    have gI2 : DI p l I Zf := DI_t (Nat.le_refl p) (Nat.le_refl l) gI ⟨fun a h1 h2 => e1 a (by omega) (by omega) (by omega) (by omega), fun a i h1 h2 h3 => e2 a i (by omega), fun i hi => by rw [e1 125 (by omega) (by omega) (by omega) (by omega)]⟩
    have gM2 : DV s M Vf := DV_t (Nat.le_refl s) gM e4
    rcases j_takes (N := N) (d := d + 2) (e := e + 5) (X := X) (X2 := X2) hn hB hN (kd := 59) (by omega) rfl m3 v3 with ⟨b, c, b0, b8, k1, k2⟩ | ⟨K4, Y4, V4, P4, k59, k1, k2, m4, v4⟩
    · left
      rw [k1, cI_some, kX2_readsNext_8 N (d + 5) _ hX hD, nb_ok (by omega)] at c1'
      have F := FW_v (b := b) (c := c) (s := s) v3 (DV_0 s Vf)
      obtain ⟨u, F3⟩ := F.2.2.1
      rw [k2, cV_some, kX9_readStep_13 N (e + 8), st142_b (z := N + 24) F3 F.1 b0 (by omega) hs3] at r1
      exact ⟨_, _, _, _, c1', r1, FD_u (by omega) (FD_W b0 b8 m3 ⟨gI2.1, fun _ _ _ _ h => absurd h (by omega), fun _ h => absurd h (by omega)⟩ (DJ_0 _) F ⟨gM2.1, fun k hk => gM2.2.1 k (by omega), gM2.2.2⟩ (FTL_0 _))⟩
    · right
      rw [k1, cI_some, kX2_readsNext_8 N (d + 5) _ hX hD, nb_ok (by omega)] at c1'
      rw [k2, cV_some, kX9_readStep_13 N (e + 8)] at r1
      have hrs := tkE_s (f := f) m3.2.1 (by omega)
      have hq1 := tkE_s (f := f) (n := n) hq (fun h => by rw [h] at st; unfold isSt at st; omega)
      have q1 : q < tkE f n r := by have := m3.1; omega
      have kZ : ∀ a, a ≠ 115 → K4 a = Zf a := fun a ha => m4.2.2.2.2.1 a ha
      have vZ : V4 140 = Vf 140 := v4.2.2.1.1 140 (by omega)
      have gI4 : DI p l I K4 := ⟨fun a h1 h2 => by rw [kZ a h1]; exact gI2.1 a h1 h2, fun a i h1 h2 h3 => by rw [kZ a (by omega)]; exact gI2.2.1 a i h1 h2 h3, fun i hi => by rw [kZ 125 (by omega)]; exact gI2.2.2 i hi⟩
      have gM4 : DV s M V4 := DV_t (Nat.le_refl s) gM2 (DV_F v4.2.2.1)
      have gJ4 : DJ J Y4 := fun a ha => m4.2.2.2.2.2.1 a ha
      have bl := bk_le (tkK f n q)
      have hTV : ∀ k, TV T V4 k = TV T Vf k := fun k => TV_eq (fun _ => by rw [vZ])
      have hl3 : l + bk (tkK f n q) ≤ 3 := by
        by_cases k : isBk (tkK f n q)
        · have := hlb k; omega
        · rw [show bk (tkK f n q) = 0 from if_neg k]; omega
      refine ⟨tkK f n q, tkE f n r, K4, Y4, V4, P4, q1, hs3, c1', r1, ⟨m4.2.1, hl3, by omega, by omega, by omega, m4.2.2.1, m4.2.2.2.1, m4.2.2.2.2.2.2, ?_, ?_, ?_, v4.1, v4.2.1, ?_, NH_t ht gI4 gJ4 gM4 v4.2.2.2 hNH⟩, gI4, gJ4, gM4, v4.2.2.2, fun h => ⟨?_, ?_⟩, fun h => ?_⟩
      · rw [kZ 118 (by omega), e1 118 (by omega) (by omega) (by omega) (by omega)]; exact z8 h3
      · rw [kZ 119 (by omega), e1 119 (by omega) (by omega) (by omega) (by omega)]; exact z4
      · rw [kZ 119 (by omega), e1 119 (by omega) (by omega) (by omega) (by omega)]; exact z5
      · rw [v4.2.2.1.2 25 (by omega), e3 135 (by omega)]; exact hM25
      · rw [kZ 125 (by omega), e1 125 (by omega) (by omega) (by omega) (by omega)]; exact z7 h
      · have := QQ.1 h
        unfold QB at this ⊢
        rw [kZ 120 (by omega), kZ 121 (by omega), kZ 122 (by omega), kZ 123 (by omega)]
        exact DB_loc rfl rfl rfl rfl (fun k _ => hTV k) (fun j _ => hTV _) this
      · have := QQ.2 h
        unfold QS at this ⊢
        rw [kZ 120 (by omega), kZ 121 (by omega), kZ 122 (by omega), kZ 123 (by omega)]
        exact DS_loc rfl rfl rfl rfl (fun k _ => hTV k) (fun j _ => hTV _) this
end
