/-! texts: dials; the three tests -/
section
variable {N d e : Nat} {X X2 : lt_X} {f : Nat → Int32} {n q r p s b c : Nat} {I M K V Z V0 V1 W : Nat → Nat → Int32} {J L Y P Y0 P0 : Nat → Nat → Int64} {T : Nat → Nat}
theorem rr_lives (hn : n ≤ 900) (hB : ∀ k, k < n → isB (f k)) (hN : 10000 ≤ N) (hX : hsX X) (hD : X.2.2.2.2 = some X.2.1) (hp : p < 60) (hs : s < 30) (hI : Z 120 p = nI 122) (hM : V0 140 (1875 + 9 * s) = nI 7) (hM6 : V0 140 (1881 + 9 * s) = nI 1) (hZ : NZ T X Z V0 Y0 P0) (m : MS f n q r Z Y0 I J) (v : VS f n r V0 P0 M L) (z : Nat) : RR f n q X X2 s p Z Y0 V0 P0 (QB T s p) (am_G am_prog (N + 30) (d + 5) 30 [.ref 118, .int (nI p)] (mkh X I J)) (RX9_readTest_55 N (e + 6) (z + 5) X2 (nI (1875 + 9 * s)) (nI 1) (nI 1) (nI 0) 135 (nI (1876 + 9 * s)) 140 M L) := by
  obtain ⟨a1, a2⟩ := rest_c (N := N) (d := d) (X := X) (J := J) hn hB hN hX hD (wd := 122) hp (show I 120 p = nI 122 by rw [m.2.2.2.2.1 _ (by omega)]; exact hI)
  rw [sX2_readsRest_0 N (d + 4) _ hX hD, nc_in (by omega) (by omega), a2, nc_ne (by omega) (by omega) (by omega), nc_ne (by omega) (by omega) (by omega), nc_ne (by omega) (by omega) (by omega), nc_ne (by omega) (by omega) (by omega), nc_ne (by omega) (by omega) (by omega), nc_ne (by omega) (by omega) (by omega), nc_ne (by omega) (by omega) (by omega), nc_ne (by omega) (by omega) (by omega), nc_ne (by omega) (by omega) (by omega), nc_eq rfl] at a1
  have b1 := sX9_readTest_55 N (e + 6) (z + 4) (X := X2) (nI (1875 + 9 * s)) (nI 1) (nI 1) (nI 0) 135 (nI (1876 + 9 * s)) 140 M L
  obtain ⟨z1, z2, z3, z4⟩ := hZ
  have g1 := z1 1 (by omega)
  refine RR_mono (fun Zf Vf num h1 h2 ⟨x, x1, x2, x3, x4⟩ => ?_) (rr_one (d := d) (e := e) (k := 1) hn hB hN hX hD hp (by omega) g1 (z2 1 (by omega)) (z3 1 (by omega)) (fun i hi => z4 1 i (by omega) hi) a1 (fun z K Y hz => by rw [kX2_readsRest_4 N (d + 4) _ hX hD, nbz hz]) b1 (fun z V P => by rw [KT_o hs _ (by omega), t78_n (by omega) (by omega)]) m v)
  refine Or.inr (Or.inl ⟨TV_0 (by omega) (by rw [h2 _ (by omega)]; exact hM), ?_, by rw [h1 120 (by omega) (by omega)]; exact hI, ?_⟩)
  · exact TV_6 (by omega) (by rw [x4 _ (by omega)]; exact hM6)
  · rw [TV_1 (by omega) x3, TV_4 (by omega)]
    exact ⟨x2, x1⟩
theorem rr_owns (hn : n ≤ 900) (hB : ∀ k, k < n → isB (f k)) (hN : 10000 ≤ N) (hX : hsX X) (hD : X.2.2.2.2 = some X.2.1) (hp : p < 60) (hs : s < 30) (hI : Z 120 p = nI 123) (hM : V0 140 (1875 + 9 * s) = nI 7) (hM6 : V0 140 (1881 + 9 * s) = nI 2) (hZ : NZ T X Z V0 Y0 P0) (m : MS f n q r Z Y0 I J) (v : VS f n r V0 P0 M L) (z : Nat) : RR f n q X X2 s p Z Y0 V0 P0 (QB T s p) (am_G am_prog (N + 30) (d + 5) 30 [.ref 118, .int (nI p)] (mkh X I J)) (RX9_readTest_55 N (e + 6) (z + 5) X2 (nI (1875 + 9 * s)) (nI 2) (nI 2) (nI 0) 135 (nI (1876 + 9 * s)) 140 M L) := by
  obtain ⟨a1, a2⟩ := rest_c (N := N) (d := d) (X := X) (J := J) hn hB hN hX hD (wd := 123) hp (show I 120 p = nI 123 by rw [m.2.2.2.2.1 _ (by omega)]; exact hI)
  rw [sX2_readsRest_0 N (d + 4) _ hX hD, nc_in (by omega) (by omega), a2, nc_ne (by omega) (by omega) (by omega), nc_ne (by omega) (by omega) (by omega), nc_ne (by omega) (by omega) (by omega), nc_ne (by omega) (by omega) (by omega), nc_ne (by omega) (by omega) (by omega), nc_ne (by omega) (by omega) (by omega), nc_ne (by omega) (by omega) (by omega), nc_ne (by omega) (by omega) (by omega), nc_ne (by omega) (by omega) (by omega), nc_ne (by omega) (by omega) (by omega), nc_eq rfl] at a1
  have b1 := sX9_readTest_55 N (e + 6) (z + 4) (X := X2) (nI (1875 + 9 * s)) (nI 2) (nI 2) (nI 0) 135 (nI (1876 + 9 * s)) 140 M L
  obtain ⟨z1, z2, z3, z4⟩ := hZ
  have g2 := z1 2 (by omega)
  have g3 := z1 3 (by omega)
  have hbad : ∀ W P b c, 0 < b → b < 8 → FW f n b c s W P V0 P0 → ∃ W', KT2 N (e + 6) (z + 4) (nI (1875 + 9 * s)) (nI 2) (nI 0) (mkh X2 W P) = some (.null, mkh X2 W' P) ∧ FW f n b c s W' P V0 P0 := by
    intro W P b c b0 b8 F
    refine ⟨_, ?_, FW_u (k := 1877 + 9 * s) (v := nI 0) (by omega) F⟩
    rw [KT2_mk hs, t78_n (by omega) (by omega)]
  rcases rr_two (f := f) (q := q) (r := r) (p := p) (s := s) (Z := Z) (V0 := V0) (Y0 := Y0) (P0 := P0) (d := d) (e := e) (k1 := 2) (k2 := 3) (n1 := T 2) (n2 := T 3) hn hB hN hX hD hp (by omega) (by omega) g2 g3 (z2 2 (by omega)) (z2 3 (by omega)) (z3 2 (by omega)) (z3 3 (by omega)) (fun i hi => z4 2 i (by omega) hi) (fun i hi => z4 3 i (by omega) hi) a1 (fun K Y => by rw [kX2_readsRest_6 N (d + 4) _ hX hD, nc_eq rfl]) (fun K Y => by rw [kX2_readsRest_6 N (d + 4) _ hX hD, nc_ne (by omega) (by omega) (by omega)]) (fun K Y => by rw [kX2_readsRest_11 N (d + 4) _ hX hD, nc_eq rfl]) b1 (fun z V P => by rw [KT_2 hs]) hbad m v with ⟨Zf, K, Y, W, P, b, c, r', h1, h2, h3, h4, h5⟩ | ⟨x, y, K, Y, V, P, r', x1, y1, hA, hB2, m2, v2⟩
  · exact Or.inl ⟨Zf, K, Y, W, P, b, c, r', h1, h2, h3, h4, h5⟩
  · rw [kX2_readsRest_11 N (d + 4) _ hX hD, nc_ne (by omega) (by omega) (by omega)] at hA
    rw [KT2_mk hs, t78_n (by omega) (by omega)] at hB2
    refine Or.inr ⟨_, _, _, _, _, _, _, hA, hB2, m2, vs_u v2, fun a h1 h2 => by rw [u2_na _ _ _ _ _ h2, u2_na _ _ _ _ _ h1], fun a i hi => ?_, fun a ha => by rw [u2_na _ _ _ _ _ ha, u2_na _ _ _ _ _ ha], fun k hk => by rw [u2_nk _ _ _ _ _ (by omega), u2_nk _ _ _ _ _ (by omega)], ?_⟩
    · exact u2u2_i hi
    · refine Or.inr (Or.inr (Or.inl ⟨TV_0 (by omega) (by rw [u2_nk _ _ _ _ _ (by omega), u2_nk _ _ _ _ _ (by omega)]; exact hM), TV_6 (by omega) (by rw [u2_nk _ _ _ _ _ (by omega), u2_nk _ _ _ _ _ (by omega)]; exact hM6), by rw [u2_na _ _ _ _ _ (by omega), u2_na _ _ _ _ _ (by omega)]; exact hI, ?_⟩))
      rw [TV_1 (x := x) (by omega) (by rw [u2_nk _ _ _ _ _ (by omega), u2_at]), TV_2 (x := y) (by omega) (u2_at _ _ _ _), TV_4 (by omega), TV_4 (by omega)]
      exact ⟨by rw [u2_na _ _ _ _ _ (by omega), u2_at], u2_at _ _ _ _, x1, y1⟩
theorem rr_glad (hn : n ≤ 900) (hB : ∀ k, k < n → isB (f k)) (hN : 10000 ≤ N) (hX : hsX X) (hD : X.2.2.2.2 = some X.2.1) (hp : p < 60) (hs : s < 30) (hI : Z 120 p = nI 121) (hM : V0 140 (1875 + 9 * s) = nI 7) (hM6 : V0 140 (1881 + 9 * s) = nI 0) (hZ : NZ T X Z V0 Y0 P0) (m : MS f n q r Z Y0 I J) (v : VS f n r V0 P0 M L) (z : Nat) : RR f n q X X2 s p Z Y0 V0 P0 (QB T s p) (am_G am_prog (N + 30) (d + 5) 30 [.ref 118, .int (nI p)] (mkh X I J)) (RX9_readTest_55 N (e + 6) (z + 5) X2 (nI (1875 + 9 * s)) (nI 0) (nI 2) (nI 0) 135 (nI (1876 + 9 * s)) 140 M L) := by
  obtain ⟨a1, a2⟩ := rest_c (N := N) (d := d) (X := X) (J := J) hn hB hN hX hD (wd := 121) hp (show I 120 p = nI 121 by rw [m.2.2.2.2.1 _ (by omega)]; exact hI)
  rw [sX2_readsRest_0 N (d + 4) _ hX hD, nc_in (by omega) (by omega), a2, nc_ne (by omega) (by omega) (by omega), nc_ne (by omega) (by omega) (by omega), nc_ne (by omega) (by omega) (by omega), nc_ne (by omega) (by omega) (by omega), nc_ne (by omega) (by omega) (by omega), nc_ne (by omega) (by omega) (by omega), nc_ne (by omega) (by omega) (by omega), nc_ne (by omega) (by omega) (by omega), nc_eq rfl] at a1
  have b1 := sX9_readTest_55 N (e + 6) (z + 4) (X := X2) (nI (1875 + 9 * s)) (nI 0) (nI 2) (nI 0) 135 (nI (1876 + 9 * s)) 140 M L
  obtain ⟨z1, z2, z3, z4⟩ := hZ
  have g2 := z1 2 (by omega)
  rcases j_first (N := N) (d := d) (e := e) (X := X) (X2 := X2) hn hB hN hX hD hp (by omega) g2 (z2 2 (by omega)) (z3 2 (by omega)) (fun i hi => z4 2 i (by omega) hi) m v with ⟨I', b, c, b0, b8, m2, c1, c2⟩ | ⟨x, K2, Y2, V2, P2, x1, c1, c2, m2, v2⟩
  · rw [c1, cI_some, kX2_readsRest_5 N (d + 4) _ hX hD, nc_eq rfl] at a1
    have F := FW_u (k := 1876 + 9 * s) (v := nI 0) (by omega) (FW_v (b := b) (c := c) v (DV_0 s V0))
    rw [c2, cI_some, KT_o hs _ (by omega), t78_b (z := z + 3) F.1 b0 (by omega)] at b1
    exact Or.inl ⟨_, _, _, _, _, b, c, r, b0, b8, a1, b1, m2, DI_0 _ _ _, F⟩
  · rw [c1, cI_some, kX2_readsRest_5 N (d + 4) _ hX hD, nc_ne (by omega) (by omega) (by omega)] at a1
    have v3 := vs_u (k := 1876 + 9 * s) (v := nI x) v2
    rw [c2, cI_some, KT_o hs _ (by omega)] at b1
    rcases j_cmp (N := N) (d := d) (e := e + 3) (X := X) (X2 := X2) hn hB hN hX hD hp hs m2 v3 (z + 1) with ⟨y, b, c, b0, b8, c1, c2⟩ | ⟨g, K4, Y4, V4, P4, g6, c1, c2, m4, v4⟩
    · rw [c1, cI_some, kX2_readsRest_10 N (d + 4) _ hX hD, nc_eq rfl] at a1
      have c2' : RX9_readTest_78 N (e + 6) (z + 4) X2 (nI (1875 + 9 * s)) (nI 0) (u2 V2 140 (1876 + 9 * s) (nI x)) P2 = _ := c2
      have F := FW_v (b := b) (c := c) (s := s) (vs_u (k := 1882 + 9 * s) (v := y) v3) (DV_u (by omega) (DV_u (by omega) (DV_0 s V0)))
      rw [c2', c9_countb (d := e + 4) F.1 b0 (by omega), cI_some, kX9_readTest_4 N (e + 3 + 3), nc_in (by omega) (by omega), nI_clamp (by omega)] at b1
      exact Or.inl ⟨_, _, _, _, _, b, c, _, b0, b8, a1, b1, m2, DI_u (Or.inl ⟨by omega, by omega, Nat.le_refl p⟩) (DI_0 _ _ _), FW_u (by omega) F⟩
    · rw [c1, cI_some, kX2_readsRest_10 N (d + 4) _ hX hD, nc_ne (by omega) (by omega) (by omega)] at a1
      have c2' : RX9_readTest_78 N (e + 6) (z + 4) X2 (nI (1875 + 9 * s)) (nI 0) (u2 V2 140 (1876 + 9 * s) (nI x)) P2 = _ := c2
      rw [c2'] at b1
      rcases j_num (N := N) (d := d + 1) (e := e + 3) (X := X) (X2 := X2) hn hB hN (lo := 0) (hi := 9999) (by omega) (by omega) m4 v4 with ⟨b, c, b0, b8, c1, c2⟩ | ⟨w, K5, Y5, V5, P5, w1, w2, c1, c3, c2, m5, v5⟩
      · rw [c1, cI_some, kX2_readsRest_13 N (d + 4) _ hX hD, nc_eq rfl] at a1
        rw [c2, cI_some, kX9_readTest_4 N (e + 3 + 3), nc_in (by omega) (by omega), nI_clamp (by omega)] at b1
        exact Or.inl ⟨_, _, _, _, _, b, c, _, b0, b8, a1, b1, m4, DI_u (Or.inl ⟨by omega, by omega, Nat.le_refl p⟩) (DI_u (Or.inl ⟨by omega, by omega, Nat.le_refl p⟩) (DI_0 _ _ _)), FW_u (by omega) (FW_v v4 (DV_u (by omega) (DV_u (by omega) (DV_0 s V0))))⟩
      · rw [c1, cI_some, kX2_readsRest_13 N (d + 4) _ hX hD, nc_ne (by omega) (by omega) (by omega)] at a1
        rw [c2, cI_some, kX9_readTest_4 N (e + 3 + 3), nc_in (by omega) (by omega), nI_clamp (by omega)] at b1
        refine Or.inr ⟨_, _, _, _, _, _, _, a1, b1, m5, vs_u v5, fun a h1 h2 => by rw [u2_na _ _ _ _ _ h2, u2_na _ _ _ _ _ h1], fun a i hi => u2u2_i hi, fun a ha => by rw [u2_na _ _ _ _ _ ha, u2_na _ _ _ _ _ ha, u2_na _ _ _ _ _ ha], fun k hk => by rw [u2_nk _ _ _ _ _ (by omega), u2_nk _ _ _ _ _ (by omega), u2_nk _ _ _ _ _ (by omega)], ?_⟩
        refine Or.inl ⟨TV_0 (by omega) (by rw [u2_nk _ _ _ _ _ (by omega), u2_nk _ _ _ _ _ (by omega), u2_nk _ _ _ _ _ (by omega)]; exact hM), TV_6 (by omega) (by rw [u2_nk _ _ _ _ _ (by omega), u2_nk _ _ _ _ _ (by omega), u2_nk _ _ _ _ _ (by omega)]; exact hM6), by rw [u2_na _ _ _ _ _ (by omega), u2_na _ _ _ _ _ (by omega)]; exact hI, ?_⟩
        rw [TV_1 (x := x) (by omega) (by rw [u2_nk _ _ _ _ _ (by omega), u2_nk _ _ _ _ _ (by omega), u2_at]), TV_7 (x := g) (by omega) (by rw [u2_nk _ _ _ _ _ (by omega), u2_at]), TV_2 (x := w) (by omega) (u2_at _ _ _ _), TV_4 (by omega)]
        exact ⟨by rw [u2_na _ _ _ _ _ (by omega), u2_at], u2_at _ _ _ _, c3, x1, w2, g6⟩
end
