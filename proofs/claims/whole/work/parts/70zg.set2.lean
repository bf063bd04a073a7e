/-! texts: a set's PART -/
section
variable {N d e : Nat} {X X2 : lt_X} {f : Nat → Int32} {n q r : Nat} {I M K V Z V0 : Nat → Nat → Int32} {J L Y P Y0 P0 : Nat → Nat → Int64} {T : Nat → Nat} {o b : Nat}
theorem set67_b (hR : RT f n r V P) (h : V 135 12 = nI b) (h0 : 0 < b) (hb : b < 100) (z : Nat) (x1 x2 x3 : Int32) : RX9_readSet_67 N (e + 8) (z + 2) X2 x1 x2 x3 V P = some (.null, mkh X2 V P) := by
  rw [sX9_readSet_67 N (e + 8) (z + 1), c9_isFor (d := e + 6) hR, cI_some, kX9_readSet_1 N (e + 8), c9_perhapsb (d := e + 7) h h0 hb, cI_some, kX9_readSet_3 N (e + 8), nc_eq rfl, sX9_readSet_88 N (e + 8) z, h, nc_lt h0 (by omega)]
theorem set6_b (hR : RT f n r V P) (h : V 135 12 = nI b) (h0 : 0 < b) (hb : b < 100) (z : Nat) (a x : Int32) : KX9_readSet_6 N (e + 8) (z + 2) a x (mkh X2 V P) = some (.null, mkh X2 V P) := by
  rw [kX9_readSet_6 N (e + 8), c9_isFlaw (d := e + 6) hR, cI_some, kX9_readSet_7 N (e + 8), c9_perhapsb (d := e + 7) h h0 hb, cI_some, kX9_readSet_8 N (e + 8), nc_eq rfl, set67_b hR h h0 hb]
theorem set4_b (hR : RT f n r V P) (h : V 135 12 = nI b) (h0 : 0 < b) (hb : b < 100) (z : Nat) (a : Int32) : KX9_readSet_4 N (e + 8) (z + 2) a (mkh X2 V P) = some (.null, mkh X2 V P) := by
  rw [kX9_readSet_4 N (e + 8), c9_readToldb (d := e + 6) h h0 hb, cI_some, set6_b hR h h0 hb]
theorem set11_b (hR : RT f n r V P) (h : V 135 12 = nI b) (h0 : 0 < b) (hb : b < 100) (z : Nat) (a c x : Int32) : am_cV (am_G am_prog (N + 30) (e + 8) 231 [.ref 135, .int (nI 1)] (mkh X2 V P)) (KX9_readSet_11 N (e + 8) (z + 2) a c x) = some (.null, mkh X2 V P) := by
  rw [c9_mustb (d := e + 7) h h0 hb, cV_some, kX9_readSet_11 N (e + 8), set67_b hR h h0 hb]
theorem j_set (hn : n ≤ 900) (hB : ∀ k, k < n → isB (f k)) (hN : 10000 ≤ N) (hX : hsX X) (hW : X.2.2.2.1 = some X.2.2.1) (H : JS f n X.2.2.1 q T o I J M L) (z : Nat) : PO f n X X2 q I J M L (am_cI (am_G am_prog (N + 30) (d + 7) 97 [.ref 117, .int (nI 3)] (mkh X I J)) (KX6_readsPart_6 N (d + 7) z)) (am_G am_prog (N + 30) (e + 9) 251 [.ref 135] (mkh X2 M L)) := by
  have H0 := H
  obtain ⟨hq, ho, hw, hf, hC, hK, hTC, hO, hR, h12, hTM, hO2, hZ, hNM, hOK⟩ := H
  obtain ⟨ht, htt⟩ := hX_T hX
  obtain ⟨w0, w1, w2, w3, -⟩ := hw.1
  have rf := gX9_readSet N (e + 8) (X := X2) M L
  rw [sX9_readSet_0 N (e + 8)] at rf
  rcases j_new (N := N) (d := d + 3) (e := e + 3) (X2 := X2) hn hB hN hX hW (k := 3) (by omega) H0 with ⟨K, Y, V, P, c1, c2, F⟩ | ⟨r, w, K, Y, V, P, g, q1, q2, c1, c2, m1, m2, m3, m4, m5, v1, v2, v3, v4, ok5⟩
  · obtain ⟨b, p, b0, b1, b2, b3⟩ := FLD_b F
    rw [c2, cI_some, kX9_readSet_0 N (e + 8), c9_isGets (d := e + 6) b3, cI_some, kX9_readSet_2 N (e + 8), c9_mustb (d := e + 7) b2 b0 b1, cV_some, set4_b (z := N + 27) b3 b2 b0 b1] at rf
    refine Or.inr ⟨_, _, _, _, ?_, rf, F⟩
    rw [c1, cI_some, kX6_readsPart_6 N (d + 7) _ hX hW, nc_eq rfl]
  · rw [c1, cI_some, kX6_readsPart_6 N (d + 7) _ hX hW, nc_ne (by omega) (by omega) (by omega), m3]
    refine PO_c (fun z K Y hz => ?_) ?_
    · rw [kX6_readsPart_10 N (d + 7) _ hX hW]
      rcases hz with rfl | rfl
      · rw [nc_eq rfl]
      · rw [nc_ne (by omega) (by omega) (by omega)]
    have ms : MS f n q r (adH I X.2.2.1 (T 3) 3) (u2L J (X.2.2.1 + 1) (6 * 3 + T 3) w) K Y := ⟨q1, q2, m1, m2, m4, m5, ok5⟩
    have vs : VS f n r M (u2L L 142 (96 + (6 * 3 + T 3)) w) V P := ⟨v1, v2, v3, v4⟩
    have gI : GI X.2.2.1 I (adH I X.2.2.1 (T 3) 3) := GI_adH 3
    have gI1 : ∀ v, GI X.2.2.1 I (u2 (adH I X.2.2.1 (T 3) 3) (X.2.2.1 + 11) (T 3) (nI v)) := fun v => GI_u (by omega) gI
    have gJ : GJ X.2.2.1 J (u2L J (X.2.2.1 + 1) (6 * 3 + T 3) w) := GJ_u (GJ_0 _ _)
    have gL : GL L (u2L L 142 (96 + (6 * 3 + T 3)) w) := GL_u (by omega) (GL_0 _)
    have cl := gX6_readsSet N (d + 6) (X := X) (nI (T 3)) K Y
    rw [sX6_readsSet_0 N (d + 6) _ hX hW] at cl
    rw [c2, cI_some, kX9_readSet_0 N (e + 8), c9_isGets (d := e + 6) v1, cI_some, kX9_readSet_2 N (e + 8)] at rf
    have a2 : adH I X.2.2.1 (T 3) 3 (X.2.2.1 + 2) = u2 I (X.2.2.1 + 2) 3 (nI (T 3 + 1)) (X.2.2.1 + 2) := by rw [adH3 I _ _ 0, u2_na _ _ _ _ _ (by omega), u2_na _ _ _ _ _ (by omega)]
    have a12 : adH I X.2.2.1 (T 3) 3 (X.2.2.1 + 12) (T 3) = nI 4294967295 := by rw [adH3 I _ _ 0, u2_na _ _ _ _ _ (by omega), u2_at, no_m1]
    have nm1 : ∀ i, i < T 1 → u2L J (X.2.2.1 + 1) (6 * 3 + T 3) w (X.2.2.1 + 1) (6 * 1 + i) = u2L L 142 (96 + (6 * 3 + T 3)) w 142 (24 * 4 + (6 * 1 + i)) := fun i hi => by rw [u2L_nk _ _ _ _ _ (by omega), u2L_nk _ _ _ _ _ (by omega)]; exact hNM 1 i (by omega) hi
    rcases j_takes (N := N) (d := d + 3) (e := e + 5) (X := X) (X2 := X2) hn hB hN (kd := 110) (by omega) rfl ms vs with ⟨b, s, b0, b8, c1, c2⟩ | ⟨K2, Y2, V2, P2, -, c1, c2, ms2, vs2⟩
    · have f12 := flt_12 V b s
      rw [c1, cI_some, kX6_readsSet_0 N (d + 6) _ hX hW, nc_eq rfl] at cl
      rw [c2, cV_some, set4_b (z := N + 27) (RT_flt b s v1) f12 b0 (by omega)] at rf
      exact Or.inr ⟨_, _, _, _, cl, rf, FLD_z b0 b8 ms vs gI gJ (GM_0 _) gL⟩
    rw [c1, cI_some, kX6_readsSet_0 N (d + 6) _ hX hW, nc_ne (by omega) (by omega) (by omega)] at cl
    rw [c2, cV_some, kX9_readSet_4 N (e + 8)] at rf
    rcases j_told (N := N) (d := d + 2) (e := e + 2) (X := X) (X2 := X2) hn hB hN ht (bl := 4) (k := 1) (c := T 1) (by omega) (by omega) w1 (by rw [a2, u2_nk _ _ _ _ _ (by omega)]; exact hTC.1 1 (by omega)) (hTM.1 1 (by omega)) nm1 ms2 vs2 with ⟨K', b, s, b0, b8, m3, c1, c2⟩ | ⟨x, K3, Y3, V3, P3, x1, c1, c3, c2, ms3, vs3⟩
    · have f12 := flt_12 V2 b s
      rw [c1, cI_some, kX6_readsSet_3 N (d + 6) _ hX hW, nc_eq rfl] at cl
      rw [c2, cI_some, set6_b (z := N + 27) (RT_flt b s vs2.1) f12 b0 (by omega)] at rf
      exact Or.inr ⟨_, _, _, _, cl, rf, FLD_z b0 b8 m3 vs2 gI gJ (GM_0 _) gL⟩
    have ms4 := ms_u (a := X.2.2.1 + 11) (k := T 3) (v := nI x) ms3 (by omega) (by omega)
    have k4 := ms3.2.2.1.2.2.2.1
    rw [c1, cI_some, kX6_readsSet_3 N (d + 6) _ hX hW, nc_ne (by omega) (by omega) (by omega), nc_in (by omega) (by omega), nI_clamp (by omega), c3, k4] at cl
    rw [c2, cI_some, kX9_readSet_6 N (e + 8), c9_isFlaw (d := e + 6) vs3.1, cI_some, kX9_readSet_7 N (e + 8)] at rf
    generalize tkE f n (tkE f n r) = p at *
    by_cases k7 : tkK f n p = 111
    · rw [nc_eq k7, gX6_readsFlaw N (d + 5), sX6_readsFlaw_0 N (d + 5) _ hX hW] at cl
      obtain ⟨K5, Y5, a1, ms5⟩ := zs_next (N := N) (d := d + 3) (X := X) hn hB hN ms4
      obtain ⟨V5, P5, b1, b2, b3, b4⟩ := c9_perhaps1 (N := N) (d := e + 5) (X := X2) hn hB hN ms4.2.1 vs3.1 vs3.2.1 (x := nI (if tkK f n p = 111 then 1 else 0)) (by rw [if_pos k7])
      have vs5 := vs_t vs3 b2 b3 b4
      rw [a1, cV_some, kX6_readsFlaw_0 N (d + 5) _ hX hW] at cl
      rw [b1, cI_some, kX9_readSet_8 N (e + 8), nc_ne (by omega) (by omega) (by omega)] at rf
      rcases j_is (N := N) (d := d + 2) (e := e + 3) (X := X) (X2 := X2) hN ht (bl := 4) (k := 1) (c := T 1) (by omega) (by omega) w1 (by rw [u2_na _ _ _ _ _ (by omega), a2, u2_nk _ _ _ _ _ (by omega)]; exact hTC.1 1 (by omega)) (hTM.1 1 (by omega)) nm1 ms5 vs5 with ⟨K', b, s, b0, b8, m3, c1, c2⟩ | ⟨y, y1, c1, c2, ms6⟩
      · have f12 := flt_12 V5 b s
        rw [c1, cI_some, kX6_readsFlaw_1 N (d + 5) _ hX hW, nc_eq rfl, cI_some, kX6_readsSet_5 N (d + 6) _ hX hW, nc_eq rfl] at cl
        rw [c2, cI_some, kX9_readSet_9 N (e + 8), f12, nc_ne (by omega) (by omega) (by omega), set11_b (z := N + 27) (RT_flt b s vs5.1) f12 b0 (by omega)] at rf
        exact Or.inr ⟨_, _, _, _, cl, rf, FLD_z b0 b8 m3 vs5 (gI1 x) gJ (GM_0 _) gL⟩
      · have e9 : u2 K5 115 9 (nI y) 115 9 = nI y := u2_at _ _ _ _
        have e11 : u2 K5 115 9 (nI y) (X.2.2.1 + 11) (nI (T 3)).toNatClampNeg = nI x := by rw [nI_clamp (by omega), u2_na _ _ _ _ _ (by omega), ms5.2.2.2.2.1 _ (by omega), u2_at]
        rw [c1, cI_some, kX6_readsFlaw_1 N (d + 5) _ hX hW, nc_ne (by omega) (by omega) (by omega), nc_in (by omega) (by omega), e9, e11] at cl
        rw [c2, cI_some, kX9_readSet_9 N (e + 8), vs5.2.1, nc_eq rfl] at rf
        by_cases xy : y = x
        · rw [nc_eq xy, c4_fail (d := d + 4) ms6.2.2.1, cI_some, kX6_readsFlaw_2 N (d + 5) _ hX hW, nb_ok (by omega), cI_some, kX6_readsSet_5 N (d + 6) _ hX hW, nc_eq rfl] at cl
          have f12 := flt_12 V5 5 (tkS f n (tkE f n p))
          rw [nc_eq xy, vs5.1.2.2.2.1, c9_fail0 (d := e + 7) vs5.2.1, cV_some, kX9_readSet_10 N (e + 8), set11_b (z := N + 27) (RT_flt _ _ vs5.1) f12 (by omega) (by omega)] at rf
          exact Or.inr ⟨_, _, _, _, cl, rf, FLD_z (by omega) (by omega) ms6 vs5 (gI1 x) gJ (GM_0 _) gL⟩
        · have ms7 := ms_u (a := X.2.2.1 + 12) (k := T 3) (v := nI y) ms6 (by omega) (by omega)
          obtain ⟨K8, Y8, g1, ms8⟩ := zs_next (N := N) (d := d + 3) (X := X) hn hB hN ms7
          obtain ⟨V8, P8, h1, h2, h3, h4⟩ := c9_must1 (N := N) (d := e + 5) (X := X2) hn hB hN ms7.2.1 vs5.1 vs5.2.1 (x := nI 1) rfl
          rw [nc_ne xy (by omega) (by omega), nc_in (by omega) (by omega), nI_clamp (by omega), g1, cV_some, kX6_readsFlaw_3 N (d + 5) _ hX hW, cI_some, kX6_readsSet_5 N (d + 6) _ hX hW, nc_ne (by omega) (by omega) (by omega)] at cl
          rw [nc_ne xy (by omega) (by omega), h1, cV_some, kX9_readSet_11 N (e + 8)] at rf
          rw [cl, rf]
          exact j_set67 hn hB hN hX hW H0 g x1 (Or.inl y1) ms8 (vs_t vs5 h2 h3 h4) (N + 28) (N + 27)
    · rw [nc_ne k7 (tkK_lt f n p) (by omega)] at cl
      rw [c9_perhaps0 (d := e + 7) vs3.2.1 (by rw [if_neg k7]), cI_some, kX9_readSet_8 N (e + 8), nc_eq rfl, no_m1] at rf
      rw [cl, rf]
      refine j_set67 hn hB hN hX hW H0 g x1 (Or.inr rfl) (w := w) ?_ vs3 (N + 28) (N + 27)
      have : zSet I X.2.2.1 (T 3) x 4294967295 = u2 (adH I X.2.2.1 (T 3) 3) (X.2.2.1 + 11) (T 3) (nI x) := u2_id (by rw [u2_na _ _ _ _ _ (by omega), a12])
      rw [this]
      exact ms4
end
