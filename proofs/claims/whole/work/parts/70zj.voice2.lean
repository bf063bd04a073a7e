/-! texts: a voice's PART -/
section
variable {N d e : Nat} {X X2 : lt_X} {f : Nat → Int32} {n q r : Nat} {I M K V Z V0 : Nat → Nat → Int32} {J L Y P Y0 P0 : Nat → Nat → Int64} {T : Nat → Nat} {o b : Nat}
theorem behind_b (h : V 135 12 = nI b) (h0 : 0 < b) (hb : b < 100) (x y z : Int32) : am_G am_prog (N + 30) (e + 8) 233 [.ref 135, .int x, .int y, .int z] (mkh X2 V P) = some (.int (nI 0), mkh X2 V P) := by
  rw [gX9_behindWord N (e + 7), sX9_behindWord_0 N (e + 7), c9_mustb (d := e + 6) h h0 hb, cV_some, kX9_behindWord_0 N (e + 7), c9_countb (d := e + 5) h h0 hb, cI_some, kX9_behindWord_1 N (e + 7)]
theorem vo41_b (h : V 135 12 = nI b) (h0 : 0 < b) (hb : b < 100) (z : Nat) (x1 x2 x3 x4 : Int32) : RX9_readVoice_41 N (e + 8) (z + 2) X2 x1 x2 x3 x4 V P = some (.null, mkh X2 V P) := by
  rw [sX9_readVoice_41 N (e + 8) (z + 1), c9_toldb (d := e + 7) h h0 hb, cI_some, kX9_readVoice_1 N (e + 8), h, nc_ne (by omega) (by omega) (by omega), vo73_b (z := z) h h0 hb]
theorem vo8_b (h : V 135 12 = nI b) (h0 : 0 < b) (hb : b < 100) (z : Nat) (a c l x : Int32) : KX9_readVoice_8 N (e + 8) (z + 2) a c l x (mkh X2 V P) = some (.null, mkh X2 V P) := by
  rw [kX9_readVoice_8 N (e + 8), c9_mustb (d := e + 7) h h0 hb, cV_some, kX9_readVoice_9 N (e + 8), vo41_b h h0 hb]
theorem vo7_b (hR : RT f n r V P) (h : V 135 12 = nI b) (h0 : 0 < b) (hb : b < 100) (z : Nat) (a c x : Int32) : KX9_readVoice_7 N (e + 8) (z + 2) a c x (mkh X2 V P) = some (.null, mkh X2 V P) := by
  rw [kX9_readVoice_7 N (e + 8), c9_isSays (d := e + 6) hR, cI_some, vo8_b h h0 hb]
theorem vo5_b (hR : RT f n r V P) (h : V 135 12 = nI b) (h0 : 0 < b) (hb : b < 100) (z : Nat) (a x : Int32) : KX9_readVoice_5 N (e + 8) (z + 2) a x (mkh X2 V P) = some (.null, mkh X2 V P) := by
  rw [kX9_readVoice_5 N (e + 8), c9_isLife (d := e + 6) hR, cI_some, kX9_readVoice_6 N (e + 8), behind_b h h0 hb, cI_some, vo7_b hR h h0 hb]
theorem vo0_b (hR : RT f n r V P) (h : V 135 12 = nI b) (h0 : 0 < b) (hb : b < 100) (z : Nat) (x : Int32) : KX9_readVoice_0 N (e + 8) (z + 2) x (mkh X2 V P) = some (.null, mkh X2 V P) := by
  rw [kX9_readVoice_0 N (e + 8), c9_isAge (d := e + 6) hR, cI_some, kX9_readVoice_3 N (e + 8), behind_b h h0 hb, cI_some, vo5_b hR h h0 hb]
theorem PO_y (hX : hsX X) {U : Nat → Nat} (ho : o ≤ 1) (hw : WF U) (hf : frsh U) (hTC : TC Z X.2.2.1 U) (hO : Z 117 2 = nI o) (hTM : TM (fun k => V0 140 (1716 + k)) U) (hO2 : V0 135 24 = nI o) (hZ : ZB (V0 140) U) (hNM : NM (Y0 (X.2.2.1 + 1)) (fun k => P0 142 (96 + k)) U) (gI : GI X.2.2.1 I Z) (gJ : GJ X.2.2.1 J Y0) (gM : GM M V0) (gL : GL L P0) (m : MS f n q r Z Y0 K Y) (v : VS f n r V0 P0 V P) (h59 : tkK f n r ≠ 59) {A B : am_O} (hA : A = some (.int (nI 0), mkh X (u2 (u2 K 115 10 (nI (fkd f n r))) 115 11 (nI (tkS f n r))) Y)) (hB2 : B = some (.null, mkh X2 V P)) : PO f n X X2 q I J M L A B := by
  obtain ⟨ht, htt⟩ := hX_T hX
  refine Or.inl ⟨r, U, o, K, Y, V, P, m.1, ⟨m.2.1, ho, hw, hf, m.2.2.1, m.2.2.2.1, TC_frame (fun a h1 h2 => m.2.2.2.2.1 a (by omega)) hTC, by rw [m.2.2.2.2.1 117 (by omega)]; exact hO, v.1, v.2.1, ?_, by rw [v.2.2.1.2 24 (by omega)]; exact hO2, ?_, ?_, m.2.2.2.2.2.2⟩, fun a h1 h2 h3 => by rw [m.2.2.2.2.1 a h1]; exact gI a h1 h2 h3, fun a h1 h2 => by rw [m.2.2.2.2.2.1 a h1]; exact gJ a h1 h2, GM_t gM (GM_F v.2.2.1), GL_t gL (GL_F v.2.2.2), hB2, fun h => absurd h h59, fun _ => hA⟩
  · rw [v.2.2.1.1 140 (by omega)]; exact hTM
  · rw [v.2.2.1.1 140 (by omega)]; exact hZ
  · rw [m.2.2.2.2.2.1 _ (by omega), v.2.2.2.1 142 (by omega)]; exact hNM
theorem j_voice (hn : n ≤ 900) (hB : ∀ k, k < n → isB (f k)) (hN : 10000 ≤ N) (hX : hsX X) (hW : X.2.2.2.1 = some X.2.2.1) (H : JS f n X.2.2.1 q T o I J M L) (z : Nat) : PO f n X X2 q I J M L (am_cI (am_G am_prog (N + 30) (d + 7) 97 [.ref 117, .int (nI 1)] (mkh X I J)) (KX6_readsPart_2 N (d + 7) z)) (am_G am_prog (N + 30) (e + 9) 248 [.ref 135] (mkh X2 M L)) := by
  have H0 := H
  obtain ⟨hq, ho, hw, hf, hC, hK, hTC, hO, hR, h12, hTM, hO2, hZ, hNM, hOK⟩ := H
  obtain ⟨ht, htt⟩ := hX_T hX
  obtain ⟨w0, w1, w2, w3, -⟩ := hw.1
  have rf := gX9_readVoice N (e + 8) (X := X2) M L
  rw [sX9_readVoice_0 N (e + 8)] at rf
  rcases j_new (N := N) (d := d + 3) (e := e + 3) (X2 := X2) hn hB hN hX hW (k := 1) (by omega) H0 with ⟨K, Y, V, P, c1, c2, F⟩ | ⟨r, w, K, Y, V, P, g, q1, q2, c1, c2, m1, m2, m3, m4, m5, v1, v2, v3, v4, ok5⟩
  · obtain ⟨b, p, b0, b1, b2, b3⟩ := FLD_b F
    rw [c2, cI_some, vo0_b (z := N + 27) b3 b2 b0 b1] at rf
    refine Or.inr ⟨_, _, _, _, ?_, rf, F⟩
    rw [c1, cI_some, kX6_readsPart_2 N (d + 7) _ hX hW, nc_eq rfl]
  · rw [c1, cI_some, kX6_readsPart_2 N (d + 7) _ hX hW, nc_ne (by omega) (by omega) (by omega), m3]
    refine PO_c (fun z K Y hz => ?_) ?_
    · rw [kX6_readsPart_8 N (d + 7) _ hX hW]
      rcases hz with rfl | rfl
      · rw [nc_eq rfl]
      · rw [nc_ne (by omega) (by omega) (by omega)]
    have ms : MS f n q r (adH I X.2.2.1 (T 1) 1) (u2L J (X.2.2.1 + 1) (6 * 1 + T 1) w) K Y := ⟨q1, q2, m1, m2, m4, m5, ok5⟩
    have vs : VS f n r M (u2L L 142 (96 + (6 * 1 + T 1)) w) V P := ⟨v1, v2, v3, v4⟩
    have gI : GI X.2.2.1 I (adH I X.2.2.1 (T 1) 1) := GI_adH 1
    have gJ : GJ X.2.2.1 J (u2L J (X.2.2.1 + 1) (6 * 1 + T 1) w) := GJ_u (GJ_0 _ _)
    have gL : GL L (u2L L 142 (96 + (6 * 1 + T 1)) w) := GL_u (by omega) (GL_0 _)
    have cl := gX6_readsVoice N (d + 6) (X := X) (nI (T 1)) K Y
    rw [sX6_readsVoice_0 N (d + 6) _ hX hW] at cl
    rw [c2, cI_some, kX9_readVoice_0 N (e + 8), c9_isAge (d := e + 6) v1, cI_some, kX9_readVoice_3 N (e + 8), gX9_behindWord N (e + 7), sX9_behindWord_0 N (e + 7)] at rf
    rcases j_takes (N := N) (d := d + 3) (e := e + 4) (X := X) (X2 := X2) hn hB hN (kd := 103) (by omega) rfl ms vs with ⟨b, s, b0, b8, c1, c2⟩ | ⟨K2, Y2, V2, P2, -, c1, c2, ms2, vs2⟩
    · have f12 := flt_12 V b s
      rw [c1, cI_some, kX6_readsVoice_0 N (d + 6) _ hX hW, nc_eq rfl] at cl
      rw [c2, cV_some, kX9_behindWord_0 N (e + 7), c9_countb (d := e + 5) f12 b0 (by omega), cI_some, kX9_behindWord_1 N (e + 7), cI_some, vo5_b (z := N + 27) (RT_flt b s v1) f12 b0 (by omega)] at rf
      exact Or.inr ⟨_, _, _, _, cl, rf, FLD_z b0 b8 ms vs gI gJ (GM_0 _) gL⟩
    rw [c1, cI_some, kX6_readsVoice_0 N (d + 6) _ hX hW, nc_ne (by omega) (by omega) (by omega)] at cl
    rw [c2, cV_some, kX9_behindWord_0 N (e + 7)] at rf
    rcases j_num (N := N) (d := d + 3) (e := e + 4) (X := X) (X2 := X2) hn hB hN (lo := 0) (hi := 119) (by omega) (by omega) ms2 vs2 with ⟨b, s, b0, b8, c1, c2⟩ | ⟨a, K3, Y3, V3, P3, x1, x2, c1, c3, c2, ms3, vs3⟩
    · have f12 := flt_12 V2 b s
      rw [c1, cI_some, kX6_readsVoice_1 N (d + 6) _ hX hW, nc_eq rfl] at cl
      rw [c2, cI_some, kX9_behindWord_1 N (e + 7), cI_some, vo5_b (z := N + 27) (RT_flt b s vs2.1) f12 b0 (by omega)] at rf
      exact Or.inr ⟨_, _, _, _, cl, rf, FLD_z b0 b8 ms2 vs2 gI gJ (GM_0 _) gL⟩
    rw [c1, cI_some, kX6_readsVoice_1 N (d + 6) _ hX hW, nc_ne (by omega) (by omega) (by omega), nc_in (by omega) (by omega), nI_clamp (by omega), c3] at cl
    rw [c2, cI_some, kX9_behindWord_1 N (e + 7), cI_some, kX9_readVoice_5 N (e + 8), c9_isLife (d := e + 6) vs3.1, cI_some, kX9_readVoice_6 N (e + 8), gX9_behindWord N (e + 7), sX9_behindWord_0 N (e + 7)] at rf
    have ms4 := ms_u (a := X.2.2.1 + 3) (k := T 1) (v := nI a) ms3 (by omega) (by omega)
    have gI4 : GI X.2.2.1 I (u2 (adH I X.2.2.1 (T 1) 1) (X.2.2.1 + 3) (T 1) (nI a)) := GI_u (by omega) gI
    rcases j_takes (N := N) (d := d + 3) (e := e + 4) (X := X) (X2 := X2) hn hB hN (kd := 104) (by omega) rfl ms4 vs3 with ⟨b, s, b0, b8, c1, c2⟩ | ⟨K5, Y5, V5, P5, -, c1, c2, ms5, vs5⟩
    · have f12 := flt_12 V3 b s
      rw [c1, cI_some, kX6_readsVoice_2 N (d + 6) _ hX hW, nc_eq rfl] at cl
      rw [c2, cV_some, kX9_behindWord_0 N (e + 7), c9_countb (d := e + 5) f12 b0 (by omega), cI_some, kX9_behindWord_1 N (e + 7), cI_some, vo7_b (z := N + 27) (RT_flt b s vs3.1) f12 b0 (by omega)] at rf
      exact Or.inr ⟨_, _, _, _, cl, rf, FLD_z b0 b8 ms4 vs3 gI4 gJ (GM_0 _) gL⟩
    rw [c1, cI_some, kX6_readsVoice_2 N (d + 6) _ hX hW, nc_ne (by omega) (by omega) (by omega)] at cl
    rw [c2, cV_some, kX9_behindWord_0 N (e + 7)] at rf
    rcases j_num (N := N) (d := d + 3) (e := e + 4) (X := X) (X2 := X2) hn hB hN (lo := 1) (hi := 120) (by omega) (by omega) ms5 vs5 with ⟨b, s, b0, b8, c1, c2⟩ | ⟨l, K6, Y6, V6, P6, y1, y2, c1, c3, c2, ms6, vs6⟩
    · have f12 := flt_12 V5 b s
      rw [c1, cI_some, kX6_readsVoice_3 N (d + 6) _ hX hW, nc_eq rfl] at cl
      rw [c2, cI_some, kX9_behindWord_1 N (e + 7), cI_some, vo7_b (z := N + 27) (RT_flt b s vs5.1) f12 b0 (by omega)] at rf
      exact Or.inr ⟨_, _, _, _, cl, rf, FLD_z b0 b8 ms5 vs5 gI4 gJ (GM_0 _) gL⟩
    rw [c1, cI_some, kX6_readsVoice_3 N (d + 6) _ hX hW, nc_ne (by omega) (by omega) (by omega), nc_in (by omega) (by omega), nI_clamp (by omega), c3] at cl
    rw [c2, cI_some, kX9_behindWord_1 N (e + 7), cI_some, kX9_readVoice_7 N (e + 8), c9_isSays (d := e + 6) vs6.1, cI_some, kX9_readVoice_8 N (e + 8)] at rf
    have ms7 : MS f n q _ (zVo I X.2.2.1 (T 1) a l) _ _ _ := ms_u (a := X.2.2.1 + 4) (k := T 1) (v := nI l) ms6 (by omega) (by omega)
    have gI7 : GI X.2.2.1 I (zVo I X.2.2.1 (T 1) a l) := GI_u (by omega) gI4
    rcases j_takes (N := N) (d := d + 3) (e := e + 5) (X := X) (X2 := X2) hn hB hN (kd := 105) (by omega) rfl ms7 vs6 with ⟨b, s, b0, b8, c1, c2⟩ | ⟨K8, Y8, V8, P8, -, c1, c2, ms8, vs8⟩
    · have f12 := flt_12 V6 b s
      rw [c1, cI_some, kX6_readsVoice_4 N (d + 6) _ hX hW, nc_eq rfl] at cl
      rw [c2, cV_some, kX9_readVoice_9 N (e + 8), vo41_b (z := N + 27) f12 b0 (by omega)] at rf
      exact Or.inr ⟨_, _, _, _, cl, rf, FLD_z b0 b8 ms7 vs6 gI7 gJ (GM_0 _) gL⟩
    rw [c1, cI_some, kX6_readsVoice_4 N (d + 6) _ hX hW, nc_ne (by omega) (by omega) (by omega), gX6_readsRow N (d + 5), sX6_readsRow_0 N (d + 5) _ hX hW, sX6_readsRow_2 N (d + 5) _ hX hW, nc_nlt (by omega) (by omega), nc_nlt (by omega) (by omega)] at cl
    rw [c2, cV_some, kX9_readVoice_9 N (e + 8)] at rf
    obtain ⟨z2, z0, z3, z4, z5, zn⟩ := zVo_at (I := I) (t := X.2.2.1) (v := T 1) (a := a) (l := l)
    have R := j_rows (N := N) (d := d) (e := e) (X := X) (X2 := X2) (q := q) (v := T 1) (a := a) (l := l) (T0 := T 0) (Z0 := zVo I X.2.2.1 (T 1) a l) (V0 := M) (Y0 := u2L J (X.2.2.1 + 1) (6 * 1 + T 1) w) (P0 := u2L L 142 (96 + (6 * 1 + T 1)) w) hn hB hN hX hW g w0 (by rw [z2, u2_nk _ _ _ _ _ (by omega)]; exact hTC.1 0 (by omega)) (hTM.1 0 (by omega)) (hTM.1 1 (by omega)) (fun i hi => by rw [u2L_nk _ _ _ _ _ (by omega), u2L_nk _ _ _ _ _ (by omega)]; exact hNM 0 i (by omega) hi) 8 0 rfl (ρ := fun _ => 0) (fun i hi => absurd hi (by omega)) ⟨by rw [z5, u2_at], fun i hi => absurd hi (by omega), fun _ _ _ => rfl, fun _ _ => rfl, fun _ _ => rfl⟩ ⟨fun i hi => absurd hi (by omega), fun _ _ => rfl, fun _ _ => rfl⟩ ms8 vs8 (N + 8) (N + 9)
    rw [show N + 8 + 2 * 8 + 4 = N + 28 by omega, show N + 9 + 2 * 8 + 4 = N + 29 by omega] at R
    rcases R with ⟨K9, Y9, V9, P9, Zk, Vk, k, ρ, p, b, s, b0, b8, c1, c2, hC9, hM9, ms9, vs9⟩ | ⟨K9, Y9, V9, P9, Zk, Vk, k, ρ, p, k1, k8, hρ, c2, c1, c1', hC9, hM9, ms9, vs9⟩
    · rw [c1, cI_some, kX6_readsVoice_5 N (d + 6) _ hX hW, nc_eq rfl] at cl
      rw [c2] at rf
      refine Or.inr ⟨_, _, _, _, cl, rf, FLD_z b0 b8 ms9 vs9 (fun x h1 h2 h3 => by rw [hC9.2.2.1 x (by omega) (by omega)]; exact gI7 x h1 h2 h3) gJ ⟨fun x _ h => hM9.2.1 x h, fun j hj => hM9.2.2 j (by omega), fun j _ _ => by rw [hM9.2.1 135 (by omega)]⟩ gL⟩
    · rw [c2] at rf
      obtain ⟨U, u1, u2', u3, u4, u5, u6⟩ := V_facts (w := w) x2 y2 k1 k8 hρ g hw hTC hTM hZ hNM hC9 hM9
      have vs10 : VS f n p (vVo Vk (T 1) a l k) (u2L L 142 (96 + (6 * 1 + T 1)) w) (vVo V9 (T 1) a l k) P9 := vs_u (vs_u (vs_u (vs_u (vs_u vs9))))
      have gI9 : GI X.2.2.1 I Zk := fun x h1 h2 h3 => by rw [hC9.2.2.1 x (by omega) (by omega)]; exact gI7 x h1 h2 h3
      have gM9 : GM M (vVo Vk (T 1) a l k) := GM_u (by omega) (GM_u (by omega) (GM_u (by omega) (GM_u (by omega) (GM_u (by omega) ⟨fun x _ h => hM9.2.1 x h, fun j hj => hM9.2.2 j (by omega), fun j _ _ => by rw [hM9.2.1 135 (by omega)]⟩))))
      have o117 : Zk 117 2 = nI o := by rw [hC9.2.2.1 117 (by omega) (by omega), zn 117 (by omega) (by omega) (by omega) (by omega) (by omega)]; exact hO
      have o24 : vVo Vk (T 1) a l k 135 24 = nI o := by
        unfold vVo
        rw [u2_na _ _ _ _ _ (by omega), u2_na _ _ _ _ _ (by omega), u2_na _ _ _ _ _ (by omega), u2_na _ _ _ _ _ (by omega), u2_na _ _ _ _ _ (by omega), hM9.2.1 135 (by omega)]; exact hO2
      by_cases h59 : tkK f n p = 59
      · rw [c1 h59, cI_some, kX6_readsVoice_5 N (d + 6) _ hX hW, nc_ne (by omega) (by omega) (by omega)] at cl
        refine PO_z (d := d + 3) (o := o) (U := U) hn hB hN hX hW ho u1 (u2' hf) u3 o117 u4 o24 u5 u6 gI9 gJ gM9 gL ms9 vs10 cl (fun z K Y hz => ?_) rf
        rw [kX6_readsVoice_6 N (d + 6) _ hX hW]
        rcases hz with rfl | rfl
        · rw [nc_eq rfl]
        · rw [nc_ne (by omega) (by omega) (by omega)]
      · rw [c1' h59, cI_some, kX6_readsVoice_5 N (d + 6) _ hX hW, nc_eq rfl] at cl
        refine PO_y hX ho u1 (u2' hf) u3 o117 u4 o24 u5 u6 gI9 gJ gM9 gL ms9 vs10 h59 cl rf
end
