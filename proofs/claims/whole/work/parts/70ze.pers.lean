/-! texts: a person, likes -/
section
variable {N d e : Nat} {X X2 : lt_X} {f : Nat → Int32} {n q r : Nat} {I M K V Z V0 : Nat → Nat → Int32} {J L Y P Y0 P0 : Nat → Nat → Int64} {T : Nat → Nat} {o : Nat}
theorem GI_u7 {sp a k : Nat} {v : Int32} (h : sp ≤ a ∧ a < sp + 14) (H : GI sp I K) : GI sp I (u2 K a k v) := GI_u (Or.inr h) H
theorem j_pers (hn : n ≤ 900) (hB : ∀ k, k < n → isB (f k)) (hN : 10000 ≤ N) (hX : hsX X) (hW : X.2.2.2.1 = some X.2.2.1) (H : JS f n X.2.2.1 q T o I J M L) (z : Nat) : PO f n X X2 q I J M L (am_cI (am_G am_prog (N + 30) (d + 7) 97 [.ref 117, .int (nI 2)] (mkh X I J)) (KX6_readsPart_4 N (d + 7) z)) (am_G am_prog (N + 30) (e + 9) 249 [.ref 135] (mkh X2 M L)) := by
  have H0 := H
  obtain ⟨hq, ho, hw, hf, hC, hK, hTC, hO, hR, h12, hTM, hO2, hZ, hNM, hOK⟩ := H
  obtain ⟨ht, htt⟩ := hX_T hX
  have rf := gX9_readPerson N (e + 8) (X := X2) M L
  rw [sX9_readPerson_0 N (e + 8)] at rf
  rcases j_new (N := N) (d := d + 3) (e := e + 3) (X2 := X2) hn hB hN hX hW (k := 2) (by omega) H0 with ⟨K, Y, V, P, c1, c2, F⟩ | ⟨r, w, K, Y, V, P, g, q1, q2, c1, c2, m1, m2, m3, m4, m5, v1, v2, v3, v4, ok5⟩
  · obtain ⟨b, p, b0, b1, b2, b3⟩ := FLD_b F
    rw [c2, cI_some, kX9_readPerson_0 N (e + 8), c9_isCoins (d := e + 6) b3, cI_some, kX9_readPerson_1 N (e + 8), c9_perhapsb (d := e + 7) b2 b0 b1, cI_some, kX9_readPerson_2 N (e + 8), nc_eq rfl, sX9_readPerson_30 N (e + 8), b2, nc_lt b0 (by omega)] at rf
    refine Or.inr ⟨_, _, _, _, ?_, rf, F⟩
    rw [c1, cI_some, kX6_readsPart_4 N (d + 7) _ hX hW, nc_eq rfl]
  · rw [c1, cI_some, kX6_readsPart_4 N (d + 7) _ hX hW, nc_ne (by omega) (by omega) (by omega), m3]
    refine PO_c (fun z K Y hz => ?_) ?_
    · rw [kX6_readsPart_9 N (d + 7) _ hX hW]
      rcases hz with rfl | rfl
      · rw [nc_eq rfl]
      · rw [nc_ne (by omega) (by omega) (by omega)]
    have ms : MS f n q r (adH I X.2.2.1 (T 2) 2) (u2L J (X.2.2.1 + 1) (6 * 2 + T 2) w) K Y := ⟨q1, q2, m1, m2, m4, m5, ok5⟩
    have vs : VS f n r M (u2L L 142 (96 + (6 * 2 + T 2)) w) V P := ⟨v1, v2, v3, v4⟩
    have cl := gX6_readsPerson N (d + 6) (X := X) (nI (T 2)) K Y
    rw [sX6_readsPerson_0 N (d + 6) _ hX hW, m1.2.2.2.1] at cl
    rw [c2, cI_some, kX9_readPerson_0 N (e + 8), c9_isCoins (d := e + 6) v1, cI_some, kX9_readPerson_1 N (e + 8)] at rf
    have gI : GI X.2.2.1 I (adH I X.2.2.1 (T 2) 2) := GI_adH 2
    have gL : GL L (u2L L 142 (96 + (6 * 2 + T 2)) w) := GL_u (by omega) (GL_0 _)
    have fin : ∀ {c : Nat} {Z2 : Nat → Nat → Int32}, c ≤ 9999 → Z2 = u2 (adH I X.2.2.1 (T 2) 2) (X.2.2.1 + 7) (T 2) (nI c) → ∀ {p : Nat} {K2 V2 : Nat → Nat → Int32} {Y2 P2 : Nat → Nat → Int64} {A B : am_O}, MS f n q p Z2 (u2L J (X.2.2.1 + 1) (6 * 2 + T 2) w) K2 Y2 → VS f n p M (u2L L 142 (96 + (6 * 2 + T 2)) w) V2 P2 → A = am_cI (am_G am_prog (N + 30) (d + 6) 51 [.ref 115, .int (nI 59)] (mkh X K2 Y2)) (KX6_readsPerson_1 N (d + 6) (N + 29)) → B = RX9_readPerson_30 N (e + 8) (N + 29) X2 (nI (T 2)) (nI c) V2 P2 → PO f n X X2 q I J M L A B := by
      intro c Z2 hc hZ2 p K2 V2 Y2 P2 A B ms2 vs2 hA hB2
      obtain ⟨f1, f2, f3, f4⟩ := P_facts (w := w) htt hc g hw hTC hTM hZ hNM
      have e0 : u2 V2 140 (1753 + T 2) (nI c) 140 1718 = nI (T 2) := by rw [u2_nk _ _ _ _ _ (by omega), vs2.2.2.1.1 140 (by omega)]; exact hTM.1 2 (by omega)
      rw [sX9_readPerson_30 N (e + 8), vs2.2.1, nc_nlt (by omega) (by omega), nI_add, nc_in (by omega) (by omega), nI_clamp (by omega), e0, nI_add] at hB2
      subst hZ2
      refine PO_z (d := d + 3) (o := o) (U := addP T c) hn hB hN hX hW ho (WF_addP hw g hc) (frsh_P hw g hf) f1 ?_ f2 ?_ f3 f4 (GI_u (by omega) gI) (GJ_u (GJ_0 _ _)) (GM_u (k := 1718) (by omega) (GM_u (k := 1753 + T 2) (by omega) (GM_0 _))) gL ms2 (vs_u (vs_u vs2)) hA (fun z K Y hz => by rw [kX6_readsPerson_1 N (d + 6) _ hX hW, nbz hz]) hB2
      · rw [u2_na _ _ _ _ _ (by omega), adH_na (by omega)]; exact hO
      · rw [u2_na _ _ _ _ _ (by omega), u2_na _ _ _ _ _ (by omega)]; exact hO2
    by_cases k7 : tkK f n r = 107
    · rw [nc_eq k7] at cl
      obtain ⟨K2, Y2, a1, ms2⟩ := zs_next (N := N) (d := d + 4) (X := X) hn hB hN ms
      obtain ⟨V2, P2, b1, b2, b3, b4⟩ := c9_perhaps1 (N := N) (d := e + 5) (X := X2) hn hB hN q2 v1 v2 (x := nI (if tkK f n r = 107 then 1 else 0)) (by rw [if_pos k7])
      have vs2 := vs_t vs b2 b3 b4
      rw [a1, cV_some, kX6_readsPerson_0 N (d + 6) _ hX hW] at cl
      rw [b1, cI_some, kX9_readPerson_2 N (e + 8), nc_ne (by omega) (by omega) (by omega)] at rf
      rcases j_num (N := N) (d := d + 3) (e := e + 5) (X := X) (X2 := X2) hn hB hN (lo := 0) (hi := 999) (by omega) (by omega) ms2 vs2 with ⟨b, s, b0, b8, c1, c2⟩ | ⟨x, K3, Y3, V3, P3, x1, x2, c1, c3, c2, ms3, vs3⟩
      · rw [c1, cI_some, kX6_readsPerson_2 N (d + 6) _ hX hW, nc_eq rfl] at cl
        rw [c2, cI_some, kX9_readPerson_3 N (e + 8), sX9_readPerson_30 N (e + 8), flt_12, nc_lt b0 (by omega)] at rf
        exact Or.inr ⟨_, _, _, _, cl, rf, FLD_z b0 b8 ms2 vs2 gI (GJ_u (GJ_0 _ _)) (GM_0 _) gL⟩
      · rw [c1, cI_some, kX6_readsPerson_2 N (d + 6) _ hX hW, nc_ne (by omega) (by omega) (by omega), nc_in (by omega) (by omega), nI_clamp (by omega), c3] at cl
        rw [c2, cI_some, kX9_readPerson_3 N (e + 8)] at rf
        exact fin (c := x) (by omega) rfl (ms_u ms3 (by omega) (by omega)) vs3 cl rf
    · rw [nc_ne k7 (tkK_lt f n r) (by omega)] at cl
      rw [c9_perhaps0 (d := e + 7) v2 (by rw [if_neg k7]), cI_some, kX9_readPerson_2 N (e + 8), nc_eq rfl] at rf
      refine fin (c := 10) (by omega) (u2_id ?_).symm ms vs cl rf
      rw [adH2, zlk_na (by omega), u2_na _ _ _ _ _ (by omega), u2_na _ _ _ _ _ (by omega), u2_at]
theorem j_likes (hn : n ≤ 900) (hB : ∀ k, k < n → isB (f k)) (hN : 10000 ≤ N) (hX : hsX X) (hW : X.2.2.2.1 = some X.2.2.1) (H : JS f n X.2.2.1 q T o I J M L) : PO f n X X2 q I J M L (am_G am_prog (N + 30) (d + 7) 102 [.ref 117] (mkh X I J)) (am_G am_prog (N + 30) (e + 9) 250 [.ref 135] (mkh X2 M L)) := by
  obtain ⟨hq, ho, hw, hf, hC, hK, hTC, hO, hR, h12, hTM, hO2, hZ, hNM, hOK⟩ := H
  obtain ⟨ht, htt⟩ := hX_T hX
  obtain ⟨w0, w1, w2, w3, -⟩ := hw.1
  have cl := gX6_readsLikes N (d + 6) (X := X) I J
  have rf := gX9_readLikes N (e + 8) (X := X2) M L
  obtain ⟨K, Y, a, m1⟩ := zs_next (N := N) (d := d + 4) (X := X) hn hB hN (MS_0 hq hC hK hOK)
  obtain ⟨V, P, b, v1⟩ := vs_next (N := N) (d := e + 6) (X := X2) hn hB hN hq (VS_0 hR h12)
  rw [sX6_readsLikes_0 N (d + 6) _ hX hW, a, cV_some, kX6_readsLikes_0 N (d + 6) _ hX hW] at cl
  rw [sX9_readLikes_0 N (e + 8), b, cV_some, kX9_readLikes_0 N (e + 8)] at rf
  rcases j_told (N := N) (d := d + 2) (e := e + 2) (X := X) (X2 := X2) hn hB hN ht (bl := 4) (k := 2) (c := T 2) (by omega) (by omega) w2 (hTC.1 2 (by omega)) (hTM.1 2 (by omega)) (fun i hi => hNM 2 i (by omega) hi) m1 v1 with ⟨K', b, s, b0, b8, m2, c1, c2⟩ | ⟨x, K2, Y2, V2, P2, x1, c1, c3, c2, m2, v2⟩
  · have f12 := flt_12 V b s
    rw [c1, cI_some, kX6_readsLikes_1 N (d + 6) _ hX hW, nc_eq rfl] at cl
    rw [c2, cI_some, kX9_readLikes_1 N (e + 8), c9_readToldb (d := e + 6) f12 b0 (by omega), cI_some, kX9_readLikes_2 N (e + 8), c9_countb (d := e + 6) f12 b0 (by omega), cI_some, kX9_readLikes_3 N (e + 8), f12, nc_ne (by omega) (by omega) (by omega)] at rf
    exact Or.inr ⟨_, _, _, _, cl, rf, FLD_z b0 b8 m2 v1 (GI_0 _ _) (GJ_0 _ _) (GM_0 _) (GL_0 _)⟩
  · rw [c1, cI_some, kX6_readsLikes_1 N (d + 6) _ hX hW, nc_ne (by omega) (by omega) (by omega), c3] at cl
    rw [c2, cI_some, kX9_readLikes_1 N (e + 8)] at rf
    rcases j_told (N := N) (d := d + 2) (e := e + 2) (X := X) (X2 := X2) hn hB hN ht (bl := 4) (k := 0) (c := T 0) (by omega) (by omega) w0 (hTC.1 0 (by omega)) (hTM.1 0 (by omega)) (fun i hi => hNM 0 i (by omega) hi) m2 v2 with ⟨K', b, s, b0, b8, m3, c1, c2⟩ | ⟨y, K3, Y3, V3, P3, y1, c1, c3, c2, m3, v3⟩
    · have f12 := flt_12 V2 b s
      rw [c1, cI_some, kX6_readsLikes_2 N (d + 6) _ hX hW, nc_eq rfl] at cl
      rw [c2, cI_some, kX9_readLikes_2 N (e + 8), c9_countb (d := e + 6) f12 b0 (by omega), cI_some, kX9_readLikes_3 N (e + 8), f12, nc_ne (by omega) (by omega) (by omega)] at rf
      exact Or.inr ⟨_, _, _, _, cl, rf, FLD_z b0 b8 m3 v2 (GI_0 _ _) (GJ_0 _ _) (GM_0 _) (GL_0 _)⟩
    · rw [c1, cI_some, kX6_readsLikes_2 N (d + 6) _ hX hW, nc_ne (by omega) (by omega) (by omega), c3] at cl
      rw [c2, cI_some, kX9_readLikes_2 N (e + 8)] at rf
      rcases j_num (N := N) (d := d + 3) (e := e + 5) (X := X) (X2 := X2) hn hB hN (lo := 0) (hi := 9) (by omega) (by omega) m3 v3 with ⟨b, s, b0, b8, c1, c2⟩ | ⟨v, K4, Y4, V4, P4, u1, u2', c1, c4, c2, m4, v4⟩
      · rw [c1, cI_some, kX6_readsLikes_3 N (d + 6) _ hX hW, nc_eq rfl] at cl
        rw [c2, cI_some, kX9_readLikes_3 N (e + 8), flt_12, nc_ne (by omega) (by omega) (by omega)] at rf
        exact Or.inr ⟨_, _, _, _, cl, rf, FLD_z b0 b8 m3 v3 (GI_0 _ _) (GJ_0 _ _) (GM_0 _) (GL_0 _)⟩
      · rw [c1, cI_some, kX6_readsLikes_3 N (d + 6) _ hX hW, nc_ne (by omega) (by omega) (by omega), pk_mul, nI_add, nc_in (by omega) (by omega), nI_clamp (by omega), c4] at cl
        rw [c2, cI_some, kX9_readLikes_3 N (e + 8), v4.2.1, nc_eq rfl, pk_mul, nI_add, nI_add, nc_in (by omega) (by omega), nI_clamp (by omega), show 1837 + 6 * x + y = 1716 + (121 + 6 * x + y) by omega] at rf
        have hw2 := WF_like hw (p := x) (s := y) (x := v) x1 (by omega) u2'
        refine PO_z (d := d + 3) (o := o) (U := up1 T (121 + 6 * x + y) v) hn hB hN hX hW ho hw2 (frsh_up hw (by omega) hf) (TC_like hw x1 (by omega) hTC) ?_ ?_ ?_ ?_ ?_ (GI_u (by omega) (GI_0 _ _)) (GJ_0 _ _) (GM_u (k := 1716 + (121 + 6 * x + y)) (v := nI v) (by omega) (GM_0 _)) (GL_0 _) (ms_u m4 (by omega) (by omega)) (vs_u v4) cl (fun z K Y hz => by rw [kX6_readsLikes_4 N (d + 6) _ hX hW, nbz hz]) rf
        · rw [u2_na _ _ _ _ _ (by omega)]; exact hO
        · rw [u2_up]; exact TM_up hw (by omega) (by omega) hTM
        · rw [u2_na _ _ _ _ _ (by omega)]; exact hO2
        · refine ZB_up hw ⟨by rw [up1_ne (by omega)]; omega, by rw [up1_ne (by omega)]; omega⟩ ?_ hZ
          intro k hk
          rw [u2_nk _ _ _ _ _ (by omega)]
        · exact NM_congrT (fun k hk => up1_ne (by omega)) hNM
end
