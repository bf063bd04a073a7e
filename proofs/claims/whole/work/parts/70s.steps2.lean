/-! the single steps of the dials: sales, gifts, colds, draws -/
theorem st_same {N d d2 : Nat} {X X2 : lt_X} {I M : Nat → Nat → Int32} {J J2 : Nat → Nat → Int64} {t : Nat} {T T2 : Nat → Nat} {r dn ms hs gl dd p w : Nat} (ht : isT t) (hC : CLV t I T2 r dn ms hs dd) (hR : RLV M T2 r dn ms hs gl dd) (hS : LFS T T2 r dn ms hs gl dd) (h48 : hs + 48 ≤ 48 * dn) (hp : p < 60) (hw9 : w + 9 ≤ 429) (hN : 20000 ≤ N) {b : Nat} (hb : b ≤ 1) (h1 : am_G am_prog (N + 30) (d + 5) 39 [.ref 132, .ref t, .int (nI p)] (mkh X I J) = some (.int (nI b), mkh X I J)) (h2 : am_G am_prog (N + 30) (d2 + 7) 345 [.ref 135, .int (nI w)] (mkh X2 M J2) = some (.int (nI b), mkh X2 M J2)) : STP T (am_G am_prog (N + 30) (d + 5) 39 [.ref 132, .ref t, .int (nI p)] (mkh X I J)) (am_G am_prog (N + 30) (d2 + 7) 345 [.ref 135, .int (nI w)] (mkh X2 M J2)) X X2 t I M J J2 dn ms :=
  ⟨b, T2, r, hs, gl, dd, I, M, hb, hS, h1, FCL_0 _ _, hC, h2, FRL_0 _, hR⟩
theorem st_up {N d d2 : Nat} {X X2 : lt_X} {I M : Nat → Nat → Int32} {J J2 : Nat → Nat → Int64} {t : Nat} {T T2 : Nat → Nat} {r dn ms hs gl dd p w : Nat} (ht : isT t) (hC : CLV t I T2 r dn ms hs dd) (hR : RLV M T2 r dn ms hs gl dd) (hS : LFS T T2 r dn ms hs gl dd) (h48 : hs + 48 ≤ 48 * dn) (hp : p < 60) (hw9 : w + 9 ≤ 429) (hN : 20000 ≤ N) {U : Nat → Nat} {K L : Nat → Nat → Int32} (hU : WF U) (gU : GB U) (big : ∀ j, j < 4 ∨ 157 ≤ j → U j = T2 j) (e43 : ∀ q, q < T2 2 → U (43 + q) = T2 (43 + q)) (e25 : ∀ v, v < T2 1 → U (25 + v) = T2 (25 + v)) (fK : FC t I K) (tK : TC K t U) (fL : FM M L) (tL : TM (L 140) U) (y1 : am_G am_prog (N + 30) (d + 5) 39 [.ref 132, .ref t, .int (nI p)] (mkh X I J) = some (.int (nI 1), mkh X K J)) (y2 : am_G am_prog (N + 30) (d2 + 7) 345 [.ref 135, .int (nI w)] (mkh X2 M J2) = some (.int (nI 1), mkh X2 L J2)) : STP T (am_G am_prog (N + 30) (d + 5) 39 [.ref 132, .ref t, .int (nI p)] (mkh X I J)) (am_G am_prog (N + 30) (d2 + 7) 345 [.ref 135, .int (nI w)] (mkh X2 M J2)) X X2 t I M J J2 dn ms := by
  obtain ⟨hw, hg, hag, hr, hdn, hms, hhs, hgl, hdd⟩ := id hS
  obtain ⟨cT, c1, c2, c3, c4, c5⟩ := id hC
  obtain ⟨rT, r1, r2, r3, r4, r5, r6⟩ := id hR
  obtain ⟨h0, h1, h2, h3, h4, h5, h6⟩ := hw.1
  have htt := ht
  unfold isT at htt
  refine ⟨1, U, r, hs, gl, dd, K, L, by omega, ⟨hU, gU, fun j hj => by rw [big j hj, hag j hj], hr, hdn, hms, hhs, by rw [smT_cg (big 2 (by omega)) e43]; exact hgl, by rw [alc_cg (big 1 (by omega)) e25]; exact hdd⟩, y1, ⟨fun a z1 _ => fK a z1, FC_at ht fK 6⟩, ⟨tK, by rw [FC_at ht fK]; exact c1, by rw [FC_at ht fK]; exact c2, by rw [FC_at ht fK]; exact c3, by rw [FC_at ht fK]; exact c4, by rw [FC_at ht fK]; exact c5⟩, y2, ⟨fun a z1 _ => fL.1 a z1, fL.2, fun k _ => by rw [fL.1 135 (by omega)]⟩, ⟨tL, by rw [fL.1 135 (by omega)]; exact r1, by rw [fL.1 135 (by omega)]; exact r2, by rw [fL.1 135 (by omega)]; exact r3, by rw [fL.1 135 (by omega)]; exact r4, by rw [fL.1 135 (by omega)]; exact r5, by rw [fL.1 135 (by omega)]; exact r6⟩⟩
theorem st_sell {N d d2 : Nat} {X X2 : lt_X} {I M : Nat → Nat → Int32} {J J2 : Nat → Nat → Int64} {t : Nat} {T T2 : Nat → Nat} {r dn ms hs gl dd p w : Nat} (ht : isT t) (hC : CLV t I T2 r dn ms hs dd) (hR : RLV M T2 r dn ms hs gl dd) (hS : LFS T T2 r dn ms hs gl dd) (h48 : hs + 48 ≤ 48 * dn) (hp : p < 60) (hw9 : w + 9 ≤ 429) (hN : 20000 ≤ N) {k q c : Nat} (a1 : I (t + 15) p = nI 115) (a2 : I (t + 16) p = nI k) (a3 : I (t + 17) p = nI q) (a4 : I (t + 18) p = nI c) (b1 : M 140 w = nI 2) (b2 : M 140 (w + 1) = nI k) (b3 : M 140 (w + 2) = nI q) (b4 : M 140 (w + 3) = nI c) (hk : k < T2 3) (hq : q < T2 2) (hc9 : c ≤ 999) : STP T (am_G am_prog (N + 30) (d + 5) 39 [.ref 132, .ref t, .int (nI p)] (mkh X I J)) (am_G am_prog (N + 30) (d2 + 7) 345 [.ref 135, .int (nI w)] (mkh X2 M J2)) X X2 t I M J J2 dn ms := by
  obtain ⟨hw, hg, hag, hr, hdn, hms, hhs, hgl, hdd⟩ := id hS
  obtain ⟨cT, c1, c2, c3, c4, c5⟩ := id hC
  obtain ⟨rT, r1, r2, r3, r4, r5, r6⟩ := id hR
  obtain ⟨h0, h1, h2, h3, h4, h5, h6⟩ := hw.1
  have htt := ht
  unfold isT at htt
  obtain ⟨x1, x2⟩ := c5_makesSale (N := N) (d := d + 3) (X := X) (J := J) ht cT hw hk hq hc9
  obtain ⟨y1, y2⟩ := c9_sells (N := N) (d := d2 + 5) (X := X2) (J := J2) rT hw hk hq hc9
  by_cases z : canS T2 k q c
  · obtain ⟨K, e1, f1, g1⟩ := x1 z
    obtain ⟨L, e2, f2, g2⟩ := y1 z
    have hb := (hw.2.2.2.2.2 k hk).2.2
    refine st_up ht hC hR hS h48 hp hw9 hN (WF_sold hw hk hq z) (GB_sold hw hg hk hq z) (soldT_big hw hk hq z) (fun v hv => ?_) (fun v hv => ?_) f1 g1 f2 g2 ?_ ?_
    · obtain ⟨z1, z2, z3, z4⟩ := z
      unfold soldT
      rw [up1_ne (by omega), up1_ne (by omega), up1_ne (by omega)]
    · obtain ⟨z1, z2, z3, z4⟩ := z
      unfold soldT
      rw [up1_ne (by omega), up1_ne (by omega), up1_ne (by omega)]
    · rw [gX3_does N (d + 4) ht, sX3_does_0 N (d + 4) _ ht, nc_in (by omega) (by omega), nc_in (by omega) (by omega), nc_in (by omega) (by omega), nc_in (by omega) (by omega), nI_clamp (by omega), a1, nc_ne (by omega) (by omega) (by omega), nc_ne (by omega) (by omega) (by omega), nc_eq rfl, a2, a3, a4, e1, cI_some, kX3_does_2 N (d + 4), nb_ok (by omega)]
    · rw [gX9_does N (d2 + 6), sX9_does_0 N (d2 + 6), nc_in (by omega) (by omega), nI_clamp (by omega), b1, nc_ne (by omega) (by omega) (by omega), nc_ne (by omega) (by omega) (by omega), nc_eq rfl, nI_add, nI_add, nI_add, nc_in (by omega) (by omega), nc_in (by omega) (by omega), nc_in (by omega) (by omega), nI_clamp (by omega), nI_clamp (by omega), nI_clamp (by omega), b2, b3, b4, e2, cI_some, kX9_does_2 N (d2 + 6), nb_ok (by omega)]
  · refine st_same ht hC hR hS h48 hp hw9 hN (b := 0) (by omega) ?_ ?_
    · rw [gX3_does N (d + 4) ht, sX3_does_0 N (d + 4) _ ht, nc_in (by omega) (by omega), nc_in (by omega) (by omega), nc_in (by omega) (by omega), nc_in (by omega) (by omega), nI_clamp (by omega), a1, nc_ne (by omega) (by omega) (by omega), nc_ne (by omega) (by omega) (by omega), nc_eq rfl, a2, a3, a4, x2 z, cI_some, kX3_does_2 N (d + 4), nb_ok (by omega)]
    · rw [gX9_does N (d2 + 6), sX9_does_0 N (d2 + 6), nc_in (by omega) (by omega), nI_clamp (by omega), b1, nc_ne (by omega) (by omega) (by omega), nc_ne (by omega) (by omega) (by omega), nc_eq rfl, nI_add, nI_add, nI_add, nc_in (by omega) (by omega), nc_in (by omega) (by omega), nc_in (by omega) (by omega), nI_clamp (by omega), nI_clamp (by omega), nI_clamp (by omega), b2, b3, b4, y2 z, cI_some, kX9_does_2 N (d2 + 6), nb_ok (by omega)]
theorem st_give {N d d2 : Nat} {X X2 : lt_X} {I M : Nat → Nat → Int32} {J J2 : Nat → Nat → Int64} {t : Nat} {T T2 : Nat → Nat} {r dn ms hs gl dd p w : Nat} (ht : isT t) (hC : CLV t I T2 r dn ms hs dd) (hR : RLV M T2 r dn ms hs gl dd) (hS : LFS T T2 r dn ms hs gl dd) (h48 : hs + 48 ≤ 48 * dn) (hp : p < 60) (hw9 : w + 9 ≤ 429) (hN : 20000 ≤ N) {k q : Nat} (a1 : I (t + 15) p = nI 116) (a2 : I (t + 16) p = nI k) (a3 : I (t + 17) p = nI q) (b1 : M 140 w = nI 3) (b2 : M 140 (w + 1) = nI k) (b3 : M 140 (w + 2) = nI q) (hk : k < T2 3) (hq : q < T2 2) : STP T (am_G am_prog (N + 30) (d + 5) 39 [.ref 132, .ref t, .int (nI p)] (mkh X I J)) (am_G am_prog (N + 30) (d2 + 7) 345 [.ref 135, .int (nI w)] (mkh X2 M J2)) X X2 t I M J J2 dn ms := by
  obtain ⟨hw, hg, hag, hr, hdn, hms, hhs, hgl, hdd⟩ := id hS
  obtain ⟨cT, c1, c2, c3, c4, c5⟩ := id hC
  obtain ⟨rT, r1, r2, r3, r4, r5, r6⟩ := id hR
  obtain ⟨h0, h1, h2, h3, h4, h5, h6⟩ := hw.1
  have htt := ht
  unfold isT at htt
  have hb := (hw.2.2.2.2.2 k hk).2.2
  have e1 := c5_makesGift (N := N) (d := d + 3) (X := X) (J := J) ht cT hw hk hq
  have e2 := c9_becomes (N := N) (d := d2 + 5) (X := X2) (J := J2) (I := M) (k := 67 + k) (x := T2 (67 + k)) (y := q) (by omega) (by omega) (by omega) (tmB rT k hk)
  by_cases z : T2 (67 + k) = q
  · rw [if_pos z] at e1 e2
    refine st_same ht hC hR hS h48 hp hw9 hN (b := 0) (by omega) ?_ ?_
    · rw [gX3_does N (d + 4) ht, sX3_does_0 N (d + 4) _ ht, nc_in (by omega) (by omega), nc_in (by omega) (by omega), nc_in (by omega) (by omega), nc_in (by omega) (by omega), nI_clamp (by omega), a1, nc_ne (by omega) (by omega) (by omega), nc_ne (by omega) (by omega) (by omega), nc_ne (by omega) (by omega) (by omega), nc_eq rfl, a2, a3, e1, cI_some, kX3_does_3 N (d + 4), nb_ok (by omega)]
    · rw [gX9_does N (d2 + 6), sX9_does_0 N (d2 + 6), nc_in (by omega) (by omega), nI_clamp (by omega), b1, nc_ne (by omega) (by omega) (by omega), nc_ne (by omega) (by omega) (by omega), nc_ne (by omega) (by omega) (by omega), nc_eq rfl, nI_add, nI_add, nc_in (by omega) (by omega), nc_in (by omega) (by omega), nI_clamp (by omega), nI_clamp (by omega), b2, b3, nI_add, e2, cI_some, kX9_does_3 N (d2 + 6), nb_ok (by omega)]
  · rw [if_neg z] at e1 e2
    refine st_up ht hC hR hS h48 hp hw9 hN (WF_owner hw hk (Or.inl hq)) (GB_up (by omega) (by omega) (by omega) h2 hg) (up1_big (by omega) (by omega)) (fun v hv => up1_ne (by omega)) (fun v hv => up1_ne (by omega)) (FC_u (by omega) (by omega) (FC_0 _ _)) (TC_owner hw hk cT) (FM_u (by omega) (FM_0 _)) (TM_up hw (by omega) (by omega) rT) ?_ ?_
    · rw [gX3_does N (d + 4) ht, sX3_does_0 N (d + 4) _ ht, nc_in (by omega) (by omega), nc_in (by omega) (by omega), nc_in (by omega) (by omega), nc_in (by omega) (by omega), nI_clamp (by omega), a1, nc_ne (by omega) (by omega) (by omega), nc_ne (by omega) (by omega) (by omega), nc_ne (by omega) (by omega) (by omega), nc_eq rfl, a2, a3, e1, cI_some, kX3_does_3 N (d + 4), nb_ok (by omega)]
    · rw [gX9_does N (d2 + 6), sX9_does_0 N (d2 + 6), nc_in (by omega) (by omega), nI_clamp (by omega), b1, nc_ne (by omega) (by omega) (by omega), nc_ne (by omega) (by omega) (by omega), nc_ne (by omega) (by omega) (by omega), nc_eq rfl, nI_add, nI_add, nc_in (by omega) (by omega), nc_in (by omega) (by omega), nI_clamp (by omega), nI_clamp (by omega), b2, b3, nI_add, e2, cI_some, kX9_does_3 N (d2 + 6), nb_ok (by omega)]
theorem st_cold {N d d2 : Nat} {X X2 : lt_X} {I M : Nat → Nat → Int32} {J J2 : Nat → Nat → Int64} {t : Nat} {T T2 : Nat → Nat} {r dn ms hs gl dd p w : Nat} (ht : isT t) (hC : CLV t I T2 r dn ms hs dd) (hR : RLV M T2 r dn ms hs gl dd) (hS : LFS T T2 r dn ms hs gl dd) (h48 : hs + 48 ≤ 48 * dn) (hp : p < 60) (hw9 : w + 9 ≤ 429) (hN : 20000 ≤ N) {v : Nat} (a1 : I (t + 15) p = nI 117) (a2 : I (t + 16) p = nI v) (b1 : M 140 w = nI 4) (b2 : M 140 (w + 1) = nI v) (hv : v < T2 1) : STP T (am_G am_prog (N + 30) (d + 5) 39 [.ref 132, .ref t, .int (nI p)] (mkh X I J)) (am_G am_prog (N + 30) (d2 + 7) 345 [.ref 135, .int (nI w)] (mkh X2 M J2)) X X2 t I M J J2 dn ms := by
  obtain ⟨hw, hg, hag, hr, hdn, hms, hhs, hgl, hdd⟩ := id hS
  obtain ⟨cT, c1, c2, c3, c4, c5⟩ := id hC
  obtain ⟨rT, r1, r2, r3, r4, r5, r6⟩ := id hR
  obtain ⟨h0, h1, h2, h3, h4, h5, h6⟩ := hw.1
  have htt := ht
  unfold isT at htt
  have hvv := hw.2.1 v hv
  have e1 := c5_catchesCold (N := N) (d := d + 2) (X := X) (J := J) ht cT hw hv
  have e2 := c9_chills (N := N) (d := d2 + 4) (X := X2) (J := J2) rT hw hv 1 (by omega)
  by_cases z : T2 (25 + v) = 1 ∧ T2 (31 + v) = 0
  · rw [if_pos z] at e1
    rw [if_pos ⟨fun _ => z.1, by omega⟩] at e2
    refine st_up ht hC hR hS h48 hp hw9 hN (WF_cold hw hv (x := 1) (by omega)) (GB_up (by omega) (by omega) (by omega) h2 hg) (up1_big (by omega) (by omega)) (fun v hv => up1_ne (by omega)) (fun v hv => up1_ne (by omega)) (FC_u (by omega) (by omega) (FC_0 _ _)) (TC_colds hw hv rfl cT) (FM_u (by omega) (FM_0 _)) (TM_up hw (by omega) (by omega) rT) ?_ ?_
    · rw [gX3_does N (d + 4) ht, sX3_does_0 N (d + 4) _ ht, nc_in (by omega) (by omega), nc_in (by omega) (by omega), nc_in (by omega) (by omega), nc_in (by omega) (by omega), nI_clamp (by omega), a1, nc_ne (by omega) (by omega) (by omega), nc_ne (by omega) (by omega) (by omega), nc_ne (by omega) (by omega) (by omega), nc_ne (by omega) (by omega) (by omega), nc_eq rfl, a2, e1, cI_some, kX3_does_4 N (d + 4), nb_ok (by omega)]
    · rw [gX9_does N (d2 + 6), sX9_does_0 N (d2 + 6), nc_in (by omega) (by omega), nI_clamp (by omega), b1, nc_ne (by omega) (by omega) (by omega), nc_ne (by omega) (by omega) (by omega), nc_ne (by omega) (by omega) (by omega), nc_ne (by omega) (by omega) (by omega), nc_ne (by omega) (by omega) (by omega), nI_add, nc_in (by omega) (by omega), nc_eq rfl, nI_clamp (by omega), b2, e2, cI_some, kX9_does_5 N (d2 + 6), nb_ok (by omega)]
  · rw [if_neg z] at e1
    rw [if_neg (fun h => z ⟨h.1 rfl, by omega⟩)] at e2
    refine st_same ht hC hR hS h48 hp hw9 hN (b := 0) (by omega) ?_ ?_
    · rw [gX3_does N (d + 4) ht, sX3_does_0 N (d + 4) _ ht, nc_in (by omega) (by omega), nc_in (by omega) (by omega), nc_in (by omega) (by omega), nc_in (by omega) (by omega), nI_clamp (by omega), a1, nc_ne (by omega) (by omega) (by omega), nc_ne (by omega) (by omega) (by omega), nc_ne (by omega) (by omega) (by omega), nc_ne (by omega) (by omega) (by omega), nc_eq rfl, a2, e1, cI_some, kX3_does_4 N (d + 4), nb_ok (by omega)]
    · rw [gX9_does N (d2 + 6), sX9_does_0 N (d2 + 6), nc_in (by omega) (by omega), nI_clamp (by omega), b1, nc_ne (by omega) (by omega) (by omega), nc_ne (by omega) (by omega) (by omega), nc_ne (by omega) (by omega) (by omega), nc_ne (by omega) (by omega) (by omega), nc_ne (by omega) (by omega) (by omega), nI_add, nc_in (by omega) (by omega), nc_eq rfl, nI_clamp (by omega), b2, e2, cI_some, kX9_does_5 N (d2 + 6), nb_ok (by omega)]
theorem st_well {N d d2 : Nat} {X X2 : lt_X} {I M : Nat → Nat → Int32} {J J2 : Nat → Nat → Int64} {t : Nat} {T T2 : Nat → Nat} {r dn ms hs gl dd p w : Nat} (ht : isT t) (hC : CLV t I T2 r dn ms hs dd) (hR : RLV M T2 r dn ms hs gl dd) (hS : LFS T T2 r dn ms hs gl dd) (h48 : hs + 48 ≤ 48 * dn) (hp : p < 60) (hw9 : w + 9 ≤ 429) (hN : 20000 ≤ N) {v : Nat} (a1 : I (t + 15) p = nI 118) (a2 : I (t + 16) p = nI v) (b1 : M 140 w = nI 5) (b2 : M 140 (w + 1) = nI v) (hv : v < T2 1) : STP T (am_G am_prog (N + 30) (d + 5) 39 [.ref 132, .ref t, .int (nI p)] (mkh X I J)) (am_G am_prog (N + 30) (d2 + 7) 345 [.ref 135, .int (nI w)] (mkh X2 M J2)) X X2 t I M J J2 dn ms := by
  obtain ⟨hw, hg, hag, hr, hdn, hms, hhs, hgl, hdd⟩ := id hS
  obtain ⟨cT, c1, c2, c3, c4, c5⟩ := id hC
  obtain ⟨rT, r1, r2, r3, r4, r5, r6⟩ := id hR
  obtain ⟨h0, h1, h2, h3, h4, h5, h6⟩ := hw.1
  have htt := ht
  unfold isT at htt
  have hvv := hw.2.1 v hv
  have e1 := c5_getsWell (N := N) (d := d + 2) (X := X) (J := J) ht cT hw hv
  have e2 := c9_chills (N := N) (d := d2 + 4) (X := X2) (J := J2) rT hw hv 0 (by omega)
  by_cases z : T2 (31 + v) = 1
  · rw [if_pos z] at e1
    rw [if_pos ⟨fun h => absurd h (by omega), by omega⟩] at e2
    refine st_up ht hC hR hS h48 hp hw9 hN (WF_cold hw hv (x := 0) (by omega)) (GB_up (by omega) (by omega) (by omega) h2 hg) (up1_big (by omega) (by omega)) (fun v hv => up1_ne (by omega)) (fun v hv => up1_ne (by omega)) (FC_u (by omega) (by omega) (FC_0 _ _)) (TC_colds hw hv rfl cT) (FM_u (by omega) (FM_0 _)) (TM_up hw (by omega) (by omega) rT) ?_ ?_
    · rw [gX3_does N (d + 4) ht, sX3_does_0 N (d + 4) _ ht, nc_in (by omega) (by omega), nc_in (by omega) (by omega), nc_in (by omega) (by omega), nc_in (by omega) (by omega), nI_clamp (by omega), a1, nc_ne (by omega) (by omega) (by omega), nc_ne (by omega) (by omega) (by omega), nc_ne (by omega) (by omega) (by omega), nc_ne (by omega) (by omega) (by omega), nc_ne (by omega) (by omega) (by omega), nc_eq rfl, a2, e1, cI_some, kX3_does_5 N (d + 4), nb_ok (by omega)]
    · rw [gX9_does N (d2 + 6), sX9_does_0 N (d2 + 6), nc_in (by omega) (by omega), nI_clamp (by omega), b1, nc_ne (by omega) (by omega) (by omega), nc_ne (by omega) (by omega) (by omega), nc_ne (by omega) (by omega) (by omega), nc_ne (by omega) (by omega) (by omega), nc_ne (by omega) (by omega) (by omega), nI_add, nc_in (by omega) (by omega), nc_ne (by omega) (by omega) (by omega), nI_clamp (by omega), b2, e2, cI_some, kX9_does_5 N (d2 + 6), nb_ok (by omega)]
  · rw [if_neg z] at e1
    rw [if_neg (fun h => h.2 (by omega))] at e2
    refine st_same ht hC hR hS h48 hp hw9 hN (b := 0) (by omega) ?_ ?_
    · rw [gX3_does N (d + 4) ht, sX3_does_0 N (d + 4) _ ht, nc_in (by omega) (by omega), nc_in (by omega) (by omega), nc_in (by omega) (by omega), nc_in (by omega) (by omega), nI_clamp (by omega), a1, nc_ne (by omega) (by omega) (by omega), nc_ne (by omega) (by omega) (by omega), nc_ne (by omega) (by omega) (by omega), nc_ne (by omega) (by omega) (by omega), nc_ne (by omega) (by omega) (by omega), nc_eq rfl, a2, e1, cI_some, kX3_does_5 N (d + 4), nb_ok (by omega)]
    · rw [gX9_does N (d2 + 6), sX9_does_0 N (d2 + 6), nc_in (by omega) (by omega), nI_clamp (by omega), b1, nc_ne (by omega) (by omega) (by omega), nc_ne (by omega) (by omega) (by omega), nc_ne (by omega) (by omega) (by omega), nc_ne (by omega) (by omega) (by omega), nc_ne (by omega) (by omega) (by omega), nI_add, nc_in (by omega) (by omega), nc_ne (by omega) (by omega) (by omega), nI_clamp (by omega), b2, e2, cI_some, kX9_does_5 N (d2 + 6), nb_ok (by omega)]
/-! draws -/
def drw (r : Nat) : Nat := (r * 2971 + 10847) % 65536
theorem drw_lt (r : Nat) : drw r < 65536 := Nat.mod_lt _ (by omega)
theorem c3_draw {N d : Nat} {X : lt_X} {I : Nat → Nat → Int32} {J : Nat → Nat → Int64} {r n : Nat} (hr : r < 65536) (hn : 0 < n) (hn2 : n < 100) (h1 : I 132 1 = nI r) : am_G am_prog (N + 30) (d + 1) 43 [.ref 132, .int (nI n)] (mkh X I J) = some (.int (nI (drw r / 8 % n)), mkh X (u2 I 132 1 (nI (drw r))) J) := by
  have hd := drw_lt r
  have h8 : drw r / 8 < 2 ^ 31 := Nat.lt_of_le_of_lt (Nat.div_le_self _ _) (by omega)
  have e : nI (r * 2971 + 10847) - nI (r * 2971 + 10847) / nI 65536 * nI 65536 = nI (drw r) := pk_rem (by omega) (by omega) (by omega)
  rw [gX3_draw N d, sX3_draw_0 N d, nc_lt hn (by omega), h1, pk_mul, nI_add, nz_ok hn (by omega), e, pk_div (by omega) (by omega) (by omega), pk_rem h8 hn (by omega)]
theorem c9_draw {N d : Nat} {X : lt_X} {I : Nat → Nat → Int32} {J : Nat → Nat → Int64} {r n : Nat} (hr : r < 65536) (hn : 0 < n) (hn2 : n < 100) (h1 : I 135 35 = nI r) : am_G am_prog (N + 30) (d + 1) 341 [.ref 135, .int (nI n)] (mkh X I J) = some (.int (nI (drw r / 8 % n)), mkh X (u2 I 135 35 (nI (drw r))) J) := by
  have hd := drw_lt r
  have h8 : drw r / 8 < 2 ^ 31 := Nat.lt_of_le_of_lt (Nat.div_le_self _ _) (by omega)
  have e : nI (r * 2971 + 10847) - nI (r * 2971 + 10847) / nI 65536 * nI 65536 = nI (drw r) := pk_rem (by omega) (by omega) (by omega)
  rw [gX9_draw N d, sX9_draw_0 N d, h1, pk_mul, nI_add, nz_ok hn (by omega), e, pk_div (by omega) (by omega) (by omega), pk_rem h8 hn (by omega)]
theorem up1_id {T : Nat → Nat} {k x : Nat} (h : T k = x) : up1 T k x = T := by
  funext j
  by_cases q : j = k
  · rw [q, up1_at, h]
  · rw [up1_ne q]
theorem st_any {N d d2 : Nat} {X X2 : lt_X} {I M : Nat → Nat → Int32} {J J2 : Nat → Nat → Int64} {t : Nat} {T T2 : Nat → Nat} {r dn ms hs gl dd p w : Nat} (ht : isT t) (hC : CLV t I T2 r dn ms hs dd) (hR : RLV M T2 r dn ms hs gl dd) (hS : LFS T T2 r dn ms hs gl dd) (h48 : hs + 48 ≤ 48 * dn) (hp : p < 60) (hw9 : w + 9 ≤ 429) (hN : 20000 ≤ N) (a1 : I (t + 15) p = nI 119) (b1 : M 140 w = nI 6) : STP T (am_G am_prog (N + 30) (d + 5) 39 [.ref 132, .ref t, .int (nI p)] (mkh X I J)) (am_G am_prog (N + 30) (d2 + 7) 345 [.ref 135, .int (nI w)] (mkh X2 M J2)) X X2 t I M J J2 dn ms := by
  obtain ⟨hw, hg, hag, hr, hdn, hms, hhs, hgl, hdd⟩ := id hS
  obtain ⟨cT, c1, c2, c3, c4, c5⟩ := id hC
  obtain ⟨rT, r1, r2, r3, r4, r5, r6⟩ := id hR
  obtain ⟨h0, h1, h2, h3, h4, h5, h6⟩ := hw.1
  have htt := ht
  unfold isT at htt
  by_cases z : T2 1 = 0
  · refine st_same ht hC hR hS h48 hp hw9 hN (b := 0) (by omega) ?_ ?_
    · rw [gX3_does N (d + 4) ht, sX3_does_0 N (d + 4) _ ht, nc_in (by omega) (by omega), nc_in (by omega) (by omega), nc_in (by omega) (by omega), nc_in (by omega) (by omega), nI_clamp (by omega), a1, nc_ne (by omega) (by omega) (by omega), nc_ne (by omega) (by omega) (by omega), nc_ne (by omega) (by omega) (by omega), nc_ne (by omega) (by omega) (by omega), nc_ne (by omega) (by omega) (by omega), nc_ne (by omega) (by omega) (by omega), gX3_doesAny N (d + 2) ht, sX3_doesAny_0 N (d + 2) _ ht, tc1 cT, nc_nlt (by omega) (by omega), cI_some, kX3_does_6 N (d + 4), nb_ok (by omega)]
    · rw [gX9_does N (d2 + 6), sX9_does_0 N (d2 + 6), nc_in (by omega) (by omega), nI_clamp (by omega), b1, nc_ne (by omega) (by omega) (by omega), nc_ne (by omega) (by omega) (by omega), nc_ne (by omega) (by omega) (by omega), nc_ne (by omega) (by omega) (by omega), nc_eq rfl, gX9_isAny N (d2 + 5), sX9_isAny_0 N (d2 + 5), tm1 rT, nc_eq z, cI_some, kX9_does_4 N (d2 + 6), nb_ok (by omega)]
  · -- the voice, whether it gets a cold
    generalize hv0 : drw r / 8 % T2 1 = v
    have hv : v < T2 1 := by rw [← hv0]; exact Nat.mod_lt _ (by omega)
    generalize hc0 : drw (drw r) / 8 % 16 = c
    have hc : c < 16 := by rw [← hc0]; exact Nat.mod_lt _ (by omega)
    have hvv := hw.2.1 v hv
    generalize hx0 : (if c < T2 4 then 1 else 0) = x
    have hx : x ≤ 1 := by rw [← hx0]; split <;> omega
    have cx : ∀ (A B : am_O), (if nI c < nI (T2 4) then A else B) = if x = 1 then A else B := by
      intro A B
      by_cases y : c < T2 4
      · rw [nc_lt y (by omega), if_pos (by rw [← hx0, if_pos y])]
      · rw [nc_nlt (by omega) (by omega), if_neg (by rw [← hx0, if_neg y]; omega)]
    have d1 := drw_lt r
    have dr2 := drw_lt (drw r)
    have i132 : ∀ a, a ≠ 132 → u2 (u2 I 132 1 (nI (drw r))) 132 1 (nI (drw (drw r))) a = I a := fun a ha => by rw [u2_na _ _ _ _ _ ha, u2_na _ _ _ _ _ ha]
    have k132 : ∀ k, k ≠ 1 → u2 (u2 I 132 1 (nI (drw r))) 132 1 (nI (drw (drw r))) 132 k = I 132 k := fun k hk => by rw [u2_nk _ _ _ _ _ hk, u2_nk _ _ _ _ _ hk]
    have v132 : u2 (u2 I 132 1 (nI (drw r))) 132 1 (nI (drw (drw r))) 132 1 = nI (drw (drw r)) := u2_at _ _ _ _
    have e1 := c3_draw (N := N) (d := d + 2) (X := X) (I := I) (J := J) (n := T2 1) hr (by omega) (by omega) c1
    rw [hv0] at e1
    have e2 := c3_draw (N := N) (d := d + 2) (X := X) (I := u2 I 132 1 (nI (drw r))) (J := J) (n := 16) d1 (by omega) (by omega) (u2_at _ _ _ _)
    rw [hc0] at e2
    have i135 : ∀ a, a ≠ 135 → u2 (u2 M 135 35 (nI (drw r))) 135 35 (nI (drw (drw r))) a = M a := fun a ha => by rw [u2_na _ _ _ _ _ ha, u2_na _ _ _ _ _ ha]
    have k135 : ∀ k, k ≠ 35 → u2 (u2 M 135 35 (nI (drw r))) 135 35 (nI (drw (drw r))) 135 k = M 135 k := fun k hk => by rw [u2_nk _ _ _ _ _ hk, u2_nk _ _ _ _ _ hk]
    have v135 : u2 (u2 M 135 35 (nI (drw r))) 135 35 (nI (drw (drw r))) 135 35 = nI (drw (drw r)) := u2_at _ _ _ _
    have e3 := c9_draw (N := N) (d := d2 + 4) (X := X2) (I := M) (J := J2) (n := T2 1) hr (by omega) (by omega) r1
    rw [hv0] at e3
    have e4 := c9_draw (N := N) (d := d2 + 4) (X := X2) (I := u2 M 135 35 (nI (drw r))) (J := J2) (n := 16) d1 (by omega) (by omega) (u2_at _ _ _ _)
    rw [hc0] at e4
    generalize hI2 : u2 (u2 I 132 1 (nI (drw r))) 132 1 (nI (drw (drw r))) = I2 at *
    generalize hM2 : u2 (u2 M 135 35 (nI (drw r))) 135 35 (nI (drw (drw r))) = M2 at *
    have cT2 : TC I2 t T2 := TC_frame (fun a y1 y2 => i132 a (by omega)) cT
    have rT2 : TM (M2 140) T2 := by rw [i135 140 (by omega)]; exact rT
    have t2 : (u2 I 132 1 (nI (drw r))) (t + 2) = I (t + 2) := u2_na _ _ _ _ _ (by omega)
    have hA : am_G am_prog (N + 30) (d + 5) 39 [.ref 132, .ref t, .int (nI p)] (mkh X I J) = am_cI (if x = 1 then RX3_doesAny_37 N (d + 2) (N + 29) X t (nI v) (nI 1) I2 J else RX3_doesAny_37 N (d + 2) (N + 29) X t (nI v) (nI 0) I2 J) (KX3_does_6 N (d + 4) (N + 29)) := by
      rw [gX3_does N (d + 4) ht, sX3_does_0 N (d + 4) _ ht, nc_in (by omega) (by omega), nc_in (by omega) (by omega), nc_in (by omega) (by omega), nc_in (by omega) (by omega), nI_clamp (by omega), a1, nc_ne (by omega) (by omega) (by omega), nc_ne (by omega) (by omega) (by omega), nc_ne (by omega) (by omega) (by omega), nc_ne (by omega) (by omega) (by omega), nc_ne (by omega) (by omega) (by omega), nc_ne (by omega) (by omega) (by omega), gX3_doesAny N (d + 2) ht, sX3_doesAny_0 N (d + 2) _ ht, tc1 cT, nc_lt (by omega) (by omega), e1, cI_some, kX3_doesAny_0 N (d + 2) _ ht, e2, cI_some, kX3_doesAny_2 N (d + 2) _ ht, tcO cT2, cx]
    have hB : am_G am_prog (N + 30) (d2 + 7) 345 [.ref 135, .int (nI w)] (mkh X2 M J2) = am_cI (if x = 1 then RX9_isAny_42 N (d2 + 5) (N + 29) X2 (nI v) (nI 1) M2 J2 else RX9_isAny_42 N (d2 + 5) (N + 29) X2 (nI v) (nI 0) M2 J2) (KX9_does_4 N (d2 + 6) (N + 29)) := by
      rw [gX9_does N (d2 + 6), sX9_does_0 N (d2 + 6), nc_in (by omega) (by omega), nI_clamp (by omega), b1, nc_ne (by omega) (by omega) (by omega), nc_ne (by omega) (by omega) (by omega), nc_ne (by omega) (by omega) (by omega), nc_ne (by omega) (by omega) (by omega), nc_eq rfl, gX9_isAny N (d2 + 5), sX9_isAny_0 N (d2 + 5), tm1 rT, nc_ne z (by omega) (by omega), e3, cI_some, kX9_isAny_0 N (d2 + 5), e4, cI_some, kX9_isAny_1 N (d2 + 5), tm4 rT2, cx]
    have live := c5_isLiving (N := N) (d := d + 2) (X := X) (J := J) ht cT2 hw hv
    have cc := c5_catchesCold (N := N) (d := d + 1) (X := X) (J := J) ht cT2 hw hv
    have cw := c5_getsWell (N := N) (d := d + 1) (X := X) (J := J) ht cT2 hw hv
    by_cases l : T2 (25 + v) = 1
    · rw [if_pos l] at live
      have U := WF_cold hw hv (x := x) hx
      have gU : GB (up1 T2 (31 + v) x) := GB_up (by omega) (by omega) (by omega) h2 hg
      have big : ∀ j, j < 4 ∨ 157 ≤ j → up1 T2 (31 + v) x j = T2 j := up1_big (by omega) (by omega)
      -- the class's cells behind it
      have hK : ∃ K, (if x = 1 then RX3_doesAny_37 N (d + 2) (N + 29) X t (nI v) (nI 1) I2 J else RX3_doesAny_37 N (d + 2) (N + 29) X t (nI v) (nI 0) I2 J) = some (.int (nI 1), mkh X K J) ∧ FC t I2 K ∧ TC K t (up1 T2 (31 + v) x) := by
        by_cases x1 : x = 1
        · subst x1
          rw [if_pos rfl, sX3_doesAny_37 N (d + 2) _ ht, live, cI_some, kX3_doesAny_1 N (d + 2) _ ht, nc_ne (by omega) (by omega) (by omega), nc_ne (by omega) (by omega) (by omega), cc]
          by_cases y : T2 (31 + v) = 0
          · rw [if_pos ⟨l, y⟩, cI_some, kX3_doesAny_4 N (d + 2)]
            exact ⟨_, rfl, FC_u (by omega) (by omega) (FC_0 _ _), TC_colds hw hv rfl cT2⟩
          · rw [if_neg (fun h => y h.2), cI_some, kX3_doesAny_4 N (d + 2)]
            exact ⟨_, rfl, FC_0 _ _, by rw [up1_id (by omega)]; exact cT2⟩
        · have x0 : x = 0 := by omega
          subst x0
          rw [if_neg x1, sX3_doesAny_37 N (d + 2) _ ht, live, cI_some, kX3_doesAny_1 N (d + 2) _ ht, nc_ne (by omega) (by omega) (by omega), nc_eq rfl, cw]
          by_cases y : T2 (31 + v) = 1
          · rw [if_pos y, cI_some, kX3_doesAny_3 N (d + 2)]
            exact ⟨_, rfl, FC_u (by omega) (by omega) (FC_0 _ _), TC_colds hw hv rfl cT2⟩
          · rw [if_neg y, cI_some, kX3_doesAny_3 N (d + 2)]
            exact ⟨_, rfl, FC_0 _ _, by rw [up1_id (by omega)]; exact cT2⟩
      obtain ⟨K, k1, k2, k3⟩ := hK
      have hL : (if x = 1 then RX9_isAny_42 N (d2 + 5) (N + 29) X2 (nI v) (nI 1) M2 J2 else RX9_isAny_42 N (d2 + 5) (N + 29) X2 (nI v) (nI 0) M2 J2) = some (.int (nI 1), mkh X2 (u2 M2 140 (31 + v) (nI x)) J2) := by
        by_cases x1 : x = 1
        · subst x1
          rw [if_pos rfl, sX9_isAny_42 N (d2 + 5) (N + 28), nI_add, nI_add, nc_in (by omega) (by omega), nI_clamp (by omega), tmV rT2 v hv, l, nc_ne (by omega) (by omega) (by omega), nc_ne (by omega) (by omega) (by omega), nc_in (by omega) (by omega), nI_clamp (by omega)]
        · have x0 : x = 0 := by omega
          subst x0
          rw [if_neg x1, sX9_isAny_42 N (d2 + 5) (N + 28), nI_add, nI_add, nc_in (by omega) (by omega), nI_clamp (by omega), tmV rT2 v hv, l, nc_ne (by omega) (by omega) (by omega), nc_eq rfl, nc_in (by omega) (by omega), nI_clamp (by omega)]
      refine ⟨1, up1 T2 (31 + v) x, drw (drw r), hs, gl, dd, K, u2 M2 140 (31 + v) (nI x), by omega, ⟨U, gU, fun j hj => by rw [big j hj, hag j hj], dr2, hdn, hms, hhs, by rw [smT_cg (big 2 (by omega)) (fun q hq => up1_ne (by omega))]; exact hgl, by rw [alc_cg (big 1 (by omega)) (fun q hq => up1_ne (by omega))]; exact hdd⟩, ?_, ⟨fun a y1 y2 => by rw [k2 a y1, i132 a y2], by rw [FC_at ht k2, k132 6 (by omega)]⟩, ⟨k3, by rw [FC_at ht k2]; exact v132, by rw [FC_at ht k2, k132 _ (by omega)]; exact c2, by rw [FC_at ht k2, k132 _ (by omega)]; exact c3, by rw [FC_at ht k2, k132 _ (by omega)]; exact c4, by rw [FC_at ht k2, k132 _ (by omega)]; exact c5⟩, ?_, ⟨fun a y1 y2 => by rw [u2_na _ _ _ _ _ y1, i135 a y2], fun k hk => by rw [u2_nk _ _ _ _ _ (by omega), i135 140 (by omega)], fun k hk => by rw [u2_na _ _ _ _ _ (by omega), k135 k (by omega)]⟩, ⟨TM_up hw (by omega) (by omega) rT2, by rw [u2_na _ _ _ _ _ (by omega)]; exact v135, by rw [u2_na _ _ _ _ _ (by omega), k135 _ (by omega)]; exact r2, by rw [u2_na _ _ _ _ _ (by omega), k135 _ (by omega)]; exact r3, by rw [u2_na _ _ _ _ _ (by omega), k135 _ (by omega)]; exact r4, by rw [u2_na _ _ _ _ _ (by omega), k135 _ (by omega)]; exact r5, by rw [u2_na _ _ _ _ _ (by omega), k135 _ (by omega)]; exact r6⟩⟩
      · rw [hA, k1, cI_some, kX3_does_6 N (d + 4), nb_ok (by omega)]
      · rw [hB, hL, cI_some, kX9_does_4 N (d2 + 6), nb_ok (by omega)]
    · rw [if_neg l] at live
      have l0 : T2 (25 + v) = 0 := by omega
      refine ⟨0, T2, drw (drw r), hs, gl, dd, I2, M2, by omega, ⟨hw, hg, hag, dr2, hdn, hms, hhs, hgl, hdd⟩, ?_, ⟨fun a y1 y2 => i132 a y2, k132 6 (by omega)⟩, ⟨cT2, v132, by rw [k132 _ (by omega)]; exact c2, by rw [k132 _ (by omega)]; exact c3, by rw [k132 _ (by omega)]; exact c4, by rw [k132 _ (by omega)]; exact c5⟩, ?_, ⟨fun a y1 y2 => i135 a y2, fun k hk => by rw [i135 140 (by omega)], fun k hk => k135 k (by omega)⟩, ⟨rT2, v135, by rw [k135 _ (by omega)]; exact r2, by rw [k135 _ (by omega)]; exact r3, by rw [k135 _ (by omega)]; exact r4, by rw [k135 _ (by omega)]; exact r5, by rw [k135 _ (by omega)]; exact r6⟩⟩
      · rw [hA, sX3_doesAny_37 N (d + 2) (N + 28) ht, sX3_doesAny_37 N (d + 2) (N + 28) ht, live, cI_some, cI_some, kX3_doesAny_1 N (d + 2) (N + 28) ht, kX3_doesAny_1 N (d + 2) (N + 28) ht, nc_eq rfl, nc_eq rfl, ite_self, cI_some, kX3_does_6 N (d + 4), nb_ok (by omega)]
      · rw [hB, sX9_isAny_42 N (d2 + 5) (N + 28), sX9_isAny_42 N (d2 + 5) (N + 28), nI_add, nc_in (by omega) (by omega), nc_in (by omega) (by omega), nI_clamp (by omega), tmV rT2 v hv, nc_eq l0, nc_eq l0, ite_self, cI_some, kX9_does_4 N (d2 + 6), nb_ok (by omega)]
