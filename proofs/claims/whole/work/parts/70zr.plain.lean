/-! texts: dials; the plain steps' rests -/
section
variable {N d e : Nat} {X X2 : lt_X} {f : Nat → Int32} {n q r p s b c : Nat} {I M K V Z V0 V1 W : Nat → Nat → Int32} {J L Y P Y0 P0 : Nat → Nat → Int64} {T : Nat → Nat}
theorem u2u2_i {a i x y : Nat} {v w : Int32} (hi : i ≠ p) : u2 (u2 Z x p v) y p w a i = Z a i := by
  have h1 : ∀ (U : Nat → Nat → Int32) (z : Nat) (t : Int32), u2 U z p t a i = U a i := fun U z t => by
    by_cases g : a = z
    · subst g; exact u2_nk _ _ _ _ _ hi
    · rw [u2_na _ _ _ _ _ g]
  rw [h1, h1]
theorem rr_year (hn : n ≤ 900) (hB : ∀ k, k < n → isB (f k)) (hN : 10000 ≤ N) (hX : hsX X) (hD : X.2.2.2.2 = some X.2.1) (hp : p < 60) (hs : s < 30) (hI : Z 120 p = nI 114) (hM : V0 140 (1875 + 9 * s) = nI 1) (m : MS f n q r Z Y0 I J) (v : VS f n r V0 P0 M L) : RR f n q X X2 s p Z Y0 V0 P0 (QS T s p) (am_G am_prog (N + 30) (d + 5) 30 [.ref 118, .int (nI p)] (mkh X I J)) (am_G am_prog (N + 30) (e + 8) 255 [.ref 135, .int (nI (1875 + 9 * s))] (mkh X2 M L)) := by
  obtain ⟨a1, a2⟩ := rest_c (N := N) (d := d) (X := X) (J := J) hn hB hN hX hD (wd := 114) hp (show I 120 p = nI 114 by rw [m.2.2.2.2.1 _ (by omega)]; exact hI)
  obtain ⟨b1, b2⟩ := rest_m (N := N) (e := e) (X2 := X2) (L := L) (kd := 1) hs (show M 140 (1875 + 9 * s) = nI 1 by rw [v.2.2.1.1 140 (by omega)]; exact hM)
  rw [sX2_readsRest_0 N (d + 4) _ hX hD, nc_in (by omega) (by omega), a2, nc_ne (by omega) (by omega) (by omega), nc_eq rfl] at a1
  rw [sX9_readRest_0 N (e + 7), nc_in (by omega) (by omega), b2, nc_ne (by omega) (by omega) (by omega), nc_eq rfl, w_1] at b1
  refine RR_mono (fun Zf Vf num h1 h2 ⟨x, x1, x2, x3, x4⟩ => ?_) (rr_num (d := d) (e := e) (lo := 1) (hi := 20) hn hB hN hX hD (by omega) (by omega) a1 (fun z K Y hz => by rw [kX2_readsRest_1 N (d + 4) _ hX hD, nbz hz]) b1 (fun z V P => by rw [kX9_readRest_1 N (e + 7), nc_in (by omega) (by omega), nI_clamp (by omega)]) m v)
  refine Or.inr (Or.inl ⟨TV_0 (by omega) (by rw [h2 _ (by omega)]; exact hM), by rw [h1 120 (by omega) (by omega)]; exact hI, ?_⟩)
  rw [TV_1 (by omega) x4]
  exact ⟨x3, x1, x2⟩
theorem rr_loop (hn : n ≤ 900) (hB : ∀ k, k < n → isB (f k)) (hN : 10000 ≤ N) (hX : hsX X) (hD : X.2.2.2.2 = some X.2.1) (hp : p < 60) (hs : s < 30) (hI : Z 120 p = nI 124) (hM : V0 140 (1875 + 9 * s) = nI 8) (m : MS f n q r Z Y0 I J) (v : VS f n r V0 P0 M L) : RR f n q X X2 s p Z Y0 V0 P0 (QB T s p) (am_G am_prog (N + 30) (d + 5) 30 [.ref 118, .int (nI p)] (mkh X I J)) (am_G am_prog (N + 30) (e + 8) 255 [.ref 135, .int (nI (1875 + 9 * s))] (mkh X2 M L)) := by
  obtain ⟨a1, a2⟩ := rest_c (N := N) (d := d) (X := X) (J := J) hn hB hN hX hD (wd := 124) hp (show I 120 p = nI 124 by rw [m.2.2.2.2.1 _ (by omega)]; exact hI)
  obtain ⟨b1, b2⟩ := rest_m (N := N) (e := e) (X2 := X2) (L := L) (kd := 8) hs (show M 140 (1875 + 9 * s) = nI 8 by rw [v.2.2.1.1 140 (by omega)]; exact hM)
  rw [sX2_readsRest_0 N (d + 4) _ hX hD, nc_in (by omega) (by omega), a2, nc_ne (by omega) (by omega) (by omega), nc_ne (by omega) (by omega) (by omega), nc_ne (by omega) (by omega) (by omega), nc_ne (by omega) (by omega) (by omega), nc_ne (by omega) (by omega) (by omega), nc_ne (by omega) (by omega) (by omega), nc_ne (by omega) (by omega) (by omega), nc_ne (by omega) (by omega) (by omega), nc_ne (by omega) (by omega) (by omega), nc_ne (by omega) (by omega) (by omega), nc_ne (by omega) (by omega) (by omega), nc_eq rfl] at a1
  rw [sX9_readRest_0 N (e + 7), nc_in (by omega) (by omega), b2, nc_ne (by omega) (by omega) (by omega), nc_ne (by omega) (by omega) (by omega), nc_eq rfl, w_1] at b1
  refine RR_mono (fun Zf Vf num h1 h2 ⟨x, x1, x2, x3, x4⟩ => ?_) (rr_num (d := d) (e := e) (lo := 1) (hi := 99) hn hB hN hX hD (by omega) (by omega) a1 (fun z K Y hz => by rw [kX2_readsRest_7 N (d + 4) _ hX hD, nbz hz]) b1 (fun z V P => by rw [kX9_readRest_2 N (e + 7), nc_in (by omega) (by omega), nI_clamp (by omega)]) m v)
  refine Or.inr (Or.inr (Or.inr ⟨TV_0 (by omega) (by rw [h2 _ (by omega)]; exact hM), by rw [h1 120 (by omega) (by omega)]; exact hI, ?_⟩))
  rw [TV_1 (by omega) x4]
  exact ⟨x3, x1, x2⟩
theorem rr_cold (hn : n ≤ 900) (hB : ∀ k, k < n → isB (f k)) (hN : 10000 ≤ N) (hX : hsX X) (hD : X.2.2.2.2 = some X.2.1) (hp : p < 60) (hs : s < 30) (hI : Z 120 p = nI 117) (hM : V0 140 (1875 + 9 * s) = nI 4) (hZ : NZ T X Z V0 Y0 P0) (m : MS f n q r Z Y0 I J) (v : VS f n r V0 P0 M L) : RR f n q X X2 s p Z Y0 V0 P0 (QS T s p) (am_G am_prog (N + 30) (d + 5) 30 [.ref 118, .int (nI p)] (mkh X I J)) (am_G am_prog (N + 30) (e + 8) 255 [.ref 135, .int (nI (1875 + 9 * s))] (mkh X2 M L)) := by
  obtain ⟨a1, a2⟩ := rest_c (N := N) (d := d) (X := X) (J := J) hn hB hN hX hD (wd := 117) hp (show I 120 p = nI 117 by rw [m.2.2.2.2.1 _ (by omega)]; exact hI)
  obtain ⟨b1, b2⟩ := rest_m (N := N) (e := e) (X2 := X2) (L := L) (kd := 4) hs (show M 140 (1875 + 9 * s) = nI 4 by rw [v.2.2.1.1 140 (by omega)]; exact hM)
  rw [sX2_readsRest_0 N (d + 4) _ hX hD, nc_in (by omega) (by omega), a2, nc_ne (by omega) (by omega) (by omega), nc_ne (by omega) (by omega) (by omega), nc_ne (by omega) (by omega) (by omega), nc_ne (by omega) (by omega) (by omega), nc_eq rfl] at a1
  rw [sX9_readRest_0 N (e + 7), nc_in (by omega) (by omega), b2, nc_ne (by omega) (by omega) (by omega), nc_ne (by omega) (by omega) (by omega), nc_ne (by omega) (by omega) (by omega), nc_ne (by omega) (by omega) (by omega), nc_eq rfl, sX9_readRest_100 N (e + 7), w_1] at b1
  obtain ⟨z1, z2, z3, z4⟩ := hZ
  have g1 := z1 1 (by omega)
  refine RR_mono (fun Zf Vf num h1 h2 ⟨x, x1, x2, x3, _⟩ => ?_) (rr_one (d := d) (e := e + 1) (k := 1) hn hB hN hX hD hp (by omega) g1 (z2 1 (by omega)) (z3 1 (by omega)) (fun i hi => z4 1 i (by omega) hi) a1 (fun z K Y hz => by rw [kX2_readsRest_4 N (d + 4) _ hX hD, nbz hz]) b1 (fun z V P => by rw [kX9_readRest_5 N (e + 7), nc_in (by omega) (by omega), nI_clamp (by omega)]) m v)
  refine Or.inr (Or.inr (Or.inr (Or.inr (Or.inl ⟨TV_0 (by omega) (by rw [h2 _ (by omega)]; exact hM), by rw [h1 120 (by omega) (by omega)]; exact hI, ?_⟩))))
  rw [TV_1 (by omega) x3, TV_4 (by omega)]
  exact ⟨x2, x1⟩
theorem rr_well (hn : n ≤ 900) (hB : ∀ k, k < n → isB (f k)) (hN : 10000 ≤ N) (hX : hsX X) (hD : X.2.2.2.2 = some X.2.1) (hp : p < 60) (hs : s < 30) (hI : Z 120 p = nI 118) (hM : V0 140 (1875 + 9 * s) = nI 5) (hZ : NZ T X Z V0 Y0 P0) (m : MS f n q r Z Y0 I J) (v : VS f n r V0 P0 M L) : RR f n q X X2 s p Z Y0 V0 P0 (QS T s p) (am_G am_prog (N + 30) (d + 5) 30 [.ref 118, .int (nI p)] (mkh X I J)) (am_G am_prog (N + 30) (e + 8) 255 [.ref 135, .int (nI (1875 + 9 * s))] (mkh X2 M L)) := by
  obtain ⟨a1, a2⟩ := rest_c (N := N) (d := d) (X := X) (J := J) hn hB hN hX hD (wd := 118) hp (show I 120 p = nI 118 by rw [m.2.2.2.2.1 _ (by omega)]; exact hI)
  obtain ⟨b1, b2⟩ := rest_m (N := N) (e := e) (X2 := X2) (L := L) (kd := 5) hs (show M 140 (1875 + 9 * s) = nI 5 by rw [v.2.2.1.1 140 (by omega)]; exact hM)
  rw [sX2_readsRest_0 N (d + 4) _ hX hD, nc_in (by omega) (by omega), a2, nc_ne (by omega) (by omega) (by omega), nc_ne (by omega) (by omega) (by omega), nc_ne (by omega) (by omega) (by omega), nc_ne (by omega) (by omega) (by omega), nc_ne (by omega) (by omega) (by omega), nc_eq rfl] at a1
  rw [sX9_readRest_0 N (e + 7), nc_in (by omega) (by omega), b2, nc_ne (by omega) (by omega) (by omega), nc_ne (by omega) (by omega) (by omega), nc_ne (by omega) (by omega) (by omega), nc_ne (by omega) (by omega) (by omega), nc_ne (by omega) (by omega) (by omega), nc_eq rfl, sX9_readRest_100 N (e + 7), w_1] at b1
  obtain ⟨z1, z2, z3, z4⟩ := hZ
  have g1 := z1 1 (by omega)
  refine RR_mono (fun Zf Vf num h1 h2 ⟨x, x1, x2, x3, _⟩ => ?_) (rr_one (d := d) (e := e + 1) (k := 1) hn hB hN hX hD hp (by omega) g1 (z2 1 (by omega)) (z3 1 (by omega)) (fun i hi => z4 1 i (by omega) hi) a1 (fun z K Y hz => by rw [kX2_readsRest_4 N (d + 4) _ hX hD, nbz hz]) b1 (fun z V P => by rw [kX9_readRest_5 N (e + 7), nc_in (by omega) (by omega), nI_clamp (by omega)]) m v)
  refine Or.inr (Or.inr (Or.inr (Or.inr (Or.inr (Or.inl ⟨TV_0 (by omega) (by rw [h2 _ (by omega)]; exact hM), by rw [h1 120 (by omega) (by omega)]; exact hI, ?_⟩)))))
  rw [TV_1 (by omega) x3, TV_4 (by omega)]
  exact ⟨x2, x1⟩
theorem rr_any (hn : n ≤ 900) (hB : ∀ k, k < n → isB (f k)) (hN : 10000 ≤ N) (hX : hsX X) (hD : X.2.2.2.2 = some X.2.1) (hp : p < 60) (hs : s < 30) (hI : Z 120 p = nI 119) (hM : V0 140 (1875 + 9 * s) = nI 6) (m : MS f n q r Z Y0 I J) (v : VS f n r V0 P0 M L) : RR f n q X X2 s p Z Y0 V0 P0 (QS T s p) (am_G am_prog (N + 30) (d + 5) 30 [.ref 118, .int (nI p)] (mkh X I J)) (am_G am_prog (N + 30) (e + 8) 255 [.ref 135, .int (nI (1875 + 9 * s))] (mkh X2 M L)) := by
  obtain ⟨a1, a2⟩ := rest_c (N := N) (d := d) (X := X) (J := J) hn hB hN hX hD (wd := 119) hp (show I 120 p = nI 119 by rw [m.2.2.2.2.1 _ (by omega)]; exact hI)
  obtain ⟨b1, b2⟩ := rest_m (N := N) (e := e) (X2 := X2) (L := L) (kd := 6) hs (show M 140 (1875 + 9 * s) = nI 6 by rw [v.2.2.1.1 140 (by omega)]; exact hM)
  rw [sX2_readsRest_0 N (d + 4) _ hX hD, nc_in (by omega) (by omega), a2, nc_ne (by omega) (by omega) (by omega), nc_ne (by omega) (by omega) (by omega), nc_ne (by omega) (by omega) (by omega), nc_ne (by omega) (by omega) (by omega), nc_ne (by omega) (by omega) (by omega), nc_ne (by omega) (by omega) (by omega), nc_eq rfl] at a1
  rw [sX9_readRest_0 N (e + 7), nc_in (by omega) (by omega), b2, nc_ne (by omega) (by omega) (by omega), nc_ne (by omega) (by omega) (by omega), nc_ne (by omega) (by omega) (by omega), nc_ne (by omega) (by omega) (by omega), nc_ne (by omega) (by omega) (by omega), nc_ne (by omega) (by omega) (by omega), nc_nlt (by omega) (by omega)] at b1
  refine Or.inr ⟨_, _, _, _, _, _, _, a1, b1, m, v, fun _ _ _ => rfl, fun _ _ _ => rfl, fun _ _ => rfl, fun _ _ => rfl, ?_⟩
  exact Or.inr (Or.inr (Or.inr (Or.inr (Or.inr (Or.inr (Or.inl ⟨TV_0 (by omega) hM, hI⟩))))))
theorem rr_stop (hn : n ≤ 900) (hB : ∀ k, k < n → isB (f k)) (hN : 10000 ≤ N) (hX : hsX X) (hD : X.2.2.2.2 = some X.2.1) (hp : p < 60) (hs : s < 30) (hI : Z 120 p = nI 126) (hM : V0 140 (1875 + 9 * s) = nI 9) (m : MS f n q r Z Y0 I J) (v : VS f n r V0 P0 M L) : RR f n q X X2 s p Z Y0 V0 P0 (QS T s p) (am_G am_prog (N + 30) (d + 5) 30 [.ref 118, .int (nI p)] (mkh X I J)) (am_G am_prog (N + 30) (e + 8) 255 [.ref 135, .int (nI (1875 + 9 * s))] (mkh X2 M L)) := by
  obtain ⟨a1, a2⟩ := rest_c (N := N) (d := d) (X := X) (J := J) hn hB hN hX hD (wd := 126) hp (show I 120 p = nI 126 by rw [m.2.2.2.2.1 _ (by omega)]; exact hI)
  obtain ⟨b1, b2⟩ := rest_m (N := N) (e := e) (X2 := X2) (L := L) (kd := 9) hs (show M 140 (1875 + 9 * s) = nI 9 by rw [v.2.2.1.1 140 (by omega)]; exact hM)
  rw [sX2_readsRest_0 N (d + 4) _ hX hD, nc_in (by omega) (by omega), a2, nc_ne (by omega) (by omega) (by omega), nc_ne (by omega) (by omega) (by omega), nc_ne (by omega) (by omega) (by omega), nc_ne (by omega) (by omega) (by omega), nc_ne (by omega) (by omega) (by omega), nc_ne (by omega) (by omega) (by omega), nc_ne (by omega) (by omega) (by omega), nc_ne (by omega) (by omega) (by omega), nc_ne (by omega) (by omega) (by omega), nc_ne (by omega) (by omega) (by omega), nc_ne (by omega) (by omega) (by omega), nc_ne (by omega) (by omega) (by omega)] at a1
  rw [sX9_readRest_0 N (e + 7), nc_in (by omega) (by omega), b2, nc_ne (by omega) (by omega) (by omega), nc_ne (by omega) (by omega) (by omega), nc_ne (by omega) (by omega) (by omega), nc_ne (by omega) (by omega) (by omega), nc_ne (by omega) (by omega) (by omega), nc_ne (by omega) (by omega) (by omega), nc_nlt (by omega) (by omega)] at b1
  refine Or.inr ⟨_, _, _, _, _, _, _, a1, b1, m, v, fun _ _ _ => rfl, fun _ _ _ => rfl, fun _ _ => rfl, fun _ _ => rfl, ?_⟩
  exact Or.inr (Or.inr (Or.inr (Or.inr (Or.inr (Or.inr (Or.inr ⟨TV_0 (by omega) hM, hI⟩))))))
theorem rr_sell (hn : n ≤ 900) (hB : ∀ k, k < n → isB (f k)) (hN : 10000 ≤ N) (hX : hsX X) (hD : X.2.2.2.2 = some X.2.1) (hp : p < 60) (hs : s < 30) (hI : Z 120 p = nI 115) (hM : V0 140 (1875 + 9 * s) = nI 2) (hZ : NZ T X Z V0 Y0 P0) (m : MS f n q r Z Y0 I J) (v : VS f n r V0 P0 M L) : RR f n q X X2 s p Z Y0 V0 P0 (QS T s p) (am_G am_prog (N + 30) (d + 5) 30 [.ref 118, .int (nI p)] (mkh X I J)) (am_G am_prog (N + 30) (e + 8) 255 [.ref 135, .int (nI (1875 + 9 * s))] (mkh X2 M L)) := by
  obtain ⟨a1, a2⟩ := rest_c (N := N) (d := d) (X := X) (J := J) hn hB hN hX hD (wd := 115) hp (show I 120 p = nI 115 by rw [m.2.2.2.2.1 _ (by omega)]; exact hI)
  obtain ⟨b1, b2⟩ := rest_m (N := N) (e := e) (X2 := X2) (L := L) (kd := 2) hs (show M 140 (1875 + 9 * s) = nI 2 by rw [v.2.2.1.1 140 (by omega)]; exact hM)
  rw [sX2_readsRest_0 N (d + 4) _ hX hD, nc_in (by omega) (by omega), a2, nc_ne (by omega) (by omega) (by omega), nc_ne (by omega) (by omega) (by omega), nc_eq rfl] at a1
  rw [sX9_readRest_0 N (e + 7), nc_in (by omega) (by omega), b2, nc_ne (by omega) (by omega) (by omega), nc_ne (by omega) (by omega) (by omega), nc_ne (by omega) (by omega) (by omega), nc_ne (by omega) (by omega) (by omega), nc_ne (by omega) (by omega) (by omega), nc_ne (by omega) (by omega) (by omega), nc_lt (by omega) (by omega), w_1] at b1
  obtain ⟨z1, z2, z3, z4⟩ := hZ
  have g2 := z1 2 (by omega)
  have g3 := z1 3 (by omega)
  have hbad : ∀ W P b c, 0 < b → b < 8 → FW f n b c s W P V0 P0 → ∃ W', KX9_readRest_6 N (e + 7) (N + 29) (nI 2) (nI (1875 + 9 * s)) (nI (1877 + 9 * s)) (nI 0) (mkh X2 W P) = some (.null, mkh X2 W' P) ∧ FW f n b c s W' P V0 P0 := by
    intro W P b c b0 b8 F
    have F2 := FW_u (k := 1877 + 9 * s) (v := nI 0) (by omega) F
    refine ⟨_, ?_, FW_u (k := 1878 + 9 * s) (v := nI 0) (by omega) F2⟩
    rw [kX9_readRest_6 N (e + 7), nc_in (by omega) (by omega), nc_eq rfl, nI_clamp (by omega), c9_countb (d := e + 5) F2.1 b0 (by omega), cI_some, kX9_readRest_7 N (e + 7), w_3, nc_in (by omega) (by omega), nI_clamp (by omega)]
  rcases rr_two (f := f) (q := q) (r := r) (p := p) (s := s) (Z := Z) (V0 := V0) (Y0 := Y0) (P0 := P0) (d := d) (e := e + 1) (k1 := 3) (k2 := 2) (n1 := T 3) (n2 := T 2) hn hB hN hX hD hp (by omega) (by omega) g3 g2 (z2 3 (by omega)) (z2 2 (by omega)) (z3 3 (by omega)) (z3 2 (by omega)) (fun i hi => z4 3 i (by omega) hi) (fun i hi => z4 2 i (by omega) hi) a1 (fun K Y => by rw [kX2_readsRest_2 N (d + 4) _ hX hD, nc_eq rfl]) (fun K Y => by rw [kX2_readsRest_2 N (d + 4) _ hX hD, nc_ne (by omega) (by omega) (by omega)]) (fun K Y => by rw [kX2_readsRest_8 N (d + 4) _ hX hD, nc_eq rfl]) b1 (fun z V P => by rw [kX9_readRest_4 N (e + 7), nc_in (by omega) (by omega), nI_clamp (by omega), w_2]) hbad m v with ⟨Zf, K, Y, W, P, b, c, r', h1, h2, h3, h4, h5⟩ | ⟨x, y, K, Y, V, P, r', x1, y1, hA, hB2, m2, v2⟩
  · exact Or.inl ⟨Zf, K, Y, W, P, b, c, r', h1, h2, h3, h4, h5⟩
  · rw [kX2_readsRest_8 N (d + 4) _ hX hD, nc_ne (by omega) (by omega) (by omega)] at hA
    rw [kX9_readRest_6 N (e + 7), nc_in (by omega) (by omega), nc_eq rfl, nI_clamp (by omega)] at hB2
    have v3 := vs_u (k := 1877 + 9 * s) (v := nI y) v2
    rcases j_num (N := N) (d := d + 1) (e := e + 4) (X := X) (X2 := X2) hn hB hN (lo := 0) (hi := 999) (by omega) (by omega) m2 v3 with ⟨b, c, b0, b8, c1, c2⟩ | ⟨w, K3, Y3, V3, P3, w1, w2, c1, c3, c2, m3, v4⟩
    · rw [c1, cI_some, kX2_readsRest_12 N (d + 4) _ hX hD, nc_eq rfl] at hA
      rw [c2, cI_some, kX9_readRest_7 N (e + 7), w_3, nc_in (by omega) (by omega), nI_clamp (by omega)] at hB2
      exact Or.inl ⟨_, _, _, _, _, b, c, _, b0, b8, hA, hB2, m2, DI_u (Or.inl ⟨by omega, by omega, Nat.le_refl p⟩) (DI_u (Or.inl ⟨by omega, by omega, Nat.le_refl p⟩) (DI_0 _ _ _)), FW_u (by omega) (FW_v v3 (DV_u (by omega) (DV_u (by omega) (DV_0 _ _))))⟩
    · rw [c1, cI_some, kX2_readsRest_12 N (d + 4) _ hX hD, nc_ne (by omega) (by omega) (by omega)] at hA
      rw [c2, cI_some, kX9_readRest_7 N (e + 7), w_3, nc_in (by omega) (by omega), nI_clamp (by omega)] at hB2
      refine Or.inr ⟨_, _, _, _, _, _, _, hA, hB2, m3, vs_u v4, fun a h1 h2 => by rw [u2_na _ _ _ _ _ h2, u2_na _ _ _ _ _ h1], fun a i hi => ?_, fun a ha => by rw [u2_na _ _ _ _ _ ha, u2_na _ _ _ _ _ ha, u2_na _ _ _ _ _ ha], fun k hk => by rw [u2_nk _ _ _ _ _ (by omega), u2_nk _ _ _ _ _ (by omega), u2_nk _ _ _ _ _ (by omega)], ?_⟩
      · exact u2u2_i hi
      · refine Or.inr (Or.inr (Or.inl ⟨TV_0 (by omega) (by rw [u2_nk _ _ _ _ _ (by omega), u2_nk _ _ _ _ _ (by omega), u2_nk _ _ _ _ _ (by omega)]; exact hM), by rw [u2_na _ _ _ _ _ (by omega), u2_na _ _ _ _ _ (by omega)]; exact hI, ?_⟩))
        rw [TV_1 (x := x) (by omega) (by rw [u2_nk _ _ _ _ _ (by omega), u2_nk _ _ _ _ _ (by omega), u2_at]), TV_2 (x := y) (by omega) (by rw [u2_nk _ _ _ _ _ (by omega), u2_at]), TV_3 (x := w) (by omega) (u2_at _ _ _ _), TV_4 (by omega), TV_4 (by omega)]
        exact ⟨by rw [u2_na _ _ _ _ _ (by omega), u2_at], u2_at _ _ _ _, c3, x1, y1, w2⟩
theorem rr_give (hn : n ≤ 900) (hB : ∀ k, k < n → isB (f k)) (hN : 10000 ≤ N) (hX : hsX X) (hD : X.2.2.2.2 = some X.2.1) (hp : p < 60) (hs : s < 30) (hI : Z 120 p = nI 116) (hM : V0 140 (1875 + 9 * s) = nI 3) (hZ : NZ T X Z V0 Y0 P0) (m : MS f n q r Z Y0 I J) (v : VS f n r V0 P0 M L) : RR f n q X X2 s p Z Y0 V0 P0 (QS T s p) (am_G am_prog (N + 30) (d + 5) 30 [.ref 118, .int (nI p)] (mkh X I J)) (am_G am_prog (N + 30) (e + 8) 255 [.ref 135, .int (nI (1875 + 9 * s))] (mkh X2 M L)) := by
  obtain ⟨a1, a2⟩ := rest_c (N := N) (d := d) (X := X) (J := J) hn hB hN hX hD (wd := 116) hp (show I 120 p = nI 116 by rw [m.2.2.2.2.1 _ (by omega)]; exact hI)
  obtain ⟨b1, b2⟩ := rest_m (N := N) (e := e) (X2 := X2) (L := L) (kd := 3) hs (show M 140 (1875 + 9 * s) = nI 3 by rw [v.2.2.1.1 140 (by omega)]; exact hM)
  rw [sX2_readsRest_0 N (d + 4) _ hX hD, nc_in (by omega) (by omega), a2, nc_ne (by omega) (by omega) (by omega), nc_ne (by omega) (by omega) (by omega), nc_ne (by omega) (by omega) (by omega), nc_eq rfl] at a1
  rw [sX9_readRest_0 N (e + 7), nc_in (by omega) (by omega), b2, nc_ne (by omega) (by omega) (by omega), nc_ne (by omega) (by omega) (by omega), nc_ne (by omega) (by omega) (by omega), nc_ne (by omega) (by omega) (by omega), nc_ne (by omega) (by omega) (by omega), nc_ne (by omega) (by omega) (by omega), nc_lt (by omega) (by omega), w_1] at b1
  obtain ⟨z1, z2, z3, z4⟩ := hZ
  have g2 := z1 2 (by omega)
  have g3 := z1 3 (by omega)
  have hbad : ∀ W P b c, 0 < b → b < 8 → FW f n b c s W P V0 P0 → ∃ W', KX9_readRest_6 N (e + 7) (N + 29) (nI 3) (nI (1875 + 9 * s)) (nI (1877 + 9 * s)) (nI 0) (mkh X2 W P) = some (.null, mkh X2 W' P) ∧ FW f n b c s W' P V0 P0 := by
    intro W P b c b0 b8 F
    refine ⟨_, ?_, FW_u (k := 1877 + 9 * s) (v := nI 0) (by omega) F⟩
    rw [kX9_readRest_6 N (e + 7), nc_in (by omega) (by omega), nc_ne (by omega) (by omega) (by omega), nI_clamp (by omega)]
  rcases rr_two (f := f) (q := q) (r := r) (p := p) (s := s) (Z := Z) (V0 := V0) (Y0 := Y0) (P0 := P0) (d := d) (e := e + 1) (k1 := 3) (k2 := 2) (n1 := T 3) (n2 := T 2) hn hB hN hX hD hp (by omega) (by omega) g3 g2 (z2 3 (by omega)) (z2 2 (by omega)) (z3 3 (by omega)) (z3 2 (by omega)) (fun i hi => z4 3 i (by omega) hi) (fun i hi => z4 2 i (by omega) hi) a1 (fun K Y => by rw [kX2_readsRest_3 N (d + 4) _ hX hD, nc_eq rfl]) (fun K Y => by rw [kX2_readsRest_3 N (d + 4) _ hX hD, nc_ne (by omega) (by omega) (by omega)]) (fun K Y => by rw [kX2_readsRest_9 N (d + 4) _ hX hD, nc_eq rfl]) b1 (fun z V P => by rw [kX9_readRest_4 N (e + 7), nc_in (by omega) (by omega), nI_clamp (by omega), w_2]) hbad m v with ⟨Zf, K, Y, W, P, b, c, r', h1, h2, h3, h4, h5⟩ | ⟨x, y, K, Y, V, P, r', x1, y1, hA, hB2, m2, v2⟩
  · exact Or.inl ⟨Zf, K, Y, W, P, b, c, r', h1, h2, h3, h4, h5⟩
  · rw [kX2_readsRest_9 N (d + 4) _ hX hD, nc_ne (by omega) (by omega) (by omega)] at hA
    rw [kX9_readRest_6 N (e + 7), nc_in (by omega) (by omega), nc_ne (by omega) (by omega) (by omega), nI_clamp (by omega)] at hB2
    refine Or.inr ⟨_, _, _, _, _, _, _, hA, hB2, m2, vs_u v2, fun a h1 h2 => by rw [u2_na _ _ _ _ _ h2, u2_na _ _ _ _ _ h1], fun a i hi => ?_, fun a ha => by rw [u2_na _ _ _ _ _ ha, u2_na _ _ _ _ _ ha], fun k hk => by rw [u2_nk _ _ _ _ _ (by omega), u2_nk _ _ _ _ _ (by omega)], ?_⟩
    · exact u2u2_i hi
    · refine Or.inr (Or.inr (Or.inr (Or.inl ⟨TV_0 (by omega) (by rw [u2_nk _ _ _ _ _ (by omega), u2_nk _ _ _ _ _ (by omega)]; exact hM), by rw [u2_na _ _ _ _ _ (by omega), u2_na _ _ _ _ _ (by omega)]; exact hI, ?_⟩)))
      rw [TV_1 (x := x) (by omega) (by rw [u2_nk _ _ _ _ _ (by omega), u2_at]), TV_2 (x := y) (by omega) (u2_at _ _ _ _), TV_4 (by omega), TV_4 (by omega)]
      exact ⟨by rw [u2_na _ _ _ _ _ (by omega), u2_at], u2_at _ _ _ _, x1, y1⟩
end
