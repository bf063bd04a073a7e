/-! texts: dials; a step's rest, by its word -/
section
variable {N d e : Nat} {X X2 : lt_X} {f : Nat → Int32} {n q r p s b c : Nat} {I M K V Z V0 V1 W : Nat → Nat → Int32} {J L Y P Y0 P0 : Nat → Nat → Int64} {T : Nat → Nat}
theorem RR_mono {Q R : (Nat → Nat → Int32) → (Nat → Nat → Int32) → Int32 → Prop} {A B : am_O} (h : ∀ Zf Vf num, (∀ a, a ≠ 121 → a ≠ 122 → Zf a = Z a) → (∀ k, k < 1876 + 9 * s ∨ 1883 + 9 * s ≤ k → Vf 140 k = V0 140 k) → Q Zf Vf num → R Zf Vf num) (H : RR f n q X X2 s p Z Y0 V0 P0 Q A B) : RR f n q X X2 s p Z Y0 V0 P0 R A B := by
  rcases H with H | ⟨Zf, Vf, K, Y, V, P, r, h1, h2, h3, h4, h5, h6, h7, h8, h9⟩
  · exact Or.inl H
  · exact Or.inr ⟨Zf, Vf, K, Y, V, P, r, h1, h2, h3, h4, h5, h6, h7, h8, h _ _ _ h5 h8 h9⟩
theorem RR_v {Q : (Nat → Nat → Int32) → (Nat → Nat → Int32) → Int32 → Prop} {A B : am_O} {k : am_H → am_O} (hk : ∀ V P, k (mkh X2 V P) = some (.null, mkh X2 V P)) (H : RR f n q X X2 s p Z Y0 V0 P0 Q A B) : RR f n q X X2 s p Z Y0 V0 P0 Q A (am_cV B k) := by
  rcases H with ⟨Zf, K, Y, W, P, b, c, r, h1, h2, h3, h4, h5⟩ | ⟨Zf, Vf, K, Y, V, P, r, h1, h2, h3⟩
  · exact Or.inl ⟨Zf, K, Y, W, P, b, c, r, h1, h2, h3, by rw [h4, cV_some, hk], h5⟩
  · exact Or.inr ⟨Zf, Vf, K, Y, V, P, r, h1, by rw [h2, cV_some, hk], h3⟩
theorem rr_two (hn : n ≤ 900) (hB : ∀ k, k < n → isB (f k)) (hN : 10000 ≤ N) (hX : hsX X) (hD : X.2.2.2.2 = some X.2.1) {k1 k2 n1 n2 : Nat} {A B : am_O} {kA1 kA2 kB1 kB2 : Int32 → am_H → am_O} (hp : p < 60) (hk1 : k1 < 4) (hk2 : k2 < 4) (hc1 : n1 ≤ 6) (hc2 : n2 ≤ 6) (h2 : Z (X.2.1 + 2) k1 = nI n1) (h2' : Z (X.2.1 + 2) k2 = nI n2) (h3 : V0 140 k1 = nI n1) (h3' : V0 140 k2 = nI n2) (hnm : ∀ i, i < n1 → Y0 (X.2.1 + 1) (6 * k1 + i) = P0 142 (6 * k1 + i)) (hnm2 : ∀ i, i < n2 → Y0 (X.2.1 + 1) (6 * k2 + i) = P0 142 (6 * k2 + i)) (hA : A = am_cI (am_G am_prog (N + 30) (d + 4) 32 [.ref 118, .int (nI p), .int (nI k1)] (mkh X I J)) kA1) (hkA0 : ∀ K Y, kA1 (nI 0) (mkh X K Y) = some (.int (nI 0), mkh X K Y)) (hkA1 : ∀ K Y, kA1 (nI 1) (mkh X K Y) = am_cI (am_G am_prog (N + 30) (d + 4) 33 [.ref 118, .int (nI p), .int (nI k2)] (mkh X K Y)) kA2) (hkA2 : ∀ K Y, kA2 (nI 0) (mkh X K Y) = some (.int (nI 0), mkh X K Y)) (hB2 : B = am_cI (am_G am_prog (N + 30) (e + 6) 245 [.ref 135, .int (nI 0), .int (nI k1)] (mkh X2 M L)) kB1) (hkB1 : ∀ z V P, kB1 z (mkh X2 V P) = am_cI (am_G am_prog (N + 30) (e + 6) 245 [.ref 135, .int (nI 0), .int (nI k2)] (mkh X2 (u2 V 140 (1876 + 9 * s) z) P)) kB2) (hbad : ∀ W P b c, 0 < b → b < 8 → FW f n b c s W P V0 P0 → ∃ W', kB2 (nI 0) (mkh X2 W P) = some (.null, mkh X2 W' P) ∧ FW f n b c s W' P V0 P0) (m : MS f n q r Z Y0 I J) (v : VS f n r V0 P0 M L) :
    (∃ Zf K Y W P b c r, 0 < b ∧ b < 8 ∧ A = some (.int (nI 0), mkh X (u2 (u2 K 115 10 (nI b)) 115 11 (nI c)) Y) ∧ B = some (.null, mkh X2 W P) ∧ MS f n q r Zf Y0 K Y ∧ DI p 3 Z Zf ∧ FW f n b c s W P V0 P0) ∨
    (∃ x y K Y V P r, x < n1 ∧ y < n2 ∧ A = kA2 (nI 1) (mkh X K Y) ∧ B = kB2 (nI y) (mkh X2 V P) ∧ MS f n q r (u2 (u2 Z 121 p (nI x)) 122 p (nI y)) Y0 K Y ∧ VS f n r (u2 V0 140 (1876 + 9 * s) (nI x)) P0 V P) := by
  obtain ⟨ht, htt⟩ := hX_H hX
  rcases j_first (N := N) (d := d) (e := e) (X := X) (X2 := X2) hn hB hN hX hD hp hk1 hc1 h2 h3 hnm m v with ⟨I', b, c, b0, b8, m2, c1, c2⟩ | ⟨x, K2, Y2, V2, P2, x1, c1, c2, m2, v2⟩
  · rw [c1, cI_some, hkA0] at hA
    have F := FW_u (k := 1876 + 9 * s) (v := nI 0) (by omega) (FW_v (b := b) (c := c) v (DV_0 s V0))
    obtain ⟨W', w1, w2⟩ := hbad _ _ b c b0 b8 F
    rw [c2, cI_some, hkB1, c9_readToldb (d := e + 4) F.1 b0 (by omega), cI_some, w1] at hB2
    exact Or.inl ⟨_, _, _, _, _, b, c, r, b0, b8, hA, hB2, m2, DI_0 _ _ _, w2⟩
  · rw [c1, cI_some, hkA1] at hA
    have v3 := vs_u (k := 1876 + 9 * s) (v := nI x) v2
    rw [c2, cI_some, hkB1] at hB2
    rcases j_second (N := N) (d := d) (e := e) (X := X) (X2 := X2) hn hB hN hX hD hp hk2 hc2 (by rw [u2_na _ _ _ _ _ (by omega)]; exact h2') (by rw [u2_nk _ _ _ _ _ (by omega)]; exact h3') hnm2 m2 v3 with ⟨I', b, c, b0, b8, m4, c1, c2⟩ | ⟨y, K4, Y4, V4, P4, y1, c1, c2, m4, v4⟩
    · rw [c1, cI_some, hkA2] at hA
      have F := FW_v (b := b) (c := c) (s := s) v3 (DV_u (v := nI x) (show 1875 + 9 * s ≤ 1876 + 9 * s by omega) (DV_0 s V0))
      obtain ⟨W', w1, w2⟩ := hbad _ _ b c b0 b8 F
      rw [c2, cI_some, w1] at hB2
      exact Or.inl ⟨_, _, _, _, _, b, c, _, b0, b8, hA, hB2, m4, DI_u (Or.inl ⟨by omega, by omega, Nat.le_refl p⟩) (DI_0 _ _ _), w2⟩
    · rw [c1, cI_some] at hA
      rw [c2, cI_some] at hB2
      exact Or.inr ⟨x, y, _, _, _, _, _, x1, y1, hA, hB2, m4, v4⟩
/-- names and counts of the town that is here, by the cells told of -/
def NZ (T : Nat → Nat) (X : lt_X) (Z V0 : Nat → Nat → Int32) (Y0 P0 : Nat → Nat → Int64) : Prop := (∀ k, k < 4 → T k ≤ 6) ∧ (∀ k, k < 4 → Z (X.2.1 + 2) k = nI (T k)) ∧ (∀ k, k < 4 → V0 140 k = nI (T k)) ∧ ∀ k i, k < 4 → i < T k → Y0 (X.2.1 + 1) (6 * k + i) = P0 142 (6 * k + i)
/-- a plain step; a block's head -/
def QS (T : Nat → Nat) (s p : Nat) (Zf Vf : Nat → Nat → Int32) (num : Int32) : Prop := DS (Zf 120) (Zf 121) (Zf 122) (fun _ => num) (TV T Vf) s p
def QB (T : Nat → Nat) (s p : Nat) (Zf Vf : Nat → Nat → Int32) (num : Int32) : Prop := DB (Zf 120) (Zf 121) (Zf 122) (fun _ => num) (TV T Vf) s p
theorem TV_s {Vf : Nat → Nat → Int32} {j x : Nat} (hx : x < 2 ^ 32) (h : Vf 140 (1716 + j) = nI x) (hj : 4 ≤ j) : TV T Vf j = x := TV_at hj hx h
theorem TV_0 {Vf : Nat → Nat → Int32} {x : Nat} (hx : x < 2 ^ 32) (h : Vf 140 (1875 + 9 * s) = nI x) : TV T Vf (159 + 9 * s) = x := TV_at (by omega) hx (by rw [show 1716 + (159 + 9 * s) = 1875 + 9 * s by omega]; exact h)
theorem TV_1 {Vf : Nat → Nat → Int32} {x : Nat} (hx : x < 2 ^ 32) (h : Vf 140 (1876 + 9 * s) = nI x) : TV T Vf (160 + 9 * s) = x := TV_at (by omega) hx (by rw [show 1716 + (160 + 9 * s) = 1876 + 9 * s by omega]; exact h)
theorem TV_2 {Vf : Nat → Nat → Int32} {x : Nat} (hx : x < 2 ^ 32) (h : Vf 140 (1877 + 9 * s) = nI x) : TV T Vf (161 + 9 * s) = x := TV_at (by omega) hx (by rw [show 1716 + (161 + 9 * s) = 1877 + 9 * s by omega]; exact h)
theorem TV_3 {Vf : Nat → Nat → Int32} {x : Nat} (hx : x < 2 ^ 32) (h : Vf 140 (1878 + 9 * s) = nI x) : TV T Vf (162 + 9 * s) = x := TV_at (by omega) hx (by rw [show 1716 + (162 + 9 * s) = 1878 + 9 * s by omega]; exact h)
theorem TV_6 {Vf : Nat → Nat → Int32} {x : Nat} (hx : x < 2 ^ 32) (h : Vf 140 (1881 + 9 * s) = nI x) : TV T Vf (165 + 9 * s) = x := TV_at (by omega) hx (by rw [show 1716 + (165 + 9 * s) = 1881 + 9 * s by omega]; exact h)
theorem TV_7 {Vf : Nat → Nat → Int32} {x : Nat} (hx : x < 2 ^ 32) (h : Vf 140 (1882 + 9 * s) = nI x) : TV T Vf (166 + 9 * s) = x := TV_at (by omega) hx (by rw [show 1716 + (166 + 9 * s) = 1882 + 9 * s by omega]; exact h)
/-- what the two programs do with a plain step's word -/
theorem rest_c (hn : n ≤ 900) (hB : ∀ k, k < n → isB (f k)) (hN : 10000 ≤ N) (hX : hsX X) (hD : X.2.2.2.2 = some X.2.1) {wd : Nat} (hp : p < 60) (h : I 120 p = nI wd) : am_G am_prog (N + 30) (d + 5) 30 [.ref 118, .int (nI p)] (mkh X I J) = RX2_readsRest_0 N (d + 4) (N + 30) X (nI p) I J ∧ I 120 (nI p).toNatClampNeg = nI wd := ⟨gX2_readsRest N (d + 4) (nI p) I J, by rw [nI_clamp (by omega)]; exact h⟩
theorem rest_m {kd : Nat} (hs : s < 30) (h : M 140 (1875 + 9 * s) = nI kd) : am_G am_prog (N + 30) (e + 8) 255 [.ref 135, .int (nI (1875 + 9 * s))] (mkh X2 M L) = RX9_readRest_0 N (e + 7) (N + 30) X2 (nI (1875 + 9 * s)) M L ∧ M 140 (nI (1875 + 9 * s)).toNatClampNeg = nI kd := ⟨gX9_readRest N (e + 7) (nI (1875 + 9 * s)) M L, by rw [nI_clamp (by omega)]; exact h⟩
theorem w_1 (s : Nat) : nI (1875 + 9 * s) + nI 1 = nI (1876 + 9 * s) := by rw [nI_add, show 1875 + 9 * s + 1 = 1876 + 9 * s by omega]
theorem w_2 (s : Nat) : nI (1875 + 9 * s) + nI 2 = nI (1877 + 9 * s) := by rw [nI_add, show 1875 + 9 * s + 2 = 1877 + 9 * s by omega]
theorem w_3 (s : Nat) : nI (1875 + 9 * s) + nI 3 = nI (1878 + 9 * s) := by rw [nI_add, show 1875 + 9 * s + 3 = 1878 + 9 * s by omega]
theorem w_6 (s : Nat) : nI (1875 + 9 * s) + nI 6 = nI (1881 + 9 * s) := by rw [nI_add, show 1875 + 9 * s + 6 = 1881 + 9 * s by omega]
theorem w_7 (s : Nat) : nI (1875 + 9 * s) + nI 7 = nI (1882 + 9 * s) := by rw [nI_add, show 1875 + 9 * s + 7 = 1882 + 9 * s by omega]
theorem w_8 (s : Nat) : nI (1875 + 9 * s) + nI 8 = nI (1883 + 9 * s) := by rw [nI_add, show 1875 + 9 * s + 8 = 1883 + 9 * s by omega]
theorem rr_hour (hn : n ≤ 900) (hB : ∀ k, k < n → isB (f k)) (hN : 10000 ≤ N) (hX : hsX X) (hD : X.2.2.2.2 = some X.2.1) (hp : p < 60) (hs : s < 30) (hI : Z 120 p = nI 113) (hM : V0 140 (1875 + 9 * s) = nI 0) (m : MS f n q r Z Y0 I J) (v : VS f n r V0 P0 M L) : RR f n q X X2 s p Z Y0 V0 P0 (QS T s p) (am_G am_prog (N + 30) (d + 5) 30 [.ref 118, .int (nI p)] (mkh X I J)) (am_G am_prog (N + 30) (e + 8) 255 [.ref 135, .int (nI (1875 + 9 * s))] (mkh X2 M L)) := by
  obtain ⟨a1, a2⟩ := rest_c (N := N) (d := d) (X := X) (J := J) hn hB hN hX hD (wd := 113) hp (show I 120 p = nI 113 by rw [m.2.2.2.2.1 _ (by omega)]; exact hI)
  obtain ⟨b1, b2⟩ := rest_m (N := N) (e := e) (X2 := X2) (L := L) (kd := 0) hs (show M 140 (1875 + 9 * s) = nI 0 by rw [v.2.2.1.1 140 (by omega)]; exact hM)
  rw [sX2_readsRest_0 N (d + 4) _ hX hD, nc_in (by omega) (by omega), a2, nc_eq rfl] at a1
  rw [sX9_readRest_0 N (e + 7), nc_in (by omega) (by omega), b2, nc_eq rfl, w_1] at b1
  refine RR_mono (fun Zf Vf num h1 h2 ⟨x, x1, x2, x3, x4⟩ => ?_) (rr_num (d := d) (e := e) (lo := 1) (hi := 48) hn hB hN hX hD (by omega) (by omega) a1 (fun z K Y hz => by rw [kX2_readsRest_0 N (d + 4) _ hX hD, nbz hz]) b1 (fun z V P => by rw [kX9_readRest_0 N (e + 7), nc_in (by omega) (by omega), nI_clamp (by omega)]) m v)
  refine Or.inl ⟨TV_0 (by omega) (by rw [h2 _ (by omega)]; exact hM), by rw [h1 120 (by omega) (by omega)]; exact hI, ?_⟩
  rw [TV_1 (by omega) x4]
  exact ⟨x3, x1, x2⟩
end
