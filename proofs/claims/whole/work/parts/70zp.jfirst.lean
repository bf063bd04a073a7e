/-! texts: dials; a name first or second, fault tails -/
theorem hX_H {X : lt_X} (h : hsX X) : isT X.2.1 ∧ (X.2.1 = 14 ∨ X.2.1 = 34) := by
  unfold isT
  rcases h with ⟨h, -⟩ | ⟨h, -⟩ <;> omega
/-- the reference's cells behind a fault -/
def FW (f : Nat → Int32) (n b c s : Nat) (W : Nat → Nat → Int32) (P : Nat → Nat → Int64) (V0 : Nat → Nat → Int32) (P0 : Nat → Nat → Int64) : Prop := W 135 12 = nI b ∧ W 135 13 = nI c ∧ (∃ r, RT f n r W P) ∧ DV s V0 W ∧ FTL P0 P
section
variable {N d e : Nat} {X X2 : lt_X} {f : Nat → Int32} {n q r p s b c : Nat} {I M K V Z V0 V1 W : Nat → Nat → Int32} {J L Y P Y0 P0 : Nat → Nat → Int64} {T : Nat → Nat}
theorem FW_u {k : Nat} {v : Int32} (hk : 1875 + 9 * s ≤ k) (H : FW f n b c s W P V0 P0) : FW f n b c s (u2 W 140 k v) P V0 P0 := by
  obtain ⟨h1, h2, ⟨r, h3⟩, h4, h5⟩ := H
  exact ⟨by rw [u2_na _ _ _ _ _ (by omega)]; exact h1, by rw [u2_na _ _ _ _ _ (by omega)]; exact h2, ⟨r, RT_o (by omega) (by omega) h3⟩, DV_u hk h4, h5⟩
theorem FW_v (H : VS f n r V1 P0 V P) (g : DV s V0 V1) : FW f n b c s (flt V b c) P V0 P0 := ⟨flt_12 _ _ _, flt_13 _ _ _, ⟨r, RT_flt _ _ H.1⟩, DV_flt (DV_t (Nat.le_refl s) g (DV_F H.2.2.1)) _ _, H.2.2.2⟩
theorem vs_25 (H : VS f n r V0 P0 M L) {v : Int32} : VS f n r (u2 V0 135 25 v) P0 (u2 M 135 25 v) L :=
  ⟨RT_o (by omega) (by omega) H.1, by rw [u2_nk _ _ _ _ _ (by omega)]; exact H.2.1, ⟨fun a ha => by rw [u2_na _ _ _ _ _ ha, u2_na _ _ _ _ _ ha]; exact H.2.2.1.1 a ha, fun j hj => by
    by_cases q : j = 25
    · subst q; rw [u2_at, u2_at]
    · rw [u2_nk _ _ _ _ _ q, u2_nk _ _ _ _ _ q]; exact H.2.2.1.2 j hj⟩, H.2.2.2⟩
theorem j_first (hn : n ≤ 900) (hB : ∀ k, k < n → isB (f k)) (hN : 10000 ≤ N) (hX : hsX X) (hD : X.2.2.2.2 = some X.2.1) {k cn : Nat} (hp : p < 60) (hk : k < 4) (hc : cn ≤ 6) (h2 : Z (X.2.1 + 2) k = nI cn) (h3 : V0 140 k = nI cn) (hnm : ∀ i, i < cn → Y0 (X.2.1 + 1) (6 * k + i) = P0 142 (6 * k + i)) (m : MS f n q r Z Y0 I J) (v : VS f n r V0 P0 M L) :
    (∃ I' b c, 0 < b ∧ b < 8 ∧ MS f n q r Z Y0 I' J ∧ am_G am_prog (N + 30) (d + 4) 32 [.ref 118, .int (nI p), .int (nI k)] (mkh X I J) = some (.int (nI 0), mkh X (u2 (u2 I' 115 10 (nI b)) 115 11 (nI c)) J) ∧ am_G am_prog (N + 30) (e + 6) 245 [.ref 135, .int (nI 0), .int (nI k)] (mkh X2 M L) = some (.int (nI 0), mkh X2 (flt M b c) L)) ∨
    (∃ x K Y V P, x < cn ∧ am_G am_prog (N + 30) (d + 4) 32 [.ref 118, .int (nI p), .int (nI k)] (mkh X I J) = some (.int (nI 1), mkh X K Y) ∧ am_G am_prog (N + 30) (e + 6) 245 [.ref 135, .int (nI 0), .int (nI k)] (mkh X2 M L) = some (.int (nI x), mkh X2 V P) ∧ MS f n q (tkE f n r) (u2 Z 121 p (nI x)) Y0 K Y ∧ VS f n (tkE f n r) V0 P0 V P) := by
  have fb := fkd_b f n r
  obtain ⟨ht, htt⟩ := hX_H hX
  have c2 : I (X.2.1 + 2) k = nI cn := by rw [m.2.2.2.2.1 _ (by omega)]; exact h2
  have c3 : M 140 (429 * 0 + k) = nI cn := by rw [v.2.2.1.1 140 (by omega), show 429 * 0 + k = k by omega]; exact h3
  have nm : fdN (J (X.2.1 + 1)) k cn (lN (tkW f n r)) = fdN (fun j => L 142 (24 * 0 + j)) k cn (lN (tkW f n r)) := fdN_congr (fun i hi => by
    rw [m.2.2.2.2.2.1 _ (by omega), v.2.2.2.1 142 (by omega), show 24 * 0 + (6 * k + i) = 6 * k + i by omega]; exact hnm i hi) _
  have cl := gX2_readsFirst N (d + 3) (X := X) (nI p) (nI k) I J
  rw [sX2_readsFirst_0 N (d + 3) _ hX hD] at cl
  by_cases g : tkK f n r = 2
  · rcases fdN_or (J (X.2.1 + 1)) k cn (lN (tkW f n r)) with g2 | g2
    · right
      rw [c4_isNameOf1 (d := d) ht m.2.2.1 hk hc c2 (by omega) g g2, cI_some, kX2_readsFirst_0 N (d + 3) _ hX hD, nc_ne (by omega) (by omega) (by omega), nc_in (by omega) (by omega), nI_clamp (by omega), u2_at] at cl
      obtain ⟨V, P, b1, b2, b3, b4⟩ := c9_readTold1 (N := N) (d := e) (X := X2) hn hB m.2.1 (bl := 0) (by omega) hk hc c3 hN v.1 v.2.1 g (by rw [← nm]; exact g2)
      rw [← nm] at b1
      have m2 := ms_u (a := 121) (k := p) (v := nI (fdN (J (X.2.1 + 1)) k cn (lN (tkW f n r)))) (ms_o (k := 9) (v := nI (fdN (J (X.2.1 + 1)) k cn (lN (tkW f n r)))) m (by omega)) (by omega) (by omega)
      obtain ⟨K, Y, a1, m3⟩ := zs_next (N := N) (d := d + 1) (X := X) hn hB hN m2
      rw [a1, cV_some, kX2_readsFirst_1 N (d + 3) _ hX hD] at cl
      exact ⟨_, K, Y, V, P, g2, cl, b1, m3, vs_t v b2 b3 b4⟩
    · left
      rw [c4_isNameOf3 (d := d) ht m.2.2.1 hk hc c2 (by omega) g g2, cI_some, kX2_readsFirst_0 N (d + 3) _ hX hD, nc_eq rfl] at cl
      exact ⟨_, 3, _, by omega, by omega, ms_o m (by omega), cl, c9_readTold3 (bl := 0) (by omega) hk hc c3 (by omega) v.1 v.2.1 g (by rw [← nm]; exact g2)⟩
  · left
    rw [c4_isNameOf0 (d := d) ht m.2.2.1 _ g, cI_some, kX2_readsFirst_0 N (d + 3) _ hX hD, nc_eq rfl] at cl
    exact ⟨_, _, _, fb.1, by omega, m, cl, c9_readTold0 v.1 v.2.1 g _ _⟩
theorem j_second (hn : n ≤ 900) (hB : ∀ k, k < n → isB (f k)) (hN : 10000 ≤ N) (hX : hsX X) (hD : X.2.2.2.2 = some X.2.1) {k cn : Nat} (hp : p < 60) (hk : k < 4) (hc : cn ≤ 6) (h2 : Z (X.2.1 + 2) k = nI cn) (h3 : V0 140 k = nI cn) (hnm : ∀ i, i < cn → Y0 (X.2.1 + 1) (6 * k + i) = P0 142 (6 * k + i)) (m : MS f n q r Z Y0 I J) (v : VS f n r V0 P0 M L) :
    (∃ I' b c, 0 < b ∧ b < 8 ∧ MS f n q r Z Y0 I' J ∧ am_G am_prog (N + 30) (d + 4) 33 [.ref 118, .int (nI p), .int (nI k)] (mkh X I J) = some (.int (nI 0), mkh X (u2 (u2 I' 115 10 (nI b)) 115 11 (nI c)) J) ∧ am_G am_prog (N + 30) (e + 6) 245 [.ref 135, .int (nI 0), .int (nI k)] (mkh X2 M L) = some (.int (nI 0), mkh X2 (flt M b c) L)) ∨
    (∃ x K Y V P, x < cn ∧ am_G am_prog (N + 30) (d + 4) 33 [.ref 118, .int (nI p), .int (nI k)] (mkh X I J) = some (.int (nI 1), mkh X K Y) ∧ am_G am_prog (N + 30) (e + 6) 245 [.ref 135, .int (nI 0), .int (nI k)] (mkh X2 M L) = some (.int (nI x), mkh X2 V P) ∧ MS f n q (tkE f n r) (u2 Z 122 p (nI x)) Y0 K Y ∧ VS f n (tkE f n r) V0 P0 V P) := by
  have fb := fkd_b f n r
  obtain ⟨ht, htt⟩ := hX_H hX
  have c2 : I (X.2.1 + 2) k = nI cn := by rw [m.2.2.2.2.1 _ (by omega)]; exact h2
  have c3 : M 140 (429 * 0 + k) = nI cn := by rw [v.2.2.1.1 140 (by omega), show 429 * 0 + k = k by omega]; exact h3
  have nm : fdN (J (X.2.1 + 1)) k cn (lN (tkW f n r)) = fdN (fun j => L 142 (24 * 0 + j)) k cn (lN (tkW f n r)) := fdN_congr (fun i hi => by
    rw [m.2.2.2.2.2.1 _ (by omega), v.2.2.2.1 142 (by omega), show 24 * 0 + (6 * k + i) = 6 * k + i by omega]; exact hnm i hi) _
  have cl := gX2_readsSecond N (d + 3) (X := X) (nI p) (nI k) I J
  rw [sX2_readsSecond_0 N (d + 3) _ hX hD] at cl
  by_cases g : tkK f n r = 2
  · rcases fdN_or (J (X.2.1 + 1)) k cn (lN (tkW f n r)) with g2 | g2
    · right
      rw [c4_isNameOf1 (d := d) ht m.2.2.1 hk hc c2 (by omega) g g2, cI_some, kX2_readsSecond_0 N (d + 3) _ hX hD, nc_ne (by omega) (by omega) (by omega), nc_in (by omega) (by omega), nI_clamp (by omega), u2_at] at cl
      obtain ⟨V, P, b1, b2, b3, b4⟩ := c9_readTold1 (N := N) (d := e) (X := X2) hn hB m.2.1 (bl := 0) (by omega) hk hc c3 hN v.1 v.2.1 g (by rw [← nm]; exact g2)
      rw [← nm] at b1
      have m2 := ms_u (a := 122) (k := p) (v := nI (fdN (J (X.2.1 + 1)) k cn (lN (tkW f n r)))) (ms_o (k := 9) (v := nI (fdN (J (X.2.1 + 1)) k cn (lN (tkW f n r)))) m (by omega)) (by omega) (by omega)
      obtain ⟨K, Y, a1, m3⟩ := zs_next (N := N) (d := d + 1) (X := X) hn hB hN m2
      rw [a1, cV_some, kX2_readsSecond_1 N (d + 3) _ hX hD] at cl
      exact ⟨_, K, Y, V, P, g2, cl, b1, m3, vs_t v b2 b3 b4⟩
    · left
      rw [c4_isNameOf3 (d := d) ht m.2.2.1 hk hc c2 (by omega) g g2, cI_some, kX2_readsSecond_0 N (d + 3) _ hX hD, nc_eq rfl] at cl
      exact ⟨_, 3, _, by omega, by omega, ms_o m (by omega), cl, c9_readTold3 (bl := 0) (by omega) hk hc c3 (by omega) v.1 v.2.1 g (by rw [← nm]; exact g2)⟩
  · left
    rw [c4_isNameOf0 (d := d) ht m.2.2.1 _ g, cI_some, kX2_readsSecond_0 N (d + 3) _ hX hD, nc_eq rfl] at cl
    exact ⟨_, _, _, fb.1, by omega, m, cl, c9_readTold0 v.1 v.2.1 g _ _⟩
/-- what a step's rest comes to: A the class's, B the reference's -/
def RR (f : Nat → Int32) (n q : Nat) (X X2 : lt_X) (s p : Nat) (Z : Nat → Nat → Int32) (Y0 : Nat → Nat → Int64) (V0 : Nat → Nat → Int32) (P0 : Nat → Nat → Int64) (Q : (Nat → Nat → Int32) → (Nat → Nat → Int32) → Int32 → Prop) (A B : am_O) : Prop :=
  (∃ Zf K Y W P b c r, 0 < b ∧ b < 8 ∧ A = some (.int (nI 0), mkh X (u2 (u2 K 115 10 (nI b)) 115 11 (nI c)) Y) ∧ B = some (.null, mkh X2 W P) ∧ MS f n q r Zf Y0 K Y ∧ DI p 3 Z Zf ∧ FW f n b c s W P V0 P0) ∨
  (∃ Zf Vf K Y V P r, A = some (.int (nI 1), mkh X K Y) ∧ B = some (.null, mkh X2 V P) ∧ MS f n q r Zf Y0 K Y ∧ VS f n r Vf P0 V P ∧ (∀ a, a ≠ 121 → a ≠ 122 → Zf a = Z a) ∧ (∀ a i, i ≠ p → Zf a i = Z a i) ∧ (∀ a, a ≠ 140 → Vf a = V0 a) ∧ (∀ k, k < 1876 + 9 * s ∨ 1883 + 9 * s ≤ k → Vf 140 k = V0 140 k) ∧ Q Zf Vf (K 115 8))
theorem rr_num (hn : n ≤ 900) (hB : ∀ k, k < n → isB (f k)) (hN : 10000 ≤ N) (hX : hsX X) (hD : X.2.2.2.2 = some X.2.1) {lo hi : Nat} {A B : am_O} {kA : Int32 → am_H → am_O} {kB : Int32 → am_H → am_O} (hlo : lo < 2 ^ 31) (hhi : hi < 2 ^ 31) (hA : A = am_cI (am_G am_prog (N + 30) (d + 4) 52 [.ref 115, .int (nI lo), .int (nI hi)] (mkh X I J)) kA) (hkA : ∀ z K Y, (z = nI 0 ∨ z = nI 1) → kA z (mkh X K Y) = some (.int z, mkh X K Y)) (hB2 : B = am_cI (am_G am_prog (N + 30) (e + 7) 232 [.ref 135, .int (nI lo), .int (nI hi)] (mkh X2 M L)) kB) (hkB : ∀ z V P, kB z (mkh X2 V P) = some (.null, mkh X2 (u2 V 140 (1876 + 9 * s) z) P)) (m : MS f n q r Z Y0 I J) (v : VS f n r V0 P0 M L) : RR f n q X X2 s p Z Y0 V0 P0 (fun _ Vf num => ∃ x, lo ≤ x ∧ x ≤ hi ∧ num = nI x ∧ Vf 140 (1876 + 9 * s) = nI x) A B := by
  rcases j_num (N := N) (d := d + 1) (e := e + 4) (X := X) (X2 := X2) hn hB hN hlo hhi m v with ⟨b, c, b0, b8, c1, c2⟩ | ⟨x, K2, Y2, V2, P2, x1, x2, c1, c3, c2, m2, v2⟩
  · rw [c1, cI_some, hkA _ _ _ (Or.inl rfl)] at hA
    rw [c2, cI_some, hkB] at hB2
    exact Or.inl ⟨_, _, _, _, _, b, c, r, b0, b8, hA, hB2, m, DI_0 _ _ _, FW_u (by omega) (FW_v v (DV_0 _ _))⟩
  · rw [c1, cI_some, hkA _ _ _ (Or.inr rfl)] at hA
    rw [c2, cI_some, hkB] at hB2
    exact Or.inr ⟨_, _, _, _, _, _, _, hA, hB2, m2, vs_u v2, fun _ _ _ => rfl, fun _ _ _ => rfl, fun a ha => u2_na _ _ _ _ _ ha, fun k hk => u2_nk _ _ _ _ _ (by omega), x, x1, x2, c3, u2_at _ _ _ _⟩
theorem rr_one (hn : n ≤ 900) (hB : ∀ k, k < n → isB (f k)) (hN : 10000 ≤ N) (hX : hsX X) (hD : X.2.2.2.2 = some X.2.1) {k cn : Nat} {A B : am_O} {kA : Int32 → am_H → am_O} {kB : Int32 → am_H → am_O} (hp : p < 60) (hk : k < 4) (hc : cn ≤ 6) (h2 : Z (X.2.1 + 2) k = nI cn) (h3 : V0 140 k = nI cn) (hnm : ∀ i, i < cn → Y0 (X.2.1 + 1) (6 * k + i) = P0 142 (6 * k + i)) (hA : A = am_cI (am_G am_prog (N + 30) (d + 4) 32 [.ref 118, .int (nI p), .int (nI k)] (mkh X I J)) kA) (hkA : ∀ z K Y, (z = nI 0 ∨ z = nI 1) → kA z (mkh X K Y) = some (.int z, mkh X K Y)) (hB2 : B = am_cI (am_G am_prog (N + 30) (e + 6) 245 [.ref 135, .int (nI 0), .int (nI k)] (mkh X2 M L)) kB) (hkB : ∀ z V P, kB z (mkh X2 V P) = some (.null, mkh X2 (u2 V 140 (1876 + 9 * s) z) P)) (m : MS f n q r Z Y0 I J) (v : VS f n r V0 P0 M L) : RR f n q X X2 s p Z Y0 V0 P0 (fun Zf Vf _ => ∃ x, x < cn ∧ Zf 121 p = nI x ∧ Vf 140 (1876 + 9 * s) = nI x ∧ ∀ k, k ≠ 1876 + 9 * s → Vf 140 k = V0 140 k) A B := by
  rcases j_first (N := N) (d := d) (e := e) (X := X) (X2 := X2) hn hB hN hX hD hp hk hc h2 h3 hnm m v with ⟨I', b, c, b0, b8, m2, c1, c2⟩ | ⟨x, K2, Y2, V2, P2, x1, c1, c2, m2, v2⟩
  · rw [c1, cI_some, hkA _ _ _ (Or.inl rfl)] at hA
    rw [c2, cI_some, hkB] at hB2
    exact Or.inl ⟨_, _, _, _, _, b, c, r, b0, b8, hA, hB2, m2, DI_0 _ _ _, FW_u (by omega) (FW_v v (DV_0 _ _))⟩
  · rw [c1, cI_some, hkA _ _ _ (Or.inr rfl)] at hA
    rw [c2, cI_some, hkB] at hB2
    refine Or.inr ⟨_, _, _, _, _, _, _, hA, hB2, m2, vs_u v2, fun a h1 _ => u2_na _ _ _ _ _ h1, fun a i hi => ?_, fun a ha => u2_na _ _ _ _ _ ha, fun k hk => u2_nk _ _ _ _ _ (by omega), x, x1, u2_at _ _ _ _, u2_at _ _ _ _, fun k hk => u2_nk _ _ _ _ _ hk⟩
    by_cases g : a = 121
    · subst g; exact u2_nk _ _ _ _ _ hi
    · rw [u2_na _ _ _ _ _ g]
end
