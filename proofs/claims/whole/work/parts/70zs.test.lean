/-! texts: dials; what a when asks -/
section
variable {N d e : Nat} {X X2 : lt_X} {f : Nat → Int32} {n q r p s b c : Nat} {I M K V Z V0 V1 W : Nat → Nat → Int32} {J L Y P Y0 P0 : Nat → Nat → Int64} {T : Nat → Nat}
def KT2 (N d n : Nat) (w t : Int32) (z : Int32) (h : am_H) : am_O := am_tI h 140 (w + nI 2) z (fun h5 => am_run (am_G am_prog (N + 30) (d + 0)) eX9_readTest uX9_readTest n 78 [(0, .ref 135), (1, .int w), (2, .int t)] [] h5)
theorem KT2_mk (hs : s < 30) (z : Nat) (t x : Int32) : KT2 N d z (nI (1875 + 9 * s)) t x (mkh X2 V P) = RX9_readTest_78 N d z X2 (nI (1875 + 9 * s)) t (u2 V 140 (1877 + 9 * s) x) P := by
  unfold KT2
  rw [q9_t140, w_2, nc_in (by omega) (by omega), nI_clamp (by omega)]
  rfl
theorem KT_2 (hs : s < 30) (z : Nat) (x : Int32) : KX9_readTest_2 N d z (nI (1875 + 9 * s)) (nI 2) (nI (1876 + 9 * s)) 140 x (mkh X2 V P) = am_cI (am_G am_prog (N + 30) d 245 [.ref 135, .int (nI 0), .int (nI 3)] (mkh X2 (u2 V 140 (1876 + 9 * s) x) P)) (KT2 N d z (nI (1875 + 9 * s)) (nI 2)) := by
  rw [kX9_readTest_2 N d, q9_t140, nc_in (by omega) (by omega), nI_clamp (by omega), nc_eq rfl, q9_gR20]
  rfl
theorem KT_o (hs : s < 30) (z : Nat) {t : Nat} (ht : t < 2) (x : Int32) : KX9_readTest_2 N d z (nI (1875 + 9 * s)) (nI t) (nI (1876 + 9 * s)) 140 x (mkh X2 V P) = RX9_readTest_78 N d z X2 (nI (1875 + 9 * s)) (nI t) (u2 V 140 (1876 + 9 * s) x) P := by
  rw [kX9_readTest_2 N d, q9_t140, nc_in (by omega) (by omega), nI_clamp (by omega), nc_ne (by omega) (by omega) (by omega)]
  rfl
theorem t78_n {t : Nat} (ht : 0 < t) (ht3 : t < 3) (z : Nat) (w : Int32) : RX9_readTest_78 N d (z + 1) X2 w (nI t) V P = some (.null, mkh X2 V P) := by
  rw [sX9_readTest_78 N d z, nc_lt (a := 0) ht (by omega), ite_self]
theorem t78_b (h : V 135 12 = nI b) (h0 : 0 < b) (hb : b < 100) (z : Nat) (w t : Int32) : RX9_readTest_78 N d (z + 1) X2 w t V P = some (.null, mkh X2 V P) := by
  rw [sX9_readTest_78 N d z, h, nc_lt h0 (by omega)]
theorem t114 (hs : s < 30) (H : RT f n r V P) (z : Nat) (x : Int32) : RX9_readTest_114 N (e + 1) (z + 1) X2 (nI (1875 + 9 * s)) x (nI (1882 + 9 * s)) 140 V P = RX9_readTest_148 N (e + 1) z X2 (nI (1875 + 9 * s)) (nI (if tkK f n r = 60 ∨ tkK f n r = 62 ∨ tkK f n r = 61 then 1 else 0)) 135 (u2 V 140 (1882 + 9 * s) x) P := by
  have H1 : RT f n r (u2 V 140 (1882 + 9 * s) x) P := RT_o (by omega) (by omega) H
  rw [sX9_readTest_114 N (e + 1) z, q9_t140, nc_in (by omega) (by omega), nI_clamp (by omega), c9_isSign (d := e) H1 (by omega) (by omega), cI_some]
  by_cases k0 : tkK f n r = 60
  · rw [if_pos k0, nc_ne (by omega) (by omega) (by omega), if_pos (Or.inl k0)]; rfl
  rw [if_neg k0, nc_eq rfl, c9_isSign (d := e) H1 (by omega) (by omega), cI_some]
  by_cases k2 : tkK f n r = 62
  · rw [if_pos k2, nc_ne (by omega) (by omega) (by omega), if_pos (Or.inr (Or.inl k2))]; rfl
  rw [if_neg k2, nc_eq rfl, c9_isSign (d := e) H1 (by omega) (by omega), cI_some]
  by_cases k1 : tkK f n r = 61
  · rw [if_pos k1, nc_ne (by omega) (by omega) (by omega), if_pos (Or.inr (Or.inr k1))]; rfl
  · rw [if_neg k1, nc_eq rfl, if_neg (by omega)]; rfl
theorem t78_0 (hs : s < 30) (H : RT f n r V P) (h12 : V 135 12 = nI 0) (z : Nat) : ∃ x, RX9_readTest_78 N (e + 1) (z + 2) X2 (nI (1875 + 9 * s)) (nI 0) V P = RX9_readTest_148 N (e + 1) z X2 (nI (1875 + 9 * s)) (nI (if tkK f n r = 60 ∨ tkK f n r = 62 ∨ tkK f n r = 61 then 1 else 0)) 135 (u2 V 140 (1882 + 9 * s) x) P ∧ ((tkK f n r = 60 ∨ tkK f n r = 62 ∨ tkK f n r = 61) → x = nI (tkK f n r)) := by
  by_cases k3 : rk (tkK f n r) = 3
  · have kk : 59 ≤ tkK f n r ∧ tkK f n r ≤ 62 := by
      rcases rk_or f n r with ⟨a, c⟩ | ⟨a, c⟩ | ⟨a, c⟩ | ⟨a, c⟩ | ⟨a, c⟩ <;> omega
    refine ⟨nI (tkK f n r), ?_, fun _ => rfl⟩
    rw [← t114 (N := N) (e := e) (X2 := X2) hs H z, sX9_readTest_78 N (e + 1) (z + 1), h12, nc_nlt (by omega) (by omega), nc_nlt (by omega) (by omega), H.2.2.2.2.1, nc_eq k3, H.2.2.2.2.2.2.1 kk, w_7]
    rfl
  · have k5 : rk (tkK f n r) < 5 := by
      rcases rk_or f n r with ⟨a, c⟩ | ⟨a, c⟩ | ⟨a, c⟩ | ⟨a, c⟩ | ⟨a, c⟩ <;> omega
    refine ⟨nI 0, ?_, fun h => ?_⟩
    · rw [← t114 (N := N) (e := e) (X2 := X2) hs H z, sX9_readTest_78 N (e + 1) (z + 1), h12, nc_nlt (by omega) (by omega), nc_nlt (by omega) (by omega), H.2.2.2.2.1, nc_ne k3 (by omega) (by omega), w_7]
      rfl
    · exfalso
      rcases rk_or f n r with ⟨a, c⟩ | ⟨a, c⟩ | ⟨a, c⟩ | ⟨a, c⟩ | ⟨a, c⟩ <;> omega
/-- the sign of a when -/
theorem j_cmp (hn : n ≤ 900) (hB : ∀ k, k < n → isB (f k)) (hN : 10000 ≤ N) (hX : hsX X) (hD : X.2.2.2.2 = some X.2.1) (hp : p < 60) (hs : s < 30) (m : MS f n q r Z Y0 I J) (v : VS f n r V0 P0 M L) (z : Nat) :
    (∃ x b c, 0 < b ∧ b < 8 ∧ am_G am_prog (N + 30) (d + 4) 31 [.ref 118, .int (nI p)] (mkh X I J) = some (.int (nI 0), mkh X (u2 (u2 I 115 10 (nI b)) 115 11 (nI c)) J) ∧ RX9_readTest_78 N (e + 3) (z + 3) X2 (nI (1875 + 9 * s)) (nI 0) M L = am_cI (am_G am_prog (N + 30) (e + 3) 232 [.ref 135, .int (nI 0), .int (nI 9999)] (mkh X2 (flt (u2 M 140 (1882 + 9 * s) x) b c) L)) (KX9_readTest_4 N (e + 3) z (nI (1877 + 9 * s)))) ∨
    (∃ g K Y V P, (g = 60 ∨ g = 61 ∨ g = 62) ∧ am_G am_prog (N + 30) (d + 4) 31 [.ref 118, .int (nI p)] (mkh X I J) = some (.int (nI 1), mkh X K Y) ∧ RX9_readTest_78 N (e + 3) (z + 3) X2 (nI (1875 + 9 * s)) (nI 0) M L = am_cI (am_G am_prog (N + 30) (e + 3) 232 [.ref 135, .int (nI 0), .int (nI 9999)] (mkh X2 V P)) (KX9_readTest_4 N (e + 3) z (nI (1877 + 9 * s))) ∧ MS f n q (tkE f n r) (u2 Z 122 p (nI g)) Y0 K Y ∧ VS f n (tkE f n r) (u2 V0 140 (1882 + 9 * s) (nI g)) P0 V P) := by
  have fb := fkd_b f n r
  have hlt := tkK_lt f n r
  obtain ⟨x, t1, t2⟩ := t78_0 (N := N) (e := e + 2) (X2 := X2) (z := z + 1) hs v.1 v.2.1
  have v2 := vs_u (k := 1882 + 9 * s) (v := x) v
  rw [show z + 1 + 2 = z + 3 by omega, sX9_readTest_148 N (e + 2 + 1) z] at t1
  have cl := gX2_readsCompares N (d + 3) (X := X) (nI p) I J
  rw [sX2_readsCompares_0 N (d + 3) _ hX hD, m.2.2.1.2.2.2.1] at cl
  by_cases k : tkK f n r = 60 ∨ tkK f n r = 62 ∨ tkK f n r = 61
  · right
    rw [if_pos k, t2 k] at t1
    rw [t2 k] at v2
    have m2 := ms_u (a := 122) (k := p) (v := nI (tkK f n r)) m (by omega) (by omega)
    obtain ⟨K, Y, a1, m3⟩ := zs_next (N := N) (d := d + 1) (X := X) hn hB hN m2
    obtain ⟨V, P, b1, b2, b3, b4⟩ := c9_must1 (N := N) (d := e) (X := X2) hn hB hN m.2.1 v2.1 v2.2.1 (x := nI 1) rfl
    rw [b1, cV_some, kX9_readTest_3 N (e + 2 + 1), w_2] at t1
    have cl2 : am_G am_prog (N + 30) (d + 3 + 1) 31 [.ref 118, .int (nI p)] (mkh X I J) = RX2_readsCompares_34 N (d + 3) (N + 29) X (nI p) (nI (tkK f n r)) I J := by
      rcases k with k | k | k
      · rw [nc_eq k] at cl; exact cl
      · rw [nc_ne (by omega) hlt (by omega), nc_eq k] at cl; exact cl
      · rw [nc_ne (by omega) hlt (by omega), nc_ne (by omega) hlt (by omega), nc_eq k] at cl; exact cl
    rw [sX2_readsCompares_34 N (d + 3) _ hX hD, nc_in (by omega) (by omega), nI_clamp (by omega), a1, cV_some, kX2_readsCompares_1 N (d + 3) _ hX hD] at cl2
    exact ⟨tkK f n r, K, Y, V, P, by omega, cl2, t1, m3, vs_t v2 b2 b3 b4⟩
  · left
    rw [if_neg k, c9_must0 (d := e) v2.1 v2.2.1 rfl, cV_some, kX9_readTest_3 N (e + 2 + 1), w_2] at t1
    rw [nc_ne (by omega) hlt (by omega), nc_ne (by omega) hlt (by omega), nc_ne (by omega) hlt (by omega), c4_refuses (d := d + 2) m.2.2.1, cI_some, kX2_readsCompares_0 N (d + 3) _ hX hD, nb_ok (by omega)] at cl
    exact ⟨x, _, _, fb.1, by omega, cl, t1⟩
end
