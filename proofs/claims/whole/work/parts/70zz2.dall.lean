/-! texts: dials; all steps, then the end on both sides -/
/-- class's rounds come to A, the reference's to B -/
def DO (f : Nat → Int32) (n N d : Nat) (T : Nat → Nat) (X X2 : lt_X) (K : Nat → Nat → Int32) (Y : Nat → Nat → Int64) (V : Nat → Nat → Int32) (P : Nat → Nat → Int64) (A B : am_O) : Prop :=
  (∃ K1 Y1 V1 P1 z, A = some (.int (nI 0), mkh X K1 Y1) ∧ B = RX9_dials_50 N d (z + 302) X2 V1 P1 ∧ FD f n K Y V P K1 Y1 V1 P1) ∨
  (∃ s p K1 Y1 V1 P1 z, A = some (.int (nI 1), mkh X (u2 K1 119 5 (nI 1)) Y1) ∧ B = RX9_dials_50 N d (z + 302) X2 V1 P1 ∧ s ≤ 30 ∧ p ≤ 60 ∧ K1 119 6 = nI p ∧ K1 119 7 = nI s ∧ K1 115 10 = nI 0 ∧ K1 115 11 = -1 ∧ V1 135 12 = nI 0 ∧ V1 135 25 = nI s ∧ DI 0 0 K K1 ∧ DJ Y Y1 ∧ DV 0 V V1 ∧ FTL P P1 ∧ DLs T K1 V1 0 s 0 p)
section
variable {N d e : Nat} {X X2 : lt_X} {f : Nat → Int32} {n : Nat} {T : Nat → Nat} {K V : Nat → Nat → Int32} {Y P : Nat → Nat → Int64}
theorem d28_t {q z : Nat} {M : Nat → Nat → Int32} {L : Nat → Nat → Int64} (hR : RT f n q M L) (h12 : M 135 12 = nI 0) (k0 : tkK f n q = 0) : RX9_dials_28 N (d + 39) (z + 1) X2 M L = RX9_dials_50 N (d + 39) z X2 M L := by
  rw [sX9_dials_28 N (d + 39) z, h12, nc_eq rfl, hR.2.2.2.2.1, nc_eq ((rk_0 f n q).mpr k0)]
theorem d28_b {b z : Nat} {M : Nat → Nat → Int32} {L : Nat → Nat → Int64} (h12 : M 135 12 = nI b) (h0 : 0 < b) (h8 : b < 8) : RX9_dials_28 N (d + 39) (z + 1) X2 M L = RX9_dials_50 N (d + 39) z X2 M L := by
  rw [sX9_dials_28 N (d + 39) z, h12, nc_ne (by omega) (by omega) (by omega)]
theorem d28_g {q z : Nat} {M : Nat → Nat → Int32} {L : Nat → Nat → Int64} (hR : RT f n q M L) (h12 : M 135 12 = nI 0) (k0 : tkK f n q ≠ 0) : RX9_dials_28 N (d + 39) (z + 1) X2 M L = am_cV (am_G am_prog (N + 30) (d + 30 + 9) 256 [.ref 135, .int (nI 0)] (mkh X2 M L)) (KX9_dials_1 N (d + 39) z) := by
  have rk0 : rk (tkK f n q) ≠ 0 := fun h => k0 ((rk_0 f n q).mp h)
  have rk4 : rk (tkK f n q) < 5 := by rcases rk_or f n q with ⟨r, c⟩ | ⟨r, c⟩ | ⟨r, c⟩ | ⟨r, c⟩ | ⟨r, c⟩ <;> omega
  rw [sX9_dials_28 N (d + 39) z, h12, nc_eq rfl, hR.2.2.2.2.1, nc_ne rk0 (by omega) (by omega)]
theorem trm_0 {k : Nat} : trm 0 k ↔ k = 0 := ⟨fun h => by rcases h with ⟨_, h⟩ | ⟨h, _⟩ <;> omega, fun h => Or.inl ⟨rfl, h⟩⟩
theorem d_all (hn3 : n ≤ 300) (hB : ∀ k, k < n → isB (f k)) (hN : 10000 ≤ N) (hX : hsX X) (hD : X.2.2.2.2 = some X.2.1) (H : JD f n T X.2.1 0 0 0 0 K Y V P) : DO f n N (d + 39) T X X2 K Y V P (RX2_readsFor_19 N (d + 37) (N + 29) X (nI 0) K Y) (RX9_dials_28 N (d + 39) (N + 29) X2 V P) := by
  have hn : n ≤ 900 := by omega
  have stp : ∀ {q s p : Nat} {I M : Nat → Nat → Int32} {J L : Nat → Nat → Int64}, JD f n T X.2.1 q 0 s p I J M L → ¬ trm 0 (tkK f n q) → SO f n T X X2 N (d + 32) q 0 s p I J M L (am_G am_prog (N + 30) (d + 30 + 9) 256 [.ref 135, .int (nI 0)] (mkh X2 M L)) := fun H h => j_step (N := N) (d := d + 32) (e := d + 27) (X := X) (X2 := X2) hn hB hN hX hD 3 0 rfl H h
  have W := j_seq (N := N) (d := d + 32) (e := d + 30) (X := X) (X2 := X2) (f := f) (n := n) (T := T) (l := 0) (run := fun z M L => RX9_dials_28 N (d + 39) z X2 M L) (done := fun z M L => RX9_dials_50 N (d + 39) z X2 M L) (kk := fun z => KX9_dials_1 N (d + 39) z) hn hB hN hX hD stp (fun z q M L hR h12 ht => d28_t hR h12 (trm_0.mp ht)) (fun z q b M L hR h12 h0 h8 => d28_b h12 h0 h8) (fun z q M L hR h12 ht => d28_g hR h12 (fun h => ht (trm_0.mpr h))) (fun z V P => kX9_dials_1 N (d + 39) z V P) n 0 (by omega) H (N + 27 - n)
  rcases W with ⟨K1, Y1, V1, P1, c, c1, c2, ⟨y, c3⟩, F⟩ | ⟨r, s, p, K1, Y1, V1, P1, c, hr, hc, c2, ⟨y, c3⟩, hJ, ht, gI, gJ, gM, gL, gD⟩
  · have c3' : RX9_dials_28 N (d + 39) (N + 27 - n + n + 2) X2 V P = RX9_dials_50 N (d + 39) (N + 27 - n + y) X2 V1 P1 := c3
    rw [show N + 27 - n + n + 2 = N + 29 by omega, show N + 27 - n + y = N + 27 - n + y - 302 + 302 by omega] at c3'
    refine Or.inl ⟨K1, Y1, V1, P1, N + 27 - n + y - 302, ?_, c3', F⟩
    have e := c2 (N + 29 - c) 0 (Nat.le_refl 0)
    rw [show N + 29 - c + c = N + 29 by omega] at e
    exact e
  · have c3' : RX9_dials_28 N (d + 39) (N + 27 - n + n + 2) X2 V P = RX9_dials_50 N (d + 39) (N + 27 - n + y) X2 V1 P1 := c3
    rw [show N + 27 - n + n + 2 = N + 29 by omega, show N + 27 - n + y = N + 27 - n + y - 302 + 302 by omega] at c3'
    obtain ⟨j1, j2, j3, j4, j5, j6, j7, j8, j9, j10, j11, j12, j13, j14, j15⟩ := hJ
    have e := c2 (N + 29 - c) 0 (Nat.le_refl 0)
    have e2 : RX2_readsFor_19 N (d + 37) (N + 29 - c + c) X (nI 0) K Y = RX2_readsFor_19 N (d + 37) (N + 29 - c) X (nI (0 + c)) K1 Y1 := e
    rw [show N + 29 - c + c = N + 29 by omega, show N + 29 - c = N + 27 - c + 1 + 1 by omega, sX2_readsFor_19 N (d + 37) (N + 27 - c + 1) hX, nc_nlt (by omega) (by omega), j6.2.2.2.1, nc_eq (trm_0.mp ht), sX2_readsFor_51 N (d + 37) (N + 27 - c) hX, j9, nc_eq rfl] at e2
    exact Or.inr ⟨s, p, K1, Y1, V1, P1, N + 27 - n + y - 302, e2, c3', j3, by omega, j10, j11, j8.1, j8.2, j13, j14, gI, gJ, gM, gL, gD⟩
end
