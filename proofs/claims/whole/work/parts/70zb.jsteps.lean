/-! texts: joint steps of class and reference -/
/-- the class's text at r, its other cells as Z's and Y's; the reference's -/
def MS (f : Nat → Int32) (n q r : Nat) (Z : Nat → Nat → Int32) (Y0 : Nat → Nat → Int64) (I : Nat → Nat → Int32) (J : Nat → Nat → Int64) : Prop := q ≤ r ∧ r ≤ n ∧ CT f n r I J ∧ KWS J ∧ (∀ a, a ≠ 115 → I a = Z a) ∧ (∀ a, a ≠ 115 → J a = Y0 a) ∧ OK5 I
def VS (f : Nat → Int32) (n r : Nat) (V0 : Nat → Nat → Int32) (P0 : Nat → Nat → Int64) (M : Nat → Nat → Int32) (L : Nat → Nat → Int64) : Prop := RT f n r M L ∧ M 135 12 = nI 0 ∧ FTM V0 M ∧ FTL P0 L
section
variable {N d e : Nat} {X X2 : lt_X} {f : Nat → Int32} {n q r : Nat} {I M Z V0 : Nat → Nat → Int32} {J L Y0 P0 : Nat → Nat → Int64}
theorem ms_u (H : MS f n q r Z Y0 I J) {a k : Nat} {v : Int32} (h : a ≠ 115) (h2 : a ≠ 13) : MS f n q r (u2 Z a k v) Y0 (u2 I a k v) J :=
  ⟨H.1, H.2.1, CT_a (u2_na _ _ _ _ _ (by omega)) (u2_na _ _ _ _ _ (by omega)) rfl H.2.2.1, H.2.2.2.1, fun b hb => u2_fb (H.2.2.2.2.1 b hb), H.2.2.2.2.2.1, by rw [u2_na _ _ _ _ _ (by omega)]; exact H.2.2.2.2.2.2.1, by rw [u2_na _ _ _ _ _ (by omega)]; exact H.2.2.2.2.2.2.2⟩
theorem ms_o (H : MS f n q r Z Y0 I J) {k : Nat} {v : Int32} (h : k = 8 ∨ k = 9) : MS f n q r Z Y0 (u2 I 115 k v) J :=
  ⟨H.1, H.2.1, CT_o (by omega) H.2.2.1, H.2.2.2.1, fun b hb => by rw [u2_na _ _ _ _ _ hb]; exact H.2.2.2.2.1 b hb, H.2.2.2.2.2.1, by rw [u2_nk _ _ _ _ _ (by omega)]; exact H.2.2.2.2.2.2.1, by rw [u2_nk _ _ _ _ _ (by omega)]; exact H.2.2.2.2.2.2.2⟩
theorem ms_t {K : Nat → Nat → Int32} {Y : Nat → Nat → Int64} {p : Nat} (H : MS f n q r Z Y0 I J) (h1 : q ≤ p) (h2 : p ≤ n) (c : CT f n p K Y) (k : KWS Y) (hI : FTI I K) (hJ : ∀ a, a ≠ 115 → Y a = J a) : MS f n q p Z Y0 K Y :=
  ⟨h1, h2, c, k, fun a ha => by rw [hI.1 a ha]; exact H.2.2.2.2.1 a ha, fun a ha => by rw [hJ a ha]; exact H.2.2.2.2.2.1 a ha, by rw [hI.2 10 (by omega)]; exact H.2.2.2.2.2.2.1, by rw [hI.2 11 (by omega)]; exact H.2.2.2.2.2.2.2⟩
theorem vs_u (H : VS f n r V0 P0 M L) {k : Nat} {v : Int32} : VS f n r (u2 V0 140 k v) P0 (u2 M 140 k v) L :=
  ⟨RT_o (by omega) (by omega) H.1, by rw [u2_na _ _ _ _ _ (by omega)]; exact H.2.1, ⟨fun a ha => u2_fb (H.2.2.1.1 a ha), fun j hj => by rw [u2_na _ _ _ _ _ (by omega), u2_na _ _ _ _ _ (by omega)]; exact H.2.2.1.2 j hj⟩, H.2.2.2⟩
theorem vs_t {K : Nat → Nat → Int32} {P : Nat → Nat → Int64} {p : Nat} (H : VS f n r V0 P0 M L) (c : RT f n p K P) (h1 : FTM M K) (h2 : FTL L P) : VS f n p V0 P0 K P :=
  ⟨c, by rw [h1.2 12 (by omega)]; exact H.2.1, FTM_t H.2.2.1 h1, FTL_t H.2.2.2 h2⟩
theorem tkE_q {p : Nat} (h : q ≤ p) (hp : p ≤ n) : q ≤ tkE f n p ∧ tkE f n p ≤ n ∧ p ≤ tkE f n p := by
  have a := tkE_b f hp
  have b := (tkS_b f hp).1
  omega
theorem FLD_z {sp r2 : Nat} {K V : Nat → Nat → Int32} {Y P : Nat → Nat → Int64} {b s : Nat} (h0 : 0 < b) (h8 : b < 8) (hm : MS f n q r Z Y0 K Y) (hv : VS f n r2 V0 P0 V P) (gI : GI sp I Z) (gJ : GJ sp J Y0) (gM : GM M V0) (gL : GL L P0) : FLD f n sp I J M L (u2 (u2 K 115 10 (nI b)) 115 11 (nI s)) Y (flt V b s) P :=
  FLD_mk h0 h8 hv.1 (fun a h1 h2 h3 => by rw [hm.2.2.2.2.1 a h1]; exact gI a h1 h2 h3) (fun a h1 h2 => by rw [hm.2.2.2.2.2.1 a h1]; exact gJ a h1 h2) (GM_t gM (GM_F hv.2.2.1)) (GL_t gL (GL_F hv.2.2.2))
theorem FLD_u {sp k : Nat} {v : Int32} {K V : Nat → Nat → Int32} {Y P : Nat → Nat → Int64} (hk : 1716 ≤ k) (H : FLD f n sp I J M L K Y V P) : FLD f n sp I J M L K Y (u2 V 140 k v) P := by
  obtain ⟨b, s, p, h1, h2, h3, h4, h5, h6, h7, h8, h9, h10, h11⟩ := H
  exact ⟨b, s, p, h1, h2, h3, h4, by rw [u2_na _ _ _ _ _ (by omega)]; exact h5, by rw [u2_na _ _ _ _ _ (by omega)]; exact h6, RT_o (by omega) (by omega) h7, h8, h9, ⟨fun a g1 g2 => by rw [u2_na _ _ _ _ _ g2]; exact h10.1 a g1 g2, fun j hj => by rw [u2_nk _ _ _ _ _ (by omega)]; exact h10.2.1 j hj, fun j g1 g2 => by rw [u2_na _ _ _ _ _ (by omega)]; exact h10.2.2 j g1 g2⟩, h11⟩
theorem zs_next (hn : n ≤ 900) (hB : ∀ k, k < n → isB (f k)) (hN : 10000 ≤ N) (H : MS f n q r Z Y0 I J) : ∃ K Y, am_G am_prog (N + 30) (d + 2) 46 [.ref 115] (mkh X I J) = some (.null, mkh X K Y) ∧ MS f n q (tkE f n r) Z Y0 K Y := by
  obtain ⟨K, Y, a, b, c, g, g2⟩ := c4_next (N := N) (d := d) (X := X) hn hB hN H.2.2.2.1 H.2.1 H.2.2.1
  obtain ⟨t1, t2, t3⟩ := tkE_q (f := f) H.1 H.2.1
  exact ⟨K, Y, a, ms_t H t1 t2 b g2 c g⟩
theorem vs_next (hn : n ≤ 900) (hB : ∀ k, k < n → isB (f k)) (hN : 10000 ≤ N) (hr : r ≤ n) (H : VS f n r V0 P0 M L) : ∃ V P, am_G am_prog (N + 30) (d + 2) 207 [.ref 135] (mkh X M L) = some (.null, mkh X V P) ∧ VS f n (tkE f n r) V0 P0 V P := by
  obtain ⟨V, P, a, b, c, g⟩ := c9_next (N := N) (d := d) (X := X) hn hB hN hr H.1
  exact ⟨V, P, a, vs_t H b c g⟩
theorem j_num (hn : n ≤ 900) (hB : ∀ k, k < n → isB (f k)) (hN : 10000 ≤ N) {lo hi : Nat} (hlo : lo < 2 ^ 31) (hhi : hi < 2 ^ 31) (m : MS f n q r Z Y0 I J) (v : VS f n r V0 P0 M L) :
    (∃ b s, 0 < b ∧ b < 8 ∧ am_G am_prog (N + 30) (d + 3) 52 [.ref 115, .int (nI lo), .int (nI hi)] (mkh X I J) = some (.int (nI 0), mkh X (u2 (u2 I 115 10 (nI b)) 115 11 (nI s)) J) ∧ am_G am_prog (N + 30) (e + 3) 232 [.ref 135, .int (nI lo), .int (nI hi)] (mkh X2 M L) = some (.int (nI 0), mkh X2 (flt M b s) L)) ∨
    (∃ x K Y V P, lo ≤ x ∧ x ≤ hi ∧ am_G am_prog (N + 30) (d + 3) 52 [.ref 115, .int (nI lo), .int (nI hi)] (mkh X I J) = some (.int (nI 1), mkh X K Y) ∧ K 115 8 = nI x ∧ am_G am_prog (N + 30) (e + 3) 232 [.ref 135, .int (nI lo), .int (nI hi)] (mkh X2 M L) = some (.int (nI x), mkh X2 V P) ∧ MS f n q (tkE f n r) Z Y0 K Y ∧ VS f n (tkE f n r) V0 P0 V P) := by
  have fb := fkd_b f n r
  by_cases g : tkK f n r = 1
  · by_cases g2 : lo ≤ tkV f n r ∧ tkV f n r ≤ hi
    · right
      obtain ⟨K, Y, a1, a2, a3, a4, a5, a6⟩ := c4_number1 (N := N) (d := d) (X := X) hn hB hN m.2.2.2.1 m.2.1 m.2.2.1 hlo hhi g g2.1 g2.2
      obtain ⟨V, P, b1, b2, b3, b4⟩ := c9_count1 (N := N) (d := e) (X := X2) hn hB hN m.2.1 v.1 v.2.1 g hlo hhi g2.1 g2.2
      obtain ⟨t1, t2, t3⟩ := tkE_q (f := f) m.1 m.2.1
      exact ⟨_, K, Y, V, P, g2.1, g2.2, a1, a3, b1, ms_t (ms_o (k := 8) m (by omega)) t1 t2 a2 a6 a4 a5, vs_t v b2 b3 b4⟩
    · exact Or.inl ⟨4, _, by omega, by omega, c4_number4 m.2.2.1 hlo hhi g g2, c9_count4 v.1 v.2.1 g hlo hhi g2⟩
  · exact Or.inl ⟨_, _, fb.1, by omega, c4_number0 m.2.2.1 g, c9_count0 v.1 v.2.1 g _ _⟩
theorem j_takes (hn : n ≤ 900) (hB : ∀ k, k < n → isB (f k)) (hN : 10000 ≤ N) {kd : Nat} (hkd : kd < 2 ^ 32) {x : Int32} (hx : x = nI (if tkK f n r = kd then 1 else 0)) (m : MS f n q r Z Y0 I J) (v : VS f n r V0 P0 M L) :
    (∃ b s, 0 < b ∧ b < 8 ∧ am_G am_prog (N + 30) (d + 3) 51 [.ref 115, .int (nI kd)] (mkh X I J) = some (.int (nI 0), mkh X (u2 (u2 I 115 10 (nI b)) 115 11 (nI s)) J) ∧ am_G am_prog (N + 30) (e + 3) 231 [.ref 135, .int x] (mkh X2 M L) = some (.null, mkh X2 (flt M b s) L)) ∨
    (∃ K Y V P, tkK f n r = kd ∧ am_G am_prog (N + 30) (d + 3) 51 [.ref 115, .int (nI kd)] (mkh X I J) = some (.int (nI 1), mkh X K Y) ∧ am_G am_prog (N + 30) (e + 3) 231 [.ref 135, .int x] (mkh X2 M L) = some (.null, mkh X2 V P) ∧ MS f n q (tkE f n r) Z Y0 K Y ∧ VS f n (tkE f n r) V0 P0 V P) := by
  have fb := fkd_b f n r
  by_cases g : tkK f n r = kd
  · right
    rw [if_pos g] at hx
    obtain ⟨K, Y, a1, a2, a3, a4, a5⟩ := c4_takes1 (N := N) (d := d) (X := X) hn hB hN m.2.2.2.1 m.2.1 m.2.2.1 g
    obtain ⟨V, P, b1, b2, b3, b4⟩ := c9_must1 (N := N) (d := e) (X := X2) hn hB hN m.2.1 v.1 v.2.1 hx
    obtain ⟨t1, t2, t3⟩ := tkE_q (f := f) m.1 m.2.1
    exact ⟨K, Y, V, P, g, a1, b1, ms_t m t1 t2 a2 a5 a3 a4, vs_t v b2 b3 b4⟩
  · rw [if_neg g] at hx
    exact Or.inl ⟨_, _, fb.1, by omega, c4_takes0 m.2.2.1 hkd g, c9_must0 v.1 v.2.1 hx⟩
theorem j_told (hn : n ≤ 900) (hB : ∀ k, k < n → isB (f k)) (hN : 10000 ≤ N) {t bl k c : Nat} (ht : isT t) (hbl : bl ≤ 4) (hk : k < 4) (hc : c ≤ 6) (h2 : Z (t + 2) k = nI c) (h3 : V0 140 (429 * bl + k) = nI c) (hnm : ∀ i, i < c → Y0 (t + 1) (6 * k + i) = P0 142 (24 * bl + (6 * k + i))) (m : MS f n q r Z Y0 I J) (v : VS f n r V0 P0 M L) :
    (∃ I' b s, 0 < b ∧ b < 8 ∧ MS f n q r Z Y0 I' J ∧ am_G am_prog (N + 30) (d + 4) 54 [.ref 115, .ref t, .int (nI k)] (mkh X I J) = some (.int (nI 0), mkh X (u2 (u2 I' 115 10 (nI b)) 115 11 (nI s)) J) ∧ am_G am_prog (N + 30) (e + 6) 245 [.ref 135, .int (nI bl), .int (nI k)] (mkh X2 M L) = some (.int (nI 0), mkh X2 (flt M b s) L)) ∨
    (∃ x K Y V P, x < c ∧ am_G am_prog (N + 30) (d + 4) 54 [.ref 115, .ref t, .int (nI k)] (mkh X I J) = some (.int (nI 1), mkh X K Y) ∧ K 115 9 = nI x ∧ am_G am_prog (N + 30) (e + 6) 245 [.ref 135, .int (nI bl), .int (nI k)] (mkh X2 M L) = some (.int (nI x), mkh X2 V P) ∧ MS f n q (tkE f n r) Z Y0 K Y ∧ VS f n (tkE f n r) V0 P0 V P) := by
  have fb := fkd_b f n r
  have htt := ht
  unfold isT at htt
  have c2 : I (t + 2) k = nI c := by rw [m.2.2.2.2.1 _ (by omega)]; exact h2
  have c3 : M 140 (429 * bl + k) = nI c := by rw [v.2.2.1.1 140 (by omega)]; exact h3
  have nm : fdN (J (t + 1)) k c (lN (tkW f n r)) = fdN (fun j => L 142 (24 * bl + j)) k c (lN (tkW f n r)) := fdN_congr (fun i hi => by rw [m.2.2.2.2.2.1 _ (by omega), v.2.2.2.1 142 (by omega)]; exact hnm i hi) _
  by_cases g : tkK f n r = 2
  · rcases fdN_or (J (t + 1)) k c (lN (tkW f n r)) with g2 | g2
    · right
      obtain ⟨K, Y, a1, a2, a3, a4, a5, a6⟩ := c4_takesName1 (N := N) (d := d) (X := X) hn hB m.2.2.2.1 m.2.1 ht m.2.2.1 hk hc c2 hN g g2
      obtain ⟨V, P, b1, b2, b3, b4⟩ := c9_readTold1 (N := N) (d := e) (X := X2) hn hB m.2.1 hbl hk hc c3 hN v.1 v.2.1 g (by rw [← nm]; exact g2)
      rw [← nm] at b1
      obtain ⟨t1, t2, t3⟩ := tkE_q (f := f) m.1 m.2.1
      exact ⟨_, K, Y, V, P, g2, a1, a3, b1, ms_t (ms_o (k := 9) m (by omega)) t1 t2 a2 a6 a4 a5, vs_t v b2 b3 b4⟩
    · exact Or.inl ⟨_, 3, _, by omega, by omega, ms_o m (by omega), c4_takesName3 ht m.2.2.1 hk hc c2 (by omega) g g2, c9_readTold3 hbl hk hc c3 (by omega) v.1 v.2.1 g (by rw [← nm]; exact g2)⟩
  · exact Or.inl ⟨_, _, _, fb.1, by omega, m, c4_takesName0 ht m.2.2.1 _ g, c9_readTold0 v.1 v.2.1 g _ _⟩
theorem j_is (hN : 10000 ≤ N) {t bl k c : Nat} (ht : isT t) (hbl : bl ≤ 4) (hk : k < 4) (hc : c ≤ 6) (h2 : Z (t + 2) k = nI c) (h3 : V0 140 (429 * bl + k) = nI c) (hnm : ∀ i, i < c → Y0 (t + 1) (6 * k + i) = P0 142 (24 * bl + (6 * k + i))) (m : MS f n q r Z Y0 I J) (v : VS f n r V0 P0 M L) :
    (∃ I' b s, 0 < b ∧ b < 8 ∧ MS f n q r Z Y0 I' J ∧ am_G am_prog (N + 30) (d + 3) 53 [.ref 115, .ref t, .int (nI k)] (mkh X I J) = some (.int (nI 0), mkh X (u2 (u2 I' 115 10 (nI b)) 115 11 (nI s)) J) ∧ am_G am_prog (N + 30) (e + 5) 244 [.ref 135, .int (nI bl), .int (nI k)] (mkh X2 M L) = some (.int (nI 0), mkh X2 (flt M b s) L)) ∨
    (∃ x, x < c ∧ am_G am_prog (N + 30) (d + 3) 53 [.ref 115, .ref t, .int (nI k)] (mkh X I J) = some (.int (nI 1), mkh X (u2 I 115 9 (nI x)) J) ∧ am_G am_prog (N + 30) (e + 5) 244 [.ref 135, .int (nI bl), .int (nI k)] (mkh X2 M L) = some (.int (nI x), mkh X2 M L) ∧ MS f n q r Z Y0 (u2 I 115 9 (nI x)) J) := by
  have fb := fkd_b f n r
  have htt := ht
  unfold isT at htt
  have c2 : I (t + 2) k = nI c := by rw [m.2.2.2.2.1 _ (by omega)]; exact h2
  have c3 : M 140 (429 * bl + k) = nI c := by rw [v.2.2.1.1 140 (by omega)]; exact h3
  have nm : fdN (J (t + 1)) k c (lN (tkW f n r)) = fdN (fun j => L 142 (24 * bl + j)) k c (lN (tkW f n r)) := fdN_congr (fun i hi => by rw [m.2.2.2.2.2.1 _ (by omega), v.2.2.2.1 142 (by omega)]; exact hnm i hi) _
  by_cases g : tkK f n r = 2
  · rcases fdN_or (J (t + 1)) k c (lN (tkW f n r)) with g2 | g2
    · refine Or.inr ⟨_, g2, c4_isNameOf1 ht m.2.2.1 hk hc c2 (by omega) g g2, ?_, ms_o m (by omega)⟩
      have b1 := c9_told1 (N := N) (d := e) (X := X2) hbl hk hc c3 (by omega) v.1 v.2.1 g (by rw [← nm]; exact g2)
      rw [← nm] at b1
      exact b1
    · exact Or.inl ⟨_, 3, _, by omega, by omega, ms_o m (by omega), c4_isNameOf3 ht m.2.2.1 hk hc c2 (by omega) g g2, c9_told3 hbl hk hc c3 (by omega) v.1 v.2.1 g (by rw [← nm]; exact g2)⟩
  · exact Or.inl ⟨_, _, _, fb.1, by omega, m, c4_isNameOf0 ht m.2.2.1 _ g, c9_told0 v.1 v.2.1 g _ _⟩
end
