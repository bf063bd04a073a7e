/-! texts: the pair of town -/
section
variable {N d e : Nat} {X X2 : lt_X} {f : Nat → Int32} {n m t b : Nat} {I M : Nat → Nat → Int32} {J L : Nat → Nat → Int64}
theorem c9_isWell0 (h : M 135 12 = nI 0) : am_G am_prog (N + 30) (e + 2) 238 [.ref 135] (mkh X M L) = some (.int (nI 1), mkh X (u2 (u2 M 135 10 (nI 0)) 135 11 (-1)) L) := by
  have r : RX9_isWell_24 N e (N + 29) X (-1) 135 (u2 M 135 10 (nI 0)) L = some (.int (nI 1), mkh X (u2 (u2 M 135 10 (nI 0)) 135 11 (-1)) L) := by
    have a : u2 (u2 M 135 10 (nI 0)) 135 11 (-1) 135 12 = nI 0 := by rw [u2_nk _ _ _ _ _ (by omega), u2_nk _ _ _ _ _ (by omega)]; exact h
    rw [sX9_isWell_24 N e (N + 28), q9_pI, q9_gI, a, nc_eq rfl]
  rw [gX9_isWell N e, sX9_isWell_0 N e, h, nc_eq rfl]
  exact r
theorem c9_isWellb (h : M 135 12 = nI b) (h0 : 0 < b) (hb : b < 100) : am_G am_prog (N + 30) (e + 2) 238 [.ref 135] (mkh X M L) = some (.int (nI 0), mkh X (u2 (u2 (u2 M 135 10 (nI b)) 135 11 (M 135 13)) 135 0 (nI 10)) L) := by
  have r : RX9_isWell_24 N e (N + 29) X (M 135 13) 135 (u2 M 135 10 (nI b)) L = some (.int (nI 0), mkh X (u2 (u2 (u2 M 135 10 (nI b)) 135 11 (M 135 13)) 135 0 (nI 10)) L) := by
    have a : u2 (u2 M 135 10 (nI b)) 135 11 (M 135 13) 135 12 = nI b := by rw [u2_nk _ _ _ _ _ (by omega), u2_nk _ _ _ _ _ (by omega)]; exact h
    rw [sX9_isWell_24 N e (N + 28), q9_pI, q9_gI, a, nc_ne (by omega) (by omega) (by omega), gX9_no N e, sX9_no_0 N e, cI_some, nc_eq rfl]
  rw [gX9_isWell N e, sX9_isWell_0 N e, h, nc_ne (by omega) (by omega) (by omega)]
  exact r
/-- the reference's cells when a TOWN's reading starts -/
def RS (f : Nat → Int32) (m : Nat) (M V : Nat → Nat → Int32) (L P : Nat → Nat → Int64) : Prop :=
  RT f m 0 V P ∧ V 135 12 = nI 0 ∧ TM (fun k => V 140 (1716 + k)) emT ∧ V 135 24 = nI 0 ∧ ZB (V 140) emT ∧ V 135 8 = nI 0 ∧ V 135 0 = nI 0 ∧ (∀ a, a ≠ 135 → a ≠ 140 → V a = M a) ∧ (∀ k, k < 1716 → V 140 k = M 140 k) ∧ (∀ k, k = 10 ∨ k = 11 ∨ k = 23 ∨ k = 33 → V 135 k = M 135 k) ∧ FTL L P
theorem r_start (hm : m ≤ 900) (hB : ∀ k, k < m → isB (f k)) (hN : 10000 ≤ N) (ht : t ≤ 900) (h8 : M 135 8 = nI t) (hmt : m ≤ t) (h139 : ∀ k, k < m → M 139 k = f k) : ∃ V P, am_G am_prog (N + 30) (d + 40) 253 [.ref 135, .int (nI m)] (mkh X2 M L) = RX9_town_33 N (d + 39) (N + 29) X2 V P ∧ RS f m M V L P := by
  have rf := gX9_town N (d + 39) (X := X2) (nI m) M L
  rw [sX9_town_0 N (d + 39)] at rf
  obtain ⟨V1, P1, a1, a2, a3, a4, a5, a6, a7⟩ := c9_starts1 (N := N) (e := d + 35) (X := X2) (M := u2 (u2 M 135 1 (nI 0)) 135 0 (nI 0)) (L := L) (f := f) (n := m) (t := t) (mx := 900) hm hB hN ht (by rw [u2_nk _ _ _ _ _ (by omega), u2_nk _ _ _ _ _ (by omega)]; exact h8) hmt hm (by omega) (fun k hk => by rw [u2_na _ _ _ _ _ (by omega), u2_na _ _ _ _ _ (by omega)]; exact h139 k hk)
  obtain ⟨V2, b1, b2, b3, b4, b5, -⟩ := c9_empties4 (N := N) (e := d + 38) (X := X2) (M := V1) (L := P1) hN
  rw [a1, cI_some, kX9_town_0 N (d + 39), nc_ne (by omega) (by omega) (by omega), b1, cV_some, kX9_town_3 N (d + 39)] at rf
  refine ⟨_, P1, rf, RT_o (by omega) (by omega) (RT_a (b4 139 (by omega)) (fun k _ => by rw [b4 135 (by omega)]) rfl a2), ?_, ?_, u2_at _ _ _ _, ?_, ?_, ?_, fun a h1 h2 => ?_, fun k hk => ?_, fun k hk => ?_, a7⟩
  · rw [u2_nk _ _ _ _ _ (by omega), b4 135 (by omega)]; exact a3
  · rw [u2_na _ _ _ _ _ (by omega)]; exact b2
  · rw [u2_na _ _ _ _ _ (by omega)]; exact b3
  · rw [u2_nk _ _ _ _ _ (by omega), b4 135 (by omega)]; exact a4
  · rw [u2_nk _ _ _ _ _ (by omega), b4 135 (by omega), a6 0 (by omega) (by omega) (by omega) (by omega), u2_at]
  · rw [u2_na _ _ _ _ _ h1, b4 a h2, a5 a h1, u2_na _ _ _ _ _ h1, u2_na _ _ _ _ _ h1]
  · rw [u2_na _ _ _ _ _ (by omega), b5 k hk, a5 140 (by omega), u2_na _ _ _ _ _ (by omega), u2_na _ _ _ _ _ (by omega)]
  · rw [u2_nk _ _ _ _ _ (by omega), b4 135 (by omega), a6 k (by omega) (by omega) (by omega) (by omega), u2_nk _ _ _ _ _ (by omega), u2_nk _ _ _ _ _ (by omega)]
theorem CT_o2 {f : Nat → Int32} {n q : Nat} {I : Nat → Nat → Int32} {J : Nat → Nat → Int64} {a k : Nat} {v : Int32} (h1 : a ≠ 13) (h2 : a ≠ 115) (H : CT f n q I J) : CT f n q (u2 I a k v) J := CT_a (u2_na _ _ _ _ _ (by omega)) (u2_na _ _ _ _ _ (by omega)) rfl H
/-- X, with the spare town as the reader's -/
def Xs (X : lt_X) : lt_X := (X.1, X.2.1, X.2.2.1, some X.2.2.1, X.2.2.2.2)
def CS (m : Nat) (X : lt_X) (I K : Nat → Nat → Int32) (J Y : Nat → Nat → Int64) : Prop :=
  CT (I 13) m 0 K Y ∧ KWS Y ∧ OK5 K ∧ TC K X.2.2.1 emT ∧ K 117 2 = nI 0 ∧ (∀ a, a ≠ 3 → a ≠ 115 → a ≠ 117 → ¬ (X.2.2.1 ≤ a ∧ a < X.2.2.1 + 15) → K a = I a) ∧ (∀ k, k ≠ 2 → k ≠ 14 → K 3 k = I 3 k) ∧ K 3 2 = nI 0 ∧ K 3 14 = nI 1 ∧ (K (X.2.2.1 + 14) 5 = nI 0 ∧ K (X.2.2.1 + 14) 6 = nI 0 ∧ K (X.2.2.1 + 14) 7 = nI 0) ∧ (∀ a, a ≠ 115 → Y a = J a)
theorem c_start (hX : hsX X) (hm : m ≤ 900) (hB : ∀ k, k < m → isB (I 13 k)) (hN : 10000 ≤ N) (hK : KWS J) (ht : t ≤ 900) (h2 : I 3 2 = nI t) (hmt : m ≤ t) : ∃ K Y, am_G am_prog (N + 30) (d + 40) 122 [.ref 3, .int (nI m)] (mkh X I J) = am_cI (RX6_readsInto_19 N (d + 38) (N + 29) (Xs X) (nI 0) K Y) (KX8_town_1 N (d + 38) (N + 29)) ∧ CS m X I K J Y := by
  obtain ⟨htT, htt⟩ := hX_T hX
  have cl := gX8_town N (d + 38) (X := X) (nI m) I J
  obtain ⟨K1, Y, a1, a2, a3, a4, a5, a6⟩ := c4_open (N := N) (d := d + 36) (X := X) (I := I) (J := J) hm hB hN hK
  obtain ⟨K2, b1, b2, b3, b4⟩ := c5_clear (N := N) (d := d + 36) (X := Xs X) (I := u2 (u2 K1 3 2 (nI 0)) 3 14 (nI 1)) (J := Y) htT
  rw [sX8_town_0 N (d + 38) _ hX, nc_nlt (by omega) (by omega), h2, nc_nlt (by omega) (by omega), a1, cV_some, kX8_town_0 N (d + 38) _ hX, gX6_readsInto N (d + 38) hX, sX6_readsInto_0 N (d + 38) _ hX] at cl
  have cl2 : am_G am_prog (N + 30) (d + 38 + 2) 122 [.ref 3, .int (nI m)] (mkh X I J) = am_cI (am_cV (am_G am_prog (N + 30) (d + 38) 57 [.ref X.2.2.1] (mkh (Xs X) (u2 (u2 K1 3 2 (nI 0)) 3 14 (nI 1)) Y)) (KX6_readsInto_0 N (d + 38) (N + 29))) (KX8_town_1 N (d + 38) (N + 29)) := cl
  rw [b1, cV_some, kX6_readsInto_0 N (d + 38) _ (X := Xs X) hX] at cl2
  refine ⟨_, Y, cl2, CT_o2 (by omega) (by omega) (CT_a ?_ ?_ rfl a2), a3, ⟨?_, ?_⟩, TC_frame (fun a h1 h2 => u2_na _ _ _ _ _ (by omega)) b2, u2_at _ _ _ _, fun a h1 h2 h3 h4 => ?_, fun k h1 h2 => ?_, ?_, ?_, ?_, a6⟩
  · rw [b3 13 (by omega) (by omega) (by omega), u2_na _ _ _ _ _ (by omega), u2_na _ _ _ _ _ (by omega)]
  · rw [b3 115 (by omega) (by omega) (by omega), u2_na _ _ _ _ _ (by omega), u2_na _ _ _ _ _ (by omega)]
  · rw [u2_na _ _ _ _ _ (by omega), b3 115 (by omega) (by omega) (by omega), u2_na _ _ _ _ _ (by omega), u2_na _ _ _ _ _ (by omega)]; exact a4.1
  · rw [u2_na _ _ _ _ _ (by omega), b3 115 (by omega) (by omega) (by omega), u2_na _ _ _ _ _ (by omega), u2_na _ _ _ _ _ (by omega)]; exact a4.2
  · rw [u2_na _ _ _ _ _ h3, b3 a (by omega) (by omega) (by omega), u2_na _ _ _ _ _ h1, u2_na _ _ _ _ _ h1, a5 a h2]
  · rw [u2_na _ _ _ _ _ (by omega), b3 3 (by omega) (by omega) (by omega), u2_nk _ _ _ _ _ h2, u2_nk _ _ _ _ _ h1, a5 3 (by omega)]
  · rw [u2_na _ _ _ _ _ (by omega), b3 3 (by omega) (by omega) (by omega), u2_nk _ _ _ _ _ (by omega), u2_at]
  · rw [u2_na _ _ _ _ _ (by omega), b3 3 (by omega) (by omega) (by omega), u2_at]
  · rw [u2_na _ _ _ _ _ (by omega)]; exact b4
end
