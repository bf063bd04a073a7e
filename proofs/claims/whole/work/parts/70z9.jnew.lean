/-! texts: a TOWN's reading, class and reference side by side -/
/-- frames of a reading: class's cells, the reference's -/
def GI (sp : Nat) (I K : Nat → Nat → Int32) : Prop := ∀ a, a ≠ 115 → a ≠ 117 → ¬ (sp ≤ a ∧ a < sp + 14) → K a = I a
def GJ (sp : Nat) (J Y : Nat → Nat → Int64) : Prop := ∀ a, a ≠ 115 → a ≠ sp + 1 → Y a = J a
def GM (M V : Nat → Nat → Int32) : Prop := (∀ a, a ≠ 135 → a ≠ 140 → V a = M a) ∧ (∀ k, k < 1716 → V 140 k = M 140 k) ∧ (∀ k, ¬ (12 ≤ k ∧ k ≤ 18) → k ≠ 24 → V 135 k = M 135 k)
def GL (L P : Nat → Nat → Int64) : Prop := (∀ a, a ≠ 135 → a ≠ 142 → P a = L a) ∧ (∀ k, k < 96 → P 142 k = L 142 k) ∧ (∀ k, k ≠ 19 → P 135 k = L 135 k)
theorem GI_t {sp : Nat} {I K Z : Nat → Nat → Int32} (H : GI sp I K) (H2 : GI sp K Z) : GI sp I Z := fun a h1 h2 h3 => by rw [H2 a h1 h2 h3, H a h1 h2 h3]
theorem GJ_t {sp : Nat} {I K Z : Nat → Nat → Int64} (H : GJ sp I K) (H2 : GJ sp K Z) : GJ sp I Z := fun a h1 h2 => by rw [H2 a h1 h2, H a h1 h2]
theorem GM_t {I K Z : Nat → Nat → Int32} (H : GM I K) (H2 : GM K Z) : GM I Z := ⟨fun a h1 h2 => by rw [H2.1 a h1 h2, H.1 a h1 h2], fun k h => by rw [H2.2.1 k h, H.2.1 k h], fun k h1 h2 => by rw [H2.2.2 k h1 h2, H.2.2 k h1 h2]⟩
theorem GL_t {I K Z : Nat → Nat → Int64} (H : GL I K) (H2 : GL K Z) : GL I Z := ⟨fun a h1 h2 => by rw [H2.1 a h1 h2, H.1 a h1 h2], fun k h => by rw [H2.2.1 k h, H.2.1 k h], fun k h => by rw [H2.2.2 k h, H.2.2 k h]⟩
theorem GM_F {M K : Nat → Nat → Int32} (H : FTM M K) : GM M K := ⟨fun a h1 _ => H.1 a h1, fun k _ => by rw [H.1 140 (by omega)], fun k h _ => H.2 k (by omega)⟩
theorem GL_F {L P : Nat → Nat → Int64} (H : FTL L P) : GL L P := ⟨fun a h1 _ => H.1 a h1, fun k _ => by rw [H.1 142 (by omega)], H.2⟩
theorem GM_flt {M V : Nat → Nat → Int32} (H : GM M V) (k s : Nat) : GM M (flt V k s) := ⟨fun a h1 h2 => by rw [flt_na _ _ _ h1]; exact H.1 a h1 h2, fun j h => by rw [flt_na _ _ _ (by omega)]; exact H.2.1 j h, fun j h1 h2 => by rw [flt_nk _ _ _ (by omega) (by omega)]; exact H.2.2 j h1 h2⟩
/-- what the reference keeps beyond its counts -/
def ZB (c : Nat → Int32) (T : Nat → Nat) : Prop := (∀ v, T 1 ≤ v → v < 6 → c (1747 + v) = nI 0) ∧ (∀ p, T 2 ≤ p → p < 6 → c (1759 + p) = nI 0 ∧ c (1765 + p) = nI 0 ∧ ∀ s, s < 6 → c (1837 + 6 * p + s) = nI 0) ∧ c 1873 = nI 0 ∧ c 1874 = nI 0
/-- no fault yet, as the class's text has it -/
def OK5 (I : Nat → Nat → Int32) : Prop := I 115 10 = nI 0 ∧ I 115 11 = -1
def JS (f : Nat → Int32) (n : Nat) (sp : Nat) (q : Nat) (T : Nat → Nat) (o : Nat) (I : Nat → Nat → Int32) (J : Nat → Nat → Int64) (M : Nat → Nat → Int32) (L : Nat → Nat → Int64) : Prop :=
  q ≤ n ∧ o ≤ 1 ∧ WF T ∧ frsh T ∧ CT f n q I J ∧ KWS J ∧ TC I sp T ∧ I 117 2 = nI o ∧ RT f n q M L ∧ M 135 12 = nI 0 ∧ TM (fun k => M 140 (1716 + k)) T ∧ M 135 24 = nI o ∧ ZB (M 140) T ∧ NM (J (sp + 1)) (fun k => L 142 (96 + k)) T ∧ OK5 I
/-- a fault that both keep -/
def FLD (f : Nat → Int32) (n : Nat) (sp : Nat) (I : Nat → Nat → Int32) (J : Nat → Nat → Int64) (M : Nat → Nat → Int32) (L : Nat → Nat → Int64) (K : Nat → Nat → Int32) (Y : Nat → Nat → Int64) (V : Nat → Nat → Int32) (P : Nat → Nat → Int64) : Prop :=
  ∃ b s r, 0 < b ∧ b < 8 ∧ K 115 10 = nI b ∧ K 115 11 = nI s ∧ V 135 12 = nI b ∧ V 135 13 = nI s ∧ RT f n r V P ∧ GI sp I K ∧ GJ sp J Y ∧ GM M V ∧ GL L P
theorem FLD_mk {f : Nat → Int32} {n sp r : Nat} {I K M V : Nat → Nat → Int32} {J L Y P : Nat → Nat → Int64} {b s : Nat} (h0 : 0 < b) (h8 : b < 8) (hR : RT f n r V P) (gI : GI sp I K) (gJ : GJ sp J Y) (gM : GM M V) (gL : GL L P) : FLD f n sp I J M L (u2 (u2 K 115 10 (nI b)) 115 11 (nI s)) Y (flt V b s) P :=
  ⟨b, s, r, h0, h8, by rw [u2_nk _ _ _ _ _ (by omega), u2_at], u2_at _ _ _ _, flt_12 _ _ _, flt_13 _ _ _, RT_flt _ _ hR, fun a h1 h2 h3 => by rw [u2_na _ _ _ _ _ h1, u2_na _ _ _ _ _ h1]; exact gI a h1 h2 h3, gJ, GM_flt gM _ _, gL⟩
theorem hX_T {X : lt_X} (h : hsX X) : isT X.2.2.1 ∧ (X.2.2.1 = 14 ∨ X.2.2.1 = 34) := by
  unfold isT
  rcases h with ⟨-, h⟩ | ⟨-, h⟩ <;> omega
section
variable {N d e : Nat} {X X2 : lt_X} {f : Nat → Int32} {n q : Nat} {I M : Nat → Nat → Int32} {J L : Nat → Nat → Int64}
theorem c9_new6 {k : Nat} (hk : k < 4) (H : RT f n q M L) (h : M 135 12 = nI 0) (hc : M 140 (1716 + k) = nI 6) : am_G am_prog (N + 30) (d + 5) 243 [.ref 135, .int (nI k)] (mkh X M L) = some (.int (nI 0), mkh X (flt M 6 (tkS f n q)) L) := by
  have hc' : M 140 (nI (1716 + k)).toNatClampNeg = nI 6 := by rw [nI_clamp (by omega)]; exact hc
  rw [gX9_readNew N (d + 4), sX9_readNew_0 N (d + 4), nI_add 1716 k, nc_in (by omega) (by omega), hc', nc_eq rfl, H.2.2.2.1, c9_fail0 (d := d + 3) h, cV_some, kX9_readNew_0 N (d + 4), sX9_readNew_27 N (d + 4) (N + 28), flt_12, nc_lt (by omega) (by omega)]
theorem new_27 (hn : n ≤ 900) (hB : ∀ k, k < n → isB (f k)) (hN : 10000 ≤ N) (hq : q ≤ n) {k c : Nat} (hk : k < 4) (hcc : c < 6) (H : RT f n q M L) (h : M 135 12 = nI 0) (hc : M 140 (1716 + k) = nI c) : ∃ K P, RT f n (tkE f n q) K P ∧ FTM M K ∧ FTL L P ∧ K 135 12 = nI 0 ∧ am_G am_prog (N + 30) (d + 5) 243 [.ref 135, .int (nI k)] (mkh X M L) = if tkK f n (tkE f n q) = 2 then RX9_readNew_51 N (d + 4) (N + 28) X (nI k) (nI c) K P else some (.int (nI 0), mkh X (flt K (fkd f n (tkE f n q)) (tkS f n (tkE f n q))) P) := by
  obtain ⟨K, P, a, b, c1, c2⟩ := c9_next (N := N) (d := d + 2) (X := X) hn hB hN hq H
  have k12 : K 135 12 = nI 0 := by rw [c1.2 12 (by omega)]; exact h
  have fb := fkd_b f n (tkE f n q)
  refine ⟨K, P, b, c1, c2, k12, ?_⟩
  have hc' : M 140 (nI (1716 + k)).toNatClampNeg = nI c := by rw [nI_clamp (by omega)]; exact hc
  rw [gX9_readNew N (d + 4), sX9_readNew_0 N (d + 4), nI_add 1716 k, nc_in (by omega) (by omega), hc', nc_ne (by omega) (by omega) (by omega), sX9_readNew_27 N (d + 4) (N + 28), h, nc_nlt (by omega) (by omega), a, cV_some, kX9_readNew_1 N (d + 4), c9_isName b, cI_some, kX9_readNew_4 N (d + 4), nc_10]
  by_cases g : tkK f n (tkE f n q) = 2
  · rw [if_pos g, if_pos g]
  · rw [if_neg g, if_neg g, c9_amiss0 (d := d + 2) b k12, cV_some, kX9_readNew_6 N (d + 4), sX9_readNew_51 N (d + 4) (N + 27), flt_12, nc_ne (by omega) (by omega) (by omega), sX9_readNew_74 N (d + 4) (N + 26), flt_12, nc_lt fb.1 (by omega)]
end
