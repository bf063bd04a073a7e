/-! texts: dials; a step's head -/
section
variable {N d e : Nat} {X X2 : lt_X} {f : Nat → Int32} {n q r p s l b c : Nat} {I M K V Z V0 V1 Z1 W : Nat → Nat → Int32} {J L Y P Y0 P0 : Nat → Nat → Int64} {T : Nat → Nat}
abbrev isBk (k : Nat) : Prop := k = 120 ∨ k = 124
def bk (k : Nat) : Nat := if isBk k then 1 else 0
theorem bk_le (k : Nat) : bk k ≤ 1 := by unfold bk; split <;> omega
theorem c2_isStep (hX : hsX X) (hD : X.2.2.2.2 = some X.2.1) {k : Nat} (hk : k < 2 ^ 31 ∨ k = 4294967295) : am_G am_prog (N + 30) (d + 1) 26 [.int (nI k)] (mkh X I J) = some (.int (nI (if isSt k then 1 else 0)), mkh X I J) := by
  have e12 : ¬ (113 ≤ k ∧ k ≤ 120) → RX2_isStep_12 N d (N + 29) X (nI k) I J = some (.int (nI (if isSt k then 1 else 0)), mkh X I J) := fun hn => by
    rw [sX2_isStep_12 N d _ hX hD]
    by_cases h4 : k = 124
    · rw [nc_eq h4, if_pos (show isSt k by unfold isSt; omega)]
    · rw [nc_ne h4 (by omega) (by omega)]
      by_cases h6 : k = 126
      · rw [nc_eq h6, if_pos (show isSt k by unfold isSt; omega)]
      · rw [nc_ne h6 (by omega) (by omega), if_neg (show ¬ isSt k by unfold isSt; omega)]
  rw [gX2_isStep N d, sX2_isStep_0 N d _ hX hD]
  rcases hk with hk | hk
  · by_cases h1 : k < 113
    · rw [nc_lt h1 (by omega)]; exact e12 (by omega)
    · rw [nc_nlt (by omega) (by omega)]
      by_cases h2 : 120 < k
      · rw [nc_lt h2 (by omega)]; exact e12 (by omega)
      · rw [nc_nlt (by omega) (by omega), if_pos (show isSt k by unfold isSt; omega)]
  · have h : nI k < nI 113 := by rw [hk]; decide +kernel
    rw [if_pos h]; exact e12 (by omega)
/-- the class's cells when a step's word is taken down -/
def zH (I : Nat → Nat → Int32) (k s p l : Nat) : Nat → Nat → Int32 := if isBk k then u2 (u2 (u2 (u2 (u2 I 120 p (nI k)) 119 6 (nI (p + 1))) 119 7 (nI (s + 1))) 125 l (nI p)) 118 3 (nI (l + 1)) else u2 (u2 (u2 I 120 p (nI k)) 119 6 (nI (p + 1))) 119 7 (nI (s + 1))
theorem zH_f {k : Nat} : (∀ a, ¬ (118 ≤ a ∧ a ≤ 120) → a ≠ 125 → zH I k s p l a = I a) ∧ (∀ i, i ≠ p → zH I k s p l 120 i = I 120 i) ∧ zH I k s p l 120 p = nI k ∧ zH I k s p l 119 6 = nI (p + 1) ∧ zH I k s p l 119 7 = nI (s + 1) ∧ (∀ i, i ≠ l → zH I k s p l 125 i = I 125 i) ∧ (isBk k → zH I k s p l 125 l = nI p) ∧ (I 118 3 = nI l → zH I k s p l 118 3 = nI (l + bk k)) := by
  unfold zH bk
  by_cases h : isBk k
  · simp only [if_pos h]
    refine ⟨fun a g1 g2 => ?_, fun i hi => ?_, ?_, ?_, ?_, fun i hi => ?_, fun _ => ?_, fun _ => u2_at _ _ _ _⟩
    · rw [u2_na _ _ _ _ _ (by omega), u2_na _ _ _ _ _ (by omega), u2_na _ _ _ _ _ (by omega), u2_na _ _ _ _ _ (by omega), u2_na _ _ _ _ _ (by omega)]
    · rw [u2_na _ _ _ _ _ (by omega), u2_na _ _ _ _ _ (by omega), u2_na _ _ _ _ _ (by omega), u2_na _ _ _ _ _ (by omega), u2_nk _ _ _ _ _ hi]
    · rw [u2_na _ _ _ _ _ (by omega), u2_na _ _ _ _ _ (by omega), u2_na _ _ _ _ _ (by omega), u2_na _ _ _ _ _ (by omega), u2_at]
    · rw [u2_na _ _ _ _ _ (by omega), u2_na _ _ _ _ _ (by omega), u2_nk _ _ _ _ _ (by omega), u2_at]
    · rw [u2_na _ _ _ _ _ (by omega), u2_na _ _ _ _ _ (by omega), u2_at]
    · rw [u2_na _ _ _ _ _ (by omega), u2_nk _ _ _ _ _ hi, u2_na _ _ _ _ _ (by omega), u2_na _ _ _ _ _ (by omega), u2_na _ _ _ _ _ (by omega)]
    · rw [u2_na _ _ _ _ _ (by omega), u2_at]
  · simp only [if_neg h]
    refine ⟨fun a g1 g2 => ?_, fun i hi => ?_, ?_, ?_, ?_, fun i hi => ?_, fun g => absurd g h, fun g => ?_⟩
    · rw [u2_na _ _ _ _ _ (by omega), u2_na _ _ _ _ _ (by omega), u2_na _ _ _ _ _ (by omega)]
    · rw [u2_na _ _ _ _ _ (by omega), u2_na _ _ _ _ _ (by omega), u2_nk _ _ _ _ _ hi]
    · rw [u2_na _ _ _ _ _ (by omega), u2_na _ _ _ _ _ (by omega), u2_at]
    · rw [u2_nk _ _ _ _ _ (by omega), u2_at]
    · rw [u2_at]
    · rw [u2_na _ _ _ _ _ (by omega), u2_na _ _ _ _ _ (by omega), u2_na _ _ _ _ _ (by omega)]
    · rw [u2_na _ _ _ _ _ (by omega), u2_na _ _ _ _ _ (by omega), u2_na _ _ _ _ _ (by omega)]; exact g
theorem c2_adds (hX : hsX X) (hD : X.2.2.2.2 = some X.2.1) {k : Nat} (hk : k < 2 ^ 31) (hp : p < 60) (hs : s < 30) (hl : isBk k → l < 3) (h3 : I 118 3 = nI l) (h6 : I 119 6 = nI p) (h7 : I 119 7 = nI s) : am_G am_prog (N + 30) (d + 1) 27 [.ref 118, .int (nI k)] (mkh X I J) = some (.int (nI p), mkh X (zH I k s p l) J) := by
  rw [gX2_adds N d, sX2_adds_0 N d _ hX hD, h6, h7, nc_in (by omega) (by omega), nI_clamp (by omega), nI_add, nI_add]
  have e56 : isBk k → RX2_adds_56 N d (N + 29) X (nI p) (u2 (u2 (u2 I 120 p (nI k)) 119 6 (nI (p + 1))) 119 7 (nI (s + 1))) J = some (.int (nI p), mkh X (zH I k s p l) J) := fun hb => by
    have hl3 := hl hb
    have g3 : u2 (u2 (u2 I 120 p (nI k)) 119 6 (nI (p + 1))) 119 7 (nI (s + 1)) 118 3 = nI l := by rw [u2_na _ _ _ _ _ (by omega), u2_na _ _ _ _ _ (by omega), u2_na _ _ _ _ _ (by omega)]; exact h3
    rw [sX2_adds_56 N d _ hX hD, g3, nc_in (by omega) (by omega), nI_clamp (by omega), nI_add]
    unfold zH
    rw [if_pos hb]
  by_cases h0 : k = 120
  · rw [nc_eq h0]; exact e56 (Or.inl h0)
  · rw [nc_ne h0 (by omega) (by omega)]
    by_cases h4 : k = 124
    · rw [nc_eq h4]; exact e56 (Or.inr h4)
    · rw [nc_ne h4 (by omega) (by omega)]
      unfold zH
      rw [if_neg (show ¬ isBk k by unfold isBk; omega)]
/-- the reference's loop behind a fault -/
theorem st170_b (hR : RT f n r V P) (h : V 135 12 = nI b) (h0 : 0 < b) (hb : b < 100) (hs : s < 30) (z : Nat) (x : Int32) : RX9_readStep_170 N (e + 8) (z + 1) X2 x (nI (1875 + 9 * s)) V P = some (.null, mkh X2 (u2 V 140 (1883 + 9 * s) (V 135 25)) P) := by
  rw [sX9_readStep_170 N (e + 8) z, w_8, nc_in (by omega) (by omega), nI_clamp (by omega), c9_isEnd (d := e + 6) hR, cI_some, kX9_readStep_5 N (e + 8), c9_mustb (d := e + 7) h h0 hb, cV_some, kX9_readStep_10 N (e + 8), c9_isSign (d := e + 7) hR (by omega) (by omega), cI_some, kX9_readStep_12 N (e + 8), c9_mustb (d := e + 7) h h0 hb, cV_some, kX9_readStep_14 N (e + 8), w_8, nc_in (by omega) (by omega), nI_clamp (by omega), ite_self]
theorem st142_b (hR : RT f n r V P) (h : V 135 12 = nI b) (h0 : 0 < b) (hb : b < 100) (hs : s < 30) (z : Nat) (x y : Int32) : RX9_readStep_142 N (e + 8) (z + 2) X2 x y (nI (1875 + 9 * s)) V P = some (.null, mkh X2 (u2 V 140 (1883 + 9 * s) (V 135 25)) P) := by
  rw [sX9_readStep_142 N (e + 8) (z + 1), h, nc_ne (by omega) (by omega) (by omega), st170_b hR h h0 hb hs, ite_self]
theorem FD_W {I0 M0 : Nat → Nat → Int32} {J0 L0 : Nat → Nat → Int64} (h0 : 0 < b) (h8 : b < 8) (m : MS f n q r Z Y0 K Y) (gI : DI 0 0 I0 Z) (gJ : DJ J0 Y0) (F : FW f n b c s W P V0 P0) (gM : DV 0 M0 V0) (gL : FTL L0 P0) : FD f n I0 J0 M0 L0 (u2 (u2 K 115 10 (nI b)) 115 11 (nI c)) Y W P := by
  obtain ⟨f1, f2, ⟨u, f3⟩, f4, f5⟩ := F
  exact ⟨b, c, u, h0, h8, by rw [u2_nk _ _ _ _ _ (by omega), u2_at], u2_at _ _ _ _, f1, f2, f3, ⟨fun a h1 h2 => by rw [u2_na _ _ _ _ _ h1, u2_na _ _ _ _ _ h1, m.2.2.2.2.1 a h1]; exact gI.1 a h1 h2, fun _ _ _ _ h => absurd h (by omega), fun _ h => absurd h (by omega)⟩, fun a h1 => by rw [m.2.2.2.2.2.1 a h1]; exact gJ a h1, DV_t (Nat.le_refl 0) gM ⟨f4.1, fun k hk => f4.2.1 k (by omega), f4.2.2⟩, FTL_t gL f5⟩
/-- a step's head is read -/
def HO (f : Nat → Int32) (n : Nat) (T : Nat → Nat) (X X2 : lt_X) (N e q l s p : Nat) (I : Nat → Nat → Int32) (J : Nat → Nat → Int64) (M : Nat → Nat → Int32) (L : Nat → Nat → Int64) (A B : am_O) : Prop :=
  (∃ K Y V P, A = some (.int (nI 0), mkh X K Y) ∧ B = some (.null, mkh X2 V P) ∧ FD f n I J M L K Y V P) ∨
  (∃ k r K Y V P, q < r ∧ s < 30 ∧ A = some (.int (nI 1), mkh X K Y) ∧ B = RX9_readStep_142 N (e + 8) (N + 26) X2 (nI l) (nI (bk k)) (nI (1875 + 9 * s)) V P ∧ JD f n T X.2.1 r (l + bk k) (s + 1) (p + 1) K Y V P ∧ DI p l I K ∧ DJ J Y ∧ DV s M V ∧ FTL L P ∧ (isBk k → K 125 l = nI p ∧ QB T s p K V (K 123 p)) ∧ (¬ isBk k → QS T s p K V (K 123 p)))
end
