/-! texts: dials; steps one behind another -/
/-- steps s up to e stand from place p up to q -/
def DLs (T : Nat → Nat) (K V : Nat → Nat → Int32) (s e p q : Nat) : Prop := s ≤ e ∧ p ≤ q ∧ ∀ k, e ≤ s + k → DL (K 120) (K 121) (K 122) (K 123) (K 124) (TV T V) k s e p q
/-- one step, with all that is within -/
def SP1 (T : Nat → Nat) (K V : Nat → Nat → Int32) (s p s' p' : Nat) : Prop :=
  (s' = s + 1 ∧ p' = p + 1 ∧ QS T s p K V (K 123 p) ∧ TV T V (167 + 9 * s) = s + 1) ∨
  (∃ z, p < z ∧ p' = z + 1 ∧ QB T s p K V (K 123 p) ∧ TV T V (167 + 9 * s) = s' ∧ s < s' ∧ K 120 z = nI 125 ∧ K 124 z = nI p ∧ K 124 p = nI z ∧ DLs T K V (s + 1) s' (p + 1) z)
theorem DLs_0 (T : Nat → Nat) (K V : Nat → Nat → Int32) (s p : Nat) : DLs T K V s s p p := ⟨Nat.le_refl _, Nat.le_refl _, fun k _ => by
  cases k with
  | zero => exact ⟨rfl, rfl⟩
  | succ k => exact Or.inl ⟨rfl, rfl⟩⟩
theorem DLs_loc {T : Nat → Nat} {K V K' V' : Nat → Nat → Int32} {s e p q : Nat} (ha : ∀ a i, 120 ≤ a → a ≤ 124 → p ≤ i → i < q → K' a i = K a i) (hv : ∀ j, 1875 + 9 * s ≤ j → j < 1875 + 9 * e → V' 140 j = V 140 j) (H : DLs T K V s e p q) : DLs T K' V' s e p q := by
  obtain ⟨h1, h2, h3⟩ := H
  refine ⟨h1, h2, fun k hk => DL_loc (fun j hj => by rw [TV_4 hj, TV_4 hj]) k s e p q (fun i g1 g2 => ⟨ha 120 i (by omega) (by omega) g1 g2, ha 121 i (by omega) (by omega) g1 g2, ha 122 i (by omega) (by omega) g1 g2, ha 123 i (by omega) (by omega) g1 g2, ha 124 i (by omega) (by omega) g1 g2⟩) (fun j g1 g2 => TV_eq (fun _ => hv _ (by omega) (by omega))) (h3 k hk)⟩
theorem DLs_cons {T : Nat → Nat} {K V : Nat → Nat → Int32} {s s' e p p' q : Nat} (h : SP1 T K V s p s' p') (H : DLs T K V s' e p' q) : DLs T K V s e p q := by
  obtain ⟨h1, h2, h3⟩ := H
  rcases h with ⟨g1, g2, g3, g4⟩ | ⟨z, g1, g2, g3, g4, g5, g6, g7, g8, g9⟩
  · subst g1 g2
    refine ⟨by omega, by omega, fun k hk => ?_⟩
    obtain ⟨k, rfl⟩ : ∃ j, k = j + 1 := ⟨k - 1, by omega⟩
    simp only [DL]
    exact Or.inr (Or.inl ⟨by omega, by omega, DS_arr rfl rfl rfl rfl g3, g4, h3 k (by omega)⟩)
  · subst g2
    refine ⟨by omega, by omega, fun k hk => ?_⟩
    obtain ⟨k, rfl⟩ : ∃ j, k = j + 1 := ⟨k - 1, by omega⟩
    simp only [DL]
    rw [g4]
    exact Or.inr (Or.inr ⟨by omega, z, g1, by omega, DB_arr rfl rfl rfl rfl g3, g5, h1, g6, g7, g8, g9.2.2 k (by omega), h3 k (by omega)⟩)
theorem SP1_loc {T : Nat → Nat} {K V K' V' : Nat → Nat → Int32} {s s' p p' : Nat} (ha : ∀ a i, 120 ≤ a → a ≤ 124 → i < p' → K' a i = K a i) (hv : ∀ j, j < 1875 + 9 * s' → V' 140 j = V 140 j) (h : SP1 T K V s p s' p') : SP1 T K' V' s p s' p' := by
  have tv : ∀ j, j < 159 + 9 * s' → TV T V' j = TV T V j := fun j hj => TV_eq (fun _ => hv _ (by omega))
  rcases h with ⟨g1, g2, g3, g4⟩ | ⟨z, g1, g2, g3, g4, g5, g6, g7, g8, g9⟩
  · subst g1 g2
    refine Or.inl ⟨rfl, rfl, ?_, by rw [tv _ (by omega)]; exact g4⟩
    exact DS_loc (ha 120 p (by omega) (by omega) (by omega)) (ha 121 p (by omega) (by omega) (by omega)) (ha 122 p (by omega) (by omega) (by omega)) (ha 123 p (by omega) (by omega) (by omega)) (fun k _ => tv k (by omega)) (fun j hj => tv _ (by omega)) g3
  · subst g2
    refine Or.inr ⟨z, g1, rfl, ?_, by rw [tv _ (by omega)]; exact g4, g5, by rw [ha 120 z (by omega) (by omega) (by omega)]; exact g6, by rw [ha 124 z (by omega) (by omega) (by omega)]; exact g7, by rw [ha 124 p (by omega) (by omega) (by omega)]; exact g8, DLs_loc (fun a i h1 h2 _ h4 => ha a i h1 h2 (by omega)) (fun j _ h2 => hv j (by omega)) g9⟩
    exact DB_loc (ha 120 p (by omega) (by omega) (by omega)) (ha 121 p (by omega) (by omega) (by omega)) (ha 122 p (by omega) (by omega) (by omega)) (ha 123 p (by omega) (by omega) (by omega)) (fun k _ => tv k (by omega)) (fun j hj => tv _ (by omega)) g3
/-- what ends the steps within l blocks -/
def trm (l k : Nat) : Prop := (l = 0 ∧ k = 0) ∨ (0 < l ∧ k = 125)
section
variable {N d e : Nat} {X X2 : lt_X} {f : Nat → Int32} {n q r p s l b c : Nat} {I M K V Z V0 V1 Z1 W : Nat → Nat → Int32} {J L Y P Y0 P0 : Nat → Nat → Int64} {T : Nat → Nat}
/-- class's rounds from here on come to A in c rounds -/
def RND (N d : Nat) (X : lt_X) (q c : Nat) (I : Nat → Nat → Int32) (J : Nat → Nat → Int64) (A : Nat → Nat → am_O) : Prop := ∀ z i, i ≤ q → RX2_readsFor_19 N (d + 5) (z + c) X (nI i) I J = A z i
def SO (f : Nat → Int32) (n : Nat) (T : Nat → Nat) (X X2 : lt_X) (N d q l s p : Nat) (I : Nat → Nat → Int32) (J : Nat → Nat → Int64) (M : Nat → Nat → Int32) (L : Nat → Nat → Int64) (B : am_O) : Prop :=
  (∃ K Y V P c, c ≤ n - q + 3 ∧ RND N d X q c I J (fun _ _ => some (.int (nI 0), mkh X K Y)) ∧ B = some (.null, mkh X2 V P) ∧ FD f n I J M L K Y V P) ∨
  (∃ r s' p' K Y V P c, q < r ∧ c ≤ r - q ∧ RND N d X q c I J (fun z i => RX2_readsFor_19 N (d + 5) z X (nI (i + c)) K Y) ∧ B = some (.null, mkh X2 V P) ∧ JD f n T X.2.1 r l s' p' K Y V P ∧ DI p l I K ∧ DJ J Y ∧ DV s M V ∧ FTL L P ∧ s < s' ∧ SP1 T K V s p s' p')
def SQ (f : Nat → Int32) (n : Nat) (T : Nat → Nat) (X : lt_X) (N d q l s p : Nat) (I : Nat → Nat → Int32) (J : Nat → Nat → Int64) (M : Nat → Nat → Int32) (L : Nat → Nat → Int64) (B : am_O) (D : (Nat → Nat → Int32) → (Nat → Nat → Int64) → am_O → Prop) : Prop :=
  (∃ K Y V P c, c ≤ n - q + 3 ∧ RND N d X q c I J (fun _ _ => some (.int (nI 0), mkh X K Y)) ∧ D V P B ∧ FD f n I J M L K Y V P) ∨
  (∃ r s' p' K Y V P c, q ≤ r ∧ c ≤ r - q ∧ RND N d X q c I J (fun z i => RX2_readsFor_19 N (d + 5) z X (nI (i + c)) K Y) ∧ D V P B ∧ JD f n T X.2.1 r l s' p' K Y V P ∧ trm l (tkK f n r) ∧ DI p l I K ∧ DJ J Y ∧ DV s M V ∧ FTL L P ∧ DLs T K V s s' p p')
theorem JD_le {t : Nat} (H : JD f n T t q l s p I J M L) : s ≤ 30 ∧ q ≤ n := ⟨H.2.2.1, H.1⟩
theorem j_seq (hn : n ≤ 900) (hB : ∀ k, k < n → isB (f k)) (hN : 10000 ≤ N) (hX : hsX X) (hD : X.2.2.2.2 = some X.2.1) {run : Nat → (Nat → Nat → Int32) → (Nat → Nat → Int64) → am_O} {done : Nat → (Nat → Nat → Int32) → (Nat → Nat → Int64) → am_O} {kk : Nat → am_H → am_O}
    (hstep : ∀ {q s p : Nat} {I M : Nat → Nat → Int32} {J L : Nat → Nat → Int64}, JD f n T X.2.1 q l s p I J M L → ¬ trm l (tkK f n q) → SO f n T X X2 N d q l s p I J M L (am_G am_prog (N + 30) (e + 9) 256 [.ref 135, .int (nI l)] (mkh X2 M L)))
    (hterm : ∀ z q M L, RT f n q M L → M 135 12 = nI 0 → trm l (tkK f n q) → run (z + 1) M L = done z M L)
    (hbad : ∀ z q b M L, RT f n q M L → M 135 12 = nI b → 0 < b → b < 8 → run (z + 1) M L = done z M L)
    (hgo : ∀ z q M L, RT f n q M L → M 135 12 = nI 0 → ¬ trm l (tkK f n q) → run (z + 1) M L = am_cV (am_G am_prog (N + 30) (e + 9) 256 [.ref 135, .int (nI l)] (mkh X2 M L)) (kk z))
    (hkk : ∀ z V P, kk z (mkh X2 V P) = run z V P) :
    ∀ m q, n - q ≤ m → ∀ {s p : Nat} {I M : Nat → Nat → Int32} {J L : Nat → Nat → Int64}, JD f n T X.2.1 q l s p I J M L → ∀ z2, SQ f n T X N d q l s p I J M L (run (z2 + m + 2) M L) (fun V P B => ∃ y, B = done (z2 + y) V P) := by
  have hX' := hX
  intro m
  induction m with
  | zero =>
    intro q hm s p I M J L H z2
    obtain ⟨hs, hq⟩ := JD_le H
    have hR := H.2.2.2.2.2.2.2.2.2.2.2.1
    have h12 := H.2.2.2.2.2.2.2.2.2.2.2.2.1
    by_cases ht : trm l (tkK f n q)
    · exact Or.inr ⟨q, s, p, I, J, M, L, 0, Nat.le_refl q, by omega, fun z i _ => rfl, ⟨1, by rw [show z2 + 0 + 2 = z2 + 1 + 1 by omega, hterm (z2 + 1) q M L hR h12 ht]⟩, H, ht, DI_0 _ _ _, DJ_0 _, DV_0 _ _, FTL_0 _, DLs_0 _ _ _ _ _⟩
    · rcases hstep H ht with ⟨K, Y, V, P, c, c1, c2, c3, F⟩ | ⟨r, s', p', K, Y, V, P, c, g1, g2, g3, g4, g5, -⟩
      · refine Or.inl ⟨K, Y, V, P, c, c1, c2, ⟨0, ?_⟩, F⟩
        obtain ⟨b, a, u, b0, b8, -, -, f3, -, f5, -⟩ := F
        rw [show z2 + 0 + 2 = z2 + 1 + 1 by omega, hgo (z2 + 1) q M L hR h12 ht, c3, cV_some, hkk, hbad z2 u b V P f5 f3 b0 b8]
        rfl
      · have := g5.1; omega
  | succ m ih =>
    intro q hm s p I M J L H z2
    obtain ⟨hs, hq⟩ := JD_le H
    have hR := H.2.2.2.2.2.2.2.2.2.2.2.1
    have h12 := H.2.2.2.2.2.2.2.2.2.2.2.2.1
    by_cases ht : trm l (tkK f n q)
    · exact Or.inr ⟨q, s, p, I, J, M, L, 0, Nat.le_refl q, by omega, fun z i _ => rfl, ⟨m + 2, by rw [show z2 + (m + 1) + 2 = z2 + (m + 2) + 1 by omega, hterm (z2 + (m + 2)) q M L hR h12 ht]⟩, H, ht, DI_0 _ _ _, DJ_0 _, DV_0 _ _, FTL_0 _, DLs_0 _ _ _ _ _⟩
    · have r0 := hgo (z2 + m + 2) q M L hR h12 ht
      rcases hstep H ht with ⟨K, Y, V, P, c, c1, c2, c3, F⟩ | ⟨r, s', p', K, Y, V, P, c, g1, g2, g3, g4, g5, gI, gJ, gM, gL, gs, gS⟩
      · refine Or.inl ⟨K, Y, V, P, c, c1, c2, ⟨m + 1, ?_⟩, F⟩
        obtain ⟨b, a, u, b0, b8, -, -, f3, -, f5, -⟩ := F
        rw [show z2 + (m + 1) + 2 = z2 + m + 2 + 1 by omega, r0, c3, cV_some, hkk, show z2 + m + 2 = z2 + (m + 1) + 1 by omega, hbad (z2 + (m + 1)) u b V P f5 f3 b0 b8]
      · rw [g4, cV_some, hkk] at r0
        rw [show z2 + (m + 1) + 2 = z2 + m + 2 + 1 by omega, r0]
        have gp : p ≤ p' := by
          rcases gS with ⟨_, h, _⟩ | ⟨z, h, h2, _⟩ <;> omega
        rcases ih r (by omega) g5 z2 with ⟨K2, Y2, V2, P2, c', c1, c2, ⟨y, c3⟩, F⟩ | ⟨r2, s2, p2, K2, Y2, V2, P2, c', k1, k2, k3, ⟨y, k4⟩, k5, k6, kI, kJ, kM, kL, kD⟩
        · refine Or.inl ⟨K2, Y2, V2, P2, c' + c, by have := g5.1; omega, fun z i hi => ?_, ⟨y, c3⟩, FD_t gI gJ gM gL F⟩
          have e1 := g3 (z + c') i hi
          have e2 := c2 z (i + c) (by omega)
          rw [show z + (c' + c) = z + c' + c by omega]
          exact e1.trans e2
        · refine Or.inr ⟨r2, s2, p2, K2, Y2, V2, P2, c' + c, by omega, by omega, fun z i hi => ?_, ⟨y, k4⟩, k5, k6, DI_t gp (Nat.le_refl l) gI kI, DJ_t gJ kJ, DV_t (by omega) gM kM, FTL_t gL kL, DLs_cons (SP1_loc (fun a i h1 h2 h3 => kI.2.1 a i h1 h2 h3) (fun j hj => kM.2.1 j hj) gS) kD⟩
          have e1 := g3 (z + c') i hi
          have e2 := k3 z (i + c) (by omega)
          show RX2_readsFor_19 N (d + 5) (z + (c' + c)) X (nI i) I J = RX2_readsFor_19 N (d + 5) z X (nI (i + (c' + c))) K2 Y2
          rw [show z + (c' + c) = z + c' + c by omega, show i + (c' + c) = i + c + c' by omega]
          exact e1.trans e2
end
