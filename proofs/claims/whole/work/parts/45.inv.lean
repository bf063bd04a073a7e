/-! the whole state: class's cells and the reference's say the same -/
/-- one step s of the dials (T from 159 on, 9 cells each), its place p in the class's rows -/
def DS (w f g n : Nat → Int32) (T : Nat → Nat) (s p : Nat) : Prop :=
  (T (159 + 9 * s) = 0 ∧ w p = nI 113 ∧ n p = nI (T (160 + 9 * s)) ∧ 1 ≤ T (160 + 9 * s) ∧ T (160 + 9 * s) ≤ 48) ∨
  (T (159 + 9 * s) = 1 ∧ w p = nI 114 ∧ n p = nI (T (160 + 9 * s)) ∧ 1 ≤ T (160 + 9 * s) ∧ T (160 + 9 * s) ≤ 20) ∨
  (T (159 + 9 * s) = 2 ∧ w p = nI 115 ∧ f p = nI (T (160 + 9 * s)) ∧ g p = nI (T (161 + 9 * s)) ∧ n p = nI (T (162 + 9 * s)) ∧ T (160 + 9 * s) < T 3 ∧ T (161 + 9 * s) < T 2 ∧ T (162 + 9 * s) ≤ 999) ∨
  (T (159 + 9 * s) = 3 ∧ w p = nI 116 ∧ f p = nI (T (160 + 9 * s)) ∧ g p = nI (T (161 + 9 * s)) ∧ T (160 + 9 * s) < T 3 ∧ T (161 + 9 * s) < T 2) ∨
  (T (159 + 9 * s) = 4 ∧ w p = nI 117 ∧ f p = nI (T (160 + 9 * s)) ∧ T (160 + 9 * s) < T 1) ∨
  (T (159 + 9 * s) = 5 ∧ w p = nI 118 ∧ f p = nI (T (160 + 9 * s)) ∧ T (160 + 9 * s) < T 1) ∨
  (T (159 + 9 * s) = 6 ∧ w p = nI 119) ∨
  (T (159 + 9 * s) = 9 ∧ w p = nI 126)
/-- a when, a loop -/
def DB (w f g n : Nat → Int32) (T : Nat → Nat) (s p : Nat) : Prop :=
  (T (159 + 9 * s) = 7 ∧ T (165 + 9 * s) = 0 ∧ w p = nI 121 ∧ f p = nI (T (160 + 9 * s)) ∧ g p = nI (T (166 + 9 * s)) ∧ n p = nI (T (161 + 9 * s)) ∧ T (160 + 9 * s) < T 2 ∧ T (161 + 9 * s) ≤ 9999 ∧ (T (166 + 9 * s) = 60 ∨ T (166 + 9 * s) = 61 ∨ T (166 + 9 * s) = 62)) ∨
  (T (159 + 9 * s) = 7 ∧ T (165 + 9 * s) = 1 ∧ w p = nI 122 ∧ f p = nI (T (160 + 9 * s)) ∧ T (160 + 9 * s) < T 1) ∨
  (T (159 + 9 * s) = 7 ∧ T (165 + 9 * s) = 2 ∧ w p = nI 123 ∧ f p = nI (T (160 + 9 * s)) ∧ g p = nI (T (161 + 9 * s)) ∧ T (160 + 9 * s) < T 2 ∧ T (161 + 9 * s) < T 3) ∨
  (T (159 + 9 * s) = 8 ∧ w p = nI 124 ∧ n p = nI (T (160 + 9 * s)) ∧ 1 ≤ T (160 + 9 * s) ∧ T (160 + 9 * s) ≤ 99)
/-- steps s up to e stand from place p up to place q, at most k within each other -/
def DL (w f g n m : Nat → Int32) (T : Nat → Nat) : Nat → Nat → Nat → Nat → Nat → Prop
  | 0, s, e, p, q => s = e ∧ p = q
  | k + 1, s, e, p, q => (s = e ∧ p = q) ∨
    (s < e ∧ p < q ∧ DS w f g n T s p ∧ T (167 + 9 * s) = s + 1 ∧ DL w f g n m T k (s + 1) e (p + 1) q) ∨
    (s < e ∧ ∃ z, p < z ∧ z < q ∧ DB w f g n T s p ∧ s < T (167 + 9 * s) ∧ T (167 + 9 * s) ≤ e ∧ w z = nI 125 ∧ m z = nI p ∧ m p = nI z ∧ DL w f g n m T k (s + 1) (T (167 + 9 * s)) (p + 1) z ∧ DL w f g n m T k (T (167 + 9 * s)) e (z + 1) q)
def DC (I : Nat → Nat → Int32) (t : Nat) (T : Nat → Nat) : Prop :=
  I (t + 14) 5 = nI (T 157) ∧ T 157 ≤ 1 ∧ I (t + 14) 7 = nI (T 158) ∧ T 158 ≤ 30 ∧ ∃ sz, sz ≤ 60 ∧ I (t + 14) 6 = nI sz ∧ (T 157 = 1 → DL (I (t + 15)) (I (t + 16)) (I (t + 17)) (I (t + 18)) (I (t + 19)) T 30 0 (T 158) 0 sz)
def DM (c : Nat → Int32) (T : Nat → Nat) : Prop := c 157 = nI (T 157) ∧ c 158 = nI (T 158) ∧ ∀ k, k < 9 * T 158 → c (159 + k) = nI (T (159 + k))
def NM (f g : Nat → Int64) (T : Nat → Nat) : Prop := ∀ k i, k < 4 → i < T k → f (6 * k + i) = g (6 * k + i)
/-- the class's town at t, the reference's block b, by T -/
def TB (I : Nat → Nat → Int32) (J : Nat → Nat → Int64) (t b : Nat) (T : Nat → Nat) : Prop :=
  WF T ∧ TC I t T ∧ TM (fun k => I 140 (429 * b + k)) T ∧ DC I t T ∧ DM (fun k => I 140 (429 * b + k)) T ∧ NM (J (t + 1)) (fun k => J 142 (24 * b + k)) T ∧ GB T
def TW (I : Nat → Nat → Int32) (J : Nat → Nat → Int64) (t b : Nat) : Prop := ∃ T, TB I J t b T
def MKS (I : Nat → Nat → Int32) (J : Nat → Nat → Int64) : Prop := ∃ m, m ≤ 3 ∧ I 3 6 = nI m ∧ I 135 23 = nI m ∧ ∀ j, j < m → TW I J (55 + 20 * j) (j + 1)
def TRY (I : Nat → Nat → Int32) (J : Nat → Nat → Int64) : Prop := ∀ i, i < 4 → (I (5 + 2 * i) 1 = nI 0 ∧ I 137 i = (-1)) ∨ (I (5 + 2 * i) 1 = nI 1 ∧ ∃ m s, m ≤ 60 ∧ s ≤ 3 ∧ I (5 + 2 * i) 2 = nI s ∧ I 136 i = nI s ∧ I (5 + 2 * i) 3 = nI m ∧ I 137 i = nI m ∧ ∀ k, k < m → J (6 + 2 * i) k = J 138 (60 * i + k))
/-- a byte, with sign -/
def isB (x : Int32) : Prop := -128 ≤ x.toInt ∧ x.toInt < 128
def TAP (I : Nat → Nat → Int32) : Prop := ∃ n, n ≤ 900 ∧ I 3 2 = nI n ∧ I 135 8 = nI n ∧ ∀ k, k < n → I 13 k = I 139 k ∧ isB (I 13 k)
def FLT (I : Nat → Nat → Int32) : Prop := (I 3 14 = nI 0 ∧ I 135 10 = (-1) ∧ I 135 11 = (-1)) ∨ (I 3 14 = nI 1 ∧ I 115 10 = I 135 10 ∧ I 115 11 = I 135 11)
def LVD (I : Nat → Nat → Int32) : Prop := (I 3 13 = nI 0 ∧ I 135 33 = nI 0) ∨ (I 3 13 = nI 1 ∧ I 135 33 = nI 1 ∧ ∀ k, k < 5 → I 134 k = I 146 k)
def FRC (J : Nat → Nat → Int64) : Prop := J 3 16 = J 135 2 ∧ J 3 17 = J 135 3
/-- the kept words, as the class's text has them -/
def kwl : List Nat := [495763, 21108167796, 23569509, 1253, 402629, 624435, 542723566, 3646931, 12889267, 19636, 235155, 208951, 6642, 278194, 824370, 628108, 239301, 114052, 759180, 1497, 762030, 241700, 12900531, 515539, 409072, 5572, 643568]
def KWS (J : Nat → Nat → Int64) : Prop := ∀ k, k < 27 → J 116 k = lN (kwl.getD k 0)
def INV (xs : Nat → Int32) (X : lt_X) (I : Nat → Nat → Int32) (J : Nat → Nat → Int64) : Prop :=
  hsX X ∧ I 1 = xs ∧ TW I J X.2.1 0 ∧ MKS I J ∧ TRY I J ∧ TAP I ∧ FLT I ∧ LVD I ∧ FRC J ∧ KWS J ∧ I 3 15 = I 135 0
/-! what a change elsewhere leaves -/
theorem TM_congr {c e : Nat → Int32} {T : Nat → Nat} (hw : WF T) (h : ∀ k, k < 157 → e k = c k) (H : TM c T) : TM e T := by
  obtain ⟨⟨h0, h1, h2, h3, -⟩, hv, -⟩ := hw
  obtain ⟨a0, a1, a2, a3, a4, a5⟩ := H
  refine ⟨fun k hk => by rw [h k (by omega)]; exact a0 k hk, fun v hv1 => ?_, fun v k hv1 hk => ?_, fun p hp => ?_, fun p s hp hs => ?_, fun k hk => ?_⟩
  · obtain ⟨b1, b2, b3, b4, b5⟩ := a1 v hv1
    rw [h _ (by omega), h _ (by omega), h _ (by omega), h _ (by omega), h _ (by omega)]
    exact ⟨b1, b2, b3, b4, b5⟩
  · have := hv v hv1
    rw [h _ (by omega)]; exact a2 v k hv1 hk
  · obtain ⟨b1, b2, b3⟩ := a3 p hp
    rw [h _ (by omega), h _ (by omega), h _ (by omega)]
    exact ⟨b1, b2, b3⟩
  · rw [h _ (by omega)]; exact a4 p s hp hs
  · obtain ⟨b1, b2, b3⟩ := a5 k hk
    rw [h _ (by omega), h _ (by omega), h _ (by omega)]
    exact ⟨b1, b2, b3⟩
theorem TC_frame {I K : Nat → Nat → Int32} {t : Nat} {T : Nat → Nat} (h : ∀ a, t ≤ a → a < t + 14 → K a = I a) (H : TC I t T) : TC K t T := by
  unfold TC at H ⊢
  rw [h t (by omega) (by omega), h (t + 2) (by omega) (by omega), h (t + 3) (by omega) (by omega), h (t + 4) (by omega) (by omega), h (t + 5) (by omega) (by omega), h (t + 6) (by omega) (by omega), h (t + 7) (by omega) (by omega), h (t + 8) (by omega) (by omega), h (t + 9) (by omega) (by omega), h (t + 10) (by omega) (by omega), h (t + 11) (by omega) (by omega), h (t + 12) (by omega) (by omega), h (t + 13) (by omega) (by omega)]
  exact H
theorem DC_frame {I K : Nat → Nat → Int32} {t : Nat} {T : Nat → Nat} (h : ∀ a, t + 14 ≤ a → a < t + 20 → K a = I a) (H : DC I t T) : DC K t T := by
  unfold DC at H ⊢
  rw [h (t + 14) (by omega) (by omega), h (t + 15) (by omega) (by omega), h (t + 16) (by omega) (by omega), h (t + 17) (by omega) (by omega), h (t + 18) (by omega) (by omega), h (t + 19) (by omega) (by omega)]
  exact H
theorem DM_congr {c e : Nat → Int32} {T : Nat → Nat} (hn : T 158 ≤ 30) (h : ∀ k, 157 ≤ k → k < 429 → e k = c k) (H : DM c T) : DM e T := by
  obtain ⟨a1, a2, a3⟩ := H
  refine ⟨by rw [h _ (by omega) (by omega)]; exact a1, by rw [h _ (by omega) (by omega)]; exact a2, fun k hk => ?_⟩
  rw [h _ (by omega) (by omega)]; exact a3 k hk
theorem NM_congr {f g f' g' : Nat → Int64} {T : Nat → Nat} (hw : WF T) (hf : ∀ k, k < 24 → f' k = f k) (hg : ∀ k, k < 24 → g' k = g k) (H : NM f g T) : NM f' g' T := by
  intro k i hk hi
  have h6 : T k ≤ 6 := by
    obtain ⟨⟨h0, h1, h2, h3, -⟩, -⟩ := hw
    match k, hk with
    | 0, _ => exact h0
    | 1, _ => exact h1
    | 2, _ => exact h2
    | 3, _ => exact h3
  rw [hf _ (by omega), hg _ (by omega)]; exact H k i hk hi
theorem TB_frame {I K : Nat → Nat → Int32} {J M : Nat → Nat → Int64} {t b : Nat} {T : Nat → Nat} (h : ∀ a, t ≤ a → a < t + 20 → K a = I a) (hc : ∀ k, k < 429 → K 140 (429 * b + k) = I 140 (429 * b + k)) (hj : ∀ k, k < 24 → M (t + 1) k = J (t + 1) k) (hm : ∀ k, k < 24 → M 142 (24 * b + k) = J 142 (24 * b + k)) (H : TB I J t b T) : TB K M t b T := by
  obtain ⟨hw, h1, h2, h3, h4, h5⟩ := H
  exact ⟨hw, TC_frame (fun a h6 h7 => h a h6 (by omega)) h1, TM_congr hw (fun k hk => hc k (by omega)) h2, DC_frame (fun a h6 h7 => h a (by omega) h7) h3, DM_congr h3.2.2.2.1 (fun k _ hk => hc k hk) h4, NM_congr hw hj hm h5.1, h5.2⟩
theorem TW_frame {I K : Nat → Nat → Int32} {J M : Nat → Nat → Int64} {t b : Nat} (h : ∀ a, t ≤ a → a < t + 20 → K a = I a) (hc : ∀ k, k < 429 → K 140 (429 * b + k) = I 140 (429 * b + k)) (hj : ∀ k, k < 24 → M (t + 1) k = J (t + 1) k) (hm : ∀ k, k < 24 → M 142 (24 * b + k) = J 142 (24 * b + k)) (H : TW I J t b) : TW K M t b := by
  obtain ⟨T, H⟩ := H
  exact ⟨T, TB_frame h hc hj hm H⟩
/-- what of the class and the reference stays but for status, towns and scratch -/
def sC (he : Nat) (I K : Nat → Nat → Int32) : Prop := (∀ a, a < 135 → a ≠ 3 → ¬ (he ≤ a ∧ a < he + 20) → ¬ (126 ≤ a ∧ a ≤ 133) → K a = I a) ∧ (∀ k, k ≠ 15 → K 3 k = I 3 k) ∧ (∀ a, 135 ≤ a → K a = I a)
def sM (I K : Nat → Nat → Int32) : Prop := (∀ a, a < 135 → K a = I a) ∧ (∀ a, 136 ≤ a → a ≠ 140 → a ≠ 141 → ¬ (143 ≤ a ∧ a ≤ 145) → K a = I a) ∧ (∀ k, 429 ≤ k → K 140 k = I 140 k) ∧ (∀ k, k = 8 ∨ k = 10 ∨ k = 11 ∨ k = 23 ∨ k = 33 → K 135 k = I 135 k)
theorem hsX_no {X : lt_X} (h : hsX X) : X.2.1 = 14 ∨ X.2.1 = 34 := by
  rcases h with ⟨h, -⟩ | ⟨h, -⟩
  · exact Or.inl h
  · exact Or.inr h
/-- class, then reference, on the town that is here: what is left to show is the town and the status -/
theorem INV_step {xs : Nat → Int32} {X : lt_X} {I K M : Nat → Nat → Int32} {J : Nat → Nat → Int64} (H : INV xs X I J) (h1 : sC X.2.1 I K) (h2 : sM K M) (ht : TW M J X.2.1 0) (hs : M 3 15 = M 135 0) : INV xs X M J := by
  obtain ⟨hX, a1, a2, a3, a4, a5, a6, a7, a8, a9, a10⟩ := H
  obtain ⟨c1, c2, c3⟩ := h1
  obtain ⟨m1, m2, m3, m4⟩ := h2
  have he := hsX_no hX
  have g : ∀ a, a < 135 → a ≠ 3 → ¬ (X.2.1 ≤ a ∧ a < X.2.1 + 20) → ¬ (126 ≤ a ∧ a ≤ 133) → M a = I a := fun a b1 b2 b3 b4 => by rw [m1 a b1, c1 a b1 b2 b3 b4]
  have g3 : ∀ k, k ≠ 15 → M 3 k = I 3 k := fun k hk => by rw [m1 3 (by omega), c2 k hk]
  have g5 : ∀ k, k = 8 ∨ k = 10 ∨ k = 11 ∨ k = 23 ∨ k = 33 → M 135 k = I 135 k := fun k hk => by rw [m4 k hk, c3 135 (by omega)]
  have gm : ∀ a, 136 ≤ a → a ≠ 140 → a ≠ 141 → ¬ (143 ≤ a ∧ a ≤ 145) → M a = I a := fun a b1 b2 b3 b4 => by rw [m2 a b1 b2 b3 b4, c3 a (by omega)]
  refine ⟨hX, ?_, ht, ?_, ?_, ?_, ?_, ?_, a8, a9, hs⟩
  · rw [g 1 (by omega) (by omega) (by omega) (by omega)]; exact a1
  · obtain ⟨m, b1, b2, b3, b4⟩ := a3
    refine ⟨m, b1, by rw [g3 6 (by omega)]; exact b2, by rw [g5 23 (by omega)]; exact b3, fun j hj => ?_⟩
    refine TW_frame (fun a h1 h2 => g a (by omega) (by omega) (by omega) (by omega)) (fun k hk => ?_) (fun _ _ => rfl) (fun _ _ => rfl) (b4 j hj)
    rw [m3 _ (by omega), c3 140 (by omega)]
  · intro i hi
    have e := a4 i hi
    rw [g (5 + 2 * i) (by omega) (by omega) (by omega) (by omega), gm 137 (by omega) (by omega) (by omega) (by omega), gm 136 (by omega) (by omega) (by omega) (by omega)]
    exact e
  · obtain ⟨n, b1, b2, b3, b4⟩ := a5
    refine ⟨n, b1, by rw [g3 2 (by omega)]; exact b2, by rw [g5 8 (by omega)]; exact b3, fun k hk => ?_⟩
    rw [g 13 (by omega) (by omega) (by omega) (by omega), gm 139 (by omega) (by omega) (by omega) (by omega)]; exact b4 k hk
  · unfold FLT
    rw [g3 14 (by omega), g5 10 (by omega), g5 11 (by omega), g 115 (by omega) (by omega) (by omega) (by omega)]; exact a6
  · unfold LVD
    rw [g3 13 (by omega), g5 33 (by omega), g 134 (by omega) (by omega) (by omega) (by omega), gm 146 (by omega) (by omega) (by omega) (by omega)]; exact a7
theorem TM_0 {I : Nat → Nat → Int32} {T : Nat → Nat} : TM (fun k => I 140 (429 * 0 + k)) T ↔ TM (I 140) T := by
  have e : (fun k => I 140 (429 * 0 + k)) = I 140 := funext (fun k => by rw [show 429 * 0 + k = k by omega])
  rw [e]
theorem TM_fun {I : Nat → Nat → Int32} : (fun k => I 140 (429 * 0 + k)) = I 140 := funext (fun k => by rw [show 429 * 0 + k = k by omega])
/-- a call that only tells -/
def sC0 (I K : Nat → Nat → Int32) : Prop := (∀ a, a ≠ 3 → ¬ (126 ≤ a ∧ a ≤ 133) → K a = I a) ∧ (∀ k, k ≠ 15 → K 3 k = I 3 k)
def sM0 (I K : Nat → Nat → Int32) : Prop := (∀ a, a ≠ 135 → a ≠ 141 → ¬ (143 ≤ a ∧ a ≤ 145) → K a = I a) ∧ (∀ k, k = 8 ∨ k = 10 ∨ k = 11 ∨ k = 23 ∨ k = 33 → K 135 k = I 135 k)
theorem INV_tells {xs : Nat → Int32} {X : lt_X} {I K M : Nat → Nat → Int32} {J : Nat → Nat → Int64} (H : INV xs X I J) (h1 : sC0 I K) (h2 : sM0 K M) (hs : M 3 15 = M 135 0) : INV xs X M J := by
  have he := hsX_no H.1
  obtain ⟨c1, c2⟩ := h1
  obtain ⟨m1, m2⟩ := h2
  refine INV_step H ⟨fun a b1 b2 b3 b4 => c1 a b2 b4, c2, fun a b => c1 a (by omega) (by omega)⟩ ⟨fun a b => m1 a (by omega) (by omega) (by omega), fun a b1 b2 b3 b4 => m1 a (by omega) (by omega) (by omega), fun k _ => by rw [m1 140 (by omega) (by omega) (by omega)], m2⟩ ?_ hs
  refine TW_frame (fun a h1 h2 => ?_) (fun k hk => ?_) (fun _ _ => rfl) (fun _ _ => rfl) H.2.2.1
  · rw [m1 a (by omega) (by omega) (by omega), c1 a (by omega) (by omega)]
  · rw [m1 140 (by omega) (by omega) (by omega), c1 140 (by omega) (by omega)]
/-- the pair of calls that the law makes -/
def PR (xs : Nat → Int32) (N d : Nat) (X : lt_X) (I : Nat → Nat → Int32) (J : Nat → Nat → Int64) (c m : Nat) (as : List Value) : Prop :=
  ∃ (v : Value) (X1 : lt_X) (I1 : Nat → Nat → Int32) (J1 : Nat → Nat → Int64) (X2 : lt_X) (I2 : Nat → Nat → Int32) (J2 : Nat → Nat → Int64), am_G am_prog (N + 30) (d + 40) c (.ref 3 :: as) (mkh X I J) = some (v, mkh X1 I1 J1) ∧ am_G am_prog (N + 30) (d + 40) m (.ref 135 :: as) (mkh X1 I1 J1) = some (v, mkh X2 I2 J2) ∧ INV xs X2 I2 J2 ∧ X2.1 = X.1
/-- a class's call that tells r with status s; the reference's -/
def CR (o : am_O) (X : lt_X) (I : Nat → Nat → Int32) (J : Nat → Nat → Int64) (v : Value) (s : Int32) : Prop := ∃ K, o = some (v, mkh X K J) ∧ sC0 I K ∧ K 3 15 = s
def MR (o : am_O) (X : lt_X) (I : Nat → Nat → Int32) (J : Nat → Nat → Int64) (v : Value) (s : Int32) : Prop := ∃ K, o = some (v, mkh X K J) ∧ sM0 I K ∧ K 135 0 = s
theorem PR_tells {xs : Nat → Int32} {N d : Nat} {X : lt_X} {I : Nat → Nat → Int32} {J : Nat → Nat → Int64} {c m : Nat} {as : List Value} (H : INV xs X I J) (v : Value) (s : Int32) (hc : CR (am_G am_prog (N + 30) (d + 40) c (.ref 3 :: as) (mkh X I J)) X I J v s) (hm : ∀ K, (∀ a, a ≠ 3 → ¬ (126 ≤ a ∧ a ≤ 133) → K a = I a) → MR (am_G am_prog (N + 30) (d + 40) m (.ref 135 :: as) (mkh X K J)) X K J v s) : PR xs N d X I J c m as := by
  obtain ⟨K, c1, c2, c3⟩ := hc
  obtain ⟨M, m1, m2, m3⟩ := hm K c2.1
  refine ⟨v, X, K, J, X, M, J, c1, m1, INV_tells H c2 m2 ?_, rfl⟩
  rw [m3, m2.1 3 (by omega) (by omega) (by omega), c3]
theorem CR_st {o : am_O} {X : lt_X} {I : Nat → Nat → Int32} {J : Nat → Nat → Int64} {v : Value} {s : Int32} (h : o = some (v, mkh X (u2 I 3 15 s) J)) : CR o X I J v s :=
  ⟨_, h, ⟨fun a h1 _ => u2_na _ _ _ _ _ h1, fun k hk => u2_nk _ _ _ _ _ hk⟩, u2_at _ _ _ _⟩
theorem MR_st {o : am_O} {X : lt_X} {I : Nat → Nat → Int32} {J : Nat → Nat → Int64} {v : Value} {s : Int32} (h : o = some (v, mkh X (u2 (u2 I 135 1 (nI 0)) 135 0 s) J)) : MR o X I J v s :=
  ⟨_, h, ⟨fun a h1 _ _ => by rw [u2_na _ _ _ _ _ h1, u2_na _ _ _ _ _ h1], fun k hk => by rw [u2_nk _ _ _ _ _ (by omega), u2_nk _ _ _ _ _ (by omega)]⟩, u2_at _ _ _ _⟩
theorem u2_u2 (I : Nat → Nat → Int32) (a k : Nat) (v w : Int32) : u2 (u2 I a k v) a k w = u2 I a k w := by
  funext b j
  by_cases q : b = a
  · subst q
    by_cases r : j = k
    · subst r; rw [u2_at, u2_at]
    · rw [u2_nk _ _ _ _ _ r, u2_nk _ _ _ _ _ r, u2_nk _ _ _ _ _ r]
  · rw [u2_na _ _ _ _ _ q, u2_na _ _ _ _ _ q, u2_na _ _ _ _ _ q]
