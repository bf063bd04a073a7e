/-! texts: dials; the reference's new steps as numbers, what stays -/
def toN (x : Int32) : Nat := x.toBitVec.toNat
theorem toN_lt (x : Int32) : toN x < 2 ^ 32 := x.toBitVec.isLt
theorem nI_toN (x : Int32) : nI (toN x) = x := by
  apply Int32.toBitVec_inj.1
  show BitVec.ofNat 32 x.toBitVec.toNat = x.toBitVec
  rw [BitVec.ofNat_toNat, BitVec.setWidth_eq]
theorem toN_nI {v : Nat} (h : v < 2 ^ 32) : toN (nI v) = v := by
  have e := nI_toN (nI v)
  exact (no_inj (toN_lt _) h).mp e
/-- counts by T, the steps by the reference's block 4 -/
def TV (T : Nat → Nat) (V : Nat → Nat → Int32) : Nat → Nat := fun k => if k < 4 then T k else toN (V 140 (1716 + k))
theorem TV_4 {T : Nat → Nat} {V : Nat → Nat → Int32} {k : Nat} (h : k < 4) : TV T V k = T k := if_pos h
theorem TV_at {T : Nat → Nat} {V : Nat → Nat → Int32} {k v : Nat} (h : 4 ≤ k) (hv : v < 2 ^ 32) (e : V 140 (1716 + k) = nI v) : TV T V k = v := by
  unfold TV
  rw [if_neg (by omega), e, toN_nI hv]
theorem TV_eq {T : Nat → Nat} {V W : Nat → Nat → Int32} {k : Nat} (e : 4 ≤ k → W 140 (1716 + k) = V 140 (1716 + k)) : TV T W k = TV T V k := by
  unfold TV
  by_cases h : k < 4
  · rw [if_pos h, if_pos h]
  · rw [if_neg h, if_neg h, e (by omega)]
theorem DS_loc {w f g n w' f' g' n' : Nat → Int32} {T U : Nat → Nat} {s p : Nat} (hw : w' p = w p) (hf : f' p = f p) (hg : g' p = g p) (hn : n' p = n p) (h4 : ∀ k, k < 4 → U k = T k) (hT : ∀ j, j < 8 → U (159 + 9 * s + j) = T (159 + 9 * s + j)) (H : DS w f g n T s p) : DS w' f' g' n' U s p := by
  have e0 := hT 0 (by omega)
  have e1 := hT 1 (by omega)
  have e2 := hT 2 (by omega)
  have e3 := hT 3 (by omega)
  rw [show 159 + 9 * s + 0 = 159 + 9 * s by omega] at e0
  rw [show 159 + 9 * s + 1 = 160 + 9 * s by omega] at e1
  rw [show 159 + 9 * s + 2 = 161 + 9 * s by omega] at e2
  rw [show 159 + 9 * s + 3 = 162 + 9 * s by omega] at e3
  unfold DS at H ⊢
  rw [hw, hf, hg, hn, e0, e1, e2, e3, h4 1 (by omega), h4 2 (by omega), h4 3 (by omega)]; exact H
theorem DB_loc {w f g n w' f' g' n' : Nat → Int32} {T U : Nat → Nat} {s p : Nat} (hw : w' p = w p) (hf : f' p = f p) (hg : g' p = g p) (hn : n' p = n p) (h4 : ∀ k, k < 4 → U k = T k) (hT : ∀ j, j < 8 → U (159 + 9 * s + j) = T (159 + 9 * s + j)) (H : DB w f g n T s p) : DB w' f' g' n' U s p := by
  have e0 := hT 0 (by omega)
  have e1 := hT 1 (by omega)
  have e2 := hT 2 (by omega)
  have e6 := hT 6 (by omega)
  have e7 := hT 7 (by omega)
  rw [show 159 + 9 * s + 0 = 159 + 9 * s by omega] at e0
  rw [show 159 + 9 * s + 1 = 160 + 9 * s by omega] at e1
  rw [show 159 + 9 * s + 2 = 161 + 9 * s by omega] at e2
  rw [show 159 + 9 * s + 6 = 165 + 9 * s by omega] at e6
  rw [show 159 + 9 * s + 7 = 166 + 9 * s by omega] at e7
  unfold DB at H ⊢
  rw [hw, hf, hg, hn, e0, e1, e2, e6, e7, h4 1 (by omega), h4 2 (by omega), h4 3 (by omega)]; exact H
theorem DL_loc {w f g n m w' f' g' n' m' : Nat → Int32} {T U : Nat → Nat} (h4 : ∀ k, k < 4 → U k = T k) : ∀ k s e p q, (∀ i, p ≤ i → i < q → w' i = w i ∧ f' i = f i ∧ g' i = g i ∧ n' i = n i ∧ m' i = m i) → (∀ j, 159 + 9 * s ≤ j → j < 159 + 9 * e → U j = T j) → DL w f g n m T k s e p q → DL w' f' g' n' m' U k s e p q := by
  intro k
  induction k with
  | zero => intro s e p q _ _ H; exact H
  | succ k ih =>
    intro s e p q ha hT H
    simp only [DL] at H ⊢
    rcases H with H | ⟨a1, a2, a3, a4, a5⟩ | ⟨a1, y, a2, a3, a4, a5, a6, a7, a8, a9, a10, a11⟩
    · exact Or.inl H
    · obtain ⟨b1, b2, b3, b4, b5⟩ := ha p (by omega) a2
      exact Or.inr (Or.inl ⟨a1, a2, DS_loc b1 b2 b3 b4 h4 (fun j hj => hT _ (by omega) (by omega)) a3, by rw [hT _ (by omega) (by omega)]; exact a4, ih _ _ _ _ (fun i h1 h2 => ha i (by omega) h2) (fun j h1 h2 => hT j (by omega) h2) a5⟩)
    · have e8 := hT (167 + 9 * s) (by omega) (by omega)
      obtain ⟨b1, b2, b3, b4, b5⟩ := ha p (by omega) (by omega)
      obtain ⟨c1, c2, c3, c4, c5⟩ := ha y (by omega) (by omega)
      rw [e8]
      exact Or.inr (Or.inr ⟨a1, y, a2, a3, DB_loc b1 b2 b3 b4 h4 (fun j hj => hT _ (by omega) (by omega)) a4, a5, a6, by rw [c1]; exact a7, by rw [c5]; exact a8, by rw [b5]; exact a9, ih _ _ _ _ (fun i h1 h2 => ha i (by omega) (by omega)) (fun j h1 h2 => hT j (by omega) (by omega)) a10, ih _ _ _ _ (fun i h1 h2 => ha i (by omega) h2) (fun j h1 h2 => hT j (by omega) h2) a11⟩)
/-- frames of the dials' reading, from place p, level l, step s on -/
def DI (p l : Nat) (I K : Nat → Nat → Int32) : Prop := (∀ a, a ≠ 115 → ¬ (118 ≤ a ∧ a ≤ 125) → K a = I a) ∧ (∀ a i, 120 ≤ a → a ≤ 124 → i < p → K a i = I a i) ∧ (∀ i, i < l → K 125 i = I 125 i)
def DJ (J Y : Nat → Nat → Int64) : Prop := ∀ a, a ≠ 115 → Y a = J a
def DV (s : Nat) (M V : Nat → Nat → Int32) : Prop := (∀ a, a ≠ 135 → a ≠ 140 → V a = M a) ∧ (∀ k, k < 1875 + 9 * s → V 140 k = M 140 k) ∧ (∀ k, ¬ (12 ≤ k ∧ k ≤ 18) → k ≠ 25 → V 135 k = M 135 k)
theorem DI_0 (p l : Nat) (I : Nat → Nat → Int32) : DI p l I I := ⟨fun _ _ _ => rfl, fun _ _ _ _ _ => rfl, fun _ _ => rfl⟩
theorem DJ_0 (J : Nat → Nat → Int64) : DJ J J := fun _ _ => rfl
theorem DV_0 (s : Nat) (M : Nat → Nat → Int32) : DV s M M := ⟨fun _ _ _ => rfl, fun _ _ => rfl, fun _ _ _ => rfl⟩
theorem DI_t {p l p' l' : Nat} {I K Z : Nat → Nat → Int32} (hp : p ≤ p') (hl : l ≤ l') (H : DI p l I K) (H2 : DI p' l' K Z) : DI p l I Z := ⟨fun a h1 h2 => by rw [H2.1 a h1 h2, H.1 a h1 h2], fun a i h1 h2 h3 => by rw [H2.2.1 a i h1 h2 (by omega), H.2.1 a i h1 h2 h3], fun i h => by rw [H2.2.2 i (by omega), H.2.2 i h]⟩
theorem DJ_t {I K Z : Nat → Nat → Int64} (H : DJ I K) (H2 : DJ K Z) : DJ I Z := fun a h => by rw [H2 a h, H a h]
theorem DV_t {s s' : Nat} {I K Z : Nat → Nat → Int32} (hs : s ≤ s') (H : DV s I K) (H2 : DV s' K Z) : DV s I Z := ⟨fun a h1 h2 => by rw [H2.1 a h1 h2, H.1 a h1 h2], fun k h => by rw [H2.2.1 k (by omega), H.2.1 k h], fun k h1 h2 => by rw [H2.2.2 k h1 h2, H.2.2 k h1 h2]⟩
theorem DV_F {s : Nat} {M K : Nat → Nat → Int32} (H : FTM M K) : DV s M K := ⟨fun a h1 _ => H.1 a h1, fun k _ => by rw [H.1 140 (by omega)], fun k h _ => H.2 k (by omega)⟩
theorem DV_flt {s : Nat} {M V : Nat → Nat → Int32} (H : DV s M V) (k b : Nat) : DV s M (flt V k b) := ⟨fun a h1 h2 => by rw [flt_na _ _ _ h1]; exact H.1 a h1 h2, fun j h => by rw [flt_na _ _ _ (by omega)]; exact H.2.1 j h, fun j h1 h2 => by rw [flt_nk _ _ _ (by omega) (by omega)]; exact H.2.2 j h1 h2⟩
theorem DV_u {s k : Nat} {v : Int32} {M V : Nat → Nat → Int32} (h : 1875 + 9 * s ≤ k) (H : DV s M V) : DV s M (u2 V 140 k v) := ⟨fun b h1 h2 => by rw [u2_na _ _ _ _ _ h2]; exact H.1 b h1 h2, fun j hj => by rw [u2_nk _ _ _ _ _ (by omega)]; exact H.2.1 j hj, fun j h1 h2 => by rw [u2_na _ _ _ _ _ (by omega)]; exact H.2.2 j h1 h2⟩
theorem DV_25 {s : Nat} {v : Int32} {M V : Nat → Nat → Int32} (H : DV s M V) : DV s M (u2 V 135 25 v) := ⟨fun b h1 h2 => by rw [u2_na _ _ _ _ _ h1]; exact H.1 b h1 h2, fun j hj => by rw [u2_na _ _ _ _ _ (by omega)]; exact H.2.1 j hj, fun j h1 h2 => by rw [u2_nk _ _ _ _ _ h2]; exact H.2.2 j h1 h2⟩
theorem DI_u {p l a k : Nat} {v : Int32} {I K : Nat → Nat → Int32} (h : (120 ≤ a ∧ a ≤ 124 ∧ p ≤ k) ∨ (a = 125 ∧ l ≤ k) ∨ a = 118 ∨ a = 119) (H : DI p l I K) : DI p l I (u2 K a k v) := ⟨fun b h1 h2 => by rw [u2_na _ _ _ _ _ (by omega)]; exact H.1 b h1 h2, fun b i h1 h2 h3 => by
    by_cases q : b = a
    · subst q; rw [u2_nk _ _ _ _ _ (by omega)]; exact H.2.1 b i h1 h2 h3
    · rw [u2_na _ _ _ _ _ q]; exact H.2.1 b i h1 h2 h3, fun i hi => by
    by_cases q : 125 = a
    · subst q; rw [u2_nk _ _ _ _ _ (by omega)]; exact H.2.2 i hi
    · rw [u2_na _ _ _ _ _ q]; exact H.2.2 i hi⟩
/-- the town that is here, its names and counts on both sides -/
def NH (T : Nat → Nat) (t : Nat) (I : Nat → Nat → Int32) (J : Nat → Nat → Int64) (M : Nat → Nat → Int32) (L : Nat → Nat → Int64) : Prop := (∀ k, k < 4 → T k ≤ 6) ∧ (∀ k, k < 4 → I (t + 2) k = nI (T k)) ∧ (∀ k, k < 4 → M 140 k = nI (T k)) ∧ ∀ k i, k < 4 → i < T k → J (t + 1) (6 * k + i) = L 142 (6 * k + i)
theorem NH_t {T : Nat → Nat} {t p l s : Nat} {I K M V : Nat → Nat → Int32} {J Y L P : Nat → Nat → Int64} (ht : isT t) (hI : DI p l I K) (hJ : DJ J Y) (hM : DV s M V) (hL : FTL L P) (H : NH T t I J M L) : NH T t K Y V P := by
  have htt := ht
  unfold isT at htt
  obtain ⟨h1, h2, h3, h4⟩ := H
  exact ⟨h1, fun k hk => by rw [hI.1 _ (by omega) (by omega)]; exact h2 k hk, fun k hk => by rw [hM.2.1 _ (by omega)]; exact h3 k hk, fun k i hk hi => by rw [hJ _ (by omega), hL.1 142 (by omega)]; exact h4 k i hk hi⟩
/-- class and reference between two steps: within l blocks, p places and s steps made -/
def JD (f : Nat → Int32) (n : Nat) (T : Nat → Nat) (t q l s p : Nat) (I : Nat → Nat → Int32) (J : Nat → Nat → Int64) (M : Nat → Nat → Int32) (L : Nat → Nat → Int64) : Prop :=
  q ≤ n ∧ l ≤ 3 ∧ s ≤ 30 ∧ p + l ≤ 2 * s ∧ s ≤ p ∧ CT f n q I J ∧ KWS J ∧ OK5 I ∧ I 118 3 = nI l ∧ I 119 6 = nI p ∧ I 119 7 = nI s ∧ RT f n q M L ∧ M 135 12 = nI 0 ∧ M 135 25 = nI s ∧ NH T t I J M L
/-- a fault that both keep -/
def FD (f : Nat → Int32) (n : Nat) (I : Nat → Nat → Int32) (J : Nat → Nat → Int64) (M : Nat → Nat → Int32) (L : Nat → Nat → Int64) (K : Nat → Nat → Int32) (Y : Nat → Nat → Int64) (V : Nat → Nat → Int32) (P : Nat → Nat → Int64) : Prop :=
  ∃ b s r, 0 < b ∧ b < 8 ∧ K 115 10 = nI b ∧ K 115 11 = nI s ∧ V 135 12 = nI b ∧ V 135 13 = nI s ∧ RT f n r V P ∧ DI 0 0 I K ∧ DJ J Y ∧ DV 0 M V ∧ FTL L P
theorem FD_u {f : Nat → Int32} {n k : Nat} {v : Int32} {I K M V : Nat → Nat → Int32} {J Y L P : Nat → Nat → Int64} (hk : 1875 ≤ k) (H : FD f n I J M L K Y V P) : FD f n I J M L K Y (u2 V 140 k v) P := by
  obtain ⟨b, s, r, h1, h2, h3, h4, h5, h6, h7, h8, h9, h10, h11⟩ := H
  exact ⟨b, s, r, h1, h2, h3, h4, by rw [u2_na _ _ _ _ _ (by omega)]; exact h5, by rw [u2_na _ _ _ _ _ (by omega)]; exact h6, RT_o (by omega) (by omega) h7, h8, h9, DV_u (by omega) h10, h11⟩
theorem FD_t {f : Nat → Int32} {n p l s : Nat} {I K I0 M V M0 : Nat → Nat → Int32} {J Y J0 L P L0 : Nat → Nat → Int64} (gI : DI p l I0 I) (gJ : DJ J0 J) (gM : DV s M0 M) (gL : FTL L0 L) (H : FD f n I J M L K Y V P) : FD f n I0 J0 M0 L0 K Y V P := by
  obtain ⟨b, c, r, h1, h2, h3, h4, h5, h6, h7, h8, h9, h10, h11⟩ := H
  exact ⟨b, c, r, h1, h2, h3, h4, h5, h6, h7, DI_t (Nat.le_refl 0) (Nat.le_refl 0) ⟨gI.1, fun _ _ _ _ h => absurd h (by omega), fun _ h => absurd h (by omega)⟩ h8, DJ_t gJ h9, DV_t (Nat.le_refl 0) ⟨gM.1, fun k hk => gM.2.1 k (by omega), gM.2.2⟩ h10, FTL_t gL h11⟩
theorem FD_z {f : Nat → Int32} {n q r r2 p l s0 b s : Nat} {I M Z V0 K V : Nat → Nat → Int32} {J L Y0 P0 Y P : Nat → Nat → Int64} (h0 : 0 < b) (h8 : b < 8) (hm : MS f n q r Z Y0 K Y) (hv : VS f n r2 V0 P0 V P) (gI : DI p l I Z) (gJ : DJ J Y0) (gM : DV s0 M V0) (gL : FTL L P0) : FD f n I J M L (u2 (u2 K 115 10 (nI b)) 115 11 (nI s)) Y (flt V b s) P :=
  ⟨b, s, r2, h0, h8, by rw [u2_nk _ _ _ _ _ (by omega), u2_at], u2_at _ _ _ _, flt_12 _ _ _, flt_13 _ _ _, RT_flt _ _ hv.1, ⟨fun a h1 h2 => by rw [u2_na _ _ _ _ _ h1, u2_na _ _ _ _ _ h1, hm.2.2.2.2.1 a h1]; exact gI.1 a h1 h2, fun _ _ _ _ h => absurd h (by omega), fun _ h => absurd h (by omega)⟩, fun a h1 => by rw [hm.2.2.2.2.2.1 a h1]; exact gJ a h1, DV_flt (DV_t (s' := 0) (Nat.le_refl 0) ⟨gM.1, fun k hk => gM.2.1 k (by omega), gM.2.2⟩ (DV_F hv.2.2.1)) _ _, FTL_t gL hv.2.2.2⟩
