/-! towns are copied -/
theorem w2_at (I : Nat → Nat → Int32) (a : Nat) (f : Nat → Int32) : w2 I a f a = f := if_pos rfl
theorem w2_na {I : Nat → Nat → Int32} {a b : Nat} {f : Nat → Int32} (h : b ≠ a) : w2 I a f b = I b := if_neg h
theorem DS_arr {w f g n w' f' g' n' : Nat → Int32} {T : Nat → Nat} {s p : Nat} (hw : w' p = w p) (hf : f' p = f p) (hg : g' p = g p) (hn : n' p = n p) (H : DS w f g n T s p) : DS w' f' g' n' T s p := by
  unfold DS at H ⊢
  rw [hw, hf, hg, hn]; exact H
theorem DB_arr {w f g n w' f' g' n' : Nat → Int32} {T : Nat → Nat} {s p : Nat} (hw : w' p = w p) (hf : f' p = f p) (hg : g' p = g p) (hn : n' p = n p) (H : DB w f g n T s p) : DB w' f' g' n' T s p := by
  unfold DB at H ⊢
  rw [hw, hf, hg, hn]; exact H
theorem DL_arr {w f g n m w' f' g' n' m' : Nat → Int32} {T : Nat → Nat} {z : Nat} (hw : ∀ i, i < z → w' i = w i) (hf : ∀ i, i < z → f' i = f i) (hg : ∀ i, i < z → g' i = g i) (hn : ∀ i, i < z → n' i = n i) (hm : ∀ i, i < z → m' i = m i) : ∀ k s e p q, q ≤ z → DL w f g n m T k s e p q → DL w' f' g' n' m' T k s e p q := by
  intro k
  induction k with
  | zero => intro s e p q _ H; exact H
  | succ k ih =>
    intro s e p q hq H
    simp only [DL] at H ⊢
    rcases H with H | ⟨a1, a2, a3, a4, a5⟩ | ⟨a1, y, a2, a3, a4, a5, a6, a7, a8, a9, a10, a11⟩
    · exact Or.inl H
    · exact Or.inr (Or.inl ⟨a1, a2, DS_arr (hw p (by omega)) (hf p (by omega)) (hg p (by omega)) (hn p (by omega)) a3, a4, ih _ _ _ _ hq a5⟩)
    · refine Or.inr (Or.inr ⟨a1, y, a2, a3, DB_arr (hw p (by omega)) (hf p (by omega)) (hg p (by omega)) (hn p (by omega)) a4, a5, a6, ?_, ?_, ?_, ih _ _ _ _ (by omega) a10, ih _ _ _ _ hq a11⟩)
      · rw [hw y (by omega)]; exact a7
      · rw [hm y (by omega)]; exact a8
      · rw [hm p (by omega)]; exact a9
theorem TC_copy {I K : Nat → Nat → Int32} {t u : Nat} {T : Nat → Nat} (hw : WF T) (h0 : ∀ k, 2 ≤ k → k ≤ 6 → K t k = I u k) (h2 : ∀ k, k < 4 → K (t + 2) k = I (u + 2) k) (h6 : ∀ j, 3 ≤ j → j < 14 → ∀ k, k < 6 → K (t + j) k = I (u + j) k) (hr : ∀ k, k < 48 → K (t + 6) k = I (u + 6) k) (hl : ∀ k, k < 36 → K (t + 10) k = I (u + 10) k) (H : TC I u T) : TC K t T := by
  obtain ⟨a1, ⟨a2, a3, a4⟩, ⟨a5, a6⟩, a7, a8, a9, a10, a11⟩ := H
  obtain ⟨w0, w1, w2', w3, -⟩ := hw.1
  refine ⟨fun k hk => by rw [h2 k hk]; exact a1 k hk, ⟨by rw [h0 2 (by omega) (by omega)]; exact a2, by rw [h0 3 (by omega) (by omega)]; exact a3, by rw [h0 4 (by omega) (by omega)]; exact a4⟩, ⟨by rw [h0 5 (by omega) (by omega)]; exact a5, by rw [h0 6 (by omega) (by omega)]; exact a6⟩, fun v hv => ?_, fun v k hv hk => ?_, fun p hp => ?_, fun p s hp hs => ?_, fun k hk => ?_⟩
  · rw [h6 3 (by omega) (by omega) v (by omega), h6 4 (by omega) (by omega) v (by omega), h6 5 (by omega) (by omega) v (by omega)]; exact a7 v hv
  · have := hw.2.1 v hv
    rw [hr _ (by omega)]; exact a8 v k hv hk
  · rw [h6 7 (by omega) (by omega) p (by omega), h6 8 (by omega) (by omega) p (by omega), h6 9 (by omega) (by omega) p (by omega)]; exact a9 p hp
  · rw [hl _ (by omega)]; exact a10 p s hp hs
  · rw [h6 11 (by omega) (by omega) k (by omega), h6 12 (by omega) (by omega) k (by omega), h6 13 (by omega) (by omega) k (by omega)]; exact a11 k hk
theorem cpy0 {α : Type} {f g : Nat → α} {n k : Nat} (h : k < n) : va_cpy f g 0 0 n k = f k := by
  rw [pk_cpy_in (by omega) (by omega)]; congr 1; omega
theorem c5_take {N d : Nat} {X : lt_X} {I : Nat → Nat → Int32} {J : Nat → Nat → Int64} {t u : Nat} {T : Nat → Nat} (ht : isT t) (hu : isT u) (htu : ¬ t = u) (hT : TC I u T) (hw : WF T) (hD : DC I u T) : ∃ K, am_G am_prog (N + 30) (d + 4) 58 [.ref t, .ref u] (mkh X I J) = some (.null, mkh X K (w2L J (t + 1) (va_cpy (J (u + 1)) (J (t + 1)) 0 0 24))) ∧ (∀ a, ¬ (t ≤ a ∧ a < t + 20) → K a = I a) ∧ TC K t T ∧ DC K t T := by
  obtain ⟨e1, e2, e3, e4, sz, e5, e6, e7⟩ := hD
  have hne : t + 20 ≤ u ∨ u + 20 ≤ t := by
    rcases ht with rfl | rfl | rfl | rfl | rfl <;> rcases hu with rfl | rfl | rfl | rfl | rfl <;> first | omega | exact absurd rfl htu
  rw [gX5_take N (d + 2) ht, sX5_take_0 N (d + 2) _ ht hu htu]
  generalize hI1 : w2 (w2 (w2 (w2 (w2 (w2 (w2 (w2 (w2 (w2 (w2 (w2 (u2 (u2 (u2 (u2 (u2 I t 2 (I u 2)) t 3 (I u 3)) t 4 (I u 4)) t 5 (I u 5)) t 6 (I u 6)) (t + 2) (va_cpy (I (u + 2)) (I (t + 2)) 0 0 4)) (t + 3) (va_cpy (I (u + 3)) (I (t + 3)) 0 0 6)) (t + 4) (va_cpy (I (u + 4)) (I (t + 4)) 0 0 6)) (t + 5) (va_cpy (I (u + 5)) (I (t + 5)) 0 0 6)) (t + 6) (va_cpy (I (u + 6)) (I (t + 6)) 0 0 48)) (t + 7) (va_cpy (I (u + 7)) (I (t + 7)) 0 0 6)) (t + 8) (va_cpy (I (u + 8)) (I (t + 8)) 0 0 6)) (t + 9) (va_cpy (I (u + 9)) (I (t + 9)) 0 0 6)) (t + 10) (va_cpy (I (u + 10)) (I (t + 10)) 0 0 36)) (t + 11) (va_cpy (I (u + 11)) (I (t + 11)) 0 0 6)) (t + 12) (va_cpy (I (u + 12)) (I (t + 12)) 0 0 6)) (t + 13) (va_cpy (I (u + 13)) (I (t + 13)) 0 0 6) = I1
  have z0 : ∀ a, ¬ (t ≤ a ∧ a < t + 14) → I1 a = I a := by
    intro a ha
    rw [← hI1, w2_na (by omega), w2_na (by omega), w2_na (by omega), w2_na (by omega), w2_na (by omega), w2_na (by omega), w2_na (by omega), w2_na (by omega), w2_na (by omega), w2_na (by omega), w2_na (by omega), w2_na (by omega), u2_na _ _ _ _ _ (by omega), u2_na _ _ _ _ _ (by omega), u2_na _ _ _ _ _ (by omega), u2_na _ _ _ _ _ (by omega), u2_na _ _ _ _ _ (by omega)]
  have zt : ∀ k, 2 ≤ k → k ≤ 6 → I1 t k = I u k := by
    intro k k1 k2
    rw [← hI1, w2_na (by omega), w2_na (by omega), w2_na (by omega), w2_na (by omega), w2_na (by omega), w2_na (by omega), w2_na (by omega), w2_na (by omega), w2_na (by omega), w2_na (by omega), w2_na (by omega), w2_na (by omega)]
    have hk : k = 2 ∨ k = 3 ∨ k = 4 ∨ k = 5 ∨ k = 6 := by omega
    rcases hk with rfl | rfl | rfl | rfl | rfl
    · rw [u2_nk _ _ _ _ _ (by omega), u2_nk _ _ _ _ _ (by omega), u2_nk _ _ _ _ _ (by omega), u2_nk _ _ _ _ _ (by omega), u2_at]
    · rw [u2_nk _ _ _ _ _ (by omega), u2_nk _ _ _ _ _ (by omega), u2_nk _ _ _ _ _ (by omega), u2_at]
    · rw [u2_nk _ _ _ _ _ (by omega), u2_nk _ _ _ _ _ (by omega), u2_at]
    · rw [u2_nk _ _ _ _ _ (by omega), u2_at]
    · rw [u2_at]
  have zr : ∀ j, 2 ≤ j → j < 14 → ∃ n, I1 (t + j) = va_cpy (I (u + j)) (I (t + j)) 0 0 n ∧ (j = 2 → n = 4) ∧ (3 ≤ j → 6 ≤ n) ∧ (j = 6 → n = 48) ∧ (j = 10 → n = 36) := by
    intro j j1 j2
    have hj : j = 2 ∨ j = 3 ∨ j = 4 ∨ j = 5 ∨ j = 6 ∨ j = 7 ∨ j = 8 ∨ j = 9 ∨ j = 10 ∨ j = 11 ∨ j = 12 ∨ j = 13 := by omega
    rcases hj with rfl | rfl | rfl | rfl | rfl | rfl | rfl | rfl | rfl | rfl | rfl | rfl
    · exact ⟨4, by rw [← hI1, w2_na (by omega), w2_na (by omega), w2_na (by omega), w2_na (by omega), w2_na (by omega), w2_na (by omega), w2_na (by omega), w2_na (by omega), w2_na (by omega), w2_na (by omega), w2_na (by omega), w2_at], by omega, by omega, by omega, by omega⟩
    · exact ⟨6, by rw [← hI1, w2_na (by omega), w2_na (by omega), w2_na (by omega), w2_na (by omega), w2_na (by omega), w2_na (by omega), w2_na (by omega), w2_na (by omega), w2_na (by omega), w2_na (by omega), w2_at], by omega, by omega, by omega, by omega⟩
    · exact ⟨6, by rw [← hI1, w2_na (by omega), w2_na (by omega), w2_na (by omega), w2_na (by omega), w2_na (by omega), w2_na (by omega), w2_na (by omega), w2_na (by omega), w2_na (by omega), w2_at], by omega, by omega, by omega, by omega⟩
    · exact ⟨6, by rw [← hI1, w2_na (by omega), w2_na (by omega), w2_na (by omega), w2_na (by omega), w2_na (by omega), w2_na (by omega), w2_na (by omega), w2_na (by omega), w2_at], by omega, by omega, by omega, by omega⟩
    · exact ⟨48, by rw [← hI1, w2_na (by omega), w2_na (by omega), w2_na (by omega), w2_na (by omega), w2_na (by omega), w2_na (by omega), w2_na (by omega), w2_at], by omega, by omega, by omega, by omega⟩
    · exact ⟨6, by rw [← hI1, w2_na (by omega), w2_na (by omega), w2_na (by omega), w2_na (by omega), w2_na (by omega), w2_na (by omega), w2_at], by omega, by omega, by omega, by omega⟩
    · exact ⟨6, by rw [← hI1, w2_na (by omega), w2_na (by omega), w2_na (by omega), w2_na (by omega), w2_na (by omega), w2_at], by omega, by omega, by omega, by omega⟩
    · exact ⟨6, by rw [← hI1, w2_na (by omega), w2_na (by omega), w2_na (by omega), w2_na (by omega), w2_at], by omega, by omega, by omega, by omega⟩
    · exact ⟨36, by rw [← hI1, w2_na (by omega), w2_na (by omega), w2_na (by omega), w2_at], by omega, by omega, by omega, by omega⟩
    · exact ⟨6, by rw [← hI1, w2_na (by omega), w2_na (by omega), w2_at], by omega, by omega, by omega, by omega⟩
    · exact ⟨6, by rw [← hI1, w2_na (by omega), w2_at], by omega, by omega, by omega, by omega⟩
    · exact ⟨6, by rw [← hI1, w2_at], by omega, by omega, by omega, by omega⟩
  have tc : TC I1 t T := by
    refine TC_copy hw zt (fun k hk => ?_) (fun j j1 j2 k hk => ?_) (fun k hk => ?_) (fun k hk => ?_) hT
    · obtain ⟨n, a, b, -⟩ := zr 2 (by omega) (by omega)
      rw [a, cpy0 (by rw [b rfl]; exact hk)]
    · obtain ⟨n, a, -, b, -⟩ := zr j (by omega) j2
      have := b j1
      rw [a, cpy0 (by omega)]
    · obtain ⟨n, a, -, -, b, -⟩ := zr 6 (by omega) (by omega)
      rw [a, cpy0 (by rw [b rfl]; exact hk)]
    · obtain ⟨n, a, -, -, -, b⟩ := zr 10 (by omega) (by omega)
      rw [a, cpy0 (by rw [b rfl]; exact hk)]
  have u14 : I1 (u + 14) = I (u + 14) := z0 _ (by omega)
  have g0 : ¬ nI 0 < nI 0 := nI_nlt (by omega) (by omega)
  have cnd : (¬ nI 0 < nI 0 ∧ ¬ nI 0 < nI 0 ∧ ¬ nI sz < nI 0) ∧ (nI 0).toNatClampNeg + (nI sz).toNatClampNeg ≤ 60 ∧ (nI 0).toNatClampNeg + (nI sz).toNatClampNeg ≤ 60 := by
    rw [nI_clamp (by omega), nI_clamp (by omega)]
    exact ⟨⟨g0, g0, nI_nlt (by omega) (by omega)⟩, by omega, by omega⟩
  have c01 : nI (T 157) = 0 ∨ nI (T 157) = 1 := by
    rcases Nat.le_one_iff_eq_zero_or_eq_one.mp e2 with h | h <;> rw [h]
    · exact Or.inl rfl
    · exact Or.inr rfl
  rw [fX1_takeA (N + 30) (d + 2) ht hu htu, sX1_takeA N (d + 2) _ ht hu htu, u14, e1, e6, if_pos c01, if_pos cnd, if_pos cnd, if_pos cnd, if_pos cnd, if_pos cnd, cV_some, kX5_take_0 N (d + 2), nI_clamp (by omega), e3]
  refine ⟨_, rfl, fun a ha => ?_, TC_frame (fun a b1 b2 => ?_) tc, ?_⟩
  · rw [w2_na (by omega), w2_na (by omega), w2_na (by omega), w2_na (by omega), w2_na (by omega), u2_na _ _ _ _ _ (by omega), u2_na _ _ _ _ _ (by omega), u2_na _ _ _ _ _ (by omega)]
    exact z0 a (by omega)
  · rw [w2_na (by omega), w2_na (by omega), w2_na (by omega), w2_na (by omega), w2_na (by omega), u2_na _ _ _ _ _ (by omega), u2_na _ _ _ _ _ (by omega), u2_na _ _ _ _ _ (by omega)]
  · have h14 : ∀ k, w2 (w2 (w2 (w2 (w2 (u2 (u2 (u2 I1 (t + 14) 5 (nI (T 157))) (t + 14) 6 (nI sz)) (t + 14) 7 (nI (T 158))) (t + 15) (va_cpy (I1 (u + 15)) (I1 (t + 15)) 0 0 sz)) (t + 16) (va_cpy (I1 (u + 16)) (I1 (t + 16)) 0 0 sz)) (t + 17) (va_cpy (I1 (u + 17)) (I1 (t + 17)) 0 0 sz)) (t + 18) (va_cpy (I1 (u + 18)) (I1 (t + 18)) 0 0 sz)) (t + 19) (va_cpy (I1 (u + 19)) (I1 (t + 19)) 0 0 sz) (t + 14) k = u2 (u2 (u2 I1 (t + 14) 5 (nI (T 157))) (t + 14) 6 (nI sz)) (t + 14) 7 (nI (T 158)) (t + 14) k := fun k => by
      rw [w2_na (by omega), w2_na (by omega), w2_na (by omega), w2_na (by omega), w2_na (by omega)]
    refine ⟨?_, e2, ?_, e4, sz, e5, ?_, fun hone => ?_⟩
    · rw [h14, u2_nk _ _ _ _ _ (by omega), u2_nk _ _ _ _ _ (by omega), u2_at]
    · rw [h14, u2_at]
    · rw [h14, u2_nk _ _ _ _ _ (by omega), u2_at]
    · refine DL_arr (z := sz) (fun i hi => ?_) (fun i hi => ?_) (fun i hi => ?_) (fun i hi => ?_) (fun i hi => ?_) _ _ _ _ _ (Nat.le_refl _) (e7 hone)
      · rw [w2_na (by omega), w2_na (by omega), w2_na (by omega), w2_na (by omega), w2_at, cpy0 hi, z0 _ (by omega)]
      · rw [w2_na (by omega), w2_na (by omega), w2_na (by omega), w2_at, cpy0 hi, z0 _ (by omega)]
      · rw [w2_na (by omega), w2_na (by omega), w2_at, cpy0 hi, z0 _ (by omega)]
      · rw [w2_na (by omega), w2_at, cpy0 hi, z0 _ (by omega)]
      · rw [w2_at, cpy0 hi, z0 _ (by omega)]
/-- a block of the reference comes to another one -/
def cpB (f : Nat → Int32) (s t k : Nat) : Nat → Int32 := fun p => if t ≤ p ∧ p < t + k then f (s + (p - t)) else f p
theorem u2_w (I : Nat → Nat → Int32) (f : Nat → Int32) (a k : Nat) (v : Int32) : u2 (w2 I a f) a k v = w2 I a (upd f k v) := by
  funext b
  unfold u2 w2
  by_cases q : b = a
  · rw [if_pos q, if_pos q]; rw [if_pos q]
  · rw [if_neg q, if_neg q]; rw [if_neg q]
theorem w2_id (I : Nat → Nat → Int32) (a : Nat) : w2 I a (I a) = I := by
  funext b
  unfold w2
  by_cases q : b = a
  · rw [if_pos q, q]
  · rw [if_neg q]
theorem c9_copy {N d : Nat} {X : lt_X} {I : Nat → Nat → Int32} {J : Nat → Nat → Int64} {b c : Nat} (hb : b ≤ 4) (hc : c ≤ 4) (hbc : b ≠ c) (hN : 10000 ≤ N) : am_G am_prog (N + 30) (d + 1) 353 [.ref 135, .int (nI b), .int (nI c)] (mkh X I J) = some (.null, mkh X (w2 I 140 (cpB (I 140) (429 * b) (429 * c) 429)) (w2L J 142 (cpA (J 142) (24 * b) (24 * c) 24))) := by
  rw [gX9_copy N d, sX9_copy_0 N d]
  have e0 : cpB (I 140) (429 * b) (429 * c) 0 = I 140 := by funext p; unfold cpB; rw [if_neg (by omega)]
  have f0 : cpA (J 142) (24 * b) (24 * c) 0 = J 142 := by funext p; unfold cpA; rw [if_neg (by omega)]
  have second := lqc (run := fun n k => RX9_copy_41 N d n X (nI b) (nI c) (nI k) (w2 I 140 (cpB (I 140) (429 * b) (429 * c) 429)) (w2L J 142 (cpA (J 142) (24 * b) (24 * c) k))) (m := 24) (c := 1) (B := 1) (R := some (.null, mkh X (w2 I 140 (cpB (I 140) (429 * b) (429 * c) 429)) (w2L J 142 (cpA (J 142) (24 * b) (24 * c) 24)))) (fun k B hk e1 => by
    refine ev_s (fun n => ?_) e1
    rw [sX9_copy_41 N d n, nc_lt hk (by omega), pk_mul, pk_mul, nI_add, nI_add, nc_in (by omega) (by omega), nc_in (by omega) (by omega), nI_clamp (by omega), nI_clamp (by omega), nI_add, u2L_w, w2L_at]
    have ef : vp_updL (cpA (J 142) (24 * b) (24 * c) k) (24 * c + k) (cpA (J 142) (24 * b) (24 * c) k (24 * b + k)) = cpA (J 142) (24 * b) (24 * c) (k + 1) := by
      funext p
      unfold vp_updL
      by_cases r : p = 24 * c + k
      · rw [if_pos r]
        unfold cpA
        rw [if_neg (by omega), if_pos (by omega)]
        congr 1; omega
      · rw [if_neg r]
        unfold cpA
        have : (24 * c ≤ p ∧ p < 24 * c + k) ↔ (24 * c ≤ p ∧ p < 24 * c + (k + 1)) := by omega
        simp only [this]
    rw [ef]) (ev_0 (fun n => by
    rw [sX9_copy_41 N d n, nc_nlt (Nat.le_refl _) (by omega)])) 24 0 (by omega)
  rw [f0, w2L_id] at second
  have first := lqc (run := fun n k => RX9_copy_2 N d n X (nI b) (nI c) (nI k) (w2 I 140 (cpB (I 140) (429 * b) (429 * c) k)) J) (m := 429) (c := 1) (B := 1 + 24 * 1 + 1) (R := some (.null, mkh X (w2 I 140 (cpB (I 140) (429 * b) (429 * c) 429)) (w2L J 142 (cpA (J 142) (24 * b) (24 * c) 24)))) (fun k B hk e1 => by
    refine ev_s (fun n => ?_) e1
    rw [sX9_copy_2 N d n, nc_lt hk (by omega), pk_mul, pk_mul, nI_add, nI_add, nc_in (by omega) (by omega), nc_in (by omega) (by omega), nI_clamp (by omega), nI_clamp (by omega), nI_add, u2_w, w2_at]
    have ef : upd (cpB (I 140) (429 * b) (429 * c) k) (429 * c + k) (cpB (I 140) (429 * b) (429 * c) k (429 * b + k)) = cpB (I 140) (429 * b) (429 * c) (k + 1) := by
      funext p
      unfold upd
      by_cases r : p = 429 * c + k
      · rw [if_pos r]
        unfold cpB
        rw [if_neg (by omega), if_pos (by omega)]
        congr 1; omega
      · rw [if_neg r]
        unfold cpB
        have : (429 * c ≤ p ∧ p < 429 * c + k) ↔ (429 * c ≤ p ∧ p < 429 * c + (k + 1)) := by omega
        simp only [this]
    rw [ef]) (ev_s (fun n => by
    rw [sX9_copy_2 N d n, nc_nlt (Nat.le_refl _) (by omega)]) second) 429 0 (by omega)
  rw [e0, w2_id] at first
  exact first (N + 29) (by omega)
