/-! texts: the reference goes one token on -/
def rk (K : Nat) : Nat := if K = 0 then 0 else if K = 1 then 2 else if K = 4294967295 then 4 else if 59 ≤ K ∧ K ≤ 62 then 3 else 1
/-- the reference's text behind a token -/
def RT (f : Nat → Int32) (n q : Nat) (M : Nat → Nat → Int32) (L : Nat → Nat → Int64) : Prop := (∀ k, k < n → M 139 k = f k) ∧ M 135 9 = nI n ∧ M 135 16 = nI (tkE f n q) ∧ M 135 15 = nI (tkS f n q) ∧ M 135 14 = nI (rk (tkK f n q)) ∧ (tkK f n q = 1 → M 135 17 = nI (tkV f n q)) ∧ (59 ≤ tkK f n q ∧ tkK f n q ≤ 62 → M 135 17 = nI (tkK f n q)) ∧ (tkK f n q = 3 → (∃ l, 8 < l ∧ l ≤ 900 ∧ M 135 18 = nI l) ∧ L 135 19 = -1) ∧ (tkK f n q = 2 ∨ (100 ≤ tkK f n q ∧ tkK f n q < 127) → (∃ l, l ≤ 8 ∧ M 135 18 = nI l) ∧ L 135 19 = lN (tkW f n q))
def FTM (M K : Nat → Nat → Int32) : Prop := (∀ a, a ≠ 135 → K a = M a) ∧ ∀ k, k < 14 ∨ 18 < k → K 135 k = M 135 k
def FTL (L P : Nat → Nat → Int64) : Prop := (∀ a, a ≠ 135 → P a = L a) ∧ ∀ k, k ≠ 19 → P 135 k = L 135 k
theorem FTM_0 (M : Nat → Nat → Int32) : FTM M M := ⟨fun _ _ => rfl, fun _ _ => rfl⟩
theorem FTL_0 (L : Nat → Nat → Int64) : FTL L L := ⟨fun _ _ => rfl, fun _ _ => rfl⟩
theorem FTM_u {M K : Nat → Nat → Int32} {k : Nat} {v : Int32} (hk : 14 ≤ k ∧ k ≤ 18) (H : FTM M K) : FTM M (u2 K 135 k v) :=
  ⟨fun a ha => by rw [u2_na _ _ _ _ _ ha]; exact H.1 a ha, fun j hj => by rw [u2_nk _ _ _ _ _ (by omega)]; exact H.2 j hj⟩
theorem FTL_u {L P : Nat → Nat → Int64} {v : Int64} (H : FTL L P) : FTL L (u2L P 135 19 v) :=
  ⟨fun a ha => by rw [u2L_na _ _ _ _ _ ha]; exact H.1 a ha, fun j hj => by rw [u2L_nk _ _ _ _ _ hj]; exact H.2 j hj⟩
theorem FTM_t {I K M : Nat → Nat → Int32} (H : FTM I K) (H2 : FTM K M) : FTM I M := ⟨fun a ha => by rw [H2.1 a ha, H.1 a ha], fun k hk => by rw [H2.2 k hk, H.2 k hk]⟩
theorem FTL_t {I K M : Nat → Nat → Int64} (H : FTL I K) (H2 : FTL K M) : FTL I M := ⟨fun a ha => by rw [H2.1 a ha, H.1 a ha], fun k hk => by rw [H2.2 k hk, H.2 k hk]⟩
def wr (f : Nat → Int32) (s k : Nat) : Int64 := if k ≤ 8 then lN (wv f s k) else -1
theorem wr_s {f : Nat → Int32} {s k : Nat} (hk : k < 8) (h : isLt (cb (f (s + k))) = true) : ((wr f s k * lN 32) + (nI (cb (f (s + k)))).toInt64) - lN 96 = wr f s (k + 1) := by
  have h' := (isLt_iff _).mp h
  unfold wr
  rw [if_pos (by omega), if_pos (by omega), lN_mul, nI_l (by omega), lN_add, lN_sub (by omega)]
  show lN (wv f s k * 32 + cb (f (s + k)) - 96) = lN (wv f s k * 32 + (cb (f (s + k)) - 96))
  congr 1; omega
def nr (f : Nat → Int32) (s k : Nat) : Nat := nv f s (min k 4)
section
variable {N d : Nat} {X : lt_X} {f : Nat → Int32} {n : Nat} {M : Nat → Nat → Int32} {L : Nat → Nat → Int64} {i : Nat}
theorem c9_look2 (hn : n ≤ 900) (hB : ∀ k, k < n → isB (f k)) (h139 : ∀ k, k < n → M 139 k = f k) (h9 : M 135 9 = nI n) (hi : i ≤ n) : am_G am_prog (N + 30) (d + 1) 203 [.ref 135, .int (nI i)] (mkh X M L) = some (.int (nI (if i < n then cb (f i) else 0)), mkh X M L) := by
  rw [gX9_look2 N d, sX9_look2_0 N d, h9]
  by_cases q : i < n
  · rw [nc_lt q (by omega), nc_in (by omega) (by omega), nI_clamp (by omega), h139 i q, (cb_spec (hB i q)).2.1, if_pos q]
  · rw [nc_nlt (by omega) (by omega), if_neg q]
theorem c9_isLetter {c : Nat} (hc : c < 2 ^ 31) : am_G am_prog (N + 30) (d + 1) 204 [.int (nI c)] (mkh X M L) = some (.int (nI (if isLt c = true then 1 else 0)), mkh X M L) := by
  rw [gX9_isLetter N d, sX9_isLetter_0 N d]
  by_cases q : isLt c = true
  · have := (isLt_iff _).mp q
    rw [nc_nlt (by omega) (by omega), nc_nlt (by omega) (by omega), if_pos q]
  · have q' : ¬ (97 ≤ c ∧ c ≤ 122) := fun h => q ((isLt_iff _).mpr h)
    rw [if_neg q]
    by_cases r : c < 97
    · rw [nc_lt r (by omega)]
    · rw [nc_nlt (by omega) (by omega), nc_lt (by omega) (by omega)]
theorem c9_isDigit {c : Nat} (hc : c < 2 ^ 31) : am_G am_prog (N + 30) (d + 1) 205 [.int (nI c)] (mkh X M L) = some (.int (nI (if isDg c = true then 1 else 0)), mkh X M L) := by
  rw [gX9_isDigit N d, sX9_isDigit_0 N d]
  by_cases q : isDg c = true
  · have := (isDg_iff _).mp q
    rw [nc_nlt (by omega) (by omega), nc_nlt (by omega) (by omega), if_pos q]
  · have q' : ¬ (48 ≤ c ∧ c ≤ 57) := fun h => q ((isDg_iff _).mpr h)
    rw [if_neg q]
    by_cases r : c < 48
    · rw [nc_lt r (by omega)]
    · rw [nc_nlt (by omega) (by omega), nc_lt (by omega) (by omega)]
theorem c9_isSignByte {c : Nat} (hc : c < 2 ^ 31) : am_G am_prog (N + 30) (d + 1) 206 [.ref 135, .int (nI c)] (mkh X M L) = some (.int (nI (if isSg c = true then 1 else 0)), mkh X M L) := by
  rw [gX9_isSignByte N d, sX9_isSignByte_0 N d]
  by_cases q : isSg c = true
  · rw [if_pos q]
    rcases (isSg_iff _).mp q with h | h | h | h
    · rw [nc_eq h]
    · rw [nc_ne (b := 59) (by omega) (by omega) (by omega), nc_eq h]
    · rw [nc_ne (b := 59) (by omega) (by omega) (by omega), nc_ne (b := 60) (by omega) (by omega) (by omega), nc_eq h]
    · rw [nc_ne (b := 59) (by omega) (by omega) (by omega), nc_ne (b := 60) (by omega) (by omega) (by omega), nc_ne (b := 62) (by omega) (by omega) (by omega), nc_eq h]
  · have q' : ¬ (c = 59 ∨ c = 60 ∨ c = 62 ∨ c = 61) := fun h => q ((isSg_iff _).mpr h)
    rw [if_neg q, nc_ne (b := 59) (by omega) (by omega) (by omega), nc_ne (b := 60) (by omega) (by omega) (by omega), nc_ne (b := 62) (by omega) (by omega) (by omega), nc_ne (b := 61) (by omega) (by omega) (by omega)]
theorem m8_step (hn : n ≤ 900) (hB : ∀ k, k < n → isB (f k)) (h139 : ∀ k, k < n → M 139 k = f k) (h9 : M 135 9 = nI n) (h15 : M 135 15 = nI i) (hi : i < n) (z : Nat) : RX9_advance_8 N (d + 1) (z + 1) X M L = if isBl (cb (f i)) = true then RX9_advance_8 N (d + 1) z X (u2 M 135 15 (nI (i + 1))) L else RX9_advance_58 N (d + 1) z X M L := by
  have l := c9_look2 (N := N) (d := d) (X := X) (L := L) hn hB h139 h9 (show i ≤ n by omega)
  rw [if_pos hi] at l
  have b := (cb_spec (hB i hi)).1
  rw [sX9_advance_8 N (d + 1) z, h9, h15, nc_lt hi (by omega), l, cI_some, kX9_advance_0 N (d + 1) z, h15]
  by_cases r : cb (f i) = 10
  · rw [nc_eq r, if_pos ((isBl_iff _).mpr (Or.inl r)), nI_add i 1]
  · rw [nc_ne r (by omega) (by omega), l, cI_some, kX9_advance_4 N (d + 1) z, h15]
    by_cases r2 : cb (f i) = 32
    · rw [nc_eq r2, if_pos ((isBl_iff _).mpr (Or.inr r2)), nI_add i 1]
    · rw [nc_ne r2 (by omega) (by omega), if_neg (fun h => ((isBl_iff _).mp h).elim r r2)]
theorem m58_step (hn : n ≤ 900) (hB : ∀ k, k < n → isB (f k)) (h139 : ∀ k, k < n → M 139 k = f k) (h9 : M 135 9 = nI n) (h15 : M 135 15 = nI i) (hi : i < n) (z : Nat) : RX9_advance_58 N (d + 1) (z + 1) X M L = if isLt (cb (f i)) = true then RX9_advance_109 N (d + 1) z X (u2 (u2 M 135 16 (nI i)) 135 14 (nI 1)) (u2L L 135 19 (lN 0)) else if isDg (cb (f i)) = true then RX9_advance_210 N (d + 1) z X (u2 (u2 M 135 16 (nI i)) 135 17 (nI 0)) L else some (.null, mkh X (u2 (u2 (u2 (u2 M 135 16 (nI i)) 135 16 (nI (i + 1))) 135 17 (nI (cb (f i)))) 135 14 (nI (if isSg (cb (f i)) = true then 3 else 4))) L) := by
  have a139 : ∀ k, k < n → u2 M 135 16 (nI i) 139 k = f k := fun k hk => by rw [u2_na _ _ _ _ _ (by omega)]; exact h139 k hk
  have a9 : u2 M 135 16 (nI i) 135 9 = nI n := by rw [u2_nk _ _ _ _ _ (by omega)]; exact h9
  have a15 : u2 M 135 16 (nI i) 135 15 = nI i := by rw [u2_nk _ _ _ _ _ (by omega)]; exact h15
  have l := c9_look2 (N := N) (d := d) (X := X) (L := L) hn hB a139 a9 (show i ≤ n by omega)
  rw [if_pos hi] at l
  have b := (cb_spec (hB i hi)).1
  rw [sX9_advance_58 N (d + 1) z, h9, h15, nc_lt hi (by omega), l, cI_some, kX9_advance_1 N (d + 1) z, c9_isLetter (d := d) (by omega), cI_some, kX9_advance_5 N (d + 1) z, nc_10]
  by_cases q : isLt (cb (f i)) = true
  · rw [if_pos q, if_pos q]
  · rw [if_neg q, if_neg q, c9_isDigit (d := d) (by omega), cI_some, kX9_advance_8 N (d + 1) z, nc_10]
    by_cases e : isDg (cb (f i)) = true
    · rw [if_pos e, if_pos e]
    · rw [if_neg e, if_neg e, a15, nI_add i 1, c9_isSignByte (d := d) (by omega), cI_some, kX9_advance_11 N (d + 1) z, nc_10]
      by_cases g : isSg (cb (f i)) = true
      · rw [if_pos g, if_pos g]
      · rw [if_neg g, if_neg g]
/-- a word's letters -/
theorem m109_step (hn : n ≤ 900) (hB : ∀ k, k < n → isB (f k)) {s k : Nat} (h139 : ∀ k, k < n → M 139 k = f k) (h9 : M 135 9 = nI n) (h15 : M 135 15 = nI s) (h16 : M 135 16 = nI (s + k)) (hk : s + k ≤ n) (h19 : L 135 19 = wr f s k) (z : Nat) : RX9_advance_109 N (d + 1) (z + 1) X M L = if s + k < n ∧ isLt (cb (f (s + k))) = true then RX9_advance_109 N (d + 1) z X (u2 M 135 16 (nI (s + (k + 1)))) (u2L L 135 19 (wr f s (k + 1))) else some (.null, mkh X (u2 M 135 18 (nI k)) L) := by
  have l := c9_look2 (N := N) (d := d) (X := X) (L := L) hn hB h139 h9 hk
  have b : (if s + k < n then cb (f (s + k)) else 0) < 256 := by
    split
    · exact (cb_spec (hB _ (by assumption))).1
    · omega
  rw [sX9_advance_109 N (d + 1) z, h16, l, cI_some, kX9_advance_2 N (d + 1) z, c9_isLetter (d := d) (by omega), cI_some, kX9_advance_6 N (d + 1) z, nc_10, h15, h16, pk_sub (by omega), Nat.add_sub_cancel_left]
  by_cases q : s + k < n
  · rw [if_pos q] at l ⊢
    by_cases g : isLt (cb (f (s + k))) = true
    · rw [if_pos g, if_pos (show s + k < n ∧ isLt (cb (f (s + k))) = true from ⟨q, g⟩)]
      by_cases k8 : k < 8
      · rw [nc_lt k8 (by omega), l, cI_some, kX9_advance_9 N (d + 1) z, h16, h19, wr_s k8 g, nI_add (s + k) 1]
        rfl
      · rw [nc_nlt (by omega) (by omega), nI_add (s + k) 1, show wr f s (k + 1) = -1 from if_neg (by omega)]
        rfl
    · rw [if_neg g, if_neg (show ¬ (s + k < n ∧ isLt (cb (f (s + k))) = true) from fun h => g h.2)]
  · rw [if_neg q, if_neg (show ¬ isLt 0 = true by decide), if_neg (show ¬ (s + k < n ∧ isLt (cb (f (s + k))) = true) from fun h => q h.1)]
theorem m210_step (hn : n ≤ 900) (hB : ∀ k, k < n → isB (f k)) {s k : Nat} (h139 : ∀ k, k < n → M 139 k = f k) (h9 : M 135 9 = nI n) (h15 : M 135 15 = nI s) (h16 : M 135 16 = nI (s + k)) (hk : s + k ≤ n) (h17 : M 135 17 = nI (nr f s k)) (z : Nat) : RX9_advance_210 N (d + 1) (z + 1) X M L = if s + k < n ∧ isDg (cb (f (s + k))) = true then RX9_advance_210 N (d + 1) z X (u2 (u2 M 135 17 (nI (nr f s (k + 1)))) 135 16 (nI (s + (k + 1)))) L else some (.null, mkh X (u2 M 135 14 (nI (if 4 < k then 4 else 2))) L) := by
  have l := c9_look2 (N := N) (d := d) (X := X) (L := L) hn hB h139 h9 hk
  have b : (if s + k < n then cb (f (s + k)) else 0) < 256 := by
    split
    · exact (cb_spec (hB _ (by assumption))).1
    · omega
  rw [sX9_advance_210 N (d + 1) z, h16, l, cI_some, kX9_advance_3 N (d + 1) z, c9_isDigit (d := d) (by omega), cI_some, kX9_advance_7 N (d + 1) z, nc_10, h15, h16, pk_sub (by omega), Nat.add_sub_cancel_left]
  have fin : (if nI 4 < nI k then some (Value.null, mkh X (u2 M 135 14 (nI 4)) L) else some (Value.null, mkh X (u2 M 135 14 (nI 2)) L)) = some (Value.null, mkh X (u2 M 135 14 (nI (if 4 < k then 4 else 2))) L) := by
    by_cases r : 4 < k
    · rw [nc_lt r (by omega), if_pos r]
    · rw [nc_nlt (by omega) (by omega), if_neg r]
  by_cases q : s + k < n
  · rw [if_pos q] at l ⊢
    by_cases g : isDg (cb (f (s + k))) = true
    · have g' := (isDg_iff _).mp g
      rw [if_pos g, if_pos (show s + k < n ∧ isDg (cb (f (s + k))) = true from ⟨q, g⟩)]
      by_cases k8 : k < 4
      · have e : nr f s (k + 1) = 10 * nr f s k + cb (f (s + k)) - 48 := by
          unfold nr
          rw [Nat.min_eq_left (by omega), Nat.min_eq_left (by omega)]
          show nv f s k * 10 + (cb (f (s + k)) - 48) = _
          omega
        rw [nc_lt k8 (by omega), h17, l, cI_some, kX9_advance_10 N (d + 1) z, h16, pk_mul, nI_add, pk_sub (by omega), nI_add (s + k) 1, e]
        rfl
      · have e : nr f s (k + 1) = nr f s k := by
          unfold nr
          rw [Nat.min_eq_right (by omega), Nat.min_eq_right (by omega)]
        rw [nc_nlt (by omega) (by omega), nI_add (s + k) 1, e, u2_id h17]
        rfl
    · rw [if_neg g, if_neg (show ¬ (s + k < n ∧ isDg (cb (f (s + k))) = true) from fun h => g h.2)]
      exact fin
  · rw [if_neg q, if_neg (show ¬ isDg 0 = true by decide), if_neg (show ¬ (s + k < n ∧ isDg (cb (f (s + k))) = true) from fun h => q h.1)]
    exact fin
end
section
variable {N d : Nat} {X : lt_X} {f : Nat → Int32} {n : Nat} {M : Nat → Nat → Int32} {L : Nat → Nat → Int64}
theorem m_word (hn : n ≤ 900) (hB : ∀ k, k < n → isB (f k)) {s : Nat} (h139 : ∀ k, k < n → M 139 k = f k) (h9 : M 135 9 = nI n) (h15 : M 135 15 = nI s) (h16 : M 135 16 = nI s) (hs : s ≤ n) (h19 : L 135 19 = lN 0) : ev (fun z => RX9_advance_109 N (d + 1) z X M L) (n - s + 3) (some (.null, mkh X (u2 (u2 M 135 16 (nI (s + wC f n s))) 135 18 (nI (wC f n s))) (u2L L 135 19 (wr f s (wC f n s))))) := by
  have hp : ∀ i, u2 M 135 16 (nI i) 135 16 = nI i ∧ u2 M 135 16 (nI i) 135 9 = nI n ∧ u2 M 135 16 (nI i) 135 15 = nI s ∧ u2 M 135 16 (nI i) 139 = M 139 := fun i => ⟨u2_at _ _ _ _, by rw [u2_nk _ _ _ _ _ (by omega)]; exact h9, by rw [u2_nk _ _ _ _ _ (by omega)]; exact h15, by rw [u2_na _ _ _ _ _ (by omega)]⟩
  have st := skp (run := fun z k => RX9_advance_109 N (d + 1) z X (u2 M 135 16 (nI (s + k))) (u2L L 135 19 (wr f s k))) (run2 := fun z k => some (.null, mkh X (u2 (u2 M 135 16 (nI (s + k))) 135 18 (nI k)) (u2L L 135 19 (wr f s k)))) (m := n - s) (p := fun k => !isLt (cb (f (s + k)))) ?_ ?_ ?_ (n - s) 0 1 (some (.null, mkh X (u2 (u2 M 135 16 (nI (s + wC f n s))) 135 18 (nI (wC f n s))) (u2L L 135 19 (wr f s (wC f n s))))) (by omega) (ev_0 (fun z => rfl))
  · have e1 : u2 M 135 16 (nI (s + 0)) = M := u2_id h16
    have e2 : u2L L 135 19 (wr f s 0) = L := by
      funext a k
      by_cases q : a = 135
      · subst q
        by_cases r : k = 19
        · subst r; rw [u2L_at, h19]; rfl
        · rw [u2L_nk _ _ _ _ _ r]
      · rw [u2L_na _ _ _ _ _ q]
    intro z hz
    have t : RX9_advance_109 N (d + 1) z X (u2 M 135 16 (nI (s + 0))) (u2L L 135 19 (wr f s 0)) = _ := st z (by omega)
    rw [e1, e2] at t
    exact t
  · intro z k hk q
    obtain ⟨p1, p2, p3, p4⟩ := hp (s + k)
    show RX9_advance_109 N (d + 1) (z + 1) X (u2 M 135 16 (nI (s + k))) (u2L L 135 19 (wr f s k)) = some (.null, mkh X (u2 (u2 M 135 16 (nI (s + k))) 135 18 (nI k)) (u2L L 135 19 (wr f s k)))
    rw [m109_step hn hB (by rw [p4]; exact h139) p2 p3 p1 (by omega) (u2L_at _ _ _ _) z, if_neg (fun h => by have h2 := h.2; simp [h2] at q)]
  · intro z k hk q
    obtain ⟨p1, p2, p3, p4⟩ := hp (s + k)
    show RX9_advance_109 N (d + 1) (z + 1) X (u2 M 135 16 (nI (s + k))) (u2L L 135 19 (wr f s k)) = RX9_advance_109 N (d + 1) z X (u2 M 135 16 (nI (s + (k + 1)))) (u2L L 135 19 (wr f s (k + 1)))
    rw [m109_step hn hB (by rw [p4]; exact h139) p2 p3 p1 (by omega) (u2L_at _ _ _ _) z, if_pos ⟨by omega, by simpa using q⟩, u2_u2, u2L_u2]
  · intro z
    obtain ⟨p1, p2, p3, p4⟩ := hp (s + (n - s))
    show RX9_advance_109 N (d + 1) (z + 1) X (u2 M 135 16 (nI (s + (n - s)))) (u2L L 135 19 (wr f s (n - s))) = some (.null, mkh X (u2 (u2 M 135 16 (nI (s + (n - s)))) 135 18 (nI (n - s))) (u2L L 135 19 (wr f s (n - s))))
    rw [m109_step hn hB (by rw [p4]; exact h139) p2 p3 p1 (by omega) (u2L_at _ _ _ _) z, if_neg (by omega)]
theorem m_number (hn : n ≤ 900) (hB : ∀ k, k < n → isB (f k)) {s : Nat} (h139 : ∀ k, k < n → M 139 k = f k) (h9 : M 135 9 = nI n) (h15 : M 135 15 = nI s) (h16 : M 135 16 = nI s) (hs : s ≤ n) (h17 : M 135 17 = nI 0) : ev (fun z => RX9_advance_210 N (d + 1) z X M L) (n - s + 3) (some (.null, mkh X (u2 (u2 (u2 M 135 17 (nI (nr f s (dC f n s)))) 135 16 (nI (s + dC f n s))) 135 14 (nI (if 4 < dC f n s then 4 else 2))) L)) := by
  have hp : ∀ i a, u2 (u2 M 135 17 a) 135 16 (nI i) 135 16 = nI i ∧ u2 (u2 M 135 17 a) 135 16 (nI i) 135 9 = nI n ∧ u2 (u2 M 135 17 a) 135 16 (nI i) 135 15 = nI s ∧ u2 (u2 M 135 17 a) 135 16 (nI i) 135 17 = a ∧ u2 (u2 M 135 17 a) 135 16 (nI i) 139 = M 139 := fun i a => ⟨u2_at _ _ _ _, by rw [u2_nk _ _ _ _ _ (by omega), u2_nk _ _ _ _ _ (by omega)]; exact h9, by rw [u2_nk _ _ _ _ _ (by omega), u2_nk _ _ _ _ _ (by omega)]; exact h15, by rw [u2_nk _ _ _ _ _ (by omega), u2_at], by rw [u2_na _ _ _ _ _ (by omega), u2_na _ _ _ _ _ (by omega)]⟩
  have st := skp (run := fun z k => RX9_advance_210 N (d + 1) z X (u2 (u2 M 135 17 (nI (nr f s k))) 135 16 (nI (s + k))) L) (run2 := fun z k => some (.null, mkh X (u2 (u2 (u2 M 135 17 (nI (nr f s k))) 135 16 (nI (s + k))) 135 14 (nI (if 4 < k then 4 else 2))) L)) (m := n - s) (p := fun k => !isDg (cb (f (s + k)))) ?_ ?_ ?_ (n - s) 0 1 (some (.null, mkh X (u2 (u2 (u2 M 135 17 (nI (nr f s (dC f n s)))) 135 16 (nI (s + dC f n s))) 135 14 (nI (if 4 < dC f n s then 4 else 2))) L)) (by omega) (ev_0 (fun z => rfl))
  · have e1 : u2 (u2 M 135 17 (nI (nr f s 0))) 135 16 (nI (s + 0)) = M := by rw [show nr f s 0 = 0 from rfl, u2_id (I := M) h17]; exact u2_id h16
    intro z hz
    have t : RX9_advance_210 N (d + 1) z X (u2 (u2 M 135 17 (nI (nr f s 0))) 135 16 (nI (s + 0))) L = _ := st z (by omega)
    rw [e1] at t
    exact t
  · intro z k hk q
    obtain ⟨p1, p2, p3, p5, p4⟩ := hp (s + k) (nI (nr f s k))
    show RX9_advance_210 N (d + 1) (z + 1) X (u2 (u2 M 135 17 (nI (nr f s k))) 135 16 (nI (s + k))) L = some (.null, mkh X (u2 (u2 (u2 M 135 17 (nI (nr f s k))) 135 16 (nI (s + k))) 135 14 (nI (if 4 < k then 4 else 2))) L)
    rw [m210_step hn hB (by rw [p4]; exact h139) p2 p3 p1 (by omega) p5 z, if_neg (fun h => by have h2 := h.2; simp [h2] at q)]
  · intro z k hk q
    obtain ⟨p1, p2, p3, p5, p4⟩ := hp (s + k) (nI (nr f s k))
    show RX9_advance_210 N (d + 1) (z + 1) X (u2 (u2 M 135 17 (nI (nr f s k))) 135 16 (nI (s + k))) L = RX9_advance_210 N (d + 1) z X (u2 (u2 M 135 17 (nI (nr f s (k + 1)))) 135 16 (nI (s + (k + 1)))) L
    rw [m210_step hn hB (by rw [p4]; exact h139) p2 p3 p1 (by omega) p5 z, if_pos ⟨by omega, by simpa using q⟩, u2_cm (a := 135) (b := 135) (k := 16) (j := 17) (by omega), u2_u2, u2_u2]
  · intro z
    obtain ⟨p1, p2, p3, p5, p4⟩ := hp (s + (n - s)) (nI (nr f s (n - s)))
    show RX9_advance_210 N (d + 1) (z + 1) X (u2 (u2 M 135 17 (nI (nr f s (n - s)))) 135 16 (nI (s + (n - s)))) L = some (.null, mkh X (u2 (u2 (u2 M 135 17 (nI (nr f s (n - s)))) 135 16 (nI (s + (n - s)))) 135 14 (nI (if 4 < n - s then 4 else 2))) L)
    rw [m210_step hn hB (by rw [p4]; exact h139) p2 p3 p1 (by omega) p5 z, if_neg (by omega)]
theorem c9_advance (hn : n ≤ 900) (hB : ∀ k, k < n → isB (f k)) (hN : 10000 ≤ N) (h139 : ∀ k, k < n → M 139 k = f k) (h9 : M 135 9 = nI n) {q : Nat} (hq : q ≤ n) (h16 : M 135 16 = nI q) : ∃ K P, am_G am_prog (N + 30) (d + 2) 207 [.ref 135] (mkh X M L) = some (.null, mkh X K P) ∧ RT f n q K P ∧ FTM M K ∧ FTL L P := by
  obtain ⟨t1, t2⟩ := tkS_b f hq
  have hp : ∀ i, u2 M 135 15 (nI i) 135 15 = nI i ∧ u2 M 135 15 (nI i) 135 9 = nI n ∧ u2 M 135 15 (nI i) 139 = M 139 := fun i => ⟨u2_at _ _ _ _, by rw [u2_nk _ _ _ _ _ (by omega)]; exact h9, by rw [u2_na _ _ _ _ _ (by omega)]⟩
  have main : ∃ K P, ev (fun z => RX9_advance_58 N (d + 1) z X (u2 M 135 15 (nI (tkS f n q))) L) (n + 4) (some (.null, mkh X K P)) ∧ RT f n q K P ∧ FTM M K ∧ FTL L P := by
    obtain ⟨p1, p2, p3⟩ := hp (tkS f n q)
    have c139 : ∀ k, k < n → u2 M 135 15 (nI (tkS f n q)) 139 k = f k := fun k hk => by rw [p3]; exact h139 k hk
    generalize hK0 : u2 M 135 15 (nI (tkS f n q)) = K0 at *
    have F0 : FTM M K0 := by rw [← hK0]; exact FTM_u (by omega) (FTM_0 M)
    by_cases c : tkS f n q < n
    · have st := fun z => m58_step (N := N) (d := d) (X := X) (L := L) hn hB c139 p2 p1 c z
      rcases tkK_or f n q with ⟨_, d1, d2, d3, d4⟩ | ⟨_, d1, d2, d3, d4⟩ | ⟨_, d1, d5, d2, d3, d4⟩ | ⟨_, d1, d5, d2, d3, d4⟩ | ⟨_, d1, d5, d2, d3, d4⟩ | ⟨_, d1, d5, d2, d3, d4⟩ | ⟨d1, _⟩
      all_goals try (exact absurd c d1)
      · have w := m_word (N := N) (d := d) (X := X) (M := u2 (u2 K0 135 16 (nI (tkS f n q))) 135 14 (nI 1)) (L := u2L L 135 19 (lN 0)) hn hB (s := tkS f n q) (fun k hk => by rw [u2_na _ _ _ _ _ (by omega), u2_na _ _ _ _ _ (by omega)]; exact c139 k hk) (by rw [u2_nk _ _ _ _ _ (by omega), u2_nk _ _ _ _ _ (by omega)]; exact p2) (by rw [u2_nk _ _ _ _ _ (by omega), u2_nk _ _ _ _ _ (by omega)]; exact p1) (by rw [u2_nk _ _ _ _ _ (by omega), u2_at]) t2 (u2L_at _ _ _ _)
        have e1 := (wC_b f n (tkS f n q)).1
        refine ⟨(u2 (u2 (u2 (u2 K0 135 16 (nI (tkS f n q))) 135 14 (nI 1)) 135 16 (nI (tkS f n q + wC f n (tkS f n q)))) 135 18 (nI (wC f n (tkS f n q)))), (u2L (u2L L 135 19 (lN 0)) 135 19 (wr f (tkS f n q) (wC f n (tkS f n q)))), ev_le (ev_s (fun z => ?_) w) (by omega), ⟨fun k hk => ?_, ?_, ?_, ?_, ?_, fun h => by omega, fun h => by omega, fun _ => ⟨⟨wC f n (tkS f n q), d2, by omega, u2_at _ _ _ _⟩, ?_⟩, fun h => by omega⟩, FTM_u (k := 18) (by omega) (FTM_u (k := 16) (by omega) (FTM_u (k := 14) (by omega) (FTM_u (k := 16) (by omega) F0))), FTL_u (FTL_u (FTL_0 L))⟩
        · show RX9_advance_58 N (d + 1) (z + 1) X K0 L = _
          rw [st z, if_pos d1]
        · rw [u2_na _ _ _ _ _ (by omega), u2_na _ _ _ _ _ (by omega), u2_na _ _ _ _ _ (by omega), u2_na _ _ _ _ _ (by omega)]; exact c139 k hk
        · rw [u2_nk _ _ _ _ _ (by omega), u2_nk _ _ _ _ _ (by omega), u2_nk _ _ _ _ _ (by omega), u2_nk _ _ _ _ _ (by omega)]; exact p2
        · rw [u2_nk _ _ _ _ _ (by omega), u2_at, d4]
        · rw [u2_nk _ _ _ _ _ (by omega), u2_nk _ _ _ _ _ (by omega), u2_nk _ _ _ _ _ (by omega), u2_nk _ _ _ _ _ (by omega)]; exact p1
        · rw [u2_nk _ _ _ _ _ (by omega), u2_nk _ _ _ _ _ (by omega), u2_at, d3]; rfl
        · rw [u2L_at]; exact if_neg (by omega)
      · have w := m_word (N := N) (d := d) (X := X) (M := u2 (u2 K0 135 16 (nI (tkS f n q))) 135 14 (nI 1)) (L := u2L L 135 19 (lN 0)) hn hB (s := tkS f n q) (fun k hk => by rw [u2_na _ _ _ _ _ (by omega), u2_na _ _ _ _ _ (by omega)]; exact c139 k hk) (by rw [u2_nk _ _ _ _ _ (by omega), u2_nk _ _ _ _ _ (by omega)]; exact p2) (by rw [u2_nk _ _ _ _ _ (by omega), u2_nk _ _ _ _ _ (by omega)]; exact p1) (by rw [u2_nk _ _ _ _ _ (by omega), u2_at]) t2 (u2L_at _ _ _ _)
        have e1 := (wC_b f n (tkS f n q)).1
        have ko := kwk_or (tkW f n q)
        refine ⟨(u2 (u2 (u2 (u2 K0 135 16 (nI (tkS f n q))) 135 14 (nI 1)) 135 16 (nI (tkS f n q + wC f n (tkS f n q)))) 135 18 (nI (wC f n (tkS f n q)))), (u2L (u2L L 135 19 (lN 0)) 135 19 (wr f (tkS f n q) (wC f n (tkS f n q)))), ev_le (ev_s (fun z => ?_) w) (by omega), ⟨fun k hk => ?_, ?_, ?_, ?_, ?_, fun h => by omega, fun h => by omega, fun h => by omega, fun _ => ⟨⟨wC f n (tkS f n q), by omega, u2_at _ _ _ _⟩, ?_⟩⟩, FTM_u (k := 18) (by omega) (FTM_u (k := 16) (by omega) (FTM_u (k := 14) (by omega) (FTM_u (k := 16) (by omega) F0))), FTL_u (FTL_u (FTL_0 L))⟩
        · show RX9_advance_58 N (d + 1) (z + 1) X K0 L = _
          rw [st z, if_pos d1]
        · rw [u2_na _ _ _ _ _ (by omega), u2_na _ _ _ _ _ (by omega), u2_na _ _ _ _ _ (by omega), u2_na _ _ _ _ _ (by omega)]; exact c139 k hk
        · rw [u2_nk _ _ _ _ _ (by omega), u2_nk _ _ _ _ _ (by omega), u2_nk _ _ _ _ _ (by omega), u2_nk _ _ _ _ _ (by omega)]; exact p2
        · rw [u2_nk _ _ _ _ _ (by omega), u2_at, d4]
        · rw [u2_nk _ _ _ _ _ (by omega), u2_nk _ _ _ _ _ (by omega), u2_nk _ _ _ _ _ (by omega), u2_nk _ _ _ _ _ (by omega)]; exact p1
        · rw [u2_nk _ _ _ _ _ (by omega), u2_nk _ _ _ _ _ (by omega), u2_at, d3]
          unfold rk
          rw [if_neg (by omega), if_neg (by omega), if_neg (by omega), if_neg (by omega)]
        · rw [u2L_at]; exact if_pos (by omega)
      · have w := m_number (N := N) (d := d) (X := X) (M := u2 (u2 K0 135 16 (nI (tkS f n q))) 135 17 (nI 0)) (L := L) hn hB (s := tkS f n q) (fun k hk => by rw [u2_na _ _ _ _ _ (by omega), u2_na _ _ _ _ _ (by omega)]; exact c139 k hk) (by rw [u2_nk _ _ _ _ _ (by omega), u2_nk _ _ _ _ _ (by omega)]; exact p2) (by rw [u2_nk _ _ _ _ _ (by omega), u2_nk _ _ _ _ _ (by omega)]; exact p1) (by rw [u2_nk _ _ _ _ _ (by omega), u2_at]) t2 (u2_at _ _ _ _)
        refine ⟨(u2 (u2 (u2 (u2 (u2 K0 135 16 (nI (tkS f n q))) 135 17 (nI 0)) 135 17 (nI (nr f (tkS f n q) (dC f n (tkS f n q))))) 135 16 (nI (tkS f n q + dC f n (tkS f n q)))) 135 14 (nI (if 4 < dC f n (tkS f n q) then 4 else 2))), L, ev_le (ev_s (fun z => ?_) w) (by omega), ⟨fun k hk => ?_, ?_, ?_, ?_, ?_, fun h => by omega, fun h => by omega, fun h => by omega, fun h => by omega⟩, FTM_u (k := 14) (by omega) (FTM_u (k := 16) (by omega) (FTM_u (k := 17) (by omega) (FTM_u (k := 17) (by omega) (FTM_u (k := 16) (by omega) F0)))), FTL_0 L⟩
        · show RX9_advance_58 N (d + 1) (z + 1) X K0 L = _
          rw [st z, if_neg d1, if_pos d5]
        · rw [u2_na _ _ _ _ _ (by omega), u2_na _ _ _ _ _ (by omega), u2_na _ _ _ _ _ (by omega), u2_na _ _ _ _ _ (by omega), u2_na _ _ _ _ _ (by omega)]; exact c139 k hk
        · rw [u2_nk _ _ _ _ _ (by omega), u2_nk _ _ _ _ _ (by omega), u2_nk _ _ _ _ _ (by omega), u2_nk _ _ _ _ _ (by omega), u2_nk _ _ _ _ _ (by omega)]; exact p2
        · rw [u2_nk _ _ _ _ _ (by omega), u2_at, d4]
        · rw [u2_nk _ _ _ _ _ (by omega), u2_nk _ _ _ _ _ (by omega), u2_nk _ _ _ _ _ (by omega), u2_nk _ _ _ _ _ (by omega), u2_nk _ _ _ _ _ (by omega)]; exact p1
        · rw [u2_at, d3, if_pos d2]; rfl
      · have w := m_number (N := N) (d := d) (X := X) (M := u2 (u2 K0 135 16 (nI (tkS f n q))) 135 17 (nI 0)) (L := L) hn hB (s := tkS f n q) (fun k hk => by rw [u2_na _ _ _ _ _ (by omega), u2_na _ _ _ _ _ (by omega)]; exact c139 k hk) (by rw [u2_nk _ _ _ _ _ (by omega), u2_nk _ _ _ _ _ (by omega)]; exact p2) (by rw [u2_nk _ _ _ _ _ (by omega), u2_nk _ _ _ _ _ (by omega)]; exact p1) (by rw [u2_nk _ _ _ _ _ (by omega), u2_at]) t2 (u2_at _ _ _ _)
        refine ⟨(u2 (u2 (u2 (u2 (u2 K0 135 16 (nI (tkS f n q))) 135 17 (nI 0)) 135 17 (nI (nr f (tkS f n q) (dC f n (tkS f n q))))) 135 16 (nI (tkS f n q + dC f n (tkS f n q)))) 135 14 (nI (if 4 < dC f n (tkS f n q) then 4 else 2))), L, ev_le (ev_s (fun z => ?_) w) (by omega), ⟨fun k hk => ?_, ?_, ?_, ?_, ?_, fun h => ?_, fun h => by omega, fun h => by omega, fun h => by omega⟩, FTM_u (k := 14) (by omega) (FTM_u (k := 16) (by omega) (FTM_u (k := 17) (by omega) (FTM_u (k := 17) (by omega) (FTM_u (k := 16) (by omega) F0)))), FTL_0 L⟩
        · show RX9_advance_58 N (d + 1) (z + 1) X K0 L = _
          rw [st z, if_neg d1, if_pos d5]
        · rw [u2_na _ _ _ _ _ (by omega), u2_na _ _ _ _ _ (by omega), u2_na _ _ _ _ _ (by omega), u2_na _ _ _ _ _ (by omega), u2_na _ _ _ _ _ (by omega)]; exact c139 k hk
        · rw [u2_nk _ _ _ _ _ (by omega), u2_nk _ _ _ _ _ (by omega), u2_nk _ _ _ _ _ (by omega), u2_nk _ _ _ _ _ (by omega), u2_nk _ _ _ _ _ (by omega)]; exact p2
        · rw [u2_nk _ _ _ _ _ (by omega), u2_at, d4]
        · rw [u2_nk _ _ _ _ _ (by omega), u2_nk _ _ _ _ _ (by omega), u2_nk _ _ _ _ _ (by omega), u2_nk _ _ _ _ _ (by omega), u2_nk _ _ _ _ _ (by omega)]; exact p1
        · rw [u2_at, d3, if_neg d2]; rfl
        · rw [u2_nk _ _ _ _ _ (by omega), u2_nk _ _ _ _ _ (by omega), u2_at]
          unfold nr
          rw [Nat.min_eq_left (by omega)]; rfl
      · have sg := (isSg_iff _).mp d2
        refine ⟨(u2 (u2 (u2 (u2 K0 135 16 (nI (tkS f n q))) 135 16 (nI (tkS f n q + 1))) 135 17 (nI (cb (f (tkS f n q))))) 135 14 (nI (if isSg (cb (f (tkS f n q))) = true then 3 else 4))), L, ev_le (ev_0 (fun z => ?_)) (by omega), ⟨fun k hk => ?_, ?_, ?_, ?_, ?_, fun h => by omega, fun h => ?_, fun h => by omega, fun h => by omega⟩, FTM_u (k := 14) (by omega) (FTM_u (k := 17) (by omega) (FTM_u (k := 16) (by omega) (FTM_u (k := 16) (by omega) F0))), FTL_0 L⟩
        · show RX9_advance_58 N (d + 1) (z + 1) X K0 L = _
          rw [st z, if_neg d1, if_neg d5]
        · rw [u2_na _ _ _ _ _ (by omega), u2_na _ _ _ _ _ (by omega), u2_na _ _ _ _ _ (by omega), u2_na _ _ _ _ _ (by omega)]; exact c139 k hk
        · rw [u2_nk _ _ _ _ _ (by omega), u2_nk _ _ _ _ _ (by omega), u2_nk _ _ _ _ _ (by omega), u2_nk _ _ _ _ _ (by omega)]; exact p2
        · rw [u2_nk _ _ _ _ _ (by omega), u2_nk _ _ _ _ _ (by omega), u2_at, d4]
        · rw [u2_nk _ _ _ _ _ (by omega), u2_nk _ _ _ _ _ (by omega), u2_nk _ _ _ _ _ (by omega), u2_nk _ _ _ _ _ (by omega)]; exact p1
        · rw [u2_at, d3, if_pos d2]
          unfold rk
          rw [if_neg (by omega), if_neg (by omega), if_neg (by omega), if_pos (by omega)]
        · rw [u2_nk _ _ _ _ _ (by omega), u2_at, d3]
      · refine ⟨(u2 (u2 (u2 (u2 K0 135 16 (nI (tkS f n q))) 135 16 (nI (tkS f n q + 1))) 135 17 (nI (cb (f (tkS f n q))))) 135 14 (nI (if isSg (cb (f (tkS f n q))) = true then 3 else 4))), L, ev_le (ev_0 (fun z => ?_)) (by omega), ⟨fun k hk => ?_, ?_, ?_, ?_, ?_, fun h => by omega, fun h => by omega, fun h => by omega, fun h => by omega⟩, FTM_u (k := 14) (by omega) (FTM_u (k := 17) (by omega) (FTM_u (k := 16) (by omega) (FTM_u (k := 16) (by omega) F0))), FTL_0 L⟩
        · show RX9_advance_58 N (d + 1) (z + 1) X K0 L = _
          rw [st z, if_neg d1, if_neg d5]
        · rw [u2_na _ _ _ _ _ (by omega), u2_na _ _ _ _ _ (by omega), u2_na _ _ _ _ _ (by omega), u2_na _ _ _ _ _ (by omega)]; exact c139 k hk
        · rw [u2_nk _ _ _ _ _ (by omega), u2_nk _ _ _ _ _ (by omega), u2_nk _ _ _ _ _ (by omega), u2_nk _ _ _ _ _ (by omega)]; exact p2
        · rw [u2_nk _ _ _ _ _ (by omega), u2_nk _ _ _ _ _ (by omega), u2_at, d4]
        · rw [u2_nk _ _ _ _ _ (by omega), u2_nk _ _ _ _ _ (by omega), u2_nk _ _ _ _ _ (by omega), u2_nk _ _ _ _ _ (by omega)]; exact p1
        · rw [u2_at, d3, if_neg d2]; rfl
    · have e : tkS f n q = n := by omega
      have dd : tkK f n q = 0 ∧ tkE f n q = tkS f n q := by
        unfold tkK tkE
        rw [if_neg c, if_neg c]; exact ⟨rfl, rfl⟩
      refine ⟨(u2 (u2 K0 135 16 (nI (tkS f n q))) 135 14 (nI 0)), L, ev_le (ev_0 (fun z => ?_)) (by omega), ⟨fun k hk => ?_, ?_, ?_, ?_, ?_, fun h => by omega, fun h => by omega, fun h => by omega, fun h => by omega⟩, FTM_u (k := 14) (v := nI 0) (by omega) (FTM_u (k := 16) (v := nI (tkS f n q)) (by omega) F0), FTL_0 L⟩
      · show RX9_advance_58 N (d + 1) (z + 1) X K0 L = _
        rw [sX9_advance_58 N (d + 1) z, p1, p2, nc_nlt (by omega) (by omega)]
      · rw [u2_na _ _ _ _ _ (by omega), u2_na _ _ _ _ _ (by omega)]; exact c139 k hk
      · rw [u2_nk _ _ _ _ _ (by omega), u2_nk _ _ _ _ _ (by omega)]; exact p2
      · rw [u2_nk _ _ _ _ _ (by omega), u2_at, dd.2]
      · rw [u2_nk _ _ _ _ _ (by omega), u2_nk _ _ _ _ _ (by omega)]; exact p1
      · rw [u2_at, dd.1]; rfl
  obtain ⟨K, P, m1, m2, m3, m4⟩ := main
  have st := skp (run := fun z k => RX9_advance_8 N (d + 1) z X (u2 M 135 15 (nI (q + k))) L) (run2 := fun z k => RX9_advance_58 N (d + 1) z X (u2 M 135 15 (nI (q + k))) L) (m := n - q) (p := fun k => !isBl (cb (f (q + k)))) ?_ ?_ ?_ (n - q) 0 (n + 4) (some (.null, mkh X K P)) (by omega) m1
  · refine ⟨K, P, ?_, m2, m3, m4⟩
    rw [gX9_advance N (d + 1), sX9_advance_0 N (d + 1), h16]
    exact st (N + 29) (by omega)
  · intro z k hk q2
    obtain ⟨p1, p2, p3⟩ := hp (q + k)
    show RX9_advance_8 N (d + 1) (z + 1) X (u2 M 135 15 (nI (q + k))) L = RX9_advance_58 N (d + 1) z X (u2 M 135 15 (nI (q + k))) L
    rw [m8_step hn hB (by rw [p3]; exact h139) p2 p1 (by omega) z, if_neg (by simpa using q2)]
  · intro z k hk q2
    obtain ⟨p1, p2, p3⟩ := hp (q + k)
    show RX9_advance_8 N (d + 1) (z + 1) X (u2 M 135 15 (nI (q + k))) L = RX9_advance_8 N (d + 1) z X (u2 M 135 15 (nI (q + (k + 1)))) L
    rw [m8_step hn hB (by rw [p3]; exact h139) p2 p1 (by omega) z, if_pos (by simpa using q2), u2_u2]
    rfl
  · intro z
    obtain ⟨p1, p2, p3⟩ := hp (q + (n - q))
    show RX9_advance_8 N (d + 1) (z + 1) X (u2 M 135 15 (nI (q + (n - q)))) L = RX9_advance_58 N (d + 1) z X (u2 M 135 15 (nI (q + (n - q)))) L
    rw [sX9_advance_8 N (d + 1) z, p1, p2, nc_nlt (by omega) (by omega)]
end
