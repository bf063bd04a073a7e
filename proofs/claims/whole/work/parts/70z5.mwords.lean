/-! texts: what the reference says of a token -/
theorem kwl_lt : ∀ i, i < 27 → kwl.getD i 0 < 2 ^ 40 ∧ 0 < kwl.getD i 0 := by decide +kernel
theorem RT_o {f : Nat → Int32} {n q : Nat} {M : Nat → Nat → Int32} {L : Nat → Nat → Int64} {a k : Nat} {v : Int32} (h139 : a ≠ 139) (hk : ¬ (a = 135 ∧ (k = 9 ∨ (14 ≤ k ∧ k ≤ 18)))) (H : RT f n q M L) : RT f n q (u2 M a k v) L := by
  obtain ⟨h1, h2, h3, h4, h5, h6, h7, h8, h9⟩ := H
  have g : ∀ j, (j = 9 ∨ (14 ≤ j ∧ j ≤ 18)) → u2 M a k v 135 j = M 135 j := fun j hj => by
    by_cases e : a = 135
    · subst e; rw [u2_nk _ _ _ _ _ (fun e2 => hk ⟨rfl, by rw [← e2]; exact hj⟩)]
    · rw [u2_na _ _ _ _ _ (fun e2 => e e2.symm)]
  refine ⟨fun i hi => by rw [u2_na _ _ _ _ _ (Ne.symm h139)]; exact h1 i hi, by rw [g 9 (by omega)]; exact h2, by rw [g 16 (by omega)]; exact h3, by rw [g 15 (by omega)]; exact h4, by rw [g 14 (by omega)]; exact h5, fun h => by rw [g 17 (by omega)]; exact h6 h, fun h => by rw [g 17 (by omega)]; exact h7 h, fun h => ?_, fun h => ?_⟩
  · obtain ⟨⟨l, a1, a2, a3⟩, a4⟩ := h8 h
    exact ⟨⟨l, a1, a2, by rw [g 18 (by omega)]; exact a3⟩, a4⟩
  · obtain ⟨⟨l, a1, a3⟩, a4⟩ := h9 h
    exact ⟨⟨l, a1, by rw [g 18 (by omega)]; exact a3⟩, a4⟩
theorem RT_a {f : Nat → Int32} {n q : Nat} {M K : Nat → Nat → Int32} {L P : Nat → Nat → Int64} (h139 : K 139 = M 139) (h135 : ∀ k, k = 9 ∨ (14 ≤ k ∧ k ≤ 18) → K 135 k = M 135 k) (h19 : P 135 19 = L 135 19) (H : RT f n q M L) : RT f n q K P := by
  obtain ⟨h1, h2, h3, h4, h5, h6, h7, h8, h9⟩ := H
  unfold RT
  rw [h139, h135 9 (by omega), h135 14 (by omega), h135 15 (by omega), h135 16 (by omega), h135 17 (by omega), h135 18 (by omega), h19]
  exact ⟨h1, h2, h3, h4, h5, h6, h7, h8, h9⟩
theorem rk_or (f : Nat → Int32) (n q : Nat) : (rk (tkK f n q) = 1 ∧ (tkK f n q = 2 ∨ tkK f n q = 3 ∨ (100 ≤ tkK f n q ∧ tkK f n q < 127))) ∨ (rk (tkK f n q) = 3 ∧ 59 ≤ tkK f n q ∧ tkK f n q ≤ 62) ∨ (rk (tkK f n q) = 0 ∧ tkK f n q = 0) ∨ (rk (tkK f n q) = 2 ∧ tkK f n q = 1) ∨ (rk (tkK f n q) = 4 ∧ tkK f n q = 4294967295) := by
  have main : tkK f n q = 3 ∨ tkK f n q = 2 ∨ (100 ≤ tkK f n q ∧ tkK f n q < 127) ∨ tkK f n q = 4294967295 ∨ tkK f n q = 1 ∨ (59 ≤ tkK f n q ∧ tkK f n q ≤ 62) ∨ tkK f n q = 0 := by
    rcases tkK_or f n q with h | h | h | h | h | h | h
    · exact Or.inl h.2.2.2.1
    · rw [h.2.2.2.1]
      rcases kwk_or (tkW f n q) with k | k
      · exact Or.inr (Or.inl k)
      · exact Or.inr (Or.inr (Or.inl k))
    · exact Or.inr (Or.inr (Or.inr (Or.inl h.2.2.2.2.1)))
    · exact Or.inr (Or.inr (Or.inr (Or.inr (Or.inl h.2.2.2.2.1))))
    · have := (isSg_iff _).mp h.2.2.2.1
      exact Or.inr (Or.inr (Or.inr (Or.inr (Or.inr (Or.inl (by omega))))))
    · exact Or.inr (Or.inr (Or.inr (Or.inl h.2.2.2.2.1)))
    · exact Or.inr (Or.inr (Or.inr (Or.inr (Or.inr (Or.inr h.2.1)))))
  generalize tkK f n q = K at *
  unfold rk
  rcases main with h | h | h | h | h | h | h
  · subst h; exact Or.inl ⟨rfl, Or.inr (Or.inl rfl)⟩
  · subst h; exact Or.inl ⟨rfl, Or.inl rfl⟩
  · exact Or.inl ⟨by rw [if_neg (by omega), if_neg (by omega), if_neg (by omega), if_neg (by omega)], Or.inr (Or.inr h)⟩
  · subst h; exact Or.inr (Or.inr (Or.inr (Or.inr ⟨rfl, rfl⟩)))
  · subst h; exact Or.inr (Or.inr (Or.inr (Or.inl ⟨rfl, rfl⟩)))
  · exact Or.inr (Or.inl ⟨by rw [if_neg (by omega), if_neg (by omega), if_neg (by omega), if_pos (by omega)], h⟩)
  · subst h; exact Or.inr (Or.inr (Or.inl ⟨rfl, rfl⟩))
theorem kw_word {f : Nat → Int32} {n q : Nat} (h : tkK f n q = 2 ∨ (100 ≤ tkK f n q ∧ tkK f n q < 127)) : kwk (tkW f n q) = tkK f n q ∧ tkW f n q < 2 ^ 40 := by
  rcases tkK_or f n q with g | g | g | g | g | g | g
  · omega
  · have a := wv_lt (f := f) (s := tkS f n q) (wC f n (tkS f n q)) (wC_b f n (tkS f n q)).2.1
    have b : 32 ^ (wC f n (tkS f n q)) ≤ 32 ^ 8 := Nat.pow_le_pow_right (by omega) (by omega)
    have c : (32 : Nat) ^ 8 = 2 ^ 40 := by decide
    exact ⟨g.2.2.2.1.symm, by unfold tkW; omega⟩
  · omega
  · omega
  · have := (isSg_iff _).mp g.2.2.2.1
    omega
  · omega
  · omega
section
variable {N d : Nat} {X : lt_X} {f : Nat → Int32} {n q : Nat} {M : Nat → Nat → Int32} {L : Nat → Nat → Int64}
theorem c9_isWord (H : RT f n q M L) {i : Nat} (hi : i < 27) : am_G am_prog (N + 30) (d + 1) 210 [.ref 135, .long (lN (kwl.getD i 0))] (mkh X M L) = some (.int (nI (if tkK f n q = 100 + i then 1 else 0)), mkh X M L) := by
  obtain ⟨h1, h2, h3, h4, h5, h6, h7, h8, h9⟩ := H
  obtain ⟨k1, k2⟩ := kwl_lt i hi
  rw [gX9_isWord N d, sX9_isWord_0 N d, h5]
  rcases rk_or f n q with ⟨r, c⟩ | ⟨r, c⟩ | ⟨r, c⟩ | ⟨r, c⟩ | ⟨r, c⟩
  · rw [nc_eq r]
    by_cases c3 : tkK f n q = 3
    · rw [(h8 c3).2, lq_ne (fun e => ?_), if_neg (by omega)]
      have := congrArg Int64.toInt e
      rw [pk_lT (by omega)] at this
      have m1 : (-1 : Int64).toInt = -1 := by decide
      omega
    · have c2 : tkK f n q = 2 ∨ (100 ≤ tkK f n q ∧ tkK f n q < 127) := by omega
      obtain ⟨w1, w2⟩ := kw_word c2
      rw [(h9 c2).2]
      by_cases e : kwl.getD i 0 = tkW f n q
      · rw [lc_eq e.symm, if_pos (by rw [← w1]; exact (kwk_iff hi).mpr e)]
      · rw [lc_ne (fun h => e h.symm) (by omega) (by omega), if_neg (by rw [← w1]; exact fun h => e ((kwk_iff hi).mp h))]
  · rw [nc_ne (by omega) (by omega) (by omega), if_neg (by omega)]
  · rw [nc_ne (by omega) (by omega) (by omega), if_neg (by omega)]
  · rw [nc_ne (by omega) (by omega) (by omega), if_neg (by omega)]
  · rw [nc_ne (by omega) (by omega) (by omega), if_neg (by omega)]
theorem c9_isOdds (H : RT f n q M L) : am_G am_prog (N + 30) (d + 2) 211 [.ref 135] (mkh X M L) = some (.int (nI (if tkK f n q = 100 then 1 else 0)), mkh X M L) := by
  have w : am_G am_prog (N + 30) (d + 1) 210 [.ref 135, .long (lN (kwl.getD 0 0))] (mkh X M L) = some (.int (nI (if tkK f n q = 100 then 1 else 0)), mkh X M L) := c9_isWord (i := 0) H (by omega)
  rw [gX9_isOdds N d, sX9_isOdds_0 N d]
  refine Eq.trans (congrArg (fun o => am_cI o (KX9_isOdds_0 N d (N + 29))) w) ?_
  show am_cI _ _ = _
  rw [cI_some, kX9_isOdds_0 N d, nb_10]
theorem c9_isSubject (H : RT f n q M L) : am_G am_prog (N + 30) (d + 2) 212 [.ref 135] (mkh X M L) = some (.int (nI (if tkK f n q = 101 then 1 else 0)), mkh X M L) := by
  have w : am_G am_prog (N + 30) (d + 1) 210 [.ref 135, .long (lN (kwl.getD 1 0))] (mkh X M L) = some (.int (nI (if tkK f n q = 101 then 1 else 0)), mkh X M L) := c9_isWord (i := 1) H (by omega)
  rw [gX9_isSubject N d, sX9_isSubject_0 N d]
  refine Eq.trans (congrArg (fun o => am_cI o (KX9_isSubject_0 N d (N + 29))) w) ?_
  show am_cI _ _ = _
  rw [cI_some, kX9_isSubject_0 N d, nb_10]
theorem c9_isVoice (H : RT f n q M L) : am_G am_prog (N + 30) (d + 2) 213 [.ref 135] (mkh X M L) = some (.int (nI (if tkK f n q = 102 then 1 else 0)), mkh X M L) := by
  have w : am_G am_prog (N + 30) (d + 1) 210 [.ref 135, .long (lN (kwl.getD 2 0))] (mkh X M L) = some (.int (nI (if tkK f n q = 102 then 1 else 0)), mkh X M L) := c9_isWord (i := 2) H (by omega)
  rw [gX9_isVoice N d, sX9_isVoice_0 N d]
  refine Eq.trans (congrArg (fun o => am_cI o (KX9_isVoice_0 N d (N + 29))) w) ?_
  show am_cI _ _ = _
  rw [cI_some, kX9_isVoice_0 N d, nb_10]
theorem c9_isAge (H : RT f n q M L) : am_G am_prog (N + 30) (d + 2) 214 [.ref 135] (mkh X M L) = some (.int (nI (if tkK f n q = 103 then 1 else 0)), mkh X M L) := by
  have w : am_G am_prog (N + 30) (d + 1) 210 [.ref 135, .long (lN (kwl.getD 3 0))] (mkh X M L) = some (.int (nI (if tkK f n q = 103 then 1 else 0)), mkh X M L) := c9_isWord (i := 3) H (by omega)
  rw [gX9_isAge N d, sX9_isAge_0 N d]
  refine Eq.trans (congrArg (fun o => am_cI o (KX9_isAge_0 N d (N + 29))) w) ?_
  show am_cI _ _ = _
  rw [cI_some, kX9_isAge_0 N d, nb_10]
theorem c9_isLife (H : RT f n q M L) : am_G am_prog (N + 30) (d + 2) 215 [.ref 135] (mkh X M L) = some (.int (nI (if tkK f n q = 104 then 1 else 0)), mkh X M L) := by
  have w : am_G am_prog (N + 30) (d + 1) 210 [.ref 135, .long (lN (kwl.getD 4 0))] (mkh X M L) = some (.int (nI (if tkK f n q = 104 then 1 else 0)), mkh X M L) := c9_isWord (i := 4) H (by omega)
  rw [gX9_isLife N d, sX9_isLife_0 N d]
  refine Eq.trans (congrArg (fun o => am_cI o (KX9_isLife_0 N d (N + 29))) w) ?_
  show am_cI _ _ = _
  rw [cI_some, kX9_isLife_0 N d, nb_10]
theorem c9_isSays (H : RT f n q M L) : am_G am_prog (N + 30) (d + 2) 216 [.ref 135] (mkh X M L) = some (.int (nI (if tkK f n q = 105 then 1 else 0)), mkh X M L) := by
  have w : am_G am_prog (N + 30) (d + 1) 210 [.ref 135, .long (lN (kwl.getD 5 0))] (mkh X M L) = some (.int (nI (if tkK f n q = 105 then 1 else 0)), mkh X M L) := c9_isWord (i := 5) H (by omega)
  rw [gX9_isSays N d, sX9_isSays_0 N d]
  refine Eq.trans (congrArg (fun o => am_cI o (KX9_isSays_0 N d (N + 29))) w) ?_
  show am_cI _ _ = _
  rw [cI_some, kX9_isSays_0 N d, nb_10]
theorem c9_isPerson (H : RT f n q M L) : am_G am_prog (N + 30) (d + 2) 217 [.ref 135] (mkh X M L) = some (.int (nI (if tkK f n q = 106 then 1 else 0)), mkh X M L) := by
  have w : am_G am_prog (N + 30) (d + 1) 210 [.ref 135, .long (lN (kwl.getD 6 0))] (mkh X M L) = some (.int (nI (if tkK f n q = 106 then 1 else 0)), mkh X M L) := c9_isWord (i := 6) H (by omega)
  rw [gX9_isPerson N d, sX9_isPerson_0 N d]
  refine Eq.trans (congrArg (fun o => am_cI o (KX9_isPerson_0 N d (N + 29))) w) ?_
  show am_cI _ _ = _
  rw [cI_some, kX9_isPerson_0 N d, nb_10]
theorem c9_isCoins (H : RT f n q M L) : am_G am_prog (N + 30) (d + 2) 218 [.ref 135] (mkh X M L) = some (.int (nI (if tkK f n q = 107 then 1 else 0)), mkh X M L) := by
  have w : am_G am_prog (N + 30) (d + 1) 210 [.ref 135, .long (lN (kwl.getD 7 0))] (mkh X M L) = some (.int (nI (if tkK f n q = 107 then 1 else 0)), mkh X M L) := c9_isWord (i := 7) H (by omega)
  rw [gX9_isCoins N d, sX9_isCoins_0 N d]
  refine Eq.trans (congrArg (fun o => am_cI o (KX9_isCoins_0 N d (N + 29))) w) ?_
  show am_cI _ _ = _
  rw [cI_some, kX9_isCoins_0 N d, nb_10]
theorem c9_isLikes (H : RT f n q M L) : am_G am_prog (N + 30) (d + 2) 219 [.ref 135] (mkh X M L) = some (.int (nI (if tkK f n q = 108 then 1 else 0)), mkh X M L) := by
  have w : am_G am_prog (N + 30) (d + 1) 210 [.ref 135, .long (lN (kwl.getD 8 0))] (mkh X M L) = some (.int (nI (if tkK f n q = 108 then 1 else 0)), mkh X M L) := c9_isWord (i := 8) H (by omega)
  rw [gX9_isLikes N d, sX9_isLikes_0 N d]
  refine Eq.trans (congrArg (fun o => am_cI o (KX9_isLikes_0 N d (N + 29))) w) ?_
  show am_cI _ _ = _
  rw [cI_some, kX9_isLikes_0 N d, nb_10]
theorem c9_isSet (H : RT f n q M L) : am_G am_prog (N + 30) (d + 2) 220 [.ref 135] (mkh X M L) = some (.int (nI (if tkK f n q = 109 then 1 else 0)), mkh X M L) := by
  have w : am_G am_prog (N + 30) (d + 1) 210 [.ref 135, .long (lN (kwl.getD 9 0))] (mkh X M L) = some (.int (nI (if tkK f n q = 109 then 1 else 0)), mkh X M L) := c9_isWord (i := 9) H (by omega)
  rw [gX9_isSet N d, sX9_isSet_0 N d]
  refine Eq.trans (congrArg (fun o => am_cI o (KX9_isSet_0 N d (N + 29))) w) ?_
  show am_cI _ _ = _
  rw [cI_some, kX9_isSet_0 N d, nb_10]
theorem c9_isGets (H : RT f n q M L) : am_G am_prog (N + 30) (d + 2) 221 [.ref 135] (mkh X M L) = some (.int (nI (if tkK f n q = 110 then 1 else 0)), mkh X M L) := by
  have w : am_G am_prog (N + 30) (d + 1) 210 [.ref 135, .long (lN (kwl.getD 10 0))] (mkh X M L) = some (.int (nI (if tkK f n q = 110 then 1 else 0)), mkh X M L) := c9_isWord (i := 10) H (by omega)
  rw [gX9_isGets N d, sX9_isGets_0 N d]
  refine Eq.trans (congrArg (fun o => am_cI o (KX9_isGets_0 N d (N + 29))) w) ?_
  show am_cI _ _ = _
  rw [cI_some, kX9_isGets_0 N d, nb_10]
theorem c9_isFlaw (H : RT f n q M L) : am_G am_prog (N + 30) (d + 2) 222 [.ref 135] (mkh X M L) = some (.int (nI (if tkK f n q = 111 then 1 else 0)), mkh X M L) := by
  have w : am_G am_prog (N + 30) (d + 1) 210 [.ref 135, .long (lN (kwl.getD 11 0))] (mkh X M L) = some (.int (nI (if tkK f n q = 111 then 1 else 0)), mkh X M L) := c9_isWord (i := 11) H (by omega)
  rw [gX9_isFlaw N d, sX9_isFlaw_0 N d]
  refine Eq.trans (congrArg (fun o => am_cI o (KX9_isFlaw_0 N d (N + 29))) w) ?_
  show am_cI _ _ = _
  rw [cI_some, kX9_isFlaw_0 N d, nb_10]
theorem c9_isFor (H : RT f n q M L) : am_G am_prog (N + 30) (d + 2) 223 [.ref 135] (mkh X M L) = some (.int (nI (if tkK f n q = 112 then 1 else 0)), mkh X M L) := by
  have w : am_G am_prog (N + 30) (d + 1) 210 [.ref 135, .long (lN (kwl.getD 12 0))] (mkh X M L) = some (.int (nI (if tkK f n q = 112 then 1 else 0)), mkh X M L) := c9_isWord (i := 12) H (by omega)
  rw [gX9_isFor N d, sX9_isFor_0 N d]
  refine Eq.trans (congrArg (fun o => am_cI o (KX9_isFor_0 N d (N + 29))) w) ?_
  show am_cI _ _ = _
  rw [cI_some, kX9_isFor_0 N d, nb_10]
theorem c9_isEnd (H : RT f n q M L) : am_G am_prog (N + 30) (d + 2) 226 [.ref 135] (mkh X M L) = some (.int (nI (if tkK f n q = 125 then 1 else 0)), mkh X M L) := by
  have w : am_G am_prog (N + 30) (d + 1) 210 [.ref 135, .long (lN (kwl.getD 25 0))] (mkh X M L) = some (.int (nI (if tkK f n q = 125 then 1 else 0)), mkh X M L) := c9_isWord (i := 25) H (by omega)
  rw [gX9_isEnd N d, sX9_isEnd_0 N d]
  refine Eq.trans (congrArg (fun o => am_cI o (KX9_isEnd_0 N d (N + 29))) w) ?_
  show am_cI _ _ = _
  rw [cI_some, kX9_isEnd_0 N d, nb_10]
def swK (K : Nat) : Nat := if K = 113 then 0 else if K = 114 then 1 else if K = 115 then 2 else if K = 116 then 3 else if K = 117 then 4 else if K = 118 then 5 else if K = 119 then 6 else if K = 120 then 7 else if K = 124 then 8 else if K = 126 then 9 else 4294967295
def twK (K : Nat) : Nat := if K = 121 then 0 else if K = 122 then 1 else if K = 123 then 2 else 4294967295
theorem c9_stepWord (H : RT f n q M L) : am_G am_prog (N + 30) (d + 2) 224 [.ref 135] (mkh X M L) = some (.int (nI (swK (tkK f n q))), mkh X M L) := by
  have w13 : am_G am_prog (N + 30) (d + 1) 210 [.ref 135, .long (lN 278194)] (mkh X M L) = some (.int (nI (if tkK f n q = 113 then 1 else 0)), mkh X M L) := c9_isWord (i := 13) H (by omega)
  have w14 : am_G am_prog (N + 30) (d + 1) 210 [.ref 135, .long (lN 824370)] (mkh X M L) = some (.int (nI (if tkK f n q = 114 then 1 else 0)), mkh X M L) := c9_isWord (i := 14) H (by omega)
  have w15 : am_G am_prog (N + 30) (d + 1) 210 [.ref 135, .long (lN 628108)] (mkh X M L) = some (.int (nI (if tkK f n q = 115 then 1 else 0)), mkh X M L) := c9_isWord (i := 15) H (by omega)
  have w16 : am_G am_prog (N + 30) (d + 1) 210 [.ref 135, .long (lN 239301)] (mkh X M L) = some (.int (nI (if tkK f n q = 116 then 1 else 0)), mkh X M L) := c9_isWord (i := 16) H (by omega)
  have w17 : am_G am_prog (N + 30) (d + 1) 210 [.ref 135, .long (lN 114052)] (mkh X M L) = some (.int (nI (if tkK f n q = 117 then 1 else 0)), mkh X M L) := c9_isWord (i := 17) H (by omega)
  have w18 : am_G am_prog (N + 30) (d + 1) 210 [.ref 135, .long (lN 759180)] (mkh X M L) = some (.int (nI (if tkK f n q = 118 then 1 else 0)), mkh X M L) := c9_isWord (i := 18) H (by omega)
  have w19 : am_G am_prog (N + 30) (d + 1) 210 [.ref 135, .long (lN 1497)] (mkh X M L) = some (.int (nI (if tkK f n q = 119 then 1 else 0)), mkh X M L) := c9_isWord (i := 19) H (by omega)
  have w20 : am_G am_prog (N + 30) (d + 1) 210 [.ref 135, .long (lN 762030)] (mkh X M L) = some (.int (nI (if tkK f n q = 120 then 1 else 0)), mkh X M L) := c9_isWord (i := 20) H (by omega)
  have w24 : am_G am_prog (N + 30) (d + 1) 210 [.ref 135, .long (lN 409072)] (mkh X M L) = some (.int (nI (if tkK f n q = 124 then 1 else 0)), mkh X M L) := c9_isWord (i := 24) H (by omega)
  have w26 : am_G am_prog (N + 30) (d + 1) 210 [.ref 135, .long (lN 643568)] (mkh X M L) = some (.int (nI (if tkK f n q = 126 then 1 else 0)), mkh X M L) := c9_isWord (i := 26) H (by omega)
  rw [gX9_stepWord N d, sX9_stepWord_0 N d, w13, cI_some, kX9_stepWord_0 N d, nc_10, w14, cI_some, kX9_stepWord_1 N d, nc_10, w15, cI_some, kX9_stepWord_2 N d, nc_10, w16, cI_some, kX9_stepWord_3 N d, nc_10, w17, cI_some, kX9_stepWord_4 N d, nc_10, w18, cI_some, kX9_stepWord_5 N d, nc_10, w19, cI_some, kX9_stepWord_6 N d, nc_10, w20, cI_some, kX9_stepWord_7 N d, nc_10, w24, cI_some, kX9_stepWord_8 N d, nc_10, w26, cI_some, kX9_stepWord_9 N d, nc_10]
  unfold swK
  rw [no_m1]
  repeat (first | rfl | split)
theorem c9_testWord (H : RT f n q M L) : am_G am_prog (N + 30) (d + 2) 225 [.ref 135] (mkh X M L) = some (.int (nI (twK (tkK f n q))), mkh X M L) := by
  have w21 : am_G am_prog (N + 30) (d + 1) 210 [.ref 135, .long (lN 241700)] (mkh X M L) = some (.int (nI (if tkK f n q = 121 then 1 else 0)), mkh X M L) := c9_isWord (i := 21) H (by omega)
  have w22 : am_G am_prog (N + 30) (d + 1) 210 [.ref 135, .long (lN 12900531)] (mkh X M L) = some (.int (nI (if tkK f n q = 122 then 1 else 0)), mkh X M L) := c9_isWord (i := 22) H (by omega)
  have w23 : am_G am_prog (N + 30) (d + 1) 210 [.ref 135, .long (lN 515539)] (mkh X M L) = some (.int (nI (if tkK f n q = 123 then 1 else 0)), mkh X M L) := c9_isWord (i := 23) H (by omega)
  rw [gX9_testWord N d, sX9_testWord_0 N d, w21, cI_some, kX9_testWord_0 N d, nc_10, w22, cI_some, kX9_testWord_1 N d, nc_10, w23, cI_some, kX9_testWord_2 N d, nc_10]
  unfold twK
  rw [no_m1]
  repeat (first | rfl | split)
theorem swK_neg {α : Type} (K : Nat) (A B : α) : (if nI (swK K) < nI 0 then A else B) = if K = 113 ∨ K = 114 ∨ K = 115 ∨ K = 116 ∨ K = 117 ∨ K = 118 ∨ K = 119 ∨ K = 120 ∨ K = 124 ∨ K = 126 then B else A := by
  by_cases h : K = 113 ∨ K = 114 ∨ K = 115 ∨ K = 116 ∨ K = 117 ∨ K = 118 ∨ K = 119 ∨ K = 120 ∨ K = 124 ∨ K = 126
  · rw [if_pos h]
    rcases h with h | h | h | h | h | h | h | h | h | h <;> subst h <;> exact nc_nlt (by decide) (by decide)
  · have e : swK K = 4294967295 := by
      unfold swK
      rw [if_neg (by omega), if_neg (by omega), if_neg (by omega), if_neg (by omega), if_neg (by omega), if_neg (by omega), if_neg (by omega), if_neg (by omega), if_neg (by omega), if_neg (by omega)]
    rw [if_neg h, nc_neg e]
theorem twK_neg {α : Type} (K : Nat) (A B : α) : (if nI (twK K) < nI 0 then A else B) = if K = 121 ∨ K = 122 ∨ K = 123 then B else A := by
  by_cases h : K = 121 ∨ K = 122 ∨ K = 123
  · rw [if_pos h]
    rcases h with h | h | h <;> subst h <;> exact nc_nlt (by decide) (by decide)
  · have e : twK K = 4294967295 := by
      unfold twK
      rw [if_neg (by omega), if_neg (by omega), if_neg (by omega)]
    rw [if_neg h, nc_neg e]
theorem it_or {α : Type} {a b : Prop} [Decidable a] [Decidable b] {x y : α} : (if a then x else if b then x else y) = if a ∨ b then x else y := by
  by_cases h1 : a
  · rw [if_pos h1, if_pos (Or.inl h1)]
  · by_cases h2 : b
    · rw [if_neg h1, if_pos h2, if_pos (Or.inr h2)]
    · rw [if_neg h1, if_neg h2, if_neg (fun h => h.elim h1 h2)]
theorem c9_isKept (H : RT f n q M L) : am_G am_prog (N + 30) (d + 3) 227 [.ref 135] (mkh X M L) = some (.int (nI (if 100 ≤ tkK f n q ∧ tkK f n q < 127 then 1 else 0)), mkh X M L) := by
  rw [gX9_isKept N (d + 2), sX9_isKept_0 N (d + 2), c9_isOdds H, cI_some, kX9_isKept_0 N (d + 2), nc_10, c9_isSubject H, cI_some, kX9_isKept_1 N (d + 2), nc_10, c9_isVoice H, cI_some, kX9_isKept_2 N (d + 2), nc_10, c9_isAge H, cI_some, kX9_isKept_3 N (d + 2), nc_10, c9_isLife H, cI_some, kX9_isKept_4 N (d + 2), nc_10, c9_isSays H, cI_some, kX9_isKept_5 N (d + 2), nc_10, c9_isPerson H, cI_some, kX9_isKept_6 N (d + 2), nc_10, c9_isCoins H, cI_some, kX9_isKept_7 N (d + 2), nc_10, c9_isLikes H, cI_some, kX9_isKept_8 N (d + 2), nc_10, c9_isSet H, cI_some, kX9_isKept_9 N (d + 2), nc_10, c9_isGets H, cI_some, kX9_isKept_10 N (d + 2), nc_10, c9_isFlaw H, cI_some, kX9_isKept_11 N (d + 2), nc_10, c9_isFor H, cI_some, kX9_isKept_12 N (d + 2), nc_10, c9_stepWord H, cI_some, kX9_isKept_13 N (d + 2), swK_neg, c9_testWord H, cI_some, kX9_isKept_14 N (d + 2), twK_neg, c9_isEnd H, cI_some, kX9_isKept_15 N (d + 2), nc_10]
  by_cases h : 100 ≤ tkK f n q ∧ tkK f n q < 127
  · rw [if_pos h]
    rw [it_or, it_or, it_or, it_or, it_or, it_or, it_or, it_or, it_or, it_or, it_or, it_or, it_or, it_or, it_or, if_pos (by omega)]
  · rw [if_neg h, if_neg (by omega), if_neg (by omega), if_neg (by omega), if_neg (by omega), if_neg (by omega), if_neg (by omega), if_neg (by omega), if_neg (by omega), if_neg (by omega), if_neg (by omega), if_neg (by omega), if_neg (by omega), if_neg (by omega), if_neg (by omega), if_neg (by omega), if_neg (by omega)]
theorem c9_isName (H : RT f n q M L) : am_G am_prog (N + 30) (d + 4) 228 [.ref 135] (mkh X M L) = some (.int (nI (if tkK f n q = 2 then 1 else 0)), mkh X M L) := by
  have kp := c9_isKept (N := N) (d := d) (X := X) H
  obtain ⟨h1, h2, h3, h4, h5, h6, h7, h8, h9⟩ := H
  rw [gX9_isName N (d + 3), sX9_isName_0 N (d + 3), h5]
  rcases rk_or f n q with ⟨r, c⟩ | ⟨r, c⟩ | ⟨r, c⟩ | ⟨r, c⟩ | ⟨r, c⟩
  · rw [nc_eq r]
    by_cases c3 : tkK f n q = 3
    · obtain ⟨⟨l, l1, l2, l3⟩, -⟩ := h8 c3
      rw [l3, nc_lt l1 (by omega), if_neg (by omega)]
    · obtain ⟨⟨l, l1, l3⟩, -⟩ := h9 (by omega)
      rw [l3, nc_nlt (by omega) (by omega), kp, cI_some, kX9_isName_0 N (d + 3), nc_10]
      by_cases c2 : tkK f n q = 2
      · rw [if_neg (by omega), if_pos c2]
      · rw [if_pos (by omega), if_neg c2]
  · rw [nc_ne (by omega) (by omega) (by omega), if_neg (by omega)]
  · rw [nc_ne (by omega) (by omega) (by omega), if_neg (by omega)]
  · rw [nc_ne (by omega) (by omega) (by omega), if_neg (by omega)]
  · rw [nc_ne (by omega) (by omega) (by omega), if_neg (by omega)]
theorem c9_isSign (H : RT f n q M L) {c : Nat} (hc : 59 ≤ c) (hc2 : c ≤ 62) : am_G am_prog (N + 30) (d + 1) 208 [.ref 135, .int (nI c)] (mkh X M L) = some (.int (nI (if tkK f n q = c then 1 else 0)), mkh X M L) := by
  obtain ⟨h1, h2, h3, h4, h5, h6, h7, h8, h9⟩ := H
  rw [gX9_isSign N d, sX9_isSign_0 N d, h5]
  rcases rk_or f n q with ⟨r, g⟩ | ⟨r, g⟩ | ⟨r, g⟩ | ⟨r, g⟩ | ⟨r, g⟩
  · rw [nc_ne (by omega) (by omega) (by omega), if_neg (by omega)]
  · rw [nc_eq r, h7 g]
    by_cases e : tkK f n q = c
    · rw [nc_eq e, if_pos e]
    · rw [nc_ne e (by omega) (by omega), if_neg e]
  · rw [nc_ne (by omega) (by omega) (by omega), if_neg (by omega)]
  · rw [nc_ne (by omega) (by omega) (by omega), if_neg (by omega)]
  · rw [nc_ne (by omega) (by omega) (by omega), if_neg (by omega)]
end
