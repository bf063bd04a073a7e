/-! a run of the dials: states, outcomes -/
def FKL (t : Nat) (I0 K : Nat → Nat → Int32) : Prop := ∀ a, ¬ (t ≤ a ∧ a < t + 14) → a ≠ 132 → a ≠ 133 → K a = I0 a
def FLR (M0 L : Nat → Nat → Int32) : Prop := (∀ a, a ≠ 140 → a ≠ 135 → L a = M0 a) ∧ (∀ k, 157 ≤ k → L 140 k = M0 140 k) ∧ (∀ k, k < 34 ∨ 41 < k → L 135 k = M0 135 k)
def ST0 (T : Nat → Nat) (t : Nat) (I0 M0 K L : Nat → Nat → Int32) (dn : Nat) : Prop := ∃ U r ms hs gl dd, LFS T U r dn ms hs gl dd ∧ CLV t K U r dn ms hs dd ∧ RLV L U r dn ms hs gl dd ∧ FKL t I0 K ∧ FLR M0 L
/-- a run of the class from cr, of the reference from rr: either both come on (the class to tgt), or both are over -/
def OUTG (T : Nat → Nat) (t : Nat) (I0 M0 : Nat → Nat → Int32) (X X2 : lt_X) (J J2 : Nat → Nat → Int64) (cr rr : Nat → am_O) (f : Nat) (tgt : (Nat → Nat → Int32) → Nat → Nat → am_O) (P : Nat → Prop) (K : Nat → Nat → Int32) (j dn sl : Nat) : Prop :=
  ∃ K1 L1 dn1 j1, ST0 T t I0 M0 K1 L1 dn1 ∧ (∀ i, ¬ P i → K1 133 i = K 133 i) ∧ j ≤ j1 ∧ ev rr f (some (.null, mkh X2 L1 J2)) ∧
  ((K1 132 6 = nI 0 ∧ L1 135 34 = nI 0 ∧ L1 135 41 = nI 0 ∧ j1 + 100 * dn ≤ j + sl + 100 * dn1 ∧ ∀ B R, ev (tgt K1 j1) B R → ev cr (B + 2 * (j1 - j)) R) ∨
   (∃ c, c ≤ 1 ∧ K1 132 6 = nI c ∧ L1 135 34 = nI 1 ∧ L1 135 41 = nI c ∧ j1 ≤ 40000 ∧ ev cr (2 * (j1 - j) + 2) (some (.null, mkh X K1 J))))
theorem OUTG_pre {T : Nat → Nat} {t : Nat} {I0 M0 : Nat → Nat → Int32} {X X2 : lt_X} {J J2 : Nat → Nat → Int64} {cr rr cr1 rr1 : Nat → am_O} {f f1 : Nat} {tgt : (Nat → Nat → Int32) → Nat → Nat → am_O} {P P1 : Nat → Prop} {K K1 : Nat → Nat → Int32} {j j1 dn dn1 sl sl1 : Nat} (lc : ∀ B R, ev cr1 B R → ev cr (B + 2 * (j1 - j)) R) (lr : ∀ L1, ev rr1 f1 (some (.null, mkh X2 L1 J2)) → ev rr f (some (.null, mkh X2 L1 J2))) (hj : j ≤ j1) (hcr : j1 + sl1 + 100 * dn ≤ j + sl + 100 * dn1) (hK : ∀ i, ¬ P i → K1 133 i = K 133 i) (hP : ∀ i, P1 i → P i) (H : OUTG T t I0 M0 X X2 J J2 cr1 rr1 f1 tgt P1 K1 j1 dn1 sl1) : OUTG T t I0 M0 X X2 J J2 cr rr f tgt P K j dn sl := by
  obtain ⟨K2, L2, dn2, j2, h1, h2, h3, h4, h5⟩ := H
  refine ⟨K2, L2, dn2, j2, h1, fun i hi => by rw [h2 i (fun h => hi (hP i h)), hK i hi], by omega, lr _ h4, ?_⟩
  rcases h5 with ⟨a1, a2, a3, a4, a5⟩ | ⟨c, a1, a2, a3, a4, a5, a6⟩
  · exact Or.inl ⟨a1, a2, a3, by omega, fun B R e => ev_le (lc _ _ (a5 B R e)) (by omega)⟩
  · exact Or.inr ⟨c, a1, a2, a3, a4, a5, ev_le (lc _ _ a6) (by omega)⟩
theorem OUTG_seq {T : Nat → Nat} {t : Nat} {I0 M0 : Nat → Nat → Int32} {X X2 : lt_X} {J J2 : Nat → Nat → Int64} {cr rr rr1 : Nat → am_O} {rr2 : (Nat → Nat → Int32) → Nat → am_O} {f f1 f2 : Nat} {tgt tgt1 : (Nat → Nat → Int32) → Nat → Nat → am_O} {P P1 P2 : Nat → Prop} {K : Nat → Nat → Int32} {j dn sl sl1 sl2 : Nat}
    (H : OUTG T t I0 M0 X X2 J J2 cr rr1 f1 tgt1 P1 K j dn sl1) (hs : sl1 + sl2 ≤ sl) (hP1 : ∀ i, P1 i → P i) (hP2 : ∀ i, P2 i → P i)
    (H2 : ∀ K1 L1 dn1 j1, ST0 T t I0 M0 K1 L1 dn1 → (∀ i, ¬ P1 i → K1 133 i = K 133 i) → K1 132 6 = nI 0 → L1 135 34 = nI 0 → L1 135 41 = nI 0 → j1 + 100 * dn ≤ j + sl1 + 100 * dn1 → OUTG T t I0 M0 X X2 J J2 (tgt1 K1 j1) (rr2 L1) f2 tgt P2 K1 j1 dn1 sl2)
    (l1 : ∀ L1 L2, FLR M0 L1 → L1 135 34 = nI 0 → ev rr1 f1 (some (.null, mkh X2 L1 J2)) → ev (rr2 L1) f2 (some (.null, mkh X2 L2 J2)) → ev rr f (some (.null, mkh X2 L2 J2)))
    (l2 : ∀ L1, FLR M0 L1 → L1 135 34 = nI 1 → ev rr1 f1 (some (.null, mkh X2 L1 J2)) → ev rr f (some (.null, mkh X2 L1 J2))) : OUTG T t I0 M0 X X2 J J2 cr rr f tgt P K j dn sl := by
  obtain ⟨K1, L1, dn1, j1, h1, h2, h3, h4, h5⟩ := H
  have fl : FLR M0 L1 := by obtain ⟨_, _, _, _, _, _, _, _, _, _, h⟩ := h1; exact h
  rcases h5 with ⟨a1, a2, a3, a4, a5⟩ | ⟨c, a1, a2, a3, a4, a5, a6⟩
  · obtain ⟨K2, L2, dn2, j2, g1, g2, g3, g4, g5⟩ := H2 K1 L1 dn1 j1 h1 h2 a1 a2 a3 a4
    refine ⟨K2, L2, dn2, j2, g1, fun i hi => by rw [g2 i (fun h => hi (hP2 i h)), h2 i (fun h => hi (hP1 i h))], by omega, l1 _ _ fl a2 h4 g4, ?_⟩
    rcases g5 with ⟨b1, b2, b3, b4, b5⟩ | ⟨c, b1, b2, b3, b4, b5, b6⟩
    · exact Or.inl ⟨b1, b2, b3, by omega, fun B R e => ev_le (a5 _ _ (b5 B R e)) (by omega)⟩
    · exact Or.inr ⟨c, b1, b2, b3, b4, b5, ev_le (a5 _ _ b6) (by omega)⟩
  · exact ⟨K1, L1, dn1, j1, h1, fun i hi => h2 i (fun h => hi (hP1 i h)), h3, l2 _ fl a3 h4, Or.inr ⟨c, a1, a2, a3, a4, a5, a6⟩⟩
/-- both are over -/
theorem OUTG_end {T : Nat → Nat} {t : Nat} {I0 M0 : Nat → Nat → Int32} {X X2 : lt_X} {J J2 : Nat → Nat → Int64} {cr rr : Nat → am_O} {f : Nat} {tgt : (Nat → Nat → Int32) → Nat → Nat → am_O} {P : Nat → Prop} {K K1 L1 : Nat → Nat → Int32} {j dn dn1 sl c : Nat} (h1 : ST0 T t I0 M0 K1 L1 dn1) (h2 : K1 133 = K 133) (hc : c ≤ 1) (h3 : K1 132 6 = nI c) (h4 : L1 135 34 = nI 1) (h5 : L1 135 41 = nI c) (hj : j ≤ 40000) (h6 : ∀ z, cr (z + 1) = some (.null, mkh X K1 J)) (h7 : ev rr f (some (.null, mkh X2 L1 J2))) : OUTG T t I0 M0 X X2 J J2 cr rr f tgt P K j dn sl :=
  ⟨K1, L1, dn1, j, h1, fun i _ => by rw [h2], Nat.le_refl _, h7, Or.inr ⟨c, hc, h3, h4, h5, hj, ev_le (ev_0 h6) (by omega)⟩⟩
/-- the first words of a step: class, reference -/
theorem ST0_dn {T : Nat → Nat} {t : Nat} {I0 M0 K L : Nat → Nat → Int32} {dn : Nat} (h : ST0 T t I0 M0 K L dn) : dn ≤ 300 ∧ K 132 2 = nI dn ∧ L 135 36 = nI dn ∧ FKL t I0 K ∧ FLR M0 L := by
  obtain ⟨U, r, ms, hs, gl, dd, ⟨-, -, -, -, s1, -⟩, ⟨-, -, c2, -⟩, ⟨-, -, r2, -⟩, f1, f2⟩ := h
  exact ⟨s1, c2, r2, f1, f2⟩
/-- one step more has been come to -/
theorem ST0_up {T : Nat → Nat} {t : Nat} (ht : isT t) {I0 M0 K L : Nat → Nat → Int32} {dn : Nat} (hd : dn < 300) (h : ST0 T t I0 M0 K L dn) : ST0 T t I0 M0 (u2 K 132 2 (nI (dn + 1))) (u2 L 135 36 (nI (dn + 1))) (dn + 1) := by
  obtain ⟨U, r, ms, hs, gl, dd, ⟨s1, s2, s3, s4, s5, s6, s7, s8, s9⟩, ⟨c1, c2, c3, c4, c5, c6⟩, ⟨r1, r2, r3, r4, r5, r6, r7⟩, f1, f2, f3, f4⟩ := h
  have htt := ht
  unfold isT at htt
  refine ⟨U, r, ms, hs, gl, dd, ⟨s1, s2, s3, s4, by omega, by omega, by omega, s8, s9⟩, ⟨TC_frame (fun a _ _ => u2_na _ _ _ _ _ (by omega)) c1, ?_, u2_at _ _ _ _, ?_, ?_, ?_⟩, ⟨?_, ?_, u2_at _ _ _ _, ?_, ?_, ?_, ?_⟩, fun a b1 b2 b3 => ?_, fun a b1 b2 => ?_, fun k hk => ?_, fun k hk => ?_⟩
  · rw [u2_nk _ _ _ _ _ (by omega)]; exact c2
  · rw [u2_nk _ _ _ _ _ (by omega)]; exact c4
  · rw [u2_nk _ _ _ _ _ (by omega)]; exact c5
  · rw [u2_nk _ _ _ _ _ (by omega)]; exact c6
  · rw [u2_na _ _ _ _ _ (by omega)]; exact r1
  · rw [u2_nk _ _ _ _ _ (by omega)]; exact r2
  · rw [u2_nk _ _ _ _ _ (by omega)]; exact r4
  · rw [u2_nk _ _ _ _ _ (by omega)]; exact r5
  · rw [u2_nk _ _ _ _ _ (by omega)]; exact r6
  · rw [u2_nk _ _ _ _ _ (by omega)]; exact r7
  · rw [u2_na _ _ _ _ _ b2]; exact f1 a b1 b2 b3
  · rw [u2_na _ _ _ _ _ b2]; exact f2 a b1 b2
  · rw [u2_na _ _ _ _ _ (by omega)]; exact f3 k hk
  · rw [u2_nk _ _ _ _ _ (by omega)]; exact f4 k hk
/-- flags, rounds are no part of a state -/
theorem ST0_K {T : Nat → Nat} {t : Nat} (ht : isT t) {I0 M0 K L : Nat → Nat → Int32} {dn : Nat} {a k : Nat} {v : Int32} (ha : a = 133 ∨ a = 132 ∧ k = 6) (h : ST0 T t I0 M0 K L dn) : ST0 T t I0 M0 (u2 K a k v) L dn := by
  obtain ⟨U, r, ms, hs, gl, dd, s, ⟨c1, c2, c3, c4, c5, c6⟩, r1, f1, f2⟩ := h
  have htt := ht
  unfold isT at htt
  have g : ∀ i, i ≠ 6 → u2 K a k v 132 i = K 132 i := fun i hi => by
    rcases ha with rfl | ⟨rfl, rfl⟩
    · rw [u2_na _ _ _ _ _ (by omega)]
    · rw [u2_nk _ _ _ _ _ hi]
  exact ⟨U, r, ms, hs, gl, dd, s, ⟨TC_frame (fun a _ _ => u2_na _ _ _ _ _ (by omega)) c1, by rw [g _ (by omega)]; exact c2, by rw [g _ (by omega)]; exact c3, by rw [g _ (by omega)]; exact c4, by rw [g _ (by omega)]; exact c5, by rw [g _ (by omega)]; exact c6⟩, r1, fun a b1 b2 b3 => by rw [u2_na _ _ _ _ _ (by omega)]; exact f1 a b1 b2 b3, f2⟩
theorem ST0_L {T : Nat → Nat} {t : Nat} {I0 M0 K L : Nat → Nat → Int32} {dn : Nat} {k : Nat} {v : Int32} (hk : k = 34 ∨ k = 41) (h : ST0 T t I0 M0 K L dn) : ST0 T t I0 M0 K (u2 L 135 k v) dn := by
  obtain ⟨U, r, ms, hs, gl, dd, s, c1, ⟨r1, r2, r3, r4, r5, r6, r7⟩, f1, f2, f3, f4⟩ := h
  exact ⟨U, r, ms, hs, gl, dd, s, c1, ⟨by rw [u2_na _ _ _ _ _ (by omega)]; exact r1, by rw [u2_nk _ _ _ _ _ (by omega)]; exact r2, by rw [u2_nk _ _ _ _ _ (by omega)]; exact r3, by rw [u2_nk _ _ _ _ _ (by omega)]; exact r4, by rw [u2_nk _ _ _ _ _ (by omega)]; exact r5, by rw [u2_nk _ _ _ _ _ (by omega)]; exact r6, by rw [u2_nk _ _ _ _ _ (by omega)]; exact r7⟩, f1, fun a b1 b2 => by rw [u2_na _ _ _ _ _ b2]; exact f2 a b1 b2, fun k hk => by rw [u2_na _ _ _ _ _ (by omega)]; exact f3 k hk, fun j hj => by rw [u2_nk _ _ _ _ _ (by omega)]; exact f4 j hj⟩
