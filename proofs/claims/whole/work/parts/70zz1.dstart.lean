/-! texts: dials; start and end -/
section
variable {N d e : Nat} {X X2 : lt_X} {f : Nat → Int32} {n m t s p : Nat} {I M K V : Nat → Nat → Int32} {J L Y P : Nat → Nat → Int64} {T U : Nat → Nat}
theorem WF_lt (h : ∀ k, k < 157 → U k = T k) (hw : WF T) : WF U := by
  obtain ⟨⟨w0, w1, w2, w3, w4, w5, w6⟩, wv, wr, wp, wl, ws⟩ := hw
  refine ⟨by rw [h 0 (by omega), h 1 (by omega), h 2 (by omega), h 3 (by omega), h 4 (by omega), h 5 (by omega), h 6 (by omega)]; exact ⟨w0, w1, w2, w3, w4, w5, w6⟩, fun v hv => ?_, fun v k hv hk => ?_, fun p hp => ?_, fun p s hp hs => ?_, fun k hk => ?_⟩
  · rw [h 1 (by omega)] at hv
    rw [h _ (by omega), h _ (by omega), h _ (by omega), h _ (by omega), h _ (by omega)]; exact wv v hv
  · rw [h 1 (by omega)] at hv
    have := wv v hv
    rw [h (19 + v) (by omega)] at hk
    rw [h _ (by omega), h 0 (by omega)]; exact wr v k hv hk
  · rw [h 2 (by omega)] at hp
    rw [h _ (by omega), h _ (by omega), h _ (by omega)]; exact wp p hp
  · rw [h 2 (by omega)] at hp
    rw [h _ (by omega)]; exact wl p s hp hs
  · rw [h 3 (by omega)] at hk
    rw [h (55 + k) (by omega), h (61 + k) (by omega), h (67 + k) (by omega), h 1 (by omega), h 2 (by omega)]; exact ws k hk
theorem TC_lt (h : ∀ k, k < 157 → U k = T k) (hw : WF T) (H : TC I t T) : TC I t U := by
  obtain ⟨a1, ⟨a2, a3, a4⟩, ⟨a5, a6⟩, a7, a8, a9, a10, a11⟩ := H
  obtain ⟨⟨w0, w1, w2, w3, w4, w5, w6⟩, wv, wr, wp, wl, ws⟩ := hw
  refine ⟨fun k hk => by rw [h k (by omega)]; exact a1 k hk, ⟨by rw [h 4 (by omega)]; exact a2, by rw [h 5 (by omega)]; exact a3, by rw [h 6 (by omega)]; exact a4⟩, ⟨?_, ?_⟩, fun v hv => ?_, fun v k hv hk => ?_, fun p hp => ?_, fun p s hp hs => ?_, fun k hk => ?_⟩
  · rw [h 1 (by omega), bst_congr (c := fun v => U (25 + v) == 1) (e := fun v => T (25 + v) == 1) _ (fun i hi => by show (U (25 + i) == 1) = _; rw [h _ (by omega)])]; exact a5
  · rw [h 1 (by omega), bst_congr (c := fun v => U (31 + v) == 1) (e := fun v => T (31 + v) == 1) _ (fun i hi => by show (U (31 + i) == 1) = _; rw [h _ (by omega)])]; exact a6
  · rw [h 1 (by omega)] at hv
    rw [h _ (by omega), h _ (by omega), h _ (by omega)]; exact a7 v hv
  · rw [h 1 (by omega)] at hv
    have := wv v hv
    rw [h (19 + v) (by omega)] at hk
    rw [h _ (by omega)]; exact a8 v k hv hk
  · rw [h 2 (by omega)] at hp
    rw [h _ (by omega), h _ (by omega), h _ (by omega)]; exact a9 p hp
  · rw [h 2 (by omega)] at hp
    rw [h _ (by omega)]; exact a10 p s hp hs
  · rw [h 3 (by omega)] at hk
    rw [h _ (by omega), h _ (by omega), h _ (by omega)]; exact a11 k hk
theorem TM_lt {c : Nat → Int32} (h : ∀ k, k < 157 → U k = T k) (hw : WF T) (H : TM c T) : TM c U := by
  obtain ⟨a0, a1, a2, a3, a4, a5⟩ := H
  obtain ⟨⟨w0, w1, w2, w3, w4, w5, w6⟩, wv, wr, wp, wl, ws⟩ := hw
  refine ⟨fun k hk => by rw [h k (by omega)]; exact a0 k hk, fun v hv => ?_, fun v k hv hk => ?_, fun p hp => ?_, fun p s hp hs => ?_, fun k hk => ?_⟩
  · rw [h 1 (by omega)] at hv
    rw [h _ (by omega), h _ (by omega), h _ (by omega), h _ (by omega), h _ (by omega)]; exact a1 v hv
  · rw [h 1 (by omega)] at hv
    have := wv v hv
    rw [h (19 + v) (by omega)] at hk
    rw [h _ (by omega)]; exact a2 v k hv hk
  · rw [h 2 (by omega)] at hp
    rw [h _ (by omega), h _ (by omega), h _ (by omega)]; exact a3 p hp
  · rw [h 2 (by omega)] at hp
    rw [h _ (by omega)]; exact a4 p s hp hs
  · rw [h 3 (by omega)] at hk
    rw [h _ (by omega), h _ (by omega), h _ (by omega)]; exact a5 k hk
theorem GB_lt (h : ∀ k, k < 157 → U k = T k) (hw : WF T) (H : GB T) : GB U := fun p hp => by
  have h2 := hw.1.2.2.1
  rw [h 2 (by omega)] at hp
  rw [h (43 + p) (by omega), h (49 + p) (by omega), h 5 (by omega)]; exact H p hp
theorem c1_take (ht : isT t) (h5 : I 119 5 = nI 1) (h6 : I 119 6 = nI p) (hp : p ≤ 60) (h7 : I 119 7 = nI s) : ∃ K, am_G am_prog (N + 30) (d + 1) 22 [.ref (t + 14), .ref 119] (mkh X I J) = some (.null, mkh X K J) ∧ (∀ a, ¬ (t + 14 ≤ a ∧ a < t + 20) → K a = I a) ∧ K (t + 14) 5 = nI 1 ∧ K (t + 14) 6 = nI p ∧ K (t + 14) 7 = nI s ∧ ∀ i, i < p → K (t + 15) i = I 120 i ∧ K (t + 16) i = I 121 i ∧ K (t + 17) i = I 122 i ∧ K (t + 18) i = I 123 i ∧ K (t + 19) i = I 124 i := by
  have g0 : ¬ nI 0 < nI 0 := nI_nlt (by omega) (by omega)
  have cnd : (¬ nI 0 < nI 0 ∧ ¬ nI 0 < nI 0 ∧ ¬ nI p < nI 0) ∧ (nI 0).toNatClampNeg + (nI p).toNatClampNeg ≤ 60 ∧ (nI 0).toNatClampNeg + (nI p).toNatClampNeg ≤ 60 := by
    rw [nI_clamp (by omega), nI_clamp (by omega)]
    exact ⟨⟨g0, g0, nI_nlt (by omega) (by omega)⟩, by omega, by omega⟩
  have c01 : nI 1 = 0 ∨ nI 1 = 1 := Or.inr rfl
  have cl := fX1_takeB (N + 30) d ht (X := X) I J
  rw [sX1_takeB N d _ ht, h5, h6, h7, if_pos c01, if_pos cnd, if_pos cnd, if_pos cnd, if_pos cnd, if_pos cnd, nI_clamp (by omega)] at cl
  refine ⟨_, cl, fun a ha => ?_, ?_, ?_, ?_, fun i hi => ⟨?_, ?_, ?_, ?_, ?_⟩⟩
  · rw [w2_na (by omega), w2_na (by omega), w2_na (by omega), w2_na (by omega), w2_na (by omega), u2_na _ _ _ _ _ (by omega), u2_na _ _ _ _ _ (by omega), u2_na _ _ _ _ _ (by omega)]
  · rw [w2_na (by omega), w2_na (by omega), w2_na (by omega), w2_na (by omega), w2_na (by omega), u2_nk _ _ _ _ _ (by omega), u2_nk _ _ _ _ _ (by omega), u2_at]
  · rw [w2_na (by omega), w2_na (by omega), w2_na (by omega), w2_na (by omega), w2_na (by omega), u2_nk _ _ _ _ _ (by omega), u2_at]
  · rw [w2_na (by omega), w2_na (by omega), w2_na (by omega), w2_na (by omega), w2_na (by omega), u2_at]
  · rw [w2_na (by omega), w2_na (by omega), w2_na (by omega), w2_na (by omega), w2_at, cpy0 hi]
  · rw [w2_na (by omega), w2_na (by omega), w2_na (by omega), w2_at, cpy0 hi]
  · rw [w2_na (by omega), w2_na (by omega), w2_at, cpy0 hi]
  · rw [w2_na (by omega), w2_at, cpy0 hi]
  · rw [w2_at, cpy0 hi]
/-- X, with the town that is here as the dials' reader's -/
def Xd (X : lt_X) : lt_X := (X.1, X.2.1, X.2.2.1, X.2.2.2.1, some X.2.1)
def CD (m : Nat) (I K : Nat → Nat → Int32) (J Y : Nat → Nat → Int64) : Prop :=
  CT (I 13) m 0 K Y ∧ KWS Y ∧ OK5 K ∧ K 118 3 = nI 0 ∧ K 119 6 = nI 0 ∧ K 119 7 = nI 0 ∧ (∀ a, a ≠ 3 → a ≠ 115 → a ≠ 118 → a ≠ 119 → K a = I a) ∧ (∀ k, k ≠ 2 → k ≠ 14 → K 3 k = I 3 k) ∧ K 3 2 = nI 0 ∧ K 3 14 = nI 1 ∧ (∀ a, a ≠ 115 → Y a = J a)
theorem cd_start (hX : hsX X) (hm : m ≤ 300) (hB : ∀ k, k < m → isB (I 13 k)) (hN : 10000 ≤ N) (hK : KWS J) (ht : t ≤ 900) (h2 : I 3 2 = nI t) (hmt : m ≤ t) : ∃ K Y, am_G am_prog (N + 30) (d + 40) 123 [.ref 3, .int (nI m)] (mkh X I J) = am_cI (RX2_readsFor_19 N (d + 37) (N + 29) (Xd X) (nI 0) K Y) (KX8_dials_1 N (d + 38) (N + 29)) ∧ CD m I K J Y := by
  have cl := gX8_dials N (d + 38) (X := X) (nI m) I J
  obtain ⟨K1, Y, a1, a2, a3, a4, a5, a6⟩ := c4_open (N := N) (d := d + 36) (X := X) (I := I) (J := J) (n := m) (by omega) hB hN hK
  rw [sX8_dials_0 N (d + 38) _ hX, nc_nlt (by omega) (by omega), h2, nc_nlt (by omega) (by omega), nc_nlt (by omega) (by omega), a1, cV_some, kX8_dials_0 N (d + 38) _ hX, gX2_readsFor N (d + 37) hX, sX2_readsFor_0 N (d + 37) _ hX] at cl
  have na : ∀ a, a ≠ 3 → a ≠ 118 → a ≠ 119 → u2 (u2 (u2 (u2 (u2 (u2 K1 3 2 (nI 0)) 3 14 (nI 1)) 119 5 (nI 0)) 119 6 (nI 0)) 119 7 (nI 0)) 118 3 (nI 0) a = K1 a := fun a h3 h8 h9 => by rw [u2_na _ _ _ _ _ h8, u2_na _ _ _ _ _ h9, u2_na _ _ _ _ _ h9, u2_na _ _ _ _ _ h9, u2_na _ _ _ _ _ h3, u2_na _ _ _ _ _ h3]
  have n3 : u2 (u2 (u2 (u2 (u2 (u2 K1 3 2 (nI 0)) 3 14 (nI 1)) 119 5 (nI 0)) 119 6 (nI 0)) 119 7 (nI 0)) 118 3 (nI 0) 3 = u2 (u2 K1 3 2 (nI 0)) 3 14 (nI 1) 3 := by rw [u2_na _ _ _ _ _ (by omega), u2_na _ _ _ _ _ (by omega), u2_na _ _ _ _ _ (by omega), u2_na _ _ _ _ _ (by omega)]
  refine ⟨_, Y, cl, CT_a (na 13 (by omega) (by omega) (by omega)) (na 115 (by omega) (by omega) (by omega)) rfl a2, a3, ⟨by rw [na 115 (by omega) (by omega) (by omega)]; exact a4.1, by rw [na 115 (by omega) (by omega) (by omega)]; exact a4.2⟩, u2_at _ _ _ _, ?_, ?_, fun a g3 g5 g8 g9 => by rw [na a g3 g8 g9, a5 a g5], fun k g2 g14 => ?_, ?_, ?_, a6⟩
  · rw [u2_na _ _ _ _ _ (by omega), u2_nk _ _ _ _ _ (by omega), u2_at]
  · rw [u2_na _ _ _ _ _ (by omega), u2_at]
  · rw [n3, u2_nk _ _ _ _ _ g14, u2_nk _ _ _ _ _ g2, a5 3 (by omega)]
  · rw [n3, u2_nk _ _ _ _ _ (by omega), u2_at]
  · rw [n3, u2_at]
def RD (f : Nat → Int32) (m : Nat) (M V : Nat → Nat → Int32) (L P : Nat → Nat → Int64) : Prop :=
  RT f m 0 V P ∧ V 135 12 = nI 0 ∧ V 135 25 = nI 0 ∧ V 135 8 = nI 0 ∧ V 135 0 = nI 0 ∧ (∀ a, a ≠ 135 → V a = M a) ∧ (∀ k, k = 10 ∨ k = 11 ∨ k = 23 ∨ k = 33 → V 135 k = M 135 k) ∧ FTL L P
theorem rd_start (hm : m ≤ 300) (hB : ∀ k, k < m → isB (f k)) (hN : 10000 ≤ N) (ht : t ≤ 900) (h8 : M 135 8 = nI t) (hmt : m ≤ t) (h139 : ∀ k, k < m → M 139 k = f k) : ∃ V P, am_G am_prog (N + 30) (d + 40) 257 [.ref 135, .int (nI m)] (mkh X2 M L) = RX9_dials_28 N (d + 39) (N + 29) X2 V P ∧ RD f m M V L P := by
  have rf := gX9_dials N (d + 39) (X := X2) (nI m) M L
  rw [sX9_dials_0 N (d + 39)] at rf
  obtain ⟨V1, P1, a1, a2, a3, a4, a5, a6, a7⟩ := c9_starts1 (N := N) (e := d + 35) (X := X2) (M := u2 (u2 M 135 1 (nI 0)) 135 0 (nI 0)) (L := L) (f := f) (n := m) (t := t) (mx := 300) (by omega) hB hN ht (by rw [u2_nk _ _ _ _ _ (by omega), u2_nk _ _ _ _ _ (by omega)]; exact h8) hmt hm (by omega) (fun k hk => by rw [u2_na _ _ _ _ _ (by omega), u2_na _ _ _ _ _ (by omega)]; exact h139 k hk)
  rw [a1, cI_some, kX9_dials_0 N (d + 39), nc_ne (by omega) (by omega) (by omega)] at rf
  refine ⟨_, P1, rf, RT_o (by omega) (by omega) a2, ?_, u2_at _ _ _ _, ?_, ?_, fun a h1 => ?_, fun k hk => ?_, a7⟩
  · rw [u2_nk _ _ _ _ _ (by omega)]; exact a3
  · rw [u2_nk _ _ _ _ _ (by omega)]; exact a4
  · rw [u2_nk _ _ _ _ _ (by omega), a6 0 (by omega) (by omega) (by omega) (by omega), u2_at]
  · rw [u2_na _ _ _ _ _ h1, a5 a h1, u2_na _ _ _ _ _ h1, u2_na _ _ _ _ _ h1]
  · rw [u2_nk _ _ _ _ _ (by omega), a6 k (by omega) (by omega) (by omega) (by omega), u2_nk _ _ _ _ _ (by omega), u2_nk _ _ _ _ _ (by omega)]
/-- the reference takes the new steps over -/
theorem d82 (hs : s ≤ 30) (h25 : V 135 25 = nI s) (z : Nat) : RX9_dials_82 N e (z + 300) X2 (nI 0) V P = some (.int (nI s), mkh X2 (w2 V 140 (cpB (V 140) 1875 159 (9 * s))) P) := by
  have e9 : nI 9 * nI s = nI (9 * s) := pk_mul 9 s
  have hw : ∀ i, w2 V 140 (cpB (V 140) 1875 159 i) 135 25 = nI s := fun i => by rw [w2_na (by omega)]; exact h25
  have lp := lqs (run := fun z i => RX9_dials_82 N e z X2 (nI i) (w2 V 140 (cpB (V 140) 1875 159 i)) P) (m := 9 * s) (R := some (.int (nI s), mkh X2 (w2 V 140 (cpB (V 140) 1875 159 (9 * s))) P)) (fun z i hi => by
    show RX9_dials_82 N e (z + 1) X2 (nI i) (w2 V 140 (cpB (V 140) 1875 159 i)) P = RX9_dials_82 N e z X2 (nI (i + 1)) (w2 V 140 (cpB (V 140) 1875 159 (i + 1))) P
    have ef : upd (cpB (V 140) 1875 159 i) (159 + i) (cpB (V 140) 1875 159 i (1875 + i)) = cpB (V 140) 1875 159 (i + 1) := by
      funext p
      unfold upd
      by_cases r : p = 159 + i
      · rw [if_pos r]
        unfold cpB
        rw [if_neg (by omega), if_pos (by omega), r, show 159 + i - 159 = i by omega]
      · rw [if_neg r]
        unfold cpB
        have : (159 ≤ p ∧ p < 159 + i) ↔ (159 ≤ p ∧ p < 159 + (i + 1)) := by omega
        simp only [this]
    rw [sX9_dials_82 N e z, hw, e9, nc_lt hi (by omega), nI_add, nI_add, nc_in (by omega) (by omega), nc_in (by omega) (by omega), nI_clamp (by omega), nI_clamp (by omega), nI_add i 1, u2_w, w2_at, ef]) (fun z => by
    show RX9_dials_82 N e (z + 1) X2 (nI (9 * s)) (w2 V 140 (cpB (V 140) 1875 159 (9 * s))) P = _
    rw [sX9_dials_82 N e z, hw, e9, nc_nlt (by omega) (by omega)]) (z + 300) 0 (by omega) (by omega)
  have e0 : w2 V 140 (cpB (V 140) 1875 159 0) = V := by
    have : cpB (V 140) 1875 159 0 = V 140 := by funext p; unfold cpB; rw [if_neg (by omega)]
    rw [this, w2_id]
  rw [e0] at lp
  exact lp
end
