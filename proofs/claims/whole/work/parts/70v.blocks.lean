/-! a run of the dials: whens, loops -/
theorem OUTG_id {T : Nat → Nat} {t : Nat} {I0 M0 : Nat → Nat → Int32} {X X2 : lt_X} {J J2 : Nat → Nat → Int64} {rr : Nat → am_O} {f : Nat} {tgt : (Nat → Nat → Int32) → Nat → Nat → am_O} {P : Nat → Prop} {K L : Nat → Nat → Int32} {j dn : Nat} (H : ST0 T t I0 M0 K L dn) (h6 : K 132 6 = nI 0) (h34 : L 135 34 = nI 0) (h41 : L 135 41 = nI 0) (hr : ev rr f (some (.null, mkh X2 L J2))) : OUTG T t I0 M0 X X2 J J2 (tgt K j) rr f tgt P K j dn 0 :=
  ⟨K, L, dn, j, H, fun _ _ => rfl, Nat.le_refl _, hr, Or.inl ⟨h6, h34, h41, by omega, fun B R e => ev_le e (by omega)⟩⟩
/-- a test -/
theorem tst_ok {N d d2 : Nat} {X X2 : lt_X} {J J2 : Nat → Nat → Int64} {t : Nat} {T : Nat → Nat} {I0 M0 K L : Nat → Nat → Int32} (ht : isT t) (hM : DM (M0 140) T) (h158 : T 158 ≤ 30) {s p dn : Nat} (hs : s < T 158) (hp : p < 60) (D : DB (I0 (t + 15)) (I0 (t + 16)) (I0 (t + 17)) (I0 (t + 18)) T s p) (h7 : T (159 + 9 * s) = 7) (H : ST0 T t I0 M0 K L dn) : ∃ b, b ≤ 1 ∧ am_G am_prog (N + 30) (d + 4) 38 [.ref t, .int (nI p)] (mkh X K J) = some (.int (nI b), mkh X K J) ∧ am_G am_prog (N + 30) (d2 + 1) 346 [.ref 135, .int (nI (159 + 9 * s))] (mkh X2 L J2) = some (.int (nI b), mkh X2 L J2) := by
  obtain ⟨U, r, ms, hs', gl, dd, ⟨hw, hg, hag, -⟩, ⟨cT, -⟩, ⟨rT, -⟩, fK, fL⟩ := H
  obtain ⟨h0, h1, h2, h3, h4, h5, h6⟩ := hw.1
  have htt := ht
  unfold isT at htt
  have c0 : ∀ i m, i < 9 → m = 159 + i + 9 * s → L 140 (159 + 9 * s + i) = nI (T m) := fun i m hi hm => dl_cell hM fL hs i m hi hm
  have kk : ∀ i, 14 ≤ i → i < 20 → K (t + i) = I0 (t + i) := fun i a b => dl_FK ht fK a b
  have ag : ∀ i, i < 4 → U i = T i := fun i hi => hag i (by omega)
  rcases D with ⟨-, q, x1, x2, x3, x4, x5, x6, x7⟩ | ⟨-, q, x1, x2, x3⟩ | ⟨-, q, x1, x2, x3, x4, x5⟩ | ⟨q, -⟩
  · have hgx := (hw.2.2.2.1 (T (160 + 9 * s)) (by rw [ag 2 (by omega)]; exact x5)).2.1
    have x5' : T (160 + 9 * s) < U 2 := by rw [ag 2 (by omega)]; exact x5
    have cG := tcG cT _ x5'
    have rG := tmG rT _ x5'
    have k15 := kk 15 (by omega) (by omega)
    have k16 := kk 16 (by omega) (by omega)
    have k17 := kk 17 (by omega) (by omega)
    have k18 := kk 18 (by omega) (by omega)
    have d1 := c0 1 (160 + 9 * s) (by omega) (by omega)
    have d2' := c0 2 (161 + 9 * s) (by omega) (by omega)
    have d6 := c0 6 (165 + 9 * s) (by omega) (by omega)
    have d7 := c0 7 (166 + 9 * s) (by omega) (by omega)
    have hH : am_G am_prog (N + 30) (d + 4) 38 [.ref t, .int (nI p)] (mkh X K J) = if nI (T (166 + 9 * s)) = nI 60 then (if nI (U (43 + T (160 + 9 * s))) < nI (T (161 + 9 * s)) then some (.int (nI 1), mkh X K J) else some (.int (nI 0), mkh X K J)) else if nI (T (166 + 9 * s)) = nI 62 then (if nI (T (161 + 9 * s)) < nI (U (43 + T (160 + 9 * s))) then some (.int (nI 1), mkh X K J) else some (.int (nI 0), mkh X K J)) else (if nI (U (43 + T (160 + 9 * s))) = nI (T (161 + 9 * s)) then some (.int (nI 1), mkh X K J) else some (.int (nI 0), mkh X K J)) := by
      rw [gX3_holds N (d + 2) ht, sX3_holds_0 N (d + 2) _ ht]
      simp (disch := first | assumption | omega) only [nI_clamp, nc_in, k15, k16, k17, k18, x1, x2, x3, x4, cG, nc_ne]
    have hR : am_G am_prog (N + 30) (d2 + 1) 346 [.ref 135, .int (nI (159 + 9 * s))] (mkh X2 L J2) = if nI (T (166 + 9 * s)) = nI 60 then (if nI (U (43 + T (160 + 9 * s))) < nI (T (161 + 9 * s)) then some (.int (nI 1), mkh X2 L J2) else some (.int (nI 0), mkh X2 L J2)) else if nI (T (166 + 9 * s)) = nI 62 then (if nI (T (161 + 9 * s)) < nI (U (43 + T (160 + 9 * s))) then some (.int (nI 1), mkh X2 L J2) else some (.int (nI 0), mkh X2 L J2)) else (if nI (U (43 + T (160 + 9 * s))) = nI (T (161 + 9 * s)) then some (.int (nI 1), mkh X2 L J2) else some (.int (nI 0), mkh X2 L J2)) := by
      rw [gX9_isSo N d2, sX9_isSo_0 N d2]
      simp (disch := first | assumption | omega) only [nI_add, nI_clamp, nc_in, d1, d2', d6, d7, q, rG, nc_ne]
    rw [hH, hR]
    rcases x7 with e | e | e
    · rw [e, nc_eq rfl, nc_eq rfl]
      by_cases c : U (43 + T (160 + 9 * s)) < T (161 + 9 * s)
      · rw [nc_lt c (by omega), nc_lt c (by omega)]; exact ⟨1, by omega, rfl, rfl⟩
      · rw [nc_nlt (by omega) (by omega), nc_nlt (by omega) (by omega)]; exact ⟨0, by omega, rfl, rfl⟩
    · rw [e, nc_ne (a := 61) (b := 60) (by omega) (by omega) (by omega), nc_ne (a := 61) (b := 62) (by omega) (by omega) (by omega), nc_ne (a := 61) (b := 60) (by omega) (by omega) (by omega), nc_ne (a := 61) (b := 62) (by omega) (by omega) (by omega)]
      by_cases c : U (43 + T (160 + 9 * s)) = T (161 + 9 * s)
      · rw [nc_eq c, nc_eq c]; exact ⟨1, by omega, rfl, rfl⟩
      · rw [nc_ne c (by omega) (by omega), nc_ne c (by omega) (by omega)]; exact ⟨0, by omega, rfl, rfl⟩
    · rw [e, nc_ne (a := 62) (b := 60) (by omega) (by omega) (by omega), nc_eq (a := 62) (b := 62) rfl, nc_ne (a := 62) (b := 60) (by omega) (by omega) (by omega), nc_eq (a := 62) (b := 62) rfl]
      by_cases c : T (161 + 9 * s) < U (43 + T (160 + 9 * s))
      · rw [nc_lt c (by omega), nc_lt c (by omega)]; exact ⟨1, by omega, rfl, rfl⟩
      · rw [nc_nlt (by omega) (by omega), nc_nlt (by omega) (by omega)]; exact ⟨0, by omega, rfl, rfl⟩
  · have x3' : T (160 + 9 * s) < U 1 := by rw [ag 1 (by omega)]; exact x3
    have hvv := hw.2.1 _ x3'
    have k15 := kk 15 (by omega) (by omega)
    have k16 := kk 16 (by omega) (by omega)
    have d1 := c0 1 (160 + 9 * s) (by omega) (by omega)
    have d6 := c0 6 (165 + 9 * s) (by omega) (by omega)
    have v1 := tmV rT _ x3'
    refine ⟨if U (25 + T (160 + 9 * s)) = 1 then 1 else 0, by split <;> omega, ?_, ?_⟩
    · rw [gX3_holds N (d + 2) ht, sX3_holds_0 N (d + 2) _ ht]
      simp (disch := first | assumption | omega) only [nI_clamp, nc_in, k15, k16, x1, x2, nc_eq, if_true, if_false, ite_true, ite_false]
      rw [c5_isLiving (d := d + 2) ht cT hw x3', cI_some, kX3_holds_0 N (d + 2), nb_10]
    · rw [gX9_isSo N d2, sX9_isSo_0 N d2]
      simp (disch := first | assumption | omega) only [nI_add, nI_clamp, nc_in, d1, d6, q, v1, nc_eq, if_true, if_false, ite_true, ite_false]
      by_cases c : U (25 + T (160 + 9 * s)) = 1
      · rw [nc_eq c, if_pos c]
      · rw [nc_ne c (by omega) (by omega), if_neg c]
  · have x5' : T (161 + 9 * s) < U 3 := by rw [ag 3 (by omega)]; exact x5
    have x4' : T (160 + 9 * s) < U 2 := by rw [ag 2 (by omega)]; exact x4
    have hb := (hw.2.2.2.2.2 _ x5').2.2
    have k15 := kk 15 (by omega) (by omega)
    have k16 := kk 16 (by omega) (by omega)
    have k17 := kk 17 (by omega) (by omega)
    have d1 := c0 1 (160 + 9 * s) (by omega) (by omega)
    have d2' := c0 2 (161 + 9 * s) (by omega) (by omega)
    have d6 := c0 6 (165 + 9 * s) (by omega) (by omega)
    have v1 := tcB cT _ x5'
    have v2 := tmB rT _ x5'
    refine ⟨if U (67 + T (161 + 9 * s)) = T (160 + 9 * s) then 1 else 0, by split <;> omega, ?_, ?_⟩
    · rw [gX3_holds N (d + 2) ht, sX3_holds_0 N (d + 2) _ ht]
      by_cases c : U (67 + T (161 + 9 * s)) = T (160 + 9 * s)
      · simp (disch := first | assumption | omega) only [nI_clamp, nc_in, k15, k16, k17, x1, x2, x3, v1, nc_ne, nc_eq, if_true, if_false, ite_true, ite_false]
        rw [if_pos c]
      · simp (disch := first | assumption | omega) only [nI_clamp, nc_in, k15, k16, k17, x1, x2, x3, v1, nc_ne, nc_eq, if_true, if_false, ite_true, ite_false]
        rw [if_neg c]
    · rw [gX9_isSo N d2, sX9_isSo_0 N d2]
      by_cases c : U (67 + T (161 + 9 * s)) = T (160 + 9 * s)
      · simp (disch := first | assumption | omega) only [nI_add, nI_clamp, nc_in, d1, d2', d6, q, v2, nc_ne, nc_eq, if_true, if_false, ite_true, ite_false]
        rw [if_pos c]
      · simp (disch := first | assumption | omega) only [nI_add, nI_clamp, nc_in, d1, d2', d6, q, v2, nc_ne, nc_eq, if_true, if_false, ite_true, ite_false]
        rw [if_neg c]
  · omega
theorem DB_word {w f g n : Nat → Int32} {T : Nat → Nat} {s p : Nat} (D : DB w f g n T s p) : (T (159 + 9 * s) = 7 ∧ ∃ W, w p = nI W ∧ 121 ≤ W ∧ W < 124) ∨ (T (159 + 9 * s) = 8 ∧ w p = nI 124 ∧ n p = nI (T (160 + 9 * s)) ∧ 1 ≤ T (160 + 9 * s) ∧ T (160 + 9 * s) ≤ 99) := by
  rcases D with ⟨h, q, x1, -⟩ | ⟨h, q, x1, -⟩ | ⟨h, q, x1, -⟩ | ⟨h, x1, x2, x3, x4⟩
  · exact Or.inl ⟨h, 121, x1, by omega, by omega⟩
  · exact Or.inl ⟨h, 122, x1, by omega, by omega⟩
  · exact Or.inl ⟨h, 123, x1, by omega, by omega⟩
  · exact Or.inr ⟨h, x1, x2, x3, x4⟩
