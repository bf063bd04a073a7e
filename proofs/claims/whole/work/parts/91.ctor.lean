/-! The constructors -/
theorem i0 {q : Nat} {N d L s : Nat} {r : List (Nat × Nat × Nat)} {I : Nat → Nat → Int32} {J : Nat → Nat → Int64} (w : WZ (q + 1) r I J) (h0 : lk L q = (0, 0)) (h1 : lk L (q + 1) = (10, 36)) (h2 : lk L (q + 2) = (10, 448)) (h3 : lk L (q + 3) = (10, 6)) (h4 : lk L (q + 4) = (10, 6)) (h5 : lk L (q + 5) = (10, 6)) : am_G am_prog (N + 30) (d + 1) 0 [.ref q] (hp L (q + 1) s r I J) = some (.null, hp L (q + 6) (s + 502) ((q, 4, (q + 5)) :: (q, 3, (q + 4)) :: (q, 2, (q + 3)) :: (q, 1, (q + 2)) :: (q, 0, (q + 1)) :: r) I J) := by
  refine (o0 (kc_lt (by omega) |>.trans h0)).trans ?_
  refine (rX0_init_0 _ (N + 29) q _).trans ?_
  unfold BX0_init_0
  refine (na_hp w 36 rfl (by omega) h1).trans ?_
  have w1 := w_mk w
  refine (pR_hp ((kc_lt (by omega)).trans h0)).trans ?_
  have w2 := w_r (a := q) (k := 0) (v := (q + 1)) w1 (by omega)
  refine (na_hp w2 448 rfl (by omega) h2).trans ?_
  have w3 := w_mk w2
  refine (pR_hp ((kc_lt (by omega)).trans h0)).trans ?_
  have w4 := w_r (a := q) (k := 1) (v := (q + 2)) w3 (by omega)
  refine (na_hp w4 6 rfl (by omega) h3).trans ?_
  have w5 := w_mk w4
  refine (pR_hp ((kc_lt (by omega)).trans h0)).trans ?_
  have w6 := w_r (a := q) (k := 2) (v := (q + 3)) w5 (by omega)
  refine (na_hp w6 6 rfl (by omega) h4).trans ?_
  have w7 := w_mk w6
  refine (pR_hp ((kc_lt (by omega)).trans h0)).trans ?_
  have w8 := w_r (a := q) (k := 3) (v := (q + 4)) w7 (by omega)
  refine (na_hp w8 6 rfl (by omega) h5).trans ?_
  have w9 := w_mk w8
  refine (pR_hp ((kc_lt (by omega)).trans h0)).trans ?_
  have w10 := w_r (a := q) (k := 4) (v := (q + 5)) w9 (by omega)
  rfl
theorem i20 {q : Nat} {N d L s : Nat} {r : List (Nat × Nat × Nat)} {I : Nat → Nat → Int32} {J : Nat → Nat → Int64} (w : WZ (q + 1) r I J) (h0 : lk L q = (1, 0)) (h1 : lk L (q + 1) = (10, 60)) (h2 : lk L (q + 2) = (10, 60)) (h3 : lk L (q + 3) = (10, 60)) (h4 : lk L (q + 4) = (10, 60)) (h5 : lk L (q + 5) = (10, 60)) : am_G am_prog (N + 30) (d + 1) 20 [.ref q] (hp L (q + 1) s r I J) = some (.null, hp L (q + 6) (s + 300) ((q, 4, (q + 5)) :: (q, 3, (q + 4)) :: (q, 2, (q + 3)) :: (q, 1, (q + 2)) :: (q, 0, (q + 1)) :: r) I J) := by
  refine (o20 (kc_lt (by omega) |>.trans h0)).trans ?_
  refine (rX1_init_0 _ (N + 29) q _).trans ?_
  unfold BX1_init_0
  refine (na_hp w 60 rfl (by omega) h1).trans ?_
  have w1 := w_mk w
  refine (pR_hp ((kc_lt (by omega)).trans h0)).trans ?_
  have w2 := w_r (a := q) (k := 0) (v := (q + 1)) w1 (by omega)
  refine (na_hp w2 60 rfl (by omega) h2).trans ?_
  have w3 := w_mk w2
  refine (pR_hp ((kc_lt (by omega)).trans h0)).trans ?_
  have w4 := w_r (a := q) (k := 1) (v := (q + 2)) w3 (by omega)
  refine (na_hp w4 60 rfl (by omega) h3).trans ?_
  have w5 := w_mk w4
  refine (pR_hp ((kc_lt (by omega)).trans h0)).trans ?_
  have w6 := w_r (a := q) (k := 2) (v := (q + 3)) w5 (by omega)
  refine (na_hp w6 60 rfl (by omega) h4).trans ?_
  have w7 := w_mk w6
  refine (pR_hp ((kc_lt (by omega)).trans h0)).trans ?_
  have w8 := w_r (a := q) (k := 3) (v := (q + 4)) w7 (by omega)
  refine (na_hp w8 60 rfl (by omega) h5).trans ?_
  have w9 := w_mk w8
  refine (pR_hp ((kc_lt (by omega)).trans h0)).trans ?_
  have w10 := w_r (a := q) (k := 4) (v := (q + 5)) w9 (by omega)
  rfl
theorem i34 {q : Nat} {N d L s : Nat} {r : List (Nat × Nat × Nat)} {I : Nat → Nat → Int32} {J : Nat → Nat → Int64} (w : WZ (q + 1) r I J) (h0 : lk L q = (3, 0)) (h1 : lk L (q + 1) = (10, 60)) : am_G am_prog (N + 30) (d + 1) 34 [.ref q] (hp L (q + 1) s r I J) = some (.null, hp L (q + 2) (s + 60) ((q, 0, (q + 1)) :: r) I J) := by
  refine (o34 (kc_lt (by omega) |>.trans h0)).trans ?_
  refine (rX3_init_0 _ (N + 29) q _).trans ?_
  unfold BX3_init_0
  refine (na_hp w 60 rfl (by omega) h1).trans ?_
  have w1 := w_mk w
  refine (pR_hp ((kc_lt (by omega)).trans h0)).trans ?_
  have w2 := w_r (a := q) (k := 0) (v := (q + 1)) w1 (by omega)
  rfl
theorem i105 {q : Nat} {N d L s : Nat} {r : List (Nat × Nat × Nat)} {I : Nat → Nat → Int32} {J : Nat → Nat → Int64} (w : WZ (q + 1) r I J) (h0 : lk L q = (7, 0)) (h1 : lk L (q + 1) = (12, 60)) : am_G am_prog (N + 30) (d + 1) 105 [.ref q] (hp L (q + 1) s r I J) = some (.null, hp L (q + 2) (s + 60) ((q, 0, (q + 1)) :: r) I J) := by
  refine (o105 (kc_lt (by omega) |>.trans h0)).trans ?_
  refine (rX7_init_0 _ (N + 29) q _).trans ?_
  unfold BX7_init_0
  refine (na_hp w 60 rfl (by omega) h1).trans ?_
  have w1 := w_mk w
  refine (pR_hp ((kc_lt (by omega)).trans h0)).trans ?_
  have w2 := w_r (a := q) (k := 0) (v := (q + 1)) w1 (by omega)
  rfl
theorem i94 {q y c : Nat} {N d L s : Nat} {r : List (Nat × Nat × Nat)} {I : Nat → Nat → Int32} {J : Nat → Nat → Int64} (hq : q < c) (h0 : lk L q = (6, 0)) : am_G am_prog (N + 30) (d + 1) 94 [.ref q, .ref y] (hp L c s r I J) = some (.null, hp L c s ((q, 0, y) :: r) I J) := by
  refine (o94 (kc_lt hq |>.trans h0)).trans ?_
  refine (rX6_init_0 _ (N + 29) q y _).trans ?_
  unfold BX6_init_0
  refine (pR_hp (kc_lt hq |>.trans h0)).trans ?_
  rfl
def tnR (t : Nat) (r : List (Nat × Nat × Nat)) : List (Nat × Nat × Nat) := (t, 18, (t + 14)) :: ((t + 14), 4, (t + 14 + 5)) :: ((t + 14), 3, (t + 14 + 4)) :: ((t + 14), 2, (t + 14 + 3)) :: ((t + 14), 1, (t + 14 + 2)) :: ((t + 14), 0, (t + 14 + 1)) :: (t, 17, (t + 13)) :: (t, 16, (t + 12)) :: (t, 15, (t + 11)) :: (t, 14, (t + 10)) :: (t, 13, (t + 9)) :: (t, 12, (t + 8)) :: (t, 11, (t + 7)) :: (t, 10, (t + 6)) :: (t, 9, (t + 5)) :: (t, 8, (t + 4)) :: (t, 7, (t + 3)) :: (t, 1, (t + 2)) :: (t, 0, (t + 1)) :: r
theorem i56 {t : Nat} {N d L s : Nat} {r : List (Nat × Nat × Nat)} {I : Nat → Nat → Int32} {J : Nat → Nat → Int64} (ht : isT t) (w : WZ (t + 1) r I J) : am_G am_prog (N + 30) (d + 2) 56 [.ref t] (hp L (t + 1) s r I J) = some (.null, hp L (t + 20) (s + 474) (tnR t r) (u2 I t 2 1) J) := by
  refine (o56 (kc_lt (by omega) |>.trans (tK ht L))).trans ?_
  refine (rX5_init_0 _ (N + 29) t _).trans ?_
  unfold BX5_init_0
  refine (na_hp w 24 rfl (by omega) (tK1 ht L)).trans ?_
  have w1 := w_mk w
  refine (pR_hp ((kc_lt (by omega)).trans (tK ht L))).trans ?_
  have w2 := w_r (a := t) (k := 0) (v := (t + 1)) w1 (by omega)
  refine (na_hp w2 4 rfl (by omega) (tK2 ht L)).trans ?_
  have w3 := w_mk w2
  refine (pR_hp ((kc_lt (by omega)).trans (tK ht L))).trans ?_
  have w4 := w_r (a := t) (k := 1) (v := (t + 2)) w3 (by omega)
  refine (pI_hp ((kc_lt (by omega)).trans (tK ht L))).trans ?_
  have w5 := w_u (a := t) (k := 2) (x := (1 : Int32)) w4 (by omega)
  refine (na_hp w5 6 rfl (by omega) (tK3 ht L)).trans ?_
  have w6 := w_mk w5
  refine (pR_hp ((kc_lt (by omega)).trans (tK ht L))).trans ?_
  have w7 := w_r (a := t) (k := 7) (v := (t + 3)) w6 (by omega)
  refine (na_hp w7 6 rfl (by omega) (tK4 ht L)).trans ?_
  have w8 := w_mk w7
  refine (pR_hp ((kc_lt (by omega)).trans (tK ht L))).trans ?_
  have w9 := w_r (a := t) (k := 8) (v := (t + 4)) w8 (by omega)
  refine (na_hp w9 6 rfl (by omega) (tK5 ht L)).trans ?_
  have w10 := w_mk w9
  refine (pR_hp ((kc_lt (by omega)).trans (tK ht L))).trans ?_
  have w11 := w_r (a := t) (k := 9) (v := (t + 5)) w10 (by omega)
  refine (na_hp w11 48 rfl (by omega) (tK6 ht L)).trans ?_
  have w12 := w_mk w11
  refine (pR_hp ((kc_lt (by omega)).trans (tK ht L))).trans ?_
  have w13 := w_r (a := t) (k := 10) (v := (t + 6)) w12 (by omega)
  refine (na_hp w13 6 rfl (by omega) (tK7 ht L)).trans ?_
  have w14 := w_mk w13
  refine (pR_hp ((kc_lt (by omega)).trans (tK ht L))).trans ?_
  have w15 := w_r (a := t) (k := 11) (v := (t + 7)) w14 (by omega)
  refine (na_hp w15 6 rfl (by omega) (tK8 ht L)).trans ?_
  have w16 := w_mk w15
  refine (pR_hp ((kc_lt (by omega)).trans (tK ht L))).trans ?_
  have w17 := w_r (a := t) (k := 12) (v := (t + 8)) w16 (by omega)
  refine (na_hp w17 6 rfl (by omega) (tK9 ht L)).trans ?_
  have w18 := w_mk w17
  refine (pR_hp ((kc_lt (by omega)).trans (tK ht L))).trans ?_
  have w19 := w_r (a := t) (k := 13) (v := (t + 9)) w18 (by omega)
  refine (na_hp w19 36 rfl (by omega) (tK10 ht L)).trans ?_
  have w20 := w_mk w19
  refine (pR_hp ((kc_lt (by omega)).trans (tK ht L))).trans ?_
  have w21 := w_r (a := t) (k := 14) (v := (t + 10)) w20 (by omega)
  refine (na_hp w21 6 rfl (by omega) (tK11 ht L)).trans ?_
  have w22 := w_mk w21
  refine (pR_hp ((kc_lt (by omega)).trans (tK ht L))).trans ?_
  have w23 := w_r (a := t) (k := 15) (v := (t + 11)) w22 (by omega)
  refine (na_hp w23 6 rfl (by omega) (tK12 ht L)).trans ?_
  have w24 := w_mk w23
  refine (pR_hp ((kc_lt (by omega)).trans (tK ht L))).trans ?_
  have w25 := w_r (a := t) (k := 16) (v := (t + 12)) w24 (by omega)
  refine (na_hp w25 6 rfl (by omega) (tK13 ht L)).trans ?_
  have w26 := w_mk w25
  refine (pR_hp ((kc_lt (by omega)).trans (tK ht L))).trans ?_
  have w27 := w_r (a := t) (k := 17) (v := (t + 13)) w26 (by omega)
  refine (nw_hp w27 (tK14 ht L)).trans ?_
  have w28 := w_mk w27
  refine (cV_call (i20 (N := N) (d := d) (q := t + 14) w28 (tK14 ht L) (tK15 ht L) (tK16 ht L) (tK17 ht L) (tK18 ht L) (tK19 ht L))).trans ?_
  refine (pR_hp (kc_lt (by omega) |>.trans (tK ht L))).trans ?_
  rfl
theorem tnR_lt {t c a k : Nat} {r : List (Nat × Nat × Nat)} (h : t + 20 ≤ c) (hc : c ≤ a) : rl (tnR t r) a k = rl r a k := by
  unfold tnR
  simp only [rl]
  repeat rw [if_neg (by omega)]
theorem w_tn {t : Nat} {r : List (Nat × Nat × Nat)} {I : Nat → Nat → Int32} {J : Nat → Nat → Int64} (w : WZ (t + 1) r I J) : WZ (t + 20) (tnR t r) (u2 I t 2 1) J := fun a ha => by
  obtain ⟨w1, w2, w3⟩ := w a (by omega)
  exact ⟨fun k => by rw [tnR_lt (Nat.le_refl _) ha]; exact w1 k, by rw [u2_na _ _ _ _ _ (by omega)]; exact w2, w3⟩
theorem i23 {q y : Nat} {N d L s : Nat} {r : List (Nat × Nat × Nat)} {I : Nat → Nat → Int32} {J : Nat → Nat → Int64} (w : WZ (q + 1) r I J) (h0 : lk L q = (2, 0)) (h1 : lk L (q + 1) = (1, 0)) (h2 : lk L (q + 2) = (10, 60)) (h3 : lk L (q + 3) = (10, 60)) (h4 : lk L (q + 4) = (10, 60)) (h5 : lk L (q + 5) = (10, 60)) (h6 : lk L (q + 6) = (10, 60)) (h7 : lk L (q + 7) = (10, 3)) : am_G am_prog (N + 30) (d + 2) 23 [.ref q, .ref y] (hp L (q + 1) s r I J) = some (.null, hp L (q + 8) (s + 311) ((q, 0, y) :: (q, 2, (q + 7)) :: (q, 1, (q + 1)) :: ((q + 1), 4, (q + 1 + 5)) :: ((q + 1), 3, (q + 1 + 4)) :: ((q + 1), 2, (q + 1 + 3)) :: ((q + 1), 1, (q + 1 + 2)) :: ((q + 1), 0, (q + 1 + 1)) :: r) I J) := by
  refine (o23 (kc_lt (by omega) |>.trans h0)).trans ?_
  refine (rX2_init_0 _ (N + 29) q y _).trans ?_
  unfold BX2_init_0
  refine (nw_hp w h1).trans ?_
  have w1 := w_mk w
  refine (cV_call (i20 (N := N) (d := d) (q := q + 1) w1 h1 h2 h3 h4 h5 h6)).trans ?_
  have v0 : WZ (q + 1 + 6) (((q + 1), 4, (q + 1 + 5)) :: ((q + 1), 3, (q + 1 + 4)) :: ((q + 1), 2, (q + 1 + 3)) :: ((q + 1), 1, (q + 1 + 2)) :: ((q + 1), 0, (q + 1 + 1)) :: r) I J := w_r (w_r (w_r (w_r (w_r (fun a ha => w1 a (by omega)) (by omega)) (by omega)) (by omega)) (by omega)) (by omega)
  refine (pR_hp ((kc_lt (by omega)).trans h0)).trans ?_
  have w2 := w_r (a := q) (k := 1) (v := (q + 1)) v0 (by omega)
  refine (na_hp w2 3 rfl (by omega) h7).trans ?_
  have w3 := w_mk w2
  refine (pR_hp ((kc_lt (by omega)).trans h0)).trans ?_
  have w4 := w_r (a := q) (k := 2) (v := (q + 7)) w3 (by omega)
  refine (pR_hp ((kc_lt (by omega)).trans h0)).trans ?_
  have w5 := w_r (a := q) (k := 0) (v := y) w4 (by omega)
  rfl
/-- the words that the text keeps, letter by letter -/
def tws : Nat → Nat × (Nat → Int64)
  | 0 => (0, fun _ => 0)
  | j + 1 => if am_SC j = (32 : Int32) then ((tws j).1 + 1, (tws j).2) else ((tws j).1, vp_updL (tws j).2 (tws j).1 (((tws j).2 (tws j).1 <<< ((5 : Int32).toInt64 &&& 63)) ||| (((am_SC j - (97 : Int32)) + (1 : Int32)).toInt64)))
theorem tws_27 : ∀ j, j < 139 → (tws j).1 < 27 := by decide +kernel
theorem tws_w : ∀ k, k < 27 → (tws 139).2 k = lN (kwl.getD k 0) := by decide +kernel
theorem t4_loop {N d L s : Nat} {r : List (Nat × Nat × Nat)} {I : Nat → Nat → Int32} {J : Nat → Nat → Int64} (hr : rl r 115 1 = some 116) (h2 : I 2 = am_SC) (h116 : J 116 = fun _ => 0) (z : Nat) : am_run (am_G am_prog (N + 30) d) eX4_init uX4_init (z + 200) 26 [(0, .ref 115), (2, .int (nI 0)), (3, .int (nI 0))] [] (hp L 117 s r I J) = some (.null, hp L 117 s r I (w2L J 116 (tws 139).2)) := by
  have lp := lqs (run := fun z i => am_run (am_G am_prog (N + 30) d) eX4_init uX4_init z 26 [(0, .ref 115), (2, .int (nI (tws i).1)), (3, .int (nI i))] [] (hp L 117 s r I (w2L J 116 (tws i).2))) (m := 139) (R := some (.null, hp L 117 s r I (w2L J 116 (tws 139).2))) (fun z i hi => ?_) (fun z => ?_) (z + 200) 0 (by omega) (by omega)
  · have e0 : w2L J 116 (tws 0).2 = J := by
      show w2L J 116 (fun _ => 0) = J
      rw [← h116, w2L_id]
    have lp : am_run (am_G am_prog (N + 30) d) eX4_init uX4_init (z + 200) 26 [(0, .ref 115), (2, .int (nI 0)), (3, .int (nI 0))] [] (hp L 117 s r I (w2L J 116 (tws 0).2)) = _ := lp
    rw [e0] at lp
    exact lp
  · have h27 := tws_27 i hi
    refine (rX4_init_26 _ z 115 _ _ _).trans ?_
    unfold BX4_init_26
    have e1 : ∀ (J : Nat → Nat → Int64) (f : Int32 → am_O), am_al (hp L 117 s r I J) 20 2 f = f (nI 139) := fun J f => by
      unfold am_al
      rw [show am_K (hp L 117 s r I J) 2 = (20, am_SL) from rfl, if_pos rfl, lw_SL]
      rfl
    have e2 : ∀ (J : Nat → Nat → Int64) (f : Int32 → am_O), am_lI (hp L 117 s r I J) 20 2 (nI i) f = f (am_SC i) := fun J f => by
      unfold am_lI
      rw [show am_K (hp L 117 s r I J) 2 = (20, am_SL) from rfl, if_pos rfl, if_pos (in_nI (by rw [lw_SL]; exact hi) (by rw [lw_SL]; omega)), nI_clamp (by omega)]
      show f (I 2 i) = _
      rw [h2]
    have k1 : nI (tws i).1 < (27 : Int32) := by
      rw [show (27 : Int32) = nI 27 from rfl, lt_nI (by omega), nI_toInt (by omega)]
      omega
    rw [e1, nc_lt hi (by omega), if_pos k1, e2]
    by_cases q : am_SC i = (32 : Int32)
    · have es : tws (i + 1) = ((tws i).1 + 1, (tws i).2) := by
        show (if am_SC i = (32 : Int32) then _ else _) = _
        rw [if_pos q]
      rw [if_pos q, es, show (1 : Int32) = nI 1 from rfl, nI_add, nI_add]
    · have es : tws (i + 1) = ((tws i).1, vp_updL (tws i).2 (tws i).1 (((tws i).2 (tws i).1 <<< ((5 : Int32).toInt64 &&& 63)) ||| (((am_SC i - (97 : Int32)) + (1 : Int32)).toInt64))) := by
        show (if am_SC i = (32 : Int32) then _ else _) = _
        rw [if_neg q]
      have e3 : ∀ (J : Nat → Nat → Int64) (f : Int64 → am_O), am_lL (hp L 117 s r I J) 116 (nI (tws i).1) f = f (J 116 (tws i).1) := fun J f => by
        unfold am_lL
        rw [show am_K (hp L 117 s r I J) 116 = (12, 27) from rfl, if_pos rfl, if_pos (in_nI h27 (by omega)), nI_clamp (by omega)]
        rfl
      have e4 : ∀ (J : Nat → Nat → Int64) (y : Int64) (f : am_H → am_O), am_tL (hp L 117 s r I J) 116 (nI (tws i).1) y f = f (hp L 117 s r I (u2L J 116 (tws i).1 y)) := fun J y f => by
        unfold am_tL
        rw [show am_K (hp L 117 s r I J) 116 = (12, 27) from rfl, if_pos rfl, if_pos (in_nI h27 (by omega)), nI_clamp (by omega)]
        rfl
      rw [if_neg q, gR_hp 116 rfl hr, gR_hp 116 rfl hr, e3, e4, w2L_at, u2L_w, es, show (1 : Int32) = nI 1 from rfl, nI_add]
  · refine (rX4_init_26 _ z 115 _ _ _).trans ?_
    unfold BX4_init_26
    have e1 : ∀ (J : Nat → Nat → Int64) (f : Int32 → am_O), am_al (hp L 117 s r I J) 20 2 f = f (nI 139) := fun J f => by
      unfold am_al
      rw [show am_K (hp L 117 s r I J) 2 = (20, am_SL) from rfl, if_pos rfl, lw_SL]
      rfl
    rw [e1, nc_nlt (by omega) (by omega)]
theorem i44 {N d L s : Nat} {r : List (Nat × Nat × Nat)} {I : Nat → Nat → Int32} {J : Nat → Nat → Int64} (hN : 10000 ≤ N) (w : WZ 116 r I J) (h2 : I 2 = am_SC) : am_G am_prog (N + 30) (d + 1) 44 [.ref 115, .ref 13] (hp L 116 s r I J) = some (.null, hp L 117 (s + 27) ((115, 0, 13) :: (115, 1, 116) :: r) (u2 I 115 11 (-1)) (w2L J 116 (tws 139).2)) := by
  refine (o44 rfl).trans ?_
  refine (rX4_init_0 _ (N + 29) 115 13 _).trans ?_
  unfold BX4_init_0
  refine (na_hp w 27 rfl (by omega) rfl).trans ?_
  refine (pR_hp rfl).trans ?_
  refine (pI_hp rfl).trans ?_
  refine (pR_hp rfl).trans ?_
  have e := t4_loop (N := N) (d := d) (L := L) (s := s + 27) (r := (115, 0, 13) :: (115, 1, 116) :: r) (I := u2 I 115 11 (-1)) (J := J) rfl (by rw [u2_na _ _ _ _ _ (by omega)]; exact h2) (w 116 (by omega)).2.2 (N - 171)
  rw [show N - 171 + 200 = N + 29 by omega] at e
  exact e
