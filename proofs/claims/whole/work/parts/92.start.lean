/-! The class's and the reference's object at the law's start -/
def stR1 : List (Nat × Nat × Nat) := ((3, 12, 134) :: ((3, 11, 132) :: ((132, 0, 133) :: ((3, 10, 126) :: ((126, 4, 131) :: ((126, 3, 130) :: ((126, 2, 129) :: ((126, 1, 128) :: ((126, 0, 127) :: ((3, 9, 118) :: ((118, 0, 115) :: ((118, 2, 125) :: ((118, 1, 119) :: ((119, 4, 124) :: ((119, 3, 123) :: ((119, 2, 122) :: ((119, 1, 121) :: ((119, 0, 120) :: ((3, 8, 117) :: ((117, 0, 115) :: ((3, 7, 115) :: ((115, 0, 13) :: ((115, 1, 116) :: ((54, 2, 95) :: (tnR 95 ((54, 1, 75) :: (tnR 75 ((54, 0, 55) :: (tnR 55 ((3, 5, 54) :: ((3, 4, 34) :: (tnR 34 ((3, 3, 14) :: (tnR 14 ((3, 1, 13) :: ((4, 3, 11) :: ((11, 0, 12) :: ((4, 2, 9) :: ((9, 0, 10) :: ((4, 1, 7) :: ((7, 0, 8) :: ((4, 0, 5) :: ((5, 0, 6) :: ((3, 0, 4) :: []))))))))))))))))))))))))))))))))))))))))))))
def stI1 (I : Nat → Nat → Int32) : Nat → Nat → Int32 := (u2 (u2 (u2 (u2 (u2 (u2 I 14 2 1) 34 2 1) 55 2 1) 75 2 1) 95 2 1) 115 11 (-1))
def stJ1 (J : Nat → Nat → Int64) : Nat → Nat → Int64 := (u2L (w2L J 116 (tws 139).2) 3 17 1)
set_option maxRecDepth 100000 in
theorem s_109 {N d L : Nat} {I : Nat → Nat → Int32} {J : Nat → Nat → Int64} (hN : 10000 ≤ N) (w : WZ 4 [] I J) (h2 : I 2 = am_SC) : am_G am_prog (N + 30) (d + 3) 109 [.ref 3] (hp L 4 18 [] I J) = some (.null, hp L 135 4583 stR1 (stI1 I) (stJ1 J)) := by
  refine (o109 rfl).trans ?_
  refine (rX8_init_0 _ (N + 29) 3 _).trans ?_
  unfold BX8_init_0
  refine (na_hp w 4 rfl (by omega) rfl).trans ?_
  have wz1 := w_mk w
  refine (pR_hp rfl).trans ?_
  have wz2 := w_r (a := 3) (k := 0) (v := 4) wz1 (by omega)
  refine (rX8_init_14 _ (N + 28) 3 _ _).trans ?_
  unfold BX8_init_14
  refine (if_pos (by decide)).trans ?_
  refine (gR_hp 4 rfl rfl).trans ?_
  refine (nw_hp wz2 rfl).trans ?_
  have wz3 := w_mk wz2
  refine (cV_call (i105 (N := N) (q := 5) wz3 rfl rfl)).trans ?_
  have wz4 := (w_r (a := 5) (k := 0) (v := 6) (show WZ 7 _ _ _ from (fun a ha => wz3 a (by omega))) (by omega))
  refine (tR_hp (n := 4) 0 rfl rfl (by omega) (by omega) rfl).trans ?_
  have wz5 := w_r (a := 4) (k := 0) (v := 5) wz4 (by omega)
  refine (rX8_init_14 _ (N + 27) 3 _ _).trans ?_
  unfold BX8_init_14
  refine (if_pos (by decide)).trans ?_
  refine (gR_hp 4 rfl rfl).trans ?_
  refine (nw_hp wz5 rfl).trans ?_
  have wz6 := w_mk wz5
  refine (cV_call (i105 (N := N) (q := 7) wz6 rfl rfl)).trans ?_
  have wz7 := (w_r (a := 7) (k := 0) (v := 8) (show WZ 9 _ _ _ from (fun a ha => wz6 a (by omega))) (by omega))
  refine (tR_hp (n := 4) 1 rfl rfl (by omega) (by omega) rfl).trans ?_
  have wz8 := w_r (a := 4) (k := 1) (v := 7) wz7 (by omega)
  refine (rX8_init_14 _ (N + 26) 3 _ _).trans ?_
  unfold BX8_init_14
  refine (if_pos (by decide)).trans ?_
  refine (gR_hp 4 rfl rfl).trans ?_
  refine (nw_hp wz8 rfl).trans ?_
  have wz9 := w_mk wz8
  refine (cV_call (i105 (N := N) (q := 9) wz9 rfl rfl)).trans ?_
  have wz10 := (w_r (a := 9) (k := 0) (v := 10) (show WZ 11 _ _ _ from (fun a ha => wz9 a (by omega))) (by omega))
  refine (tR_hp (n := 4) 2 rfl rfl (by omega) (by omega) rfl).trans ?_
  have wz11 := w_r (a := 4) (k := 2) (v := 9) wz10 (by omega)
  refine (rX8_init_14 _ (N + 25) 3 _ _).trans ?_
  unfold BX8_init_14
  refine (if_pos (by decide)).trans ?_
  refine (gR_hp 4 rfl rfl).trans ?_
  refine (nw_hp wz11 rfl).trans ?_
  have wz12 := w_mk wz11
  refine (cV_call (i105 (N := N) (q := 11) wz12 rfl rfl)).trans ?_
  have wz13 := (w_r (a := 11) (k := 0) (v := 12) (show WZ 13 _ _ _ from (fun a ha => wz12 a (by omega))) (by omega))
  refine (tR_hp (n := 4) 3 rfl rfl (by omega) (by omega) rfl).trans ?_
  have wz14 := w_r (a := 4) (k := 3) (v := 11) wz13 (by omega)
  refine (rX8_init_14 _ (N + 24) 3 _ _).trans ?_
  unfold BX8_init_14
  refine (if_neg (by decide)).trans ?_
  refine (na_hp wz14 900 rfl (by omega) rfl).trans ?_
  have wz15 := w_mk wz14
  refine (pR_hp rfl).trans ?_
  have wz16 := w_r (a := 3) (k := 1) (v := 13) wz15 (by omega)
  refine (nw_hp wz16 rfl).trans ?_
  have wz17 := w_mk wz16
  refine (cV_call (i56 (N := N) (d := d) (t := 14) (Or.inl rfl) wz17)).trans ?_
  have wz18 := w_tn (t := 14) wz17
  refine (pR_hp rfl).trans ?_
  have wz19 := w_r (a := 3) (k := 3) (v := 14) wz18 (by omega)
  refine (nw_hp wz19 rfl).trans ?_
  have wz20 := w_mk wz19
  refine (cV_call (i56 (N := N) (d := d) (t := 34) (Or.inr (Or.inl rfl)) wz20)).trans ?_
  have wz21 := w_tn (t := 34) wz20
  refine (pR_hp rfl).trans ?_
  have wz22 := w_r (a := 3) (k := 4) (v := 34) wz21 (by omega)
  refine (na_hp wz22 3 rfl (by omega) rfl).trans ?_
  have wz23 := w_mk wz22
  refine (pR_hp rfl).trans ?_
  have wz24 := w_r (a := 3) (k := 5) (v := 54) wz23 (by omega)
  refine (rX8_init_79 _ (N + 23) 3 _ _).trans ?_
  unfold BX8_init_79
  refine (if_pos (by decide)).trans ?_
  refine (gR_hp 54 rfl rfl).trans ?_
  refine (nw_hp wz24 rfl).trans ?_
  have wz25 := w_mk wz24
  refine (cV_call (i56 (N := N) (d := d) (t := 55) (Or.inr (Or.inr (Or.inl rfl))) wz25)).trans ?_
  have wz26 := w_tn (t := 55) wz25
  refine (tR_hp (n := 3) 0 rfl rfl (by omega) (by omega) rfl).trans ?_
  have wz27 := w_r (a := 54) (k := 0) (v := 55) wz26 (by omega)
  refine (rX8_init_79 _ (N + 22) 3 _ _).trans ?_
  unfold BX8_init_79
  refine (if_pos (by decide)).trans ?_
  refine (gR_hp 54 rfl rfl).trans ?_
  refine (nw_hp wz27 rfl).trans ?_
  have wz28 := w_mk wz27
  refine (cV_call (i56 (N := N) (d := d) (t := 75) (Or.inr (Or.inr (Or.inr (Or.inl rfl)))) wz28)).trans ?_
  have wz29 := w_tn (t := 75) wz28
  refine (tR_hp (n := 3) 1 rfl rfl (by omega) (by omega) rfl).trans ?_
  have wz30 := w_r (a := 54) (k := 1) (v := 75) wz29 (by omega)
  refine (rX8_init_79 _ (N + 21) 3 _ _).trans ?_
  unfold BX8_init_79
  refine (if_pos (by decide)).trans ?_
  refine (gR_hp 54 rfl rfl).trans ?_
  refine (nw_hp wz30 rfl).trans ?_
  have wz31 := w_mk wz30
  refine (cV_call (i56 (N := N) (d := d) (t := 95) (Or.inr (Or.inr (Or.inr (Or.inr rfl)))) wz31)).trans ?_
  have wz32 := w_tn (t := 95) wz31
  refine (tR_hp (n := 3) 2 rfl rfl (by omega) (by omega) rfl).trans ?_
  have wz33 := w_r (a := 54) (k := 2) (v := 95) wz32 (by omega)
  refine (rX8_init_79 _ (N + 20) 3 _ _).trans ?_
  unfold BX8_init_79
  refine (if_neg (by decide)).trans ?_
  refine (nw_hp wz33 rfl).trans ?_
  have wz34 := w_mk wz33
  refine (gR_hp 13 rfl rfl).trans ?_
  refine (cV_call (i44 (N := N) (d := d + 1) hN wz34 (by rw [u2_na _ _ _ _ _ (by omega)]; rw [u2_na _ _ _ _ _ (by omega)]; rw [u2_na _ _ _ _ _ (by omega)]; rw [u2_na _ _ _ _ _ (by omega)]; rw [u2_na _ _ _ _ _ (by omega)]; exact h2))).trans ?_
  have wz35 := w_wL (f := (tws 139).2) (w_u (a := 115) (k := 11) (x := -1) (w_r (a := 115) (k := 0) (v := 13) (w_r (a := 115) (k := 1) (v := 116) (show WZ 117 _ _ _ from (fun a ha => wz34 a (by omega))) (by omega)) (by omega)) (by omega)) (show 116 < 117 by omega)
  refine (pR_hp rfl).trans ?_
  have wz36 := w_r (a := 3) (k := 7) (v := 115) wz35 (by omega)
  refine (nw_hp wz36 rfl).trans ?_
  have wz37 := w_mk wz36
  refine (gR_hp 115 rfl rfl).trans ?_
  refine (cV_call (i94 (N := N) (d := d + 1) (q := 117) (y := 115) (c := 118) (by omega) rfl)).trans ?_
  have wz38 := w_r (a := 117) (k := 0) (v := 115) wz37 (by omega)
  refine (pR_hp rfl).trans ?_
  have wz39 := w_r (a := 3) (k := 8) (v := 117) wz38 (by omega)
  refine (nw_hp wz39 rfl).trans ?_
  have wz40 := w_mk wz39
  refine (gR_hp 115 rfl rfl).trans ?_
  refine (cV_call (i23 (N := N) (d := d) (q := 118) (y := 115) wz40 rfl rfl rfl rfl rfl rfl rfl rfl)).trans ?_
  have wz41 := (w_r (a := 118) (k := 0) (v := 115) (w_r (a := 118) (k := 2) (v := 125) (w_r (a := 118) (k := 1) (v := 119) (w_r (a := 119) (k := 4) (v := 124) (w_r (a := 119) (k := 3) (v := 123) (w_r (a := 119) (k := 2) (v := 122) (w_r (a := 119) (k := 1) (v := 121) (w_r (a := 119) (k := 0) (v := 120) (show WZ 126 _ _ _ from (fun a ha => wz40 a (by omega))) (by omega)) (by omega)) (by omega)) (by omega)) (by omega)) (by omega)) (by omega)) (by omega))
  refine (pR_hp rfl).trans ?_
  have wz42 := w_r (a := 3) (k := 9) (v := 118) wz41 (by omega)
  refine (nw_hp wz42 rfl).trans ?_
  have wz43 := w_mk wz42
  refine (cV_call (i0 (N := N) (q := 126) wz43 rfl rfl rfl rfl rfl rfl)).trans ?_
  have wz44 := (w_r (a := 126) (k := 4) (v := 131) (w_r (a := 126) (k := 3) (v := 130) (w_r (a := 126) (k := 2) (v := 129) (w_r (a := 126) (k := 1) (v := 128) (w_r (a := 126) (k := 0) (v := 127) (show WZ 132 _ _ _ from (fun a ha => wz43 a (by omega))) (by omega)) (by omega)) (by omega)) (by omega)) (by omega))
  refine (pR_hp rfl).trans ?_
  have wz45 := w_r (a := 3) (k := 10) (v := 126) wz44 (by omega)
  refine (nw_hp wz45 rfl).trans ?_
  have wz46 := w_mk wz45
  refine (cV_call (i34 (N := N) (q := 132) wz46 rfl rfl)).trans ?_
  have wz47 := (w_r (a := 132) (k := 0) (v := 133) (show WZ 134 _ _ _ from (fun a ha => wz46 a (by omega))) (by omega))
  refine (pR_hp rfl).trans ?_
  have wz48 := w_r (a := 3) (k := 11) (v := 132) wz47 (by omega)
  refine (na_hp wz48 5 rfl (by omega) rfl).trans ?_
  have wz49 := w_mk wz48
  refine (pR_hp rfl).trans ?_
  have wz50 := w_r (a := 3) (k := 12) (v := 134) wz49 (by omega)
  refine (pL_hp rfl).trans ?_
  have wz51 := w_uL (a := 3) (k := 17) (y := 1) wz50 (by omega)
  rfl
def stR2 : List (Nat × Nat × Nat) := ((135, 32, 146) :: ((135, 28, 145) :: ((135, 27, 144) :: ((135, 26, 143) :: ((135, 22, 142) :: ((135, 21, 141) :: ((135, 20, 140) :: ((135, 7, 139) :: ((135, 6, 138) :: ((135, 5, 137) :: ((135, 4, 136) :: stR1)))))))))))
def stI2 (I : Nat → Nat → Int32) : Nat → Nat → Int32 := (u2 (u2 (u2 (u2 (u2 (u2 I 135 10 (-1)) 135 11 (-1)) 137 0 (-1)) 137 1 (-1)) 137 2 (-1)) 137 3 (-1))
def stJ2 (J : Nat → Nat → Int64) : Nat → Nat → Int64 := (u2L J 135 3 1)
theorem rl_no {a k : Nat} : ∀ {r : List (Nat × Nat × Nat)}, (∀ e ∈ r, ¬ (a = e.1 ∧ k = e.2.1)) → rl r a k = none
  | [], _ => rfl
  | (x, y, v) :: t, h => by
    show (if a = x ∧ k = y then some v else rl t a k) = none
    rw [if_neg (h (x, y, v) List.mem_cons_self)]
    exact rl_no (fun e he => h e (List.mem_cons_of_mem _ he))
theorem getD_no {α : Type} {l : List α} {i : Nat} {d : α} (h : l.length ≤ i) : l.getD i d = d := by
  rw [List.getD_eq_getElem?_getD, List.getElem?_eq_none h]
  rfl
theorem st_n1 : lk_l.length = 147 := by decide +kernel
theorem st_n2 : lr_l.length = 147 := by decide +kernel
theorem st_n3 : 5 ≤ (lr_l.getD 3 []).length := by decide +kernel
theorem st_lk (L : Nat) : kc L 147 = lk L := by
  funext a
  unfold kc
  by_cases q : a < 147
  · rw [if_pos q]
  · rw [if_neg q]
    unfold lk
    rw [if_neg (by omega), getD_no (by rw [st_n1]; omega)]
theorem st_a : ∀ a, a < 147 → ∀ k, k < (lr_l.getD a []).length → rl stR2 a k = lr 14 34 none none a k := by decide +kernel
theorem st_b : ∀ e ∈ stR2, e.1 < 147 ∧ e.2.1 < (lr_l.getD e.1 []).length := by decide +kernel
theorem st_lr : rl stR2 = lr 14 34 none none := by
  funext a k
  by_cases q : a < 147
  · by_cases g : k < (lr_l.getD a []).length
    · exact st_a a q k g
    · rw [rl_no (fun e he h => by
        have := (st_b e he).2
        rw [← h.1] at this
        omega)]
      unfold lr
      rw [if_neg (fun h => by
        have := st_n3
        rw [h.1] at g
        omega), if_neg (fun h => by
        have := st_n3
        rw [h.1] at g
        omega)]
      split
      · rfl
      · split
        · rfl
        · exact (getD_no (by omega)).symm
  · rw [rl_no (fun e he h => by have := (st_b e he).1; omega)]
    unfold lr
    rw [if_neg (by omega), if_neg (by omega), if_neg (by omega), if_neg (by omega), getD_no (l := lr_l) (by rw [st_n2]; omega)]
    rfl
theorem hp_mkh (L : Nat) (I : Nat → Nat → Int32) (J : Nat → Nat → Int64) : hp L 147 8248 stR2 I J = mkh (L, 14, 34, none, none) I J := by
  unfold hp
  rw [st_lk, st_lr]
  rfl
/-- the first block is emptied -/
def zf0 (c : Nat → Int32) (k : Nat) : Nat → Int32 := fun j => if j < k then nI 0 else c j
theorem zf0_up (c : Nat → Int32) (k : Nat) : upd (zf0 c k) k (nI 0) = zf0 c (k + 1) := by
  funext j
  unfold zf0 upd
  by_cases q : j = k
  · rw [if_pos q, if_pos (by omega)]
  · rw [if_neg q]
    show (if j < k then nI 0 else c j) = _
    by_cases g : j < k
    · rw [if_pos g, if_pos (by omega)]
    · rw [if_neg g, if_neg (by omega)]
theorem c9_empties0 {N e : Nat} {X : lt_X} {M : Nat → Nat → Int32} {L : Nat → Nat → Int64} (hN : 10000 ≤ N) : am_G am_prog (N + 30) (e + 1) 240 [.ref 135, .int (nI 0)] (mkh X M L) = some (.null, mkh X (w2 M 140 (upd (zf0 (M 140) 429) 4 (nI 1))) L) := by
  have lp := lqs (run := fun z i => RX9_empties_8 N e z X (nI 0) (nI i) (w2 M 140 (zf0 (M 140) i)) L) (m := 429) (R := some (.null, mkh X (w2 M 140 (upd (zf0 (M 140) 429) 4 (nI 1))) L)) (fun z i hi => by
    show RX9_empties_8 N e (z + 1) X (nI 0) (nI i) (w2 M 140 (zf0 (M 140) i)) L = RX9_empties_8 N e z X (nI 0) (nI (i + 1)) (w2 M 140 (zf0 (M 140) (i + 1))) L
    rw [sX9_empties_8 N e z, nc_lt hi (by omega), nI_add 0 i, show 0 + i = i by omega, nc_in (by omega) (by omega), nI_clamp (by omega), nI_add i 1, u2_w, zf0_up]) (fun z => by
    show RX9_empties_8 N e (z + 1) X (nI 0) (nI 429) (w2 M 140 (zf0 (M 140) 429)) L = _
    rw [sX9_empties_8 N e z, nc_nlt (by omega) (by omega), nI_add 0 4, nc_in (by omega) (by omega), nI_clamp (by omega), u2_w]) (N + 29) 0 (by omega) (by omega)
  have e0 : w2 M 140 (zf0 (M 140) 0) = M := by
    have : zf0 (M 140) 0 = M 140 := by funext j; unfold zf0; rw [if_neg (by omega)]
    rw [this, w2_id]
  rw [e0] at lp
  have cl := gX9_empties N e (X := X) (nI 0) M L
  rw [sX9_empties_0 N e, pk_mul 429 0] at cl
  exact cl.trans lp
set_option maxRecDepth 100000 in
theorem s_184 {N d L : Nat} {I : Nat → Nat → Int32} {J : Nat → Nat → Int64} (hN : 10000 ≤ N) (w : WZ 136 stR1 I J) : am_G am_prog (N + 30) (d + 3) 184 [.ref 135] (hp L 136 4625 stR1 I J) = some (.null, mkh (L, 14, 34, none, none) (w2 (stI2 I) 140 (upd (zf0 (stI2 I 140) 429) 4 (nI 1))) (stJ2 J)) := by
  refine (o184 rfl).trans ?_
  refine (rX9_init_0 _ (N + 29) 135 _).trans ?_
  unfold BX9_init_0
  refine (pL_hp rfl).trans ?_
  have wz1 := w_uL (a := 135) (k := 3) (y := 1) w (by omega)
  refine (na_hp wz1 4 rfl (by omega) rfl).trans ?_
  have wz2 := w_mk wz1
  refine (pR_hp rfl).trans ?_
  have wz3 := w_r (a := 135) (k := 4) (v := 136) wz2 (by omega)
  refine (na_hp wz3 4 rfl (by omega) rfl).trans ?_
  have wz4 := w_mk wz3
  refine (pR_hp rfl).trans ?_
  have wz5 := w_r (a := 135) (k := 5) (v := 137) wz4 (by omega)
  refine (na_hp wz5 240 rfl (by omega) rfl).trans ?_
  have wz6 := w_mk wz5
  refine (pR_hp rfl).trans ?_
  have wz7 := w_r (a := 135) (k := 6) (v := 138) wz6 (by omega)
  refine (na_hp wz7 900 rfl (by omega) rfl).trans ?_
  have wz8 := w_mk wz7
  refine (pR_hp rfl).trans ?_
  have wz9 := w_r (a := 135) (k := 7) (v := 139) wz8 (by omega)
  refine (pI_hp rfl).trans ?_
  have wz10 := w_u (a := 135) (k := 10) (x := (-1)) wz9 (by omega)
  refine (pI_hp rfl).trans ?_
  have wz11 := w_u (a := 135) (k := 11) (x := (-1)) wz10 (by omega)
  refine (na_hp wz11 2145 rfl (by omega) rfl).trans ?_
  have wz12 := w_mk wz11
  refine (pR_hp rfl).trans ?_
  have wz13 := w_r (a := 135) (k := 20) (v := 140) wz12 (by omega)
  refine (na_hp wz13 157 rfl (by omega) rfl).trans ?_
  have wz14 := w_mk wz13
  refine (pR_hp rfl).trans ?_
  have wz15 := w_r (a := 135) (k := 21) (v := 141) wz14 (by omega)
  refine (na_hp wz15 120 rfl (by omega) rfl).trans ?_
  have wz16 := w_mk wz15
  refine (pR_hp rfl).trans ?_
  have wz17 := w_r (a := 135) (k := 22) (v := 142) wz16 (by omega)
  refine (na_hp wz17 36 rfl (by omega) rfl).trans ?_
  have wz18 := w_mk wz17
  refine (pR_hp rfl).trans ?_
  have wz19 := w_r (a := 135) (k := 26) (v := 143) wz18 (by omega)
  refine (na_hp wz19 6 rfl (by omega) rfl).trans ?_
  have wz20 := w_mk wz19
  refine (pR_hp rfl).trans ?_
  have wz21 := w_r (a := 135) (k := 27) (v := 144) wz20 (by omega)
  refine (na_hp wz21 6 rfl (by omega) rfl).trans ?_
  have wz22 := w_mk wz21
  refine (pR_hp rfl).trans ?_
  have wz23 := w_r (a := 135) (k := 28) (v := 145) wz22 (by omega)
  refine (na_hp wz23 5 rfl (by omega) rfl).trans ?_
  have wz24 := w_mk wz23
  refine (pR_hp rfl).trans ?_
  have wz25 := w_r (a := 135) (k := 32) (v := 146) wz24 (by omega)
  refine (rX9_init_110 _ (N + 28) 135 _ _).trans ?_
  unfold BX9_init_110
  refine (if_pos (by decide)).trans ?_
  refine (gR_hp 137 rfl rfl).trans ?_
  refine (tI_hp (n := 4) 0 rfl rfl (by omega) (by omega)).trans ?_
  have wz26 := w_u (a := 137) (k := 0) (x := (-1)) wz25 (by omega)
  refine (rX9_init_110 _ (N + 27) 135 _ _).trans ?_
  unfold BX9_init_110
  refine (if_pos (by decide)).trans ?_
  refine (gR_hp 137 rfl rfl).trans ?_
  refine (tI_hp (n := 4) 1 rfl rfl (by omega) (by omega)).trans ?_
  have wz27 := w_u (a := 137) (k := 1) (x := (-1)) wz26 (by omega)
  refine (rX9_init_110 _ (N + 26) 135 _ _).trans ?_
  unfold BX9_init_110
  refine (if_pos (by decide)).trans ?_
  refine (gR_hp 137 rfl rfl).trans ?_
  refine (tI_hp (n := 4) 2 rfl rfl (by omega) (by omega)).trans ?_
  have wz28 := w_u (a := 137) (k := 2) (x := (-1)) wz27 (by omega)
  refine (rX9_init_110 _ (N + 25) 135 _ _).trans ?_
  unfold BX9_init_110
  refine (if_pos (by decide)).trans ?_
  refine (gR_hp 137 rfl rfl).trans ?_
  refine (tI_hp (n := 4) 3 rfl rfl (by omega) (by omega)).trans ?_
  have wz29 := w_u (a := 137) (k := 3) (x := (-1)) wz28 (by omega)
  refine (rX9_init_110 _ (N + 24) 135 _ _).trans ?_
  unfold BX9_init_110
  refine (if_neg (by decide)).trans ?_
  refine (cV_call (h := mkh (L, 14, 34, none, none) (w2 (stI2 I) 140 (upd (zf0 (stI2 I 140) 429) 4 (nI 1))) (stJ2 J)) ?_).trans rfl
  show am_G am_prog (N + 30) (d + 2) 240 [.ref 135, .int 0] (hp L 147 8248 stR2 (stI2 I) (stJ2 J)) = _
  rw [hp_mkh]
  exact c9_empties0 (e := d + 1) hN
