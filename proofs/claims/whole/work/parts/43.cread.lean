/-! more of what a town says; the class's readers -/
def bof (r : Nat → Nat → Bool) : Nat → Nat
  | 0 => 0
  | k + 1 => if r (k + 1) (bof r k) = true then k + 1 else bof r k
theorem bof_le (r : Nat → Nat → Bool) : ∀ k, bof r k ≤ k := by
  intro k
  induction k with
  | zero => exact Nat.le_refl 0
  | succ k ih => simp only [bof]; split <;> omega
theorem bof_congr {r q : Nat → Nat → Bool} : ∀ k, (∀ i j, i ≤ k → j ≤ k → r i j = q i j) → bof r k = bof q k := by
  intro k
  induction k with
  | zero => intro _; rfl
  | succ k ih =>
    intro h
    simp only [bof]
    have e := ih (fun i j hi hj => h i j (by omega) (by omega))
    have l := bof_le q k
    rw [e, h (k + 1) (bof q k) (by omega) (by omega)]
def mxf (g : Nat → Nat) : Nat → Nat
  | 0 => 0
  | k + 1 => max (mxf g k) (g k)
theorem mxf_le {g : Nat → Nat} {b : Nat} : ∀ k, (∀ i, i < k → g i ≤ b) → mxf g k ≤ b := by
  intro k
  induction k with
  | zero => intro _; exact Nat.zero_le b
  | succ k ih => intro h; simp only [mxf]; exact Nat.max_le.mpr ⟨ih (fun i hi => h i (by omega)), h k (by omega)⟩
def alg (T : Nat → Nat) (vs h s v : Nat) : Nat := if vs.testBit v = true ∧ plc T v h = s then 1 else 0
def alk (T : Nat → Nat) (vs h s : Nat) : Nat := sm (alg T vs h s) (T 1)
def mst (T : Nat → Nat) (vs h : Nat) : Nat := mxf (alk T vs h) (T 0)
def hrp (T : Nat → Nat) (vs : Nat) : Nat := bof (fun a b => decide (mst T vs a < mst T vs b)) 99
def fng (T : Nat → Nat) (ps s p : Nat) : Nat := if ps.testBit p = true ∧ 5 ≤ T (121 + 6 * p + s) then 1 else 0
def fan (T : Nat → Nat) (ps s : Nat) : Nat := sm (fng T ps s) (T 2)
def ppl (T : Nat → Nat) (ps : Nat) : Nat → Nat := bof (fun a b => decide (fan T ps b < fan T ps a))
def lsk (T : Nat → Nat) (ps s b : Nat) : Nat → Nat
  | 0 => b
  | k + 1 => if ps.testBit k = true then min (lsk T ps s b k) (T (121 + 6 * k + s)) else lsk T ps s b k
def lst (T : Nat → Nat) (ps s : Nat) : Nat := lsk T ps s 9 (T 2)
def alg2 (T : Nat → Nat) (ps s p : Nat) : Nat := if ps.testBit p = true then T (121 + 6 * p + s) else 0
def alk2 (T : Nat → Nat) (ps s : Nat) : Nat := sm (alg2 T ps s) (T 2)
def pcr (T : Nat → Nat) (ps a b : Nat) : Bool := decide (lst T ps b < lst T ps a ∨ (lst T ps a = lst T ps b ∧ alk2 T ps b < alk2 T ps a))
def pce (T : Nat → Nat) (ps : Nat) : Nat → Nat := bof (pcr T ps)
def smT (T : Nat → Nat) (r : Nat) : Nat := sm (fun p => T (r + p)) (T 2)
theorem alk_le {T : Nat → Nat} (hw : WF T) (vs h s : Nat) : alk T vs h s ≤ 6 := by
  have e := sm_le (g := alg T vs h s) (b := 1) (T 1) (fun v _ => by unfold alg; split <;> omega)
  have := hw.1.2.1
  unfold alk; omega
theorem mst_le {T : Nat → Nat} (hw : WF T) (vs h : Nat) : mst T vs h ≤ 6 := mxf_le _ (fun i _ => alk_le hw vs h i)
theorem fan_le {T : Nat → Nat} (hw : WF T) (ps s : Nat) : fan T ps s ≤ 6 := by
  have e := sm_le (g := fng T ps s) (b := 1) (T 2) (fun v _ => by unfold fng; split <;> omega)
  have := hw.1.2.2.1
  unfold fan; omega
theorem lsk_le {T : Nat → Nat} (ps s b : Nat) : ∀ k, lsk T ps s b k ≤ b := by
  intro k
  induction k with
  | zero => exact Nat.le_refl b
  | succ k ih => simp only [lsk]; split <;> omega
theorem alk2_le {T : Nat → Nat} (hw : WF T) (ps : Nat) {s : Nat} (hs : s < 6) : alk2 T ps s ≤ 54 := by
  have e := sm_le (g := alg2 T ps s) (b := 9) (T 2) (fun v hv => by
    unfold alg2; split
    · exact hw.2.2.2.2.1 v s hv hs
    · omega)
  have := hw.1.2.2.1
  unfold alk2; omega
theorem c5_hearersOf {N d : Nat} {X : lt_X} {I : Nat → Nat → Int32} {J : Nat → Nat → Int64} {t : Nat} {T : Nat → Nat} (ht : isT t) (hT : TC I t T) (hw : WF T) {v : Nat} (hv : v < 6) : am_G am_prog (N + 30) (d + 3) 67 [.ref t, .int (nI v)] (mkh X I J) = some (.int (nI (hrs T v)), (mkh X I J)) := by
  have h2 := hw.1.2.2.1
  rw [gX5_hearersOf N (d + 2) ht, sX5_hearersOf_0 N (d + 2) _ ht]
  refine lqs (run := fun n i => RX5_hearersOf_4 N (d + 2) n X t (nI v) (nI (bst (fun p => (vOf T p).testBit v) i)) (nI i) I J) (m := T 2) ?_ ?_ (N + 29) 0 (by omega) (by omega)
  · intro n i hi
    have hl : vOf T i < 2 ^ 31 := lt6 (vOf_lt hw i) (by omega)
    rw [sX5_hearersOf_4 N (d + 2) n ht]
    simp (disch := first | assumption | omega) only [nI_add, pk_mul, nI_clamp, nc_in, nc_lt, nc_nlt, cI_some, cV_some, tc2 hT]
    rw [c5_voicesOf ht hT hw (by omega)]
    simp (disch := first | assumption | omega) only [nI_add, pk_mul, nI_clamp, nc_in, nc_lt, nc_nlt, cI_some, cV_some, kX5_hearersOf_0 N (d + 2) n ht]
    rw [no_bit hl (by omega)]
    by_cases q : (vOf T i).testBit v = true
    · have e : bst (fun p => (vOf T p).testBit v) (i + 1) = bst (fun p => (vOf T p).testBit v) i ||| 2 ^ i := by simp [bst, orf, q]
      rw [if_pos q, no_shl (by omega), no_or, e]
    · have e : bst (fun p => (vOf T p).testBit v) (i + 1) = bst (fun p => (vOf T p).testBit v) i := by simp [bst, orf, q]
      rw [if_neg q, no_shlN (by omega) (by simp), Nat.zero_mul, no_or0, e]
  · intro n
    rw [sX5_hearersOf_4 N (d + 2) n ht]
    simp (disch := first | assumption | omega) only [nI_add, pk_mul, nI_clamp, nc_in, nc_lt, nc_nlt, cI_some, cV_some, tc2 hT]
    rfl
theorem c5_gladOfAll {N d : Nat} {X : lt_X} {I : Nat → Nat → Int32} {J : Nat → Nat → Int64} {t : Nat} {T : Nat → Nat} (ht : isT t) (hT : TC I t T) (hw : WF T) : am_G am_prog (N + 30) (d + 1) 69 [.ref t] (mkh X I J) = some (.int (nI (smT T 43)), (mkh X I J)) := by
  have h2 := hw.1.2.2.1
  rw [gX5_gladOfAll N d ht, sX5_gladOfAll_0 N d _ ht]
  refine lqs (run := fun n i => RX5_gladOfAll_4 N d n X t (nI (sm (fun p => T (43 + p)) i)) (nI i) I J) (m := T 2) ?_ ?_ (N + 29) 0 (by omega) (by omega)
  · intro n i hi
    have e : sm (fun p => T (43 + p)) (i + 1) = sm (fun p => T (43 + p)) i + T (43 + i) := rfl
    rw [sX5_gladOfAll_4 N d n ht]
    simp (disch := first | assumption | omega) only [nI_add, pk_mul, nI_clamp, nc_in, nc_lt, nc_nlt, cI_some, cV_some, tc2 hT, tcG hT, e]
  · intro n
    rw [sX5_gladOfAll_4 N d n ht]
    simp (disch := first | assumption | omega) only [nI_add, pk_mul, nI_clamp, nc_in, nc_lt, nc_nlt, cI_some, cV_some, tc2 hT]
    rfl
theorem c5_coinsOfAll {N d : Nat} {X : lt_X} {I : Nat → Nat → Int32} {J : Nat → Nat → Int64} {t : Nat} {T : Nat → Nat} (ht : isT t) (hT : TC I t T) (hw : WF T) : am_G am_prog (N + 30) (d + 1) 68 [.ref t] (mkh X I J) = some (.int (nI (smT T 37)), (mkh X I J)) := by
  have h2 := hw.1.2.2.1
  rw [gX5_coinsOfAll N d ht, sX5_coinsOfAll_0 N d _ ht]
  refine lqs (run := fun n i => RX5_coinsOfAll_4 N d n X t (nI (sm (fun p => T (37 + p)) i)) (nI i) I J) (m := T 2) ?_ ?_ (N + 29) 0 (by omega) (by omega)
  · intro n i hi
    have e : sm (fun p => T (37 + p)) (i + 1) = sm (fun p => T (37 + p)) i + T (37 + i) := rfl
    rw [sX5_coinsOfAll_4 N d n ht]
    simp (disch := first | assumption | omega) only [nI_add, pk_mul, nI_clamp, nc_in, nc_lt, nc_nlt, cI_some, cV_some, tc2 hT, tcM hT, e]
  · intro n
    rw [sX5_coinsOfAll_4 N d n ht]
    simp (disch := first | assumption | omega) only [nI_add, pk_mul, nI_clamp, nc_in, nc_lt, nc_nlt, cI_some, cV_some, tc2 hT]
    rfl
theorem c5_isLiving {N d : Nat} {X : lt_X} {I : Nat → Nat → Int32} {J : Nat → Nat → Int64} {t : Nat} {T : Nat → Nat} (ht : isT t) (hT : TC I t T) (hw : WF T) {v : Nat} (hv : v < T 1) : am_G am_prog (N + 30) (d + 1) 70 [.ref t, .int (nI v)] (mkh X I J) = some (.int (nI (if T (25 + v) = 1 then 1 else 0)), (mkh X I J)) := by
  have h1 := hw.1.2.1
  have hl : bst (fun v => T (25 + v) == 1) (T 1) < 2 ^ 31 := bst_lt (by omega)
  have hb : (bst (fun v => T (25 + v) == 1) (T 1)).testBit v = (T (25 + v) == 1) := by rw [bst_bit']; simp [hv]
  rw [gX5_isLiving N d ht, sX5_isLiving_0 N d _ ht, tcV hT]
  by_cases q : T (25 + v) = 1
  · rw [nc_b1 (by rw [hb]; simp [q]) hl (by omega), if_pos q]
  · rw [nc_b0 (by rw [hb]; simp [q]) hl (by omega), if_neg q]
theorem c5_hasCold {N d : Nat} {X : lt_X} {I : Nat → Nat → Int32} {J : Nat → Nat → Int64} {t : Nat} {T : Nat → Nat} (ht : isT t) (hT : TC I t T) (hw : WF T) {v : Nat} (hv : v < T 1) : am_G am_prog (N + 30) (d + 1) 71 [.ref t, .int (nI v)] (mkh X I J) = some (.int (nI (if T (31 + v) = 1 then 1 else 0)), (mkh X I J)) := by
  have h1 := hw.1.2.1
  have hl : bst (fun v => T (31 + v) == 1) (T 1) < 2 ^ 31 := bst_lt (by omega)
  have hb : (bst (fun v => T (31 + v) == 1) (T 1)).testBit v = (T (31 + v) == 1) := by rw [bst_bit']; simp [hv]
  rw [gX5_hasCold N d ht, sX5_hasCold_0 N d _ ht, tcK hT]
  by_cases q : T (31 + v) = 1
  · rw [nc_b1 (by rw [hb]; simp [q]) hl (by omega), if_pos q]
  · rw [nc_b0 (by rw [hb]; simp [q]) hl (by omega), if_neg q]
theorem c5_placedAt {N d : Nat} {X : lt_X} {I : Nat → Nat → Int32} {J : Nat → Nat → Int64} {t : Nat} {T : Nat → Nat} (ht : isT t) (hT : TC I t T) (hw : WF T) {v h : Nat} (hv : v < T 1) (hh : h < 2 ^ 31) : am_G am_prog (N + 30) (d + 1) 72 [.ref t, .int (nI v), .int (nI h)] (mkh X I J) = some (.int (nI (plc T v h)), (mkh X I J)) := by
  have h1 := hw.1.2.1
  have hr := hw.2.1 v hv
  have hm : h % T (19 + v) < T (19 + v) := Nat.mod_lt _ (by omega)
  rw [gX5_placedAt N d ht, sX5_placedAt_0 N d _ ht]
  simp (disch := first | assumption | omega) only [nI_add, pk_mul, nI_clamp, nc_in, nc_lt, nc_nlt, cI_some, cV_some, tcR hT, nz_ok, pk_rem, tcW hT]
  rfl
def sayn (T : Nat → Nat) (v h : Nat) : Nat := if able T v = true then plc T v h else 4294967295
theorem c5_saysAt {N d : Nat} {X : lt_X} {I : Nat → Nat → Int32} {J : Nat → Nat → Int64} {t : Nat} {T : Nat → Nat} (ht : isT t) (hT : TC I t T) (hw : WF T) {v h : Nat} (hv : v < T 1) (hh : h < 2 ^ 31) : am_G am_prog (N + 30) (d + 2) 73 [.ref t, .int (nI v), .int (nI h)] (mkh X I J) = some (.int (nI (sayn T v h)), (mkh X I J)) := by
  have hr := hw.2.1 v hv
  rw [gX5_saysAt N d ht, sX5_saysAt_0 N d _ ht, c5_isLiving ht hT hw hv]
  simp (disch := first | assumption | omega) only [nI_add, pk_mul, nI_clamp, nc_in, nc_lt, nc_nlt, cI_some, cV_some, kX5_saysAt_0 N d _ ht]
  unfold sayn
  by_cases q1 : T (25 + v) = 1
  · rw [if_pos q1, nc_ne (by omega) (by omega) (by omega), c5_hasCold ht hT hw hv]
    simp (disch := first | assumption | omega) only [nI_add, pk_mul, nI_clamp, nc_in, nc_lt, nc_nlt, cI_some, cV_some, kX5_saysAt_1 N d _ ht]
    by_cases q2 : T (31 + v) = 1
    · rw [if_pos q2, nc_ne (by omega) (by omega) (by omega), if_neg (show ¬ able T v = true by simp [able, q2]), no_m1]
    · have q3 : T (31 + v) = 0 := by omega
      rw [if_neg q2, nc_eq rfl, c5_placedAt ht hT hw hv hh, if_pos (show able T v = true by simp [able, q1, q3])]
      rfl
  · rw [if_neg q1, nc_eq rfl, if_neg (show ¬ able T v = true by simp [able, q1]), no_m1]
theorem c5_mostWithOne {N d : Nat} {X : lt_X} {I : Nat → Nat → Int32} {J : Nat → Nat → Int64} {t : Nat} {T : Nat → Nat} (ht : isT t) (hT : TC I t T) (hw : WF T) {vs h : Nat} (hv : vs < 2 ^ 31) (hh : h < 2 ^ 31) (hN : 1000 ≤ N) : am_G am_prog (N + 30) (d + 2) 88 [.ref t, .int (nI vs), .int (nI h)] (mkh X I J) = some (.int (nI (mst T vs h)), (mkh X I J)) := by
  have h0 := hw.1.1
  have h1 := hw.1.2.1
  rw [gX5_mostWithOne N (d + 1) ht, sX5_mostWithOne_0 N (d + 1) _ ht]
  refine lqc (run := fun n i => RX5_mostWithOne_5 N (d + 1) n X t (nI vs) (nI h) (nI (mxf (alk T vs h) i)) (nI i) I J) (m := T 0) (c := 8) (B := 1) ?_ ?_ (T 0) 0 (by omega) (N + 29) (by omega)
  · intro i B hi e0
    have hml := mxf_le (g := alk T vs h) (b := 6) i (fun j _ => alk_le hw vs h j)
    have hal := alk_le hw vs h i
    have ex : mxf (alk T vs h) (i + 1) = max (mxf (alk T vs h) i) (sm (alg T vs h i) (T 1)) := rfl
    refine ev_le (ev_s (g := fun n => RX5_mostWithOne_22 N (d + 1) n X t (nI vs) (nI h) (nI (mxf (alk T vs h) i)) (nI i) (nI (sm (alg T vs h i) 0)) (nI 0) I J) (fun n => ?_) (lqc (run := fun n j => RX5_mostWithOne_22 N (d + 1) n X t (nI vs) (nI h) (nI (mxf (alk T vs h) i)) (nI i) (nI (sm (alg T vs h i) j)) (nI j) I J) (m := T 1) (c := 1) (B := B + 1) ?_ ?_ (T 1) 0 (by omega))) (by omega)
    · rw [sX5_mostWithOne_5 N (d + 1) n ht]
      simp (disch := first | assumption | omega) only [nI_add, pk_mul, nI_clamp, nc_in, nc_lt, nc_nlt, cI_some, cV_some, tc0 hT]
      rfl
    · intro j B' hj e1
      refine ev_s (fun n => ?_) e1
      rw [sX5_mostWithOne_22 N (d + 1) n ht]
      have hp := plc_lt hw hj (h := h)
      by_cases q : vs.testBit j = true
      · simp (disch := first | assumption | omega) only [nI_add, pk_mul, nI_clamp, nc_in, nc_lt, nc_nlt, cI_some, cV_some, tc1 hT, nc_b1 q]
        rw [c5_placedAt ht hT hw hj hh]
        simp (disch := first | assumption | omega) only [nI_add, pk_mul, nI_clamp, nc_in, nc_lt, nc_nlt, cI_some, cV_some, kX5_mostWithOne_0 N (d + 1) n ht]
        by_cases q2 : plc T j h = i
        · have e : sm (alg T vs h i) (j + 1) = sm (alg T vs h i) j + 1 := by simp [sm, alg, q, q2]
          rw [nc_eq q2, e]
        · have e : sm (alg T vs h i) (j + 1) = sm (alg T vs h i) j := by simp [sm, alg, q2]
          rw [nc_ne q2 (by omega) (by omega), e]
      · have q' : vs.testBit j = false := by simpa using q
        have e : sm (alg T vs h i) (j + 1) = sm (alg T vs h i) j := by simp [sm, alg, q']
        simp (disch := first | assumption | omega) only [nI_add, pk_mul, nI_clamp, nc_in, nc_lt, nc_nlt, cI_some, cV_some, tc1 hT, nc_b0 q', e]
    · refine ev_s (fun n => ?_) e0
      rw [sX5_mostWithOne_22 N (d + 1) n ht]
      have hal2 : sm (alg T vs h i) (T 1) ≤ 6 := hal
      simp (disch := first | assumption | omega) only [nI_add, pk_mul, nI_clamp, nc_in, nc_lt, nc_nlt, cI_some, cV_some, tc1 hT, no_max, ex]
  · refine ev_0 (fun n => ?_)
    rw [sX5_mostWithOne_5 N (d + 1) n ht]
    simp (disch := first | assumption | omega) only [nI_add, pk_mul, nI_clamp, nc_in, nc_lt, nc_nlt, cI_some, cV_some, tc0 hT]
    rfl
theorem c5_hourThatParts {N d : Nat} {X : lt_X} {I : Nat → Nat → Int32} {J : Nat → Nat → Int64} {t : Nat} {T : Nat → Nat} (ht : isT t) (hT : TC I t T) (hw : WF T) {vs : Nat} (hv : vs < 2 ^ 31) (hN : 1000 ≤ N) : am_G am_prog (N + 30) (d + 3) 87 [.ref t, .int (nI vs)] (mkh X I J) = some (.int (nI (hrp T vs)), (mkh X I J)) := by
  rw [gX5_hourThatParts N (d + 2) ht, sX5_hourThatParts_0 N (d + 2) _ ht]
  refine lqs (run := fun n i => RX5_hourThatParts_8 N (d + 2) n X t (nI vs) (nI (bof (fun a b => decide (mst T vs a < mst T vs b)) (i - 1))) (nI (if i = 0 then 7 else mst T vs (bof (fun a b => decide (mst T vs a < mst T vs b)) (i - 1)))) (nI i) I J) (m := 100) ?_ ?_ (N + 29) 0 (by omega) (by omega)
  · intro n i hi
    have hl := mst_le hw vs i
    have hl2 := mst_le hw vs (bof (fun a b => decide (mst T vs a < mst T vs b)) (i - 1))
    rw [sX5_hourThatParts_8 N (d + 2) n ht]
    simp (disch := first | assumption | omega) only [nI_add, pk_mul, nI_clamp, nc_in, nc_lt, nc_nlt, cI_some, cV_some]
    rw [c5_mostWithOne ht hT hw hv (by omega) hN]
    simp (disch := first | assumption | omega) only [nI_add, pk_mul, nI_clamp, nc_in, nc_lt, nc_nlt, cI_some, cV_some, kX5_hourThatParts_0 N (d + 2) n ht]
    by_cases q0 : i = 0
    · subst q0
      rw [if_pos rfl, nc_lt (by omega) (by omega)]
      rfl
    · obtain ⟨j, rfl⟩ : ∃ z, i = z + 1 := ⟨i - 1, by omega⟩
      rw [if_neg q0]
      simp only [Nat.add_sub_cancel] at hl2 ⊢
      by_cases q : mst T vs (j + 1) < mst T vs (bof (fun a b => decide (mst T vs a < mst T vs b)) j)
      · have e : bof (fun a b => decide (mst T vs a < mst T vs b)) (j + 1) = j + 1 := by simp [bof, q]
        rw [nc_lt q (by omega)]
        simp [e]
      · have e : bof (fun a b => decide (mst T vs a < mst T vs b)) (j + 1) = bof (fun a b => decide (mst T vs a < mst T vs b)) j := by simp [bof, q]
        rw [nc_nlt (by omega) (by omega)]
        simp [e]
  · intro n
    rw [sX5_hourThatParts_8 N (d + 2) n ht]
    simp (disch := first | assumption | omega) only [nI_add, pk_mul, nI_clamp, nc_in, nc_lt, nc_nlt, cI_some, cV_some]
    rfl
theorem c5_leastLike {N d : Nat} {X : lt_X} {I : Nat → Nat → Int32} {J : Nat → Nat → Int64} {t : Nat} {T : Nat → Nat} (ht : isT t) (hT : TC I t T) (hw : WF T) {ps s : Nat} (hp : ps < 2 ^ 31) (hs : s < 6) : am_G am_prog (N + 30) (d + 1) 89 [.ref t, .int (nI ps), .int (nI s)] (mkh X I J) = some (.int (nI (lst T ps s)), (mkh X I J)) := by
  have h2 := hw.1.2.2.1
  rw [gX5_leastLike N d ht, sX5_leastLike_0 N d _ ht]
  refine lqs (run := fun n i => RX5_leastLike_6 N d n X t (nI ps) (nI s) (nI (lsk T ps s 9 i)) (nI i) I J) (m := T 2) ?_ ?_ (N + 29) 0 (by omega) (by omega)
  · intro n i hi
    have hl := hw.2.2.2.2.1 i s hi hs
    have hb := lsk_le (T := T) ps s 9 i
    rw [sX5_leastLike_6 N d n ht]
    by_cases q : ps.testBit i = true
    · have e : lsk T ps s 9 (i + 1) = min (lsk T ps s 9 i) (T (121 + 6 * i + s)) := by simp [lsk, q]
      simp (disch := first | assumption | omega) only [nI_add, pk_mul, nI_clamp, nc_in, nc_lt, nc_nlt, cI_some, cV_some, tc2 hT, nc_b1 q, tcI hT, no_min, e]
    · have q' : ps.testBit i = false := by simpa using q
      have e : lsk T ps s 9 (i + 1) = lsk T ps s 9 i := by simp [lsk, q']
      simp (disch := first | assumption | omega) only [nI_add, pk_mul, nI_clamp, nc_in, nc_lt, nc_nlt, cI_some, cV_some, tc2 hT, nc_b0 q', e]
  · intro n
    rw [sX5_leastLike_6 N d n ht]
    simp (disch := first | assumption | omega) only [nI_add, pk_mul, nI_clamp, nc_in, nc_lt, nc_nlt, cI_some, cV_some, tc2 hT]
    rfl
theorem c5_likeOfAll {N d : Nat} {X : lt_X} {I : Nat → Nat → Int32} {J : Nat → Nat → Int64} {t : Nat} {T : Nat → Nat} (ht : isT t) (hT : TC I t T) (hw : WF T) {ps s : Nat} (hp : ps < 2 ^ 31) (hs : s < 6) : am_G am_prog (N + 30) (d + 1) 90 [.ref t, .int (nI ps), .int (nI s)] (mkh X I J) = some (.int (nI (alk2 T ps s)), (mkh X I J)) := by
  have h2 := hw.1.2.2.1
  rw [gX5_likeOfAll N d ht, sX5_likeOfAll_0 N d _ ht]
  refine lqs (run := fun n i => RX5_likeOfAll_5 N d n X t (nI ps) (nI s) (nI (sm (alg2 T ps s) i)) (nI i) I J) (m := T 2) ?_ ?_ (N + 29) 0 (by omega) (by omega)
  · intro n i hi
    rw [sX5_likeOfAll_5 N d n ht]
    by_cases q : ps.testBit i = true
    · have e : sm (alg2 T ps s) (i + 1) = sm (alg2 T ps s) i + T (121 + 6 * i + s) := by simp [sm, alg2, q]
      simp (disch := first | assumption | omega) only [nI_add, pk_mul, nI_clamp, nc_in, nc_lt, nc_nlt, cI_some, cV_some, tc2 hT, nc_b1 q, tcI hT, e]
    · have q' : ps.testBit i = false := by simpa using q
      have e : sm (alg2 T ps s) (i + 1) = sm (alg2 T ps s) i := by simp [sm, alg2, q']
      simp (disch := first | assumption | omega) only [nI_add, pk_mul, nI_clamp, nc_in, nc_lt, nc_nlt, cI_some, cV_some, tc2 hT, nc_b0 q', e]
  · intro n
    rw [sX5_likeOfAll_5 N d n ht]
    simp (disch := first | assumption | omega) only [nI_add, pk_mul, nI_clamp, nc_in, nc_lt, nc_nlt, cI_some, cV_some, tc2 hT]
    rfl
theorem c5_fansAmong {N d : Nat} {X : lt_X} {I : Nat → Nat → Int32} {J : Nat → Nat → Int64} {t : Nat} {T : Nat → Nat} (ht : isT t) (hT : TC I t T) (hw : WF T) {ps s : Nat} (hp : ps < 2 ^ 31) (hs : s < 6) : am_G am_prog (N + 30) (d + 1) 92 [.ref t, .int (nI ps), .int (nI s)] (mkh X I J) = some (.int (nI (fan T ps s)), (mkh X I J)) := by
  have h2 := hw.1.2.2.1
  rw [gX5_fansAmong N d ht, sX5_fansAmong_0 N d _ ht]
  refine lqs (run := fun n i => RX5_fansAmong_5 N d n X t (nI ps) (nI s) (nI (sm (fng T ps s) i)) (nI i) I J) (m := T 2) ?_ ?_ (N + 29) 0 (by omega) (by omega)
  · intro n i hi
    have hl := hw.2.2.2.2.1 i s hi hs
    rw [sX5_fansAmong_5 N d n ht]
    by_cases q : ps.testBit i = true
    · by_cases q2 : 5 ≤ T (121 + 6 * i + s)
      · have e : sm (fng T ps s) (i + 1) = sm (fng T ps s) i + 1 := by simp [sm, fng, q, q2]
        simp (disch := first | assumption | omega) only [nI_add, pk_mul, nI_clamp, nc_in, nc_lt, nc_nlt, cI_some, cV_some, tc2 hT, nc_b1 q, tcI hT, e]
      · have e : sm (fng T ps s) (i + 1) = sm (fng T ps s) i := by simp [sm, fng, q2]
        simp (disch := first | assumption | omega) only [nI_add, pk_mul, nI_clamp, nc_in, nc_lt, nc_nlt, cI_some, cV_some, tc2 hT, nc_b1 q, tcI hT, e]
    · have q' : ps.testBit i = false := by simpa using q
      have e : sm (fng T ps s) (i + 1) = sm (fng T ps s) i := by simp [sm, fng, q']
      simp (disch := first | assumption | omega) only [nI_add, pk_mul, nI_clamp, nc_in, nc_lt, nc_nlt, cI_some, cV_some, tc2 hT, nc_b0 q', e]
  · intro n
    rw [sX5_fansAmong_5 N d n ht]
    simp (disch := first | assumption | omega) only [nI_add, pk_mul, nI_clamp, nc_in, nc_lt, nc_nlt, cI_some, cV_some, tc2 hT]
    rfl
theorem c5_popularAmong {N d : Nat} {X : lt_X} {I : Nat → Nat → Int32} {J : Nat → Nat → Int64} {t : Nat} {T : Nat → Nat} (ht : isT t) (hT : TC I t T) (hw : WF T) {ps : Nat} (hp : ps < 2 ^ 31) (h0 : 0 < T 0) : am_G am_prog (N + 30) (d + 2) 93 [.ref t, .int (nI ps)] (mkh X I J) = some (.int (nI (ppl T ps (T 0 - 1))), (mkh X I J)) := by
  have h6 := hw.1.1
  rw [gX5_popularAmong N (d + 1) ht, sX5_popularAmong_0 N (d + 1) _ ht]
  refine lqs (run := fun n i => RX5_popularAmong_4 N (d + 1) n X t (nI ps) (nI (ppl T ps i)) (nI (i + 1)) I J) (m := T 0 - 1) ?_ ?_ (N + 29) 0 (by omega) (by omega)
  · intro n i hi
    have hb : ppl T ps i ≤ i := bof_le _ _
    have f1 := fan_le hw ps (i + 1)
    have f2 := fan_le hw ps (ppl T ps i)
    rw [sX5_popularAmong_4 N (d + 1) n ht]
    simp (disch := first | assumption | omega) only [nI_add, pk_mul, nI_clamp, nc_in, nc_lt, nc_nlt, cI_some, cV_some, tc0 hT]
    rw [c5_fansAmong ht hT hw hp (by omega)]
    simp (disch := first | assumption | omega) only [nI_add, pk_mul, nI_clamp, nc_in, nc_lt, nc_nlt, cI_some, cV_some, kX5_popularAmong_0 N (d + 1) n ht]
    rw [c5_fansAmong ht hT hw hp (by omega)]
    simp (disch := first | assumption | omega) only [nI_add, pk_mul, nI_clamp, nc_in, nc_lt, nc_nlt, cI_some, cV_some, kX5_popularAmong_1 N (d + 1) n ht]
    by_cases q : fan T ps (ppl T ps i) < fan T ps (i + 1)
    · have e : ppl T ps (i + 1) = i + 1 := by unfold ppl at q ⊢; simp [bof, q]
      rw [nc_lt q (by omega), e]
    · have e : ppl T ps (i + 1) = ppl T ps i := by unfold ppl at q ⊢; simp [bof, q]
      rw [nc_nlt (by omega) (by omega), e]
  · intro n
    rw [sX5_popularAmong_4 N (d + 1) n ht]
    simp (disch := first | assumption | omega) only [nI_add, pk_mul, nI_clamp, nc_in, nc_lt, nc_nlt, cI_some, cV_some, tc0 hT]
theorem no_sub0 {a b : Nat} (ha : a < 2 ^ 30) (hb : b < 2 ^ 30) : (nI a - nI b = nI 0 ↔ a = b) ∧ (nI 0 < nI a - nI b ↔ b < a) := by
  have e := pk_sub_toInt ha hb
  constructor
  · rw [← Int32.toInt_inj, e, nI_toInt (by omega)]; omega
  · rw [Int32.lt_iff_toInt_lt, e, nI_toInt (by omega)]; omega
theorem c5_subjectOfPeace {N d : Nat} {X : lt_X} {I : Nat → Nat → Int32} {J : Nat → Nat → Int64} {t : Nat} {T : Nat → Nat} (ht : isT t) (hT : TC I t T) (hw : WF T) {ps : Nat} (hp : ps < 2 ^ 31) (h0 : 0 < T 0) : am_G am_prog (N + 30) (d + 2) 91 [.ref t, .int (nI ps)] (mkh X I J) = some (.int (nI (pce T ps (T 0 - 1))), (mkh X I J)) := by
  have h6 := hw.1.1
  rw [gX5_subjectOfPeace N (d + 1) ht, sX5_subjectOfPeace_0 N (d + 1) _ ht]
  refine lqs (run := fun n i => RX5_subjectOfPeace_4 N (d + 1) n X t (nI ps) (nI (pce T ps i)) (nI (i + 1)) I J) (m := T 0 - 1) ?_ ?_ (N + 29) 0 (by omega) (by omega)
  · intro n i hi
    have hb : pce T ps i ≤ i := bof_le _ _
    have f1 : lst T ps (i + 1) ≤ 9 := lsk_le _ _ _ _
    have f2 : lst T ps (pce T ps i) ≤ 9 := lsk_le _ _ _ _
    have f3 := alk2_le hw ps (show i + 1 < 6 by omega)
    have f4 := alk2_le hw ps (show pce T ps i < 6 by omega)
    obtain ⟨z1, z2⟩ := no_sub0 (show lst T ps (i + 1) < 2 ^ 30 by omega) (show lst T ps (pce T ps i) < 2 ^ 30 by omega)
    rw [sX5_subjectOfPeace_4 N (d + 1) n ht]
    simp (disch := first | assumption | omega) only [nI_add, pk_mul, nI_clamp, nc_in, nc_lt, nc_nlt, cI_some, cV_some, tc0 hT]
    rw [c5_leastLike ht hT hw hp (by omega)]
    simp (disch := first | assumption | omega) only [nI_add, pk_mul, nI_clamp, nc_in, nc_lt, nc_nlt, cI_some, cV_some, kX5_subjectOfPeace_0 N (d + 1) n ht]
    rw [c5_leastLike ht hT hw hp (by omega)]
    simp (disch := first | assumption | omega) only [nI_add, pk_mul, nI_clamp, nc_in, nc_lt, nc_nlt, cI_some, cV_some, kX5_subjectOfPeace_1 N (d + 1) n ht]
    by_cases q : lst T ps (pce T ps i) < lst T ps (i + 1)
    · have e : pce T ps (i + 1) = i + 1 := by unfold pce at q ⊢; simp [bof, pcr, q]
      rw [if_pos (z2.mpr q), e]
    · rw [if_neg (fun h => q (z2.mp h))]
      by_cases q2 : lst T ps (i + 1) = lst T ps (pce T ps i)
      · rw [if_pos (z1.mpr q2), c5_likeOfAll ht hT hw hp (by omega)]
        simp (disch := first | assumption | omega) only [nI_add, pk_mul, nI_clamp, nc_in, nc_lt, nc_nlt, cI_some, cV_some, kX5_subjectOfPeace_2 N (d + 1) n ht]
        rw [c5_likeOfAll ht hT hw hp (by omega)]
        simp (disch := first | assumption | omega) only [nI_add, pk_mul, nI_clamp, nc_in, nc_lt, nc_nlt, cI_some, cV_some, kX5_subjectOfPeace_3 N (d + 1) n ht]
        by_cases q3 : alk2 T ps (pce T ps i) < alk2 T ps (i + 1)
        · have e : pce T ps (i + 1) = i + 1 := by
            have r : pcr T ps (i + 1) (pce T ps i) = true := by simp [pcr, q2, q3]
            unfold pce at r ⊢; simp [bof, r]
          rw [nc_lt q3 (by omega), e]
        · have e : pce T ps (i + 1) = pce T ps i := by
            have r : pcr T ps (i + 1) (pce T ps i) = false := by simp [pcr, q2, q3]
            unfold pce at r ⊢; simp [bof, r]
          rw [nc_nlt (by omega) (by omega), e]
      · have e : pce T ps (i + 1) = pce T ps i := by
          have r : pcr T ps (i + 1) (pce T ps i) = false := by simp [pcr, q, q2]
          unfold pce at r ⊢; simp [bof, r]
        rw [if_neg (fun h => q2 (z1.mp h)), e]
  · intro n
    rw [sX5_subjectOfPeace_4 N (d + 1) n ht]
    simp (disch := first | assumption | omega) only [nI_add, pk_mul, nI_clamp, nc_in, nc_lt, nc_nlt, cI_some, cV_some, tc0 hT]
