/-! printed by wip/whole/pairs3.py: more pairs that only tell -/
theorem c0_mostWorth {N d : Nat} {X : lt_X} {I : Nat → Nat → Int32} {J : Nat → Nat → Int64} {t : Nat} {T : Nat → Nat} (ht : isT t) (hT : TC I t T) (hw : WF T) {p q : Nat} (hp : p < T 2) (hq : q < 2 ^ 32) (hN : 1000 ≤ N) : am_G am_prog (N + 30) (d + 4) 13 [.ref 126, .ref t, .int (nI p), .int (nI q)] (mkh X I J) = some (.int (nI (mxo T p q)), (mkh X I J)) := by
  have h3 := hw.1.2.2.2.1
  have h2 := hw.1.2.2.1
  rw [gX0_mostWorth N (d + 3) ht, sX0_mostWorth_0 N (d + 3) _ ht]
  refine lqs (run := fun n i => RX0_mostWorth_6 N (d + 3) n X t (nI p) (nI q) (nI (mxf (fun k => if T (67 + k) = q then wth T p k else 0) i)) (nI i) I J) (m := T 3) ?_ ?_ (N + 29) 0 (by omega) (by omega)
  · intro n i hi
    have hb := (hw.2.2.2.2.2 i hi).2.2
    have hl := wth_le hw hp i
    have hm : mxf (fun k => if T (67 + k) = q then wth T p k else 0) i ≤ 648 := mxf_le i (fun k _ => by
      show (if T (67 + k) = q then wth T p k else 0) ≤ 648
      split
      · exact wth_le hw hp k
      · omega)
    rw [sX0_mostWorth_6 N (d + 3) n ht]
    by_cases r : T (67 + i) = q
    · have e : mxf (fun k => if T (67 + k) = q then wth T p k else 0) (i + 1) = max (mxf (fun k => if T (67 + k) = q then wth T p k else 0) i) (wth T p i) := by simp [mxf, r]
      simp (disch := first | assumption | omega) only [nI_add, pk_mul, nI_clamp, nc_in, nc_lt, nc_nlt, cI_some, cV_some, tc3 hT, tcB hT, nc_eq r]
      rw [c5_worthTo ht hT hw hp hi hN]
      simp (disch := first | assumption | omega) only [nI_add, pk_mul, nI_clamp, nc_in, nc_lt, nc_nlt, cI_some, cV_some, kX0_mostWorth_0 N (d + 3) n ht, no_max, e]
    · have e : mxf (fun k => if T (67 + k) = q then wth T p k else 0) (i + 1) = mxf (fun k => if T (67 + k) = q then wth T p k else 0) i := by simp [mxf, r]
      simp (disch := first | assumption | omega) only [nI_add, pk_mul, nI_clamp, nc_in, nc_lt, nc_nlt, cI_some, cV_some, tc3 hT, tcB hT, nc_ne r, e]
  · intro n
    rw [sX0_mostWorth_6 N (d + 3) n ht]
    simp (disch := first | assumption | omega) only [nI_add, pk_mul, nI_clamp, nc_in, nc_lt, nc_nlt, cI_some, cV_some, tc3 hT]
    rfl
def gby (T : Nat → Nat) (p c : Nat) : Nat := fnd (fun i => decide (c ≤ T (43 + p) + sm (jag T p (vOf T p)) i)) 0 301
theorem c8_gladBy55 {N d : Nat} {X : lt_X} {I : Nat → Nat → Int32} {J : Nat → Nat → Int64} {T : Nat → Nat} (hX : hsX X) (ht : isT X.2.1) (hT : TC I X.2.1 T) (hw : WF T) {p c : Nat} (hp : p < T 2) (hc : c ≤ 9999) (n0 : Nat) (hn : 301 < n0) : RX8_gladBy_55 N (d + 1) n0 X (nI p) (nI c) (nI (vOf T p)) (nI (T (43 + p))) (nI 0) I J = if gby T p c < 301 then some (.int (nI (gby T p c)), (mkh X (u2 I 3 15 (nI 0)) J)) else some (.int (-1), (mkh X (u2 I 3 15 (nI 8)) J)) := by
  have h5 := hw.1.2.2.2.2.2.1
  have hg := (hw.2.2.2.1 p hp).2.1
  have hl : vOf T p < 2 ^ 31 := lt6 (vOf_lt hw p) (by omega)
  refine lqf (run := fun n i => RX8_gladBy_55 N (d + 1) n X (nI p) (nI c) (nI (vOf T p)) (nI (T (43 + p) + sm (jag T p (vOf T p)) i)) (nI i) I J) (m := 301) (p := fun i => decide (c ≤ T (43 + p) + sm (jag T p (vOf T p)) i)) (A := fun i => some (.int (nI i), (mkh X (u2 I 3 15 (nI 0)) J))) (Z := some (.int (-1), (mkh X (u2 I 3 15 (nI 8)) J))) ?_ ?_ ?_ 301 0 n0 (by omega) (by omega)
  · intro n i hi q
    have q := of_decide_eq_true q
    have hb := sm_le (g := jag T p (vOf T p)) (b := 54) i (fun j _ => joy_le hw hp _)
    rw [sX8_gladBy_55 N (d + 1) n hX]
    simp (disch := first | assumption | omega) only [nI_add, pk_mul, nI_clamp, nc_in, nc_lt, nc_nlt, cI_some, cV_some]
  · intro n i hi q
    have q := of_decide_eq_false q
    have hb := sm_le (g := jag T p (vOf T p)) (b := 54) i (fun j _ => joy_le hw hp _)
    have hl2 : hAt T (vOf T p) (T 5 + i) < 2 ^ 31 := lt6 (hAt_lt hw _ _) (by omega)
    have e : sm (jag T p (vOf T p)) (i + 1) = sm (jag T p (vOf T p)) i + joy T p (hAt T (vOf T p) (T 5 + i)) := rfl
    rw [sX8_gladBy_55 N (d + 1) n hX]
    simp (disch := first | assumption | omega) only [nI_add, pk_mul, nI_clamp, nc_in, nc_lt, nc_nlt, cI_some, cV_some, tcH hT]
    rw [c5_heardAt ht hT hw hl (by omega), cI_some, kX8_gladBy_1 N (d + 1) n hX, c5_joyBy ht hT hw hp hl2, cI_some, kX8_gladBy_3 N (d + 1) n hX, nI_add, nI_add, e, Nat.add_assoc]
  · intro n
    have hb := sm_le (g := jag T p (vOf T p)) (b := 54) 301 (fun j _ => joy_le hw hp _)
    rw [sX8_gladBy_55 N (d + 1) n hX]
    simp (disch := first | assumption | omega) only [nI_add, pk_mul, nI_clamp, nc_in, nc_lt, nc_nlt, cI_some, cV_some]
theorem c9_gladBy56 {N d : Nat} {X : lt_X} {I : Nat → Nat → Int32} {J : Nat → Nat → Int64} {T : Nat → Nat} (hT : TM (I 140) T) (hw : WF T) {p c : Nat} (hp : p < T 2) (hc : c ≤ 9999) (n0 : Nat) (hn : 301 < n0) : RX9_gladBy_56 N (d + 2) n0 X (nI p) (nI c) (nI (T (43 + p))) (nI 0) I J = if gby T p c < 301 then some (.int (nI (gby T p c)), (mkh X I J)) else some (.int (-1), (mkh X (u2 I 135 0 (nI 8)) J)) := by
  have h5 := hw.1.2.2.2.2.2.1
  have h2 := hw.1.2.2.1
  have hg := (hw.2.2.2.1 p hp).2.1
  refine lqf (run := fun n i => RX9_gladBy_56 N (d + 2) n X (nI p) (nI c) (nI (T (43 + p) + sm (jag T p (vOf T p)) i)) (nI i) I J) (m := 301) (p := fun i => decide (c ≤ T (43 + p) + sm (jag T p (vOf T p)) i)) (A := fun i => some (.int (nI i), (mkh X I J))) (Z := some (.int (-1), (mkh X (u2 I 135 0 (nI 8)) J))) ?_ ?_ ?_ 301 0 n0 (by omega) (by omega)
  · intro n i hi q
    have q := of_decide_eq_true q
    have hb := sm_le (g := jag T p (vOf T p)) (b := 54) i (fun j _ => joy_le hw hp _)
    rw [sX9_gladBy_56 N (d + 2) n]
    simp (disch := first | assumption | omega) only [nI_add, pk_mul, nI_clamp, nc_in, nc_lt, nc_nlt, cI_some, cV_some]
  · intro n i hi q
    have q := of_decide_eq_false q
    have hb := sm_le (g := jag T p (vOf T p)) (b := 54) i (fun j _ => joy_le hw hp _)
    have hl2 : hAt T (vOf T p) (T 5 + i) < 2 ^ 31 := lt6 (hAt_lt hw _ _) (by omega)
    have e : sm (jag T p (vOf T p)) (i + 1) = sm (jag T p (vOf T p)) i + joy T p (hAt T (vOf T p) (T 5 + i)) := rfl
    rw [sX9_gladBy_56 N (d + 2) n]
    simp (disch := first | assumption | omega) only [nI_add, pk_mul, nI_clamp, nc_in, nc_lt, nc_nlt, cI_some, cV_some, tm5 hT]
    rw [c9_heard hT hw (by omega) (by omega), cI_some, kX9_gladBy_1 N (d + 2) n, c9_liked hT hw hp hl2, cI_some, kX9_gladBy_3 N (d + 2) n, nI_add, nI_add, e, Nat.add_assoc]
  · intro n
    have hb := sm_le (g := jag T p (vOf T p)) (b := 54) 301 (fun j _ => joy_le hw hp _)
    rw [sX9_gladBy_56 N (d + 2) n]
    simp (disch := first | assumption | omega) only [nI_add, pk_mul, nI_clamp, nc_in, nc_lt, nc_nlt, cI_some, cV_some]
def lnl (T : Nat → Nat) (p : Nat) : Nat := fnd (fun i => hAt T (vOf T p) (T 5 + i) == 0) 0 300
theorem c8_lonelyIn26 {N d : Nat} {X : lt_X} {I : Nat → Nat → Int32} {J : Nat → Nat → Int64} {T : Nat → Nat} (hX : hsX X) (ht : isT X.2.1) (hT : TC I X.2.1 T) (hw : WF T) {p : Nat} (n0 : Nat) (hn : 300 < n0) : RX8_lonelyIn_26 N (d + 1) n0 X (nI (vOf T p)) (nI 0) I J = if lnl T p < 300 then some (.int (nI (lnl T p)), (mkh X (u2 I 3 15 (nI 0)) J)) else some (.int (-1), (mkh X (u2 I 3 15 (nI 8)) J)) := by
  have h5 := hw.1.2.2.2.2.2.1
  have hl : vOf T p < 2 ^ 31 := lt6 (vOf_lt hw p) (by omega)
  refine lqf (run := fun n i => RX8_lonelyIn_26 N (d + 1) n X (nI (vOf T p)) (nI i) I J) (m := 300) (p := fun i => hAt T (vOf T p) (T 5 + i) == 0) (A := fun i => some (.int (nI i), (mkh X (u2 I 3 15 (nI 0)) J))) (Z := some (.int (-1), (mkh X (u2 I 3 15 (nI 8)) J))) ?_ ?_ ?_ 300 0 n0 (by omega) (by omega)
  · intro n i hi q
    have q : hAt T (vOf T p) (T 5 + i) = 0 := by simpa using q
    rw [sX8_lonelyIn_26 N (d + 1) n hX]
    simp (disch := first | assumption | omega) only [nI_add, pk_mul, nI_clamp, nc_in, nc_lt, nc_nlt, cI_some, cV_some, tcH hT]
    rw [c5_heardAt ht hT hw hl (by omega), cI_some, kX8_lonelyIn_1 N (d + 1) n hX, nc_eq q]
  · intro n i hi q
    have q : hAt T (vOf T p) (T 5 + i) ≠ 0 := by simpa using q
    have hl2 : hAt T (vOf T p) (T 5 + i) < 2 ^ 31 := lt6 (hAt_lt hw _ _) (by omega)
    rw [sX8_lonelyIn_26 N (d + 1) n hX]
    simp (disch := first | assumption | omega) only [nI_add, pk_mul, nI_clamp, nc_in, nc_lt, nc_nlt, cI_some, cV_some, tcH hT]
    rw [c5_heardAt ht hT hw hl (by omega), cI_some, kX8_lonelyIn_1 N (d + 1) n hX, nc_ne q (by omega) (by omega), nI_add]
  · intro n
    rw [sX8_lonelyIn_26 N (d + 1) n hX]
    simp (disch := first | assumption | omega) only [nI_add, pk_mul, nI_clamp, nc_in, nc_lt, nc_nlt, cI_some, cV_some]
theorem c9_lonelyIn27 {N d : Nat} {X : lt_X} {I : Nat → Nat → Int32} {J : Nat → Nat → Int64} {T : Nat → Nat} (hT : TM (I 140) T) (hw : WF T) {p : Nat} (hp : p < 2 ^ 32) (n0 : Nat) (hn : 300 < n0) : RX9_lonelyIn_27 N (d + 2) n0 X (nI p) (nI 0) I J = if lnl T p < 300 then some (.int (nI (lnl T p)), (mkh X I J)) else some (.int (-1), (mkh X (u2 I 135 0 (nI 8)) J)) := by
  have h5 := hw.1.2.2.2.2.2.1
  refine lqf (run := fun n i => RX9_lonelyIn_27 N (d + 2) n X (nI p) (nI i) I J) (m := 300) (p := fun i => hAt T (vOf T p) (T 5 + i) == 0) (A := fun i => some (.int (nI i), (mkh X I J))) (Z := some (.int (-1), (mkh X (u2 I 135 0 (nI 8)) J))) ?_ ?_ ?_ 300 0 n0 (by omega) (by omega)
  · intro n i hi q
    have q : hAt T (vOf T p) (T 5 + i) = 0 := by simpa using q
    rw [sX9_lonelyIn_27 N (d + 2) n]
    simp (disch := first | assumption | omega) only [nI_add, pk_mul, nI_clamp, nc_in, nc_lt, nc_nlt, cI_some, cV_some, tm5 hT]
    rw [c9_heard hT hw hp (by omega), cI_some, kX9_lonelyIn_1 N (d + 2) n, nc_eq q]
  · intro n i hi q
    have q : hAt T (vOf T p) (T 5 + i) ≠ 0 := by simpa using q
    have hl2 : hAt T (vOf T p) (T 5 + i) < 2 ^ 31 := lt6 (hAt_lt hw _ _) (by omega)
    rw [sX9_lonelyIn_27 N (d + 2) n]
    simp (disch := first | assumption | omega) only [nI_add, pk_mul, nI_clamp, nc_in, nc_lt, nc_nlt, cI_some, cV_some, tm5 hT]
    rw [c9_heard hT hw hp (by omega), cI_some, kX9_lonelyIn_1 N (d + 2) n, nc_ne q (by omega) (by omega), nI_add]
  · intro n
    rw [sX9_lonelyIn_27 N (d + 2) n]
    simp (disch := first | assumption | omega) only [nI_add, pk_mul, nI_clamp, nc_in, nc_lt, nc_nlt, cI_some, cV_some]
theorem p_many {xs : Nat → Int32} {N d : Nat} {X : lt_X} {I : Nat → Nat → Int32} {J : Nat → Nat → Int64} (H : INV xs X I J) (hN : 100000 ≤ N) (x : Int32) : PR xs N d X I J 125 265 [.int x] := by
  obtain ⟨T, hw, hT, hM, hX, ht⟩ := INV_T H
  obtain ⟨h0, h1, h2, h3, h4, h5, h6⟩ := hw.1
  by_cases qx : rng x 0 11 = true
  · obtain ⟨k, hka, hk, rfl⟩ := rng_e qx (by omega)
    have hh : k = 0 ∨ k = 1 ∨ k = 2 ∨ k = 3 ∨ k = 4 ∨ k = 5 ∨ k = 6 ∨ k = 7 ∨ k = 8 ∨ k = 9 ∨ k = 10 ∨ k = 11 := by omega
    rcases hh with rfl | rfl | rfl | rfl | rfl | rfl | rfl | rfl | rfl | rfl | rfl | rfl
    · refine PR_v H hM (nI (T 0)) (nI 0) ?_ ?_
      · rw [gX8_many N (d + 38), sX8_many_0 N (d + 38) _ hX]
        rw [rng_c (by omega) (by omega), if_pos qx]
        simp (disch := first | assumption | omega) only [nI_add, pk_mul, nI_clamp, nc_in, nc_lt, nc_nlt, cI_some, cV_some, nc_eq, nc_ne, if_true, if_false, ite_true, ite_false, tcC hT]
      · intro K hK
        rw [u2_same]
        rw [gX9_many N (d + 38), sX9_many_0 N (d + 38)]
        rw [c9_in (by omega) (by omega), cI_some, kX9_many_0 N (d + 38), nc_10, if_pos qx]
        have e40 : ∀ j, u2 (u2 K 135 1 (nI 0)) 135 0 (nI 0) 140 j = K 140 j := fun _ => rfl
        simp (disch := first | assumption | omega) only [nI_add, pk_mul, nI_clamp, nc_in, nc_lt, nc_nlt, cI_some, cV_some, nc_eq, nc_ne, if_true, if_false, ite_true, ite_false, e40, tmC hK]
    · refine PR_v H hM (nI (T 1)) (nI 0) ?_ ?_
      · rw [gX8_many N (d + 38), sX8_many_0 N (d + 38) _ hX]
        rw [rng_c (by omega) (by omega), if_pos qx]
        simp (disch := first | assumption | omega) only [nI_add, pk_mul, nI_clamp, nc_in, nc_lt, nc_nlt, cI_some, cV_some, nc_eq, nc_ne, if_true, if_false, ite_true, ite_false, tcC hT]
      · intro K hK
        rw [u2_same]
        rw [gX9_many N (d + 38), sX9_many_0 N (d + 38)]
        rw [c9_in (by omega) (by omega), cI_some, kX9_many_0 N (d + 38), nc_10, if_pos qx]
        have e40 : ∀ j, u2 (u2 K 135 1 (nI 0)) 135 0 (nI 0) 140 j = K 140 j := fun _ => rfl
        simp (disch := first | assumption | omega) only [nI_add, pk_mul, nI_clamp, nc_in, nc_lt, nc_nlt, cI_some, cV_some, nc_eq, nc_ne, if_true, if_false, ite_true, ite_false, e40, tmC hK]
    · refine PR_v H hM (nI (T 2)) (nI 0) ?_ ?_
      · rw [gX8_many N (d + 38), sX8_many_0 N (d + 38) _ hX]
        rw [rng_c (by omega) (by omega), if_pos qx]
        simp (disch := first | assumption | omega) only [nI_add, pk_mul, nI_clamp, nc_in, nc_lt, nc_nlt, cI_some, cV_some, nc_eq, nc_ne, if_true, if_false, ite_true, ite_false, tcC hT]
      · intro K hK
        rw [u2_same]
        rw [gX9_many N (d + 38), sX9_many_0 N (d + 38)]
        rw [c9_in (by omega) (by omega), cI_some, kX9_many_0 N (d + 38), nc_10, if_pos qx]
        have e40 : ∀ j, u2 (u2 K 135 1 (nI 0)) 135 0 (nI 0) 140 j = K 140 j := fun _ => rfl
        simp (disch := first | assumption | omega) only [nI_add, pk_mul, nI_clamp, nc_in, nc_lt, nc_nlt, cI_some, cV_some, nc_eq, nc_ne, if_true, if_false, ite_true, ite_false, e40, tmC hK]
    · refine PR_v H hM (nI (T 3)) (nI 0) ?_ ?_
      · rw [gX8_many N (d + 38), sX8_many_0 N (d + 38) _ hX]
        rw [rng_c (by omega) (by omega), if_pos qx]
        simp (disch := first | assumption | omega) only [nI_add, pk_mul, nI_clamp, nc_in, nc_lt, nc_nlt, cI_some, cV_some, nc_eq, nc_ne, if_true, if_false, ite_true, ite_false, tcC hT]
      · intro K hK
        rw [u2_same]
        rw [gX9_many N (d + 38), sX9_many_0 N (d + 38)]
        rw [c9_in (by omega) (by omega), cI_some, kX9_many_0 N (d + 38), nc_10, if_pos qx]
        have e40 : ∀ j, u2 (u2 K 135 1 (nI 0)) 135 0 (nI 0) 140 j = K 140 j := fun _ => rfl
        simp (disch := first | assumption | omega) only [nI_add, pk_mul, nI_clamp, nc_in, nc_lt, nc_nlt, cI_some, cV_some, nc_eq, nc_ne, if_true, if_false, ite_true, ite_false, e40, tmC hK]
    · refine PR_v H hM (nI (T 4)) (nI 0) ?_ ?_
      · rw [gX8_many N (d + 38), sX8_many_0 N (d + 38) _ hX]
        rw [rng_c (by omega) (by omega), if_pos qx]
        simp (disch := first | assumption | omega) only [nI_add, pk_mul, nI_clamp, nc_in, nc_lt, nc_nlt, cI_some, cV_some, nc_eq, nc_ne, if_true, if_false, ite_true, ite_false, tcO hT]
      · intro K hK
        rw [u2_same]
        rw [gX9_many N (d + 38), sX9_many_0 N (d + 38)]
        rw [c9_in (by omega) (by omega), cI_some, kX9_many_0 N (d + 38), nc_10, if_pos qx]
        have e40 : ∀ j, u2 (u2 K 135 1 (nI 0)) 135 0 (nI 0) 140 j = K 140 j := fun _ => rfl
        simp (disch := first | assumption | omega) only [nI_add, pk_mul, nI_clamp, nc_in, nc_lt, nc_nlt, cI_some, cV_some, nc_eq, nc_ne, if_true, if_false, ite_true, ite_false, e40, tmC hK]
    · refine PR_v H hM (nI (T 5)) (nI 0) ?_ ?_
      · rw [gX8_many N (d + 38), sX8_many_0 N (d + 38) _ hX]
        rw [rng_c (by omega) (by omega), if_pos qx]
        simp (disch := first | assumption | omega) only [nI_add, pk_mul, nI_clamp, nc_in, nc_lt, nc_nlt, cI_some, cV_some, nc_eq, nc_ne, if_true, if_false, ite_true, ite_false, tcH hT]
      · intro K hK
        rw [u2_same]
        rw [gX9_many N (d + 38), sX9_many_0 N (d + 38)]
        rw [c9_in (by omega) (by omega), cI_some, kX9_many_0 N (d + 38), nc_10, if_pos qx]
        have e40 : ∀ j, u2 (u2 K 135 1 (nI 0)) 135 0 (nI 0) 140 j = K 140 j := fun _ => rfl
        simp (disch := first | assumption | omega) only [nI_add, pk_mul, nI_clamp, nc_in, nc_lt, nc_nlt, cI_some, cV_some, nc_eq, nc_ne, if_true, if_false, ite_true, ite_false, e40, tmC hK]
    · refine PR_v H hM (nI (T 6)) (nI 0) ?_ ?_
      · rw [gX8_many N (d + 38), sX8_many_0 N (d + 38) _ hX]
        rw [rng_c (by omega) (by omega), if_pos qx]
        simp (disch := first | assumption | omega) only [nI_add, pk_mul, nI_clamp, nc_in, nc_lt, nc_nlt, cI_some, cV_some, nc_eq, nc_ne, if_true, if_false, ite_true, ite_false, tcY hT]
      · intro K hK
        rw [u2_same]
        rw [gX9_many N (d + 38), sX9_many_0 N (d + 38)]
        rw [c9_in (by omega) (by omega), cI_some, kX9_many_0 N (d + 38), nc_10, if_pos qx]
        have e40 : ∀ j, u2 (u2 K 135 1 (nI 0)) 135 0 (nI 0) 140 j = K 140 j := fun _ => rfl
        simp (disch := first | assumption | omega) only [nI_add, pk_mul, nI_clamp, nc_in, nc_lt, nc_nlt, cI_some, cV_some, nc_eq, nc_ne, if_true, if_false, ite_true, ite_false, e40, tmC hK]
    · refine PR_v H hM (nI (bst (fun v => T (25 + v) == 1) (T 1))) (nI 0) ?_ ?_
      · rw [gX8_many N (d + 38), sX8_many_0 N (d + 38) _ hX]
        rw [rng_c (by omega) (by omega), if_pos qx]
        simp (disch := first | assumption | omega) only [nI_add, pk_mul, nI_clamp, nc_in, nc_lt, nc_nlt, cI_some, cV_some, nc_eq, nc_ne, if_true, if_false, ite_true, ite_false, tcV hT]
      · intro K hK
        rw [u2_same]
        rw [gX9_many N (d + 38), sX9_many_0 N (d + 38)]
        rw [c9_in (by omega) (by omega), cI_some, kX9_many_0 N (d + 38), nc_10, if_pos qx]
        have e40 : ∀ j, u2 (u2 K 135 1 (nI 0)) 135 0 (nI 0) 140 j = K 140 j := fun _ => rfl
        simp (disch := first | assumption | omega) only [nI_add, pk_mul, nI_clamp, nc_in, nc_lt, nc_nlt, cI_some, cV_some, nc_eq, nc_ne, if_true, if_false, ite_true, ite_false, c9_voicesBy (I := u2 (u2 K 135 1 (nI 0)) 135 0 (nI 0)) hK hw (Or.inl rfl), kX9_many_1 N (d + 38)]
    · refine PR_v H hM (nI (bst (fun v => T (31 + v) == 1) (T 1))) (nI 0) ?_ ?_
      · rw [gX8_many N (d + 38), sX8_many_0 N (d + 38) _ hX]
        rw [rng_c (by omega) (by omega), if_pos qx]
        simp (disch := first | assumption | omega) only [nI_add, pk_mul, nI_clamp, nc_in, nc_lt, nc_nlt, cI_some, cV_some, nc_eq, nc_ne, if_true, if_false, ite_true, ite_false, tcK hT]
      · intro K hK
        rw [u2_same]
        rw [gX9_many N (d + 38), sX9_many_0 N (d + 38)]
        rw [c9_in (by omega) (by omega), cI_some, kX9_many_0 N (d + 38), nc_10, if_pos qx]
        have e40 : ∀ j, u2 (u2 K 135 1 (nI 0)) 135 0 (nI 0) 140 j = K 140 j := fun _ => rfl
        simp (disch := first | assumption | omega) only [nI_add, pk_mul, nI_clamp, nc_in, nc_lt, nc_nlt, cI_some, cV_some, nc_eq, nc_ne, if_true, if_false, ite_true, ite_false, c9_voicesBy (I := u2 (u2 K 135 1 (nI 0)) 135 0 (nI 0)) hK hw (Or.inr rfl), kX9_many_1 N (d + 38)]
    · refine PR_v H hM (nI (owned T 4294967295)) (nI 0) ?_ ?_
      · rw [gX8_many N (d + 38), sX8_many_0 N (d + 38) _ hX]
        rw [rng_c (by omega) (by omega), if_pos qx]
        simp (disch := first | assumption | omega) only [nI_add, pk_mul, nI_clamp, nc_in, nc_lt, nc_nlt, cI_some, cV_some, nc_eq, nc_ne, if_true, if_false, ite_true, ite_false, no_m1, c5_setsOf ht hT hw, kX8_many_0 N (d + 38) _ hX]
      · intro K hK
        rw [u2_same]
        rw [gX9_many N (d + 38), sX9_many_0 N (d + 38)]
        rw [c9_in (by omega) (by omega), cI_some, kX9_many_0 N (d + 38), nc_10, if_pos qx]
        have e40 : ∀ j, u2 (u2 K 135 1 (nI 0)) 135 0 (nI 0) 140 j = K 140 j := fun _ => rfl
        simp (disch := first | assumption | omega) only [nI_add, pk_mul, nI_clamp, nc_in, nc_lt, nc_nlt, cI_some, cV_some, nc_eq, nc_ne, if_true, if_false, ite_true, ite_false, no_m1, c9_ownedBy (I := u2 (u2 K 135 1 (nI 0)) 135 0 (nI 0)) hK hw, kX9_many_2 N (d + 38)]
    · refine PR_v H hM (nI (smT T 37)) (nI 0) ?_ ?_
      · rw [gX8_many N (d + 38), sX8_many_0 N (d + 38) _ hX]
        rw [rng_c (by omega) (by omega), if_pos qx]
        simp (disch := first | assumption | omega) only [nI_add, pk_mul, nI_clamp, nc_in, nc_lt, nc_nlt, cI_some, cV_some, nc_eq, nc_ne, if_true, if_false, ite_true, ite_false, c5_coinsOfAll ht hT hw, kX8_many_1 N (d + 38) _ hX]
      · intro K hK
        rw [u2_same]
        rw [gX9_many N (d + 38), sX9_many_0 N (d + 38)]
        rw [c9_in (by omega) (by omega), cI_some, kX9_many_0 N (d + 38), nc_10, if_pos qx]
        have e40 : ∀ j, u2 (u2 K 135 1 (nI 0)) 135 0 (nI 0) 140 j = K 140 j := fun _ => rfl
        simp (disch := first | assumption | omega) only [nI_add, pk_mul, nI_clamp, nc_in, nc_lt, nc_nlt, cI_some, cV_some, nc_eq, nc_ne, if_true, if_false, ite_true, ite_false, c9_sumOf (I := u2 (u2 K 135 1 (nI 0)) 135 0 (nI 0)) hK hw (Or.inl rfl), kX9_many_3 N (d + 38)]
    · refine PR_v H hM (nI (smT T 43)) (nI 0) ?_ ?_
      · rw [gX8_many N (d + 38), sX8_many_0 N (d + 38) _ hX]
        rw [rng_c (by omega) (by omega), if_pos qx]
        simp (disch := first | assumption | omega) only [nI_add, pk_mul, nI_clamp, nc_in, nc_lt, nc_nlt, cI_some, cV_some, nc_eq, nc_ne, if_true, if_false, ite_true, ite_false, c5_gladOfAll ht hT hw, kX8_many_2 N (d + 38) _ hX]
      · intro K hK
        rw [u2_same]
        rw [gX9_many N (d + 38), sX9_many_0 N (d + 38)]
        rw [c9_in (by omega) (by omega), cI_some, kX9_many_0 N (d + 38), nc_10, if_pos qx]
        have e40 : ∀ j, u2 (u2 K 135 1 (nI 0)) 135 0 (nI 0) 140 j = K 140 j := fun _ => rfl
        simp (disch := first | assumption | omega) only [nI_add, pk_mul, nI_clamp, nc_in, nc_lt, nc_nlt, cI_some, cV_some, nc_eq, nc_ne, if_true, if_false, ite_true, ite_false, c9_sumOf (I := u2 (u2 K 135 1 (nI 0)) 135 0 (nI 0)) hK hw (Or.inr rfl), kX9_many_4 N (d + 38)]
  · refine PR_v H hM (-1) (nI 5) ?_ ?_
    · rw [gX8_many N (d + 38), sX8_many_0 N (d + 38) _ hX]
      rw [rng_c (by omega) (by omega), if_neg qx]
    · intro K hK
      rw [gX9_many N (d + 38), sX9_many_0 N (d + 38)]
      rw [c9_in (by omega) (by omega), cI_some, kX9_many_0 N (d + 38), nc_10, if_neg qx]
theorem p_gladBy {xs : Nat → Int32} {N d : Nat} {X : lt_X} {I : Nat → Nat → Int32} {J : Nat → Nat → Int64} (H : INV xs X I J) (hN : 100000 ≤ N) (x y : Int32) : PR xs N d X I J 144 296 [.int x, .int y] := by
  obtain ⟨T, hw, hT, hM, hX, ht⟩ := INV_T H
  obtain ⟨h0, h1, h2, h3, h4, h5, h6⟩ := hw.1
  by_cases qx : inb x (T 2) = true
  · obtain ⟨p, hp, rfl⟩ := inb_e qx (by omega)
    by_cases qy : rng y 0 9999 = true
    · obtain ⟨c, hca, hc, rfl⟩ := rng_e qy (by omega)
      by_cases q : gby T p c < 301
      · refine PR_v H hM (nI (gby T p c)) (nI 0) ?_ ?_
        · rw [gX8_gladBy N (d + 38), sX8_gladBy_0 N (d + 38) _ hX]
          rw [c8_has hX hT hw (by omega), cI_some, kX8_gladBy_0 N (d + 38) _ hX, nc_10, if_pos qx, rng_c (by omega) (by omega), if_pos qy, c5_voicesOf ht hT hw (by omega), cI_some, kX8_gladBy_2 N (d + 38) _ hX, nc_in (by omega) (by omega), nI_clamp (by omega), tcG hT p hp, c8_gladBy55 (d := d + 37) hX ht hT hw hp hc _ (by omega), if_pos q]
        · intro K hK
          rw [u2_same]
          rw [gX9_gladBy N (d + 37), sX9_gladBy_0 N (d + 37)]
          rw [c9_isPersonAt (I := u2 (u2 K 135 1 (nI 0)) 135 0 (nI 0)) hK hw, cI_some, kX9_gladBy_0 N (d + 37), nc_10, if_pos qx, c9_in (by omega) (by omega), cI_some, kX9_gladBy_2 N (d + 37), nc_10, if_pos qy, nI_add, nc_in (by omega) (by omega), nI_clamp (by omega), show (u2 (u2 K 135 1 (nI 0)) 135 0 (nI 0)) 140 (43 + p) = nI (T (43 + p)) from tmG hK p hp, c9_gladBy56 (d := d + 35) (I := u2 (u2 K 135 1 (nI 0)) 135 0 (nI 0)) hK hw hp hc _ (by omega), if_pos q]
      · refine PR_v H hM (-1) (nI 8) ?_ ?_
        · rw [gX8_gladBy N (d + 38), sX8_gladBy_0 N (d + 38) _ hX]
          rw [c8_has hX hT hw (by omega), cI_some, kX8_gladBy_0 N (d + 38) _ hX, nc_10, if_pos qx, rng_c (by omega) (by omega), if_pos qy, c5_voicesOf ht hT hw (by omega), cI_some, kX8_gladBy_2 N (d + 38) _ hX, nc_in (by omega) (by omega), nI_clamp (by omega), tcG hT p hp, c8_gladBy55 (d := d + 37) hX ht hT hw hp hc _ (by omega), if_neg q]
        · intro K hK
          rw [gX9_gladBy N (d + 37), sX9_gladBy_0 N (d + 37)]
          rw [c9_isPersonAt (I := u2 (u2 K 135 1 (nI 0)) 135 0 (nI 0)) hK hw, cI_some, kX9_gladBy_0 N (d + 37), nc_10, if_pos qx, c9_in (by omega) (by omega), cI_some, kX9_gladBy_2 N (d + 37), nc_10, if_pos qy, nI_add, nc_in (by omega) (by omega), nI_clamp (by omega), show (u2 (u2 K 135 1 (nI 0)) 135 0 (nI 0)) 140 (43 + p) = nI (T (43 + p)) from tmG hK p hp, c9_gladBy56 (d := d + 35) (I := u2 (u2 K 135 1 (nI 0)) 135 0 (nI 0)) hK hw hp hc _ (by omega), if_neg q]
    · refine PR_v H hM (-1) (nI 5) ?_ ?_
      · rw [gX8_gladBy N (d + 38), sX8_gladBy_0 N (d + 38) _ hX]
        rw [c8_has hX hT hw (by omega), cI_some, kX8_gladBy_0 N (d + 38) _ hX, nc_10, if_pos qx, rng_c (by omega) (by omega), if_neg qy]
      · intro K hK
        rw [gX9_gladBy N (d + 37), sX9_gladBy_0 N (d + 37)]
        rw [c9_isPersonAt (I := u2 (u2 K 135 1 (nI 0)) 135 0 (nI 0)) hK hw, cI_some, kX9_gladBy_0 N (d + 37), nc_10, if_pos qx, c9_in (by omega) (by omega), cI_some, kX9_gladBy_2 N (d + 37), nc_10, if_neg qy]
  · refine PR_v H hM (-1) (nI 2) ?_ ?_
    · rw [gX8_gladBy N (d + 38), sX8_gladBy_0 N (d + 38) _ hX]
      rw [c8_has hX hT hw (by omega), cI_some, kX8_gladBy_0 N (d + 38) _ hX, nc_10, if_neg qx]
    · intro K hK
      rw [gX9_gladBy N (d + 37), sX9_gladBy_0 N (d + 37)]
      rw [c9_isPersonAt (I := u2 (u2 K 135 1 (nI 0)) 135 0 (nI 0)) hK hw, cI_some, kX9_gladBy_0 N (d + 37), nc_10, if_neg qx]
theorem p_lonelyIn {xs : Nat → Int32} {N d : Nat} {X : lt_X} {I : Nat → Nat → Int32} {J : Nat → Nat → Int64} (H : INV xs X I J) (hN : 100000 ≤ N) (x : Int32) : PR xs N d X I J 145 297 [.int x] := by
  obtain ⟨T, hw, hT, hM, hX, ht⟩ := INV_T H
  obtain ⟨h0, h1, h2, h3, h4, h5, h6⟩ := hw.1
  by_cases qx : inb x (T 2) = true
  · obtain ⟨p, hp, rfl⟩ := inb_e qx (by omega)
    by_cases q : lnl T p < 300
    · refine PR_v H hM (nI (lnl T p)) (nI 0) ?_ ?_
      · rw [gX8_lonelyIn N (d + 38), sX8_lonelyIn_0 N (d + 38) _ hX]
        rw [c8_has hX hT hw (by omega), cI_some, kX8_lonelyIn_0 N (d + 38) _ hX, nc_10, if_pos qx, c5_voicesOf ht hT hw (by omega), cI_some, kX8_lonelyIn_2 N (d + 38) _ hX, c8_lonelyIn26 (d := d + 37) hX ht hT hw _ (by omega), if_pos q]
      · intro K hK
        rw [u2_same]
        rw [gX9_lonelyIn N (d + 37), sX9_lonelyIn_0 N (d + 37)]
        rw [c9_isPersonAt (I := u2 (u2 K 135 1 (nI 0)) 135 0 (nI 0)) hK hw, cI_some, kX9_lonelyIn_0 N (d + 37), nc_10, if_pos qx, c9_lonelyIn27 (d := d + 35) (I := u2 (u2 K 135 1 (nI 0)) 135 0 (nI 0)) hK hw (by omega) _ (by omega), if_pos q]
    · refine PR_v H hM (-1) (nI 8) ?_ ?_
      · rw [gX8_lonelyIn N (d + 38), sX8_lonelyIn_0 N (d + 38) _ hX]
        rw [c8_has hX hT hw (by omega), cI_some, kX8_lonelyIn_0 N (d + 38) _ hX, nc_10, if_pos qx, c5_voicesOf ht hT hw (by omega), cI_some, kX8_lonelyIn_2 N (d + 38) _ hX, c8_lonelyIn26 (d := d + 37) hX ht hT hw _ (by omega), if_neg q]
      · intro K hK
        rw [gX9_lonelyIn N (d + 37), sX9_lonelyIn_0 N (d + 37)]
        rw [c9_isPersonAt (I := u2 (u2 K 135 1 (nI 0)) 135 0 (nI 0)) hK hw, cI_some, kX9_lonelyIn_0 N (d + 37), nc_10, if_pos qx, c9_lonelyIn27 (d := d + 35) (I := u2 (u2 K 135 1 (nI 0)) 135 0 (nI 0)) hK hw (by omega) _ (by omega), if_neg q]
  · refine PR_v H hM (-1) (nI 2) ?_ ?_
    · rw [gX8_lonelyIn N (d + 38), sX8_lonelyIn_0 N (d + 38) _ hX]
      rw [c8_has hX hT hw (by omega), cI_some, kX8_lonelyIn_0 N (d + 38) _ hX, nc_10, if_neg qx]
    · intro K hK
      rw [gX9_lonelyIn N (d + 37), sX9_lonelyIn_0 N (d + 37)]
      rw [c9_isPersonAt (I := u2 (u2 K 135 1 (nI 0)) 135 0 (nI 0)) hK hw, cI_some, kX9_lonelyIn_0 N (d + 37), nc_10, if_neg qx]
theorem p_envies {xs : Nat → Int32} {N d : Nat} {X : lt_X} {I : Nat → Nat → Int32} {J : Nat → Nat → Int64} (H : INV xs X I J) (hN : 100000 ≤ N) (x y : Int32) : PR xs N d X I J 153 317 [.int x, .int y] := by
  obtain ⟨T, hw, hT, hM, hX, ht⟩ := INV_T H
  obtain ⟨h0, h1, h2, h3, h4, h5, h6⟩ := hw.1
  by_cases qx : inb x (T 2) = true
  · obtain ⟨p, hp, rfl⟩ := inb_e qx (by omega)
    by_cases qy : inb y (T 2) = true
    · obtain ⟨u, hu, rfl⟩ := inb_e qy (by omega)
      by_cases q : p = u
      · refine PR_v H hM (-1) (nI 5) ?_ ?_
        · rw [gX8_envies N (d + 38), sX8_envies_0 N (d + 38) _ hX]
          rw [c8_has hX hT hw (by omega), cI_some, kX8_envies_0 N (d + 38) _ hX, nc_10, if_pos qx, c8_has hX hT hw (by omega), cI_some, kX8_envies_1 N (d + 38) _ hX, nc_10, if_pos qy, nc_eq q]
        · intro K hK
          rw [gX9_envies N (d + 37), sX9_envies_0 N (d + 37)]
          rw [c9_isPersonAt (I := u2 (u2 K 135 1 (nI 0)) 135 0 (nI 0)) hK hw, cI_some, kX9_envies_0 N (d + 37), nc_10, if_pos qx, c9_isPersonAt (I := u2 (u2 K 135 1 (nI 0)) 135 0 (nI 0)) hK hw, cI_some, kX9_envies_1 N (d + 37), nc_10, if_pos qy, nc_eq q]
      · have ml : ∀ z, mxo T p z ≤ 648 := fun z => mxf_le (T 3) (fun k _ => by
          show (if T (67 + k) = z then wth T p k else 0) ≤ 648
          split
          · exact wth_le hw hp k
          · omega)
        have m1 := ml p
        have m2 := ml u
        have r69 : ∀ z : Int32, RX8_envies_69 N (d + 38) (N + 29) X z I J = if z = nI 0 then some (.int (nI 0), (mkh X (u2 I 3 15 (nI 0)) J)) else some (.int (nI 1), (mkh X (u2 I 3 15 (nI 0)) J)) := fun z => sX8_envies_69 N (d + 38) (N + 28) hX z I J
        by_cases q2 : mxo T p p < mxo T p u
        · refine PR_v H hM (nI 1) (nI 0) ?_ ?_
          · rw [gX8_envies N (d + 38), sX8_envies_0 N (d + 38) _ hX]
            rw [c8_has hX hT hw (by omega), cI_some, kX8_envies_0 N (d + 38) _ hX, nc_10, if_pos qx, c8_has hX hT hw (by omega), cI_some, kX8_envies_1 N (d + 38) _ hX, nc_10, if_pos qy, nc_ne q (by omega) (by omega), c0_mostWorth ht hT hw hp (by omega) (by omega), cI_some, kX8_envies_2 N (d + 38) _ hX, c0_mostWorth ht hT hw hp (by omega) (by omega), cI_some, kX8_envies_3 N (d + 38) _ hX, nc_lt q2 (by omega), r69, nc_ne (by omega) (by omega) (by omega)]
          · intro K hK
            rw [u2_same]
            rw [gX9_envies N (d + 37), sX9_envies_0 N (d + 37)]
            rw [c9_isPersonAt (I := u2 (u2 K 135 1 (nI 0)) 135 0 (nI 0)) hK hw, cI_some, kX9_envies_0 N (d + 37), nc_10, if_pos qx, c9_isPersonAt (I := u2 (u2 K 135 1 (nI 0)) 135 0 (nI 0)) hK hw, cI_some, kX9_envies_1 N (d + 37), nc_10, if_pos qy, nc_ne q (by omega) (by omega), c9_bestOwned (I := u2 (u2 K 135 1 (nI 0)) 135 0 (nI 0)) hK hw hp (by omega), cI_some, kX9_envies_2 N (d + 37), c9_bestOwned (I := u2 (u2 K 135 1 (nI 0)) 135 0 (nI 0)) hK hw hp (by omega), cI_some, kX9_envies_3 N (d + 37), nc_lt q2 (by omega)]
        · refine PR_v H hM (nI 0) (nI 0) ?_ ?_
          · rw [gX8_envies N (d + 38), sX8_envies_0 N (d + 38) _ hX]
            rw [c8_has hX hT hw (by omega), cI_some, kX8_envies_0 N (d + 38) _ hX, nc_10, if_pos qx, c8_has hX hT hw (by omega), cI_some, kX8_envies_1 N (d + 38) _ hX, nc_10, if_pos qy, nc_ne q (by omega) (by omega), c0_mostWorth ht hT hw hp (by omega) (by omega), cI_some, kX8_envies_2 N (d + 38) _ hX, c0_mostWorth ht hT hw hp (by omega) (by omega), cI_some, kX8_envies_3 N (d + 38) _ hX, nc_nlt (by omega) (by omega), r69, nc_eq rfl]
          · intro K hK
            rw [u2_same]
            rw [gX9_envies N (d + 37), sX9_envies_0 N (d + 37)]
            rw [c9_isPersonAt (I := u2 (u2 K 135 1 (nI 0)) 135 0 (nI 0)) hK hw, cI_some, kX9_envies_0 N (d + 37), nc_10, if_pos qx, c9_isPersonAt (I := u2 (u2 K 135 1 (nI 0)) 135 0 (nI 0)) hK hw, cI_some, kX9_envies_1 N (d + 37), nc_10, if_pos qy, nc_ne q (by omega) (by omega), c9_bestOwned (I := u2 (u2 K 135 1 (nI 0)) 135 0 (nI 0)) hK hw hp (by omega), cI_some, kX9_envies_2 N (d + 37), c9_bestOwned (I := u2 (u2 K 135 1 (nI 0)) 135 0 (nI 0)) hK hw hp (by omega), cI_some, kX9_envies_3 N (d + 37), nc_nlt (by omega) (by omega)]
    · refine PR_v H hM (-1) (nI 2) ?_ ?_
      · rw [gX8_envies N (d + 38), sX8_envies_0 N (d + 38) _ hX]
        rw [c8_has hX hT hw (by omega), cI_some, kX8_envies_0 N (d + 38) _ hX, nc_10, if_pos qx, c8_has hX hT hw (by omega), cI_some, kX8_envies_1 N (d + 38) _ hX, nc_10, if_neg qy]
      · intro K hK
        rw [gX9_envies N (d + 37), sX9_envies_0 N (d + 37)]
        rw [c9_isPersonAt (I := u2 (u2 K 135 1 (nI 0)) 135 0 (nI 0)) hK hw, cI_some, kX9_envies_0 N (d + 37), nc_10, if_pos qx, c9_isPersonAt (I := u2 (u2 K 135 1 (nI 0)) 135 0 (nI 0)) hK hw, cI_some, kX9_envies_1 N (d + 37), nc_10, if_neg qy]
  · refine PR_v H hM (-1) (nI 2) ?_ ?_
    · rw [gX8_envies N (d + 38), sX8_envies_0 N (d + 38) _ hX]
      rw [c8_has hX hT hw (by omega), cI_some, kX8_envies_0 N (d + 38) _ hX, nc_10, if_neg qx]
    · intro K hK
      rw [gX9_envies N (d + 37), sX9_envies_0 N (d + 37)]
      rw [c9_isPersonAt (I := u2 (u2 K 135 1 (nI 0)) 135 0 (nI 0)) hK hw, cI_some, kX9_envies_0 N (d + 37), nc_10, if_neg qx]
theorem c8_popularStatus {N d : Nat} {X : lt_X} {I : Nat → Nat → Int32} {J : Nat → Nat → Int64} {T : Nat → Nat} (hX : hsX X) (hT : TC I X.2.1 T) (hw : WF T) (x : Int32) : am_G am_prog (N + 30) (d + 2) 165 [.ref 3, .int x] (mkh X I J) = some (.int (if inb x (T 1) = true then (if T 0 = 0 then nI 8 else nI 0) else nI 2), (mkh X I J)) := by
  have h0 := hw.1.1
  rw [gX8_popularStatus N d, sX8_popularStatus_0 N d _ hX, c8_has hX hT hw (by omega), cI_some, kX8_popularStatus_0 N d _ hX, nc_10, tc0 hT]
  by_cases q : inb x (T 1) = true
  · rw [if_pos q, if_pos q]
    by_cases q2 : T 0 = 0
    · rw [nc_eq q2, if_pos q2]
    · rw [nc_ne q2 (by omega) (by omega), if_neg q2]
  · rw [if_neg q, if_neg q]
theorem c8_peaceStatus {N d : Nat} {X : lt_X} {I : Nat → Nat → Int32} {J : Nat → Nat → Int64} {T : Nat → Nat} (hX : hsX X) (hT : TC I X.2.1 T) (hw : WF T) (x : Int32) : am_G am_prog (N + 30) (d + 2) 162 [.ref 3, .int x] (mkh X I J) = some (.int (if x = nI 0 then nI 5 else if inb x (2 ^ T 2) = true then (if T 0 = 0 then nI 8 else nI 0) else nI 5), (mkh X I J)) := by
  have h0 := hw.1.1
  rw [gX8_peaceStatus N d, sX8_peaceStatus_0 N d _ hX]
  by_cases q0 : x = nI 0
  · rw [if_pos q0, if_pos q0]
  · rw [if_neg q0, if_neg q0, c8_isSetOfPeople hX hT hw, cI_some, kX8_peaceStatus_0 N d _ hX, nc_10, tc0 hT]
    by_cases q : inb x (2 ^ T 2) = true
    · rw [if_pos q, if_pos q]
      by_cases q2 : T 0 = 0
      · rw [nc_eq q2, if_pos q2]
      · rw [nc_ne q2 (by omega) (by omega), if_neg q2]
    · rw [if_neg q, if_neg q]
theorem p_popular {xs : Nat → Int32} {N d : Nat} {X : lt_X} {I : Nat → Nat → Int32} {J : Nat → Nat → Int64} (H : INV xs X I J) (hN : 100000 ≤ N) (x : Int32) : PR xs N d X I J 163 332 [.int x] := by
  obtain ⟨T, hw, hT, hM, hX, ht⟩ := INV_T H
  obtain ⟨h0, h1, h2, h3, h4, h5, h6⟩ := hw.1
  by_cases q : inb x (T 1) = true
  · obtain ⟨v, hv, rfl⟩ := inb_e q (by omega)
    have hl : hrs T v < 2 ^ 31 := lt6 (bst_lt h2) (by omega)
    by_cases q2 : T 0 = 0
    · refine PR_v H hM (-1) (nI 8) ?_ ?_
      · rw [gX8_popular N (d + 37), sX8_popular_0 N (d + 37) _ hX]
        rw [c8_popularStatus hX hT hw, if_pos q, if_pos q2, cI_some, kX8_popular_0 N (d + 37) _ hX, nc_ne (by omega) (by omega) (by omega)]
      · intro K hK
        rw [gX9_popular N (d + 37), sX9_popular_0 N (d + 37)]
        rw [c9_isVoiceAt (I := u2 (u2 K 135 1 (nI 0)) 135 0 (nI 0)) hK hw, cI_some, kX9_popular_0 N (d + 37), nc_10, if_pos q, c9_popularOf (I := u2 (u2 K 135 1 (nI 0)) 135 0 (nI 0)) hK hw hv (by omega), cI_some, kX9_popular_1 N (d + 37), show orN (T 0) (ppl T (hrs T v)) = 4294967295 from if_pos q2, nc_neg rfl]
    · have hb : ppl T (hrs T v) (T 0 - 1) ≤ T 0 - 1 := bof_le _ _
      have hf := fan_le hw (hrs T v) (ppl T (hrs T v) (T 0 - 1))
      refine PR_v H hM (nI (ppl T (hrs T v) (T 0 - 1))) (nI 0) ?_ ?_
      · rw [gX8_popular N (d + 37), sX8_popular_0 N (d + 37) _ hX]
        rw [c8_popularStatus hX hT hw, if_pos q, if_neg q2, cI_some, kX8_popular_0 N (d + 37) _ hX, nc_eq rfl, c5_hearersOf ht hT hw (by omega), cI_some, kX8_popular_1 N (d + 37) _ hX, c5_popularAmong ht hT hw hl (by omega), cI_some, kX8_popular_2 N (d + 37) _ hX]
      · intro K hK
        rw [u2_same]
        rw [gX9_popular N (d + 37), sX9_popular_0 N (d + 37)]
        rw [c9_isVoiceAt (I := u2 (u2 K 135 1 (nI 0)) 135 0 (nI 0)) hK hw, cI_some, kX9_popular_0 N (d + 37), nc_10, if_pos q, c9_popularOf (I := u2 (u2 K 135 1 (nI 0)) 135 0 (nI 0)) hK hw hv (by omega), cI_some, kX9_popular_1 N (d + 37), show orN (T 0) (ppl T (hrs T v)) = ppl T (hrs T v) (T 0 - 1) from if_neg q2, nc_nlt (by omega) (by omega)]
  · refine PR_v H hM (-1) (nI 2) ?_ ?_
    · rw [gX8_popular N (d + 37), sX8_popular_0 N (d + 37) _ hX]
      rw [c8_popularStatus hX hT hw, if_neg q, cI_some, kX8_popular_0 N (d + 37) _ hX, nc_ne (by omega) (by omega) (by omega)]
    · intro K hK
      rw [gX9_popular N (d + 37), sX9_popular_0 N (d + 37)]
      rw [c9_isVoiceAt (I := u2 (u2 K 135 1 (nI 0)) 135 0 (nI 0)) hK hw, cI_some, kX9_popular_0 N (d + 37), nc_10, if_neg q]
theorem p_popularBy {xs : Nat → Int32} {N d : Nat} {X : lt_X} {I : Nat → Nat → Int32} {J : Nat → Nat → Int64} (H : INV xs X I J) (hN : 100000 ≤ N) (x : Int32) : PR xs N d X I J 164 333 [.int x] := by
  obtain ⟨T, hw, hT, hM, hX, ht⟩ := INV_T H
  obtain ⟨h0, h1, h2, h3, h4, h5, h6⟩ := hw.1
  by_cases q : inb x (T 1) = true
  · obtain ⟨v, hv, rfl⟩ := inb_e q (by omega)
    have hl : hrs T v < 2 ^ 31 := lt6 (bst_lt h2) (by omega)
    by_cases q2 : T 0 = 0
    · refine PR_v H hM (-1) (nI 8) ?_ ?_
      · rw [gX8_popularBy N (d + 37), sX8_popularBy_0 N (d + 37) _ hX]
        rw [c8_popularStatus hX hT hw, if_pos q, if_pos q2, cI_some, kX8_popularBy_0 N (d + 37) _ hX, nc_ne (by omega) (by omega) (by omega)]
      · intro K hK
        rw [gX9_popularBy N (d + 37), sX9_popularBy_0 N (d + 37)]
        rw [c9_isVoiceAt (I := u2 (u2 K 135 1 (nI 0)) 135 0 (nI 0)) hK hw, cI_some, kX9_popularBy_0 N (d + 37), nc_10, if_pos q, c9_popularOf (I := u2 (u2 K 135 1 (nI 0)) 135 0 (nI 0)) hK hw hv (by omega), cI_some, kX9_popularBy_1 N (d + 37), show orN (T 0) (ppl T (hrs T v)) = 4294967295 from if_pos q2, nc_neg rfl]
    · have hb : ppl T (hrs T v) (T 0 - 1) ≤ T 0 - 1 := bof_le _ _
      have hf := fan_le hw (hrs T v) (ppl T (hrs T v) (T 0 - 1))
      refine PR_v H hM (nI (fan T (hrs T v) (ppl T (hrs T v) (T 0 - 1)))) (nI 0) ?_ ?_
      · rw [gX8_popularBy N (d + 37), sX8_popularBy_0 N (d + 37) _ hX]
        rw [c8_popularStatus hX hT hw, if_pos q, if_neg q2, cI_some, kX8_popularBy_0 N (d + 37) _ hX, nc_eq rfl, c5_hearersOf ht hT hw (by omega), cI_some, kX8_popularBy_1 N (d + 37) _ hX, c5_popularAmong ht hT hw hl (by omega), cI_some, kX8_popularBy_2 N (d + 37) _ hX, c5_fansAmong ht hT hw hl (by omega), cI_some, kX8_popularBy_3 N (d + 37) _ hX]
      · intro K hK
        rw [u2_same]
        rw [gX9_popularBy N (d + 37), sX9_popularBy_0 N (d + 37)]
        rw [c9_isVoiceAt (I := u2 (u2 K 135 1 (nI 0)) 135 0 (nI 0)) hK hw, cI_some, kX9_popularBy_0 N (d + 37), nc_10, if_pos q, c9_popularOf (I := u2 (u2 K 135 1 (nI 0)) 135 0 (nI 0)) hK hw hv (by omega), cI_some, kX9_popularBy_1 N (d + 37), show orN (T 0) (ppl T (hrs T v)) = ppl T (hrs T v) (T 0 - 1) from if_neg q2, nc_nlt (by omega) (by omega), c9_fansOf (I := u2 (u2 K 135 1 (nI 0)) 135 0 (nI 0)) hK hw hv (by omega) (by omega), cI_some, kX9_popularBy_2 N (d + 37)]
  · refine PR_v H hM (-1) (nI 2) ?_ ?_
    · rw [gX8_popularBy N (d + 37), sX8_popularBy_0 N (d + 37) _ hX]
      rw [c8_popularStatus hX hT hw, if_neg q, cI_some, kX8_popularBy_0 N (d + 37) _ hX, nc_ne (by omega) (by omega) (by omega)]
    · intro K hK
      rw [gX9_popularBy N (d + 37), sX9_popularBy_0 N (d + 37)]
      rw [c9_isVoiceAt (I := u2 (u2 K 135 1 (nI 0)) 135 0 (nI 0)) hK hw, cI_some, kX9_popularBy_0 N (d + 37), nc_10, if_neg q]
theorem p_peace {xs : Nat → Int32} {N d : Nat} {X : lt_X} {I : Nat → Nat → Int32} {J : Nat → Nat → Int64} (H : INV xs X I J) (hN : 100000 ≤ N) (x : Int32) : PR xs N d X I J 160 328 [.int x] := by
  obtain ⟨T, hw, hT, hM, hX, ht⟩ := INV_T H
  obtain ⟨h0, h1, h2, h3, h4, h5, h6⟩ := hw.1
  have p6 : 2 ^ T 2 ≤ 2 ^ 6 := Nat.pow_le_pow_right (by omega) h2
  by_cases q0 : x = nI 0
  · refine PR_v H hM (-1) (nI 5) ?_ ?_
    · rw [gX8_peace N (d + 37), sX8_peace_0 N (d + 37) _ hX]
      rw [c8_peaceStatus hX hT hw, if_pos q0, cI_some, kX8_peace_0 N (d + 37) _ hX, nc_ne (by omega) (by omega) (by omega)]
    · intro K hK
      rw [gX9_peace N (d + 37), sX9_peace_0 N (d + 37)]
      rw [if_pos q0]
  by_cases q : inb x (2 ^ T 2) = true
  · obtain ⟨s, hs, rfl⟩ := inb_e q (by omega)
    obtain ⟨p0, hb0⟩ := Nat.exists_testBit_of_ne_zero (show s ≠ 0 from fun h => q0 (by rw [h]))
    have hp0 : p0 < T 2 := by
      refine Nat.lt_of_not_le (fun hle => ?_)
      rw [Nat.testBit_lt_two_pow (Nat.lt_of_lt_of_le hs (Nat.pow_le_pow_right (by omega) hle))] at hb0
      cases hb0
    by_cases q2 : T 0 = 0
    · refine PR_v H hM (-1) (nI 8) ?_ ?_
      · rw [gX8_peace N (d + 37), sX8_peace_0 N (d + 37) _ hX]
        rw [c8_peaceStatus hX hT hw, if_neg q0, if_pos q, if_pos q2, cI_some, kX8_peace_0 N (d + 37) _ hX, nc_ne (by omega) (by omega) (by omega)]
      · intro K hK
        rw [gX9_peace N (d + 37), sX9_peace_0 N (d + 37)]
        rw [if_neg q0, c9_arePeople (I := u2 (u2 K 135 1 (nI 0)) 135 0 (nI 0)) hK hw, cI_some, kX9_peace_0 N (d + 37), nc_10, if_pos q, c9_peaceful (I := u2 (u2 K 135 1 (nI 0)) 135 0 (nI 0)) hK hw (by omega) hp0 hb0 (by omega), cI_some, kX9_peace_1 N (d + 37), show orN (T 0) (pce T s) = 4294967295 from if_pos q2, nc_neg rfl]
    · have hb : pce T s (T 0 - 1) ≤ T 0 - 1 := bof_le _ _
      refine PR_v H hM (nI (pce T s (T 0 - 1))) (nI 0) ?_ ?_
      · rw [gX8_peace N (d + 37), sX8_peace_0 N (d + 37) _ hX]
        rw [c8_peaceStatus hX hT hw, if_neg q0, if_pos q, if_neg q2, cI_some, kX8_peace_0 N (d + 37) _ hX, nc_eq rfl, c5_subjectOfPeace ht hT hw (by omega) (by omega), cI_some, kX8_peace_1 N (d + 37) _ hX]
      · intro K hK
        rw [u2_same]
        rw [gX9_peace N (d + 37), sX9_peace_0 N (d + 37)]
        rw [if_neg q0, c9_arePeople (I := u2 (u2 K 135 1 (nI 0)) 135 0 (nI 0)) hK hw, cI_some, kX9_peace_0 N (d + 37), nc_10, if_pos q, c9_peaceful (I := u2 (u2 K 135 1 (nI 0)) 135 0 (nI 0)) hK hw (by omega) hp0 hb0 (by omega), cI_some, kX9_peace_1 N (d + 37), show orN (T 0) (pce T s) = pce T s (T 0 - 1) from if_neg q2, nc_nlt (by omega) (by omega)]
  · refine PR_v H hM (-1) (nI 5) ?_ ?_
    · rw [gX8_peace N (d + 37), sX8_peace_0 N (d + 37) _ hX]
      rw [c8_peaceStatus hX hT hw, if_neg q0, if_neg q, cI_some, kX8_peace_0 N (d + 37) _ hX, nc_ne (by omega) (by omega) (by omega)]
    · intro K hK
      rw [gX9_peace N (d + 37), sX9_peace_0 N (d + 37)]
      rw [if_neg q0, c9_arePeople (I := u2 (u2 K 135 1 (nI 0)) 135 0 (nI 0)) hK hw, cI_some, kX9_peace_0 N (d + 37), nc_10, if_neg q]
theorem p_peaceBy {xs : Nat → Int32} {N d : Nat} {X : lt_X} {I : Nat → Nat → Int32} {J : Nat → Nat → Int64} (H : INV xs X I J) (hN : 100000 ≤ N) (x : Int32) : PR xs N d X I J 161 329 [.int x] := by
  obtain ⟨T, hw, hT, hM, hX, ht⟩ := INV_T H
  obtain ⟨h0, h1, h2, h3, h4, h5, h6⟩ := hw.1
  have p6 : 2 ^ T 2 ≤ 2 ^ 6 := Nat.pow_le_pow_right (by omega) h2
  by_cases q0 : x = nI 0
  · refine PR_v H hM (-1) (nI 5) ?_ ?_
    · rw [gX8_peaceBy N (d + 37), sX8_peaceBy_0 N (d + 37) _ hX]
      rw [c8_peaceStatus hX hT hw, if_pos q0, cI_some, kX8_peaceBy_0 N (d + 37) _ hX, nc_ne (by omega) (by omega) (by omega)]
    · intro K hK
      rw [gX9_peaceBy N (d + 37), sX9_peaceBy_0 N (d + 37)]
      rw [if_pos q0]
  by_cases q : inb x (2 ^ T 2) = true
  · obtain ⟨s, hs, rfl⟩ := inb_e q (by omega)
    obtain ⟨p0, hb0⟩ := Nat.exists_testBit_of_ne_zero (show s ≠ 0 from fun h => q0 (by rw [h]))
    have hp0 : p0 < T 2 := by
      refine Nat.lt_of_not_le (fun hle => ?_)
      rw [Nat.testBit_lt_two_pow (Nat.lt_of_lt_of_le hs (Nat.pow_le_pow_right (by omega) hle))] at hb0
      cases hb0
    by_cases q2 : T 0 = 0
    · refine PR_v H hM (-1) (nI 8) ?_ ?_
      · rw [gX8_peaceBy N (d + 37), sX8_peaceBy_0 N (d + 37) _ hX]
        rw [c8_peaceStatus hX hT hw, if_neg q0, if_pos q, if_pos q2, cI_some, kX8_peaceBy_0 N (d + 37) _ hX, nc_ne (by omega) (by omega) (by omega)]
      · intro K hK
        rw [gX9_peaceBy N (d + 37), sX9_peaceBy_0 N (d + 37)]
        rw [if_neg q0, c9_arePeople (I := u2 (u2 K 135 1 (nI 0)) 135 0 (nI 0)) hK hw, cI_some, kX9_peaceBy_0 N (d + 37), nc_10, if_pos q, c9_peaceful (I := u2 (u2 K 135 1 (nI 0)) 135 0 (nI 0)) hK hw (by omega) hp0 hb0 (by omega), cI_some, kX9_peaceBy_1 N (d + 37), show orN (T 0) (pce T s) = 4294967295 from if_pos q2, nc_neg rfl]
    · have hb : pce T s (T 0 - 1) ≤ T 0 - 1 := bof_le _ _
      refine PR_v H hM (nI (lst T s (pce T s (T 0 - 1)))) (nI 0) ?_ ?_
      · rw [gX8_peaceBy N (d + 37), sX8_peaceBy_0 N (d + 37) _ hX]
        rw [c8_peaceStatus hX hT hw, if_neg q0, if_pos q, if_neg q2, cI_some, kX8_peaceBy_0 N (d + 37) _ hX, nc_eq rfl, c5_subjectOfPeace ht hT hw (by omega) (by omega), cI_some, kX8_peaceBy_1 N (d + 37) _ hX, c5_leastLike ht hT hw (by omega) (by omega), cI_some, kX8_peaceBy_2 N (d + 37) _ hX]
      · intro K hK
        rw [u2_same]
        rw [gX9_peaceBy N (d + 37), sX9_peaceBy_0 N (d + 37)]
        rw [if_neg q0, c9_arePeople (I := u2 (u2 K 135 1 (nI 0)) 135 0 (nI 0)) hK hw, cI_some, kX9_peaceBy_0 N (d + 37), nc_10, if_pos q, c9_peaceful (I := u2 (u2 K 135 1 (nI 0)) 135 0 (nI 0)) hK hw (by omega) hp0 hb0 (by omega), cI_some, kX9_peaceBy_1 N (d + 37), show orN (T 0) (pce T s) = pce T s (T 0 - 1) from if_neg q2, nc_nlt (by omega) (by omega), c9_leastLike (I := u2 (u2 K 135 1 (nI 0)) 135 0 (nI 0)) hK hw (by omega) (by omega), lsk_eq hw (by omega) hp0 hb0, cI_some, kX9_peaceBy_2 N (d + 37)]
  · refine PR_v H hM (-1) (nI 5) ?_ ?_
    · rw [gX8_peaceBy N (d + 37), sX8_peaceBy_0 N (d + 37) _ hX]
      rw [c8_peaceStatus hX hT hw, if_neg q0, if_neg q, cI_some, kX8_peaceBy_0 N (d + 37) _ hX, nc_ne (by omega) (by omega) (by omega)]
    · intro K hK
      rw [gX9_peaceBy N (d + 37), sX9_peaceBy_0 N (d + 37)]
      rw [if_neg q0, c9_arePeople (I := u2 (u2 K 135 1 (nI 0)) 135 0 (nI 0)) hK hw, cI_some, kX9_peaceBy_0 N (d + 37), nc_10, if_neg q]
