/-! the reference's hours; the pair hour -/
theorem joyA_1 (T : Nat → Nat) (p vs : Nat) : joyA T p vs 1 = joy T p (hAt T vs (T 5)) := by
  show 0 + joy T p (hAt T vs (T 5 + 0)) = _
  rw [Nat.zero_add, Nat.add_zero]
theorem lng_1 (T : Nat → Nat) (p : Nat) : sm (lng T p) 1 = if hAt T (vOf T p) (T 5) = 0 then 1 else 0 := by
  show 0 + lng T p 0 = _
  rw [Nat.zero_add]; unfold lng; rw [Nat.add_zero]
theorem hrT_succ {T : Nat → Nat} (hw : WF T) (hg : GB T) {m : Nat} (hm : T 5 + m ≤ 9999) : hrT (hrT T m) 1 = hrT T (m + 1) := by
  have h6 := hw.1.2.2.1
  have wm := WF_hr hw hg hm
  have ag := hrT_ag hw m
  have e2 : hrT T m 2 = T 2 := ag 2 (by omega) (by omega) (by omega)
  have e5 : hrT T m 5 = T 5 + m := by rw [hrT_at hw, if_pos rfl]
  funext j
  rw [hrT_at wm, hrT_at hw (m + 1), e2, e5]
  by_cases q : j = 5
  · rw [if_pos q, if_pos q]; omega
  · rw [if_neg q, if_neg q, hrT_at hw m j, if_neg q]
    by_cases r1 : 43 ≤ j ∧ j < 43 + T 2
    · rw [if_pos r1, if_pos r1, if_pos r1, joyA_1, e5, vOf_cg ag, hAt_cg hw ag, joy_cg ag, Nat.add_assoc]
      rfl
    · rw [if_neg r1, if_neg r1, if_neg r1]
      by_cases r2 : 49 ≤ j ∧ j < 49 + T 2
      · rw [if_pos r2, if_pos r2, if_pos r2, lng_1, e5, vOf_cg ag, hAt_cg hw ag, Nat.add_assoc]
        rfl
      · rw [if_neg r2, if_neg r2, if_neg r2]
theorem c9_goesHour {N d : Nat} {X : lt_X} {I : Nat → Nat → Int32} {J : Nat → Nat → Int64} {T : Nat → Nat} (hT : TM (I 140) T) (hw : WF T) (hg : GB T) (hn : T 5 + 1 ≤ 9999) (hN : 10000 ≤ N) : ∃ M, am_G am_prog (N + 30) (d + 5) 277 [.ref 135] (mkh X I J) = some (.int (nI (sm (fun p => joyA T p (vOf T p) 1) (T 2))), mkh X M J) ∧ FM I M ∧ TM (M 140) (hrT T 1) := by
  obtain ⟨h0, h1, h2, h3, h4, h5, h6⟩ := hw.1
  rw [gX9_goesHour N (d + 4), sX9_goesHour_0 N (d + 4)]
  have main : ∀ k q, q + k = T 2 → ∀ K, FM I K → TM (K 140) (hC T 1 q) → ∃ M, FM I M ∧ TM (M 140) (hrT T 1) ∧ ev (fun m => RX9_goesHour_4 N (d + 4) m X (nI (sm (fun p => joyA T p (vOf T p) 1) q)) (nI q) K J) (1 + k * 2) (some (.int (nI (sm (fun p => joyA T p (vOf T p) 1) (T 2))), mkh X M J)) := by
    intro k
    induction k with
    | zero =>
      intro q hq K f1 c1
      have e : q = T 2 := by omega
      subst e
      have e2 : hC T 1 (T 2) 2 = T 2 := hC_ag T 1 h2 2 (by omega) (by omega) (by omega)
      have wq : WF (hC T 1 (T 2)) := by
        refine WF_ag hw (hC_ag T 1 h2) (by rw [(hC_5 T 1 h2).1]; exact h5) (by rw [(hC_5 T 1 h2).2]; exact h6) (fun p hp => ?_)
        have g := hg p hp
        have a := joyA_le hw hp (vOf T p) 1
        have b := lng_le T p 1
        have e1 : hC T 1 (T 2) (43 + p) = T (43 + p) + joyA T p (vOf T p) 1 := by rw [hC_at T 1 _ h2, if_pos (show 43 ≤ 43 + p ∧ 43 + p < 43 + T 2 by omega), show 43 + p - 43 = p by omega]
        have e3 : hC T 1 (T 2) (49 + p) = T (49 + p) + sm (lng T p) 1 := by rw [hC_at T 1 _ h2, if_neg (show ¬ (43 ≤ 49 + p ∧ 49 + p < 43 + T 2) by omega), if_pos (show 49 ≤ 49 + p ∧ 49 + p < 49 + T 2 by omega), show 49 + p - 49 = p by omega]
        omega
      refine ⟨u2 K 140 5 (nI (T 5 + 1)), FM_u (by omega) f1, TM_up wq (by omega) (by omega) c1, ?_⟩
      refine ev_le (ev_0 (fun m => ?_)) (by omega)
      rw [sX9_goesHour_4 N (d + 4) m, tm2 c1, e2, tm5 c1, (hC_5 T 1 h2).1, nI_add, nc_nlt (by omega) (by omega)]
    | succ k ih =>
      intro q hq K f1 c1
      have q2 : q < T 2 := by omega
      have ag := hC_ag T 1 (show q ≤ 6 by omega)
      have eq2 : hC T 1 q 2 = T 2 := ag 2 (by omega) (by omega) (by omega)
      have eq5 : hC T 1 q 5 = T 5 := (hC_5 T 1 (by omega)).1
      have wC : WF (hC T 1 q) := by
        refine WF_ag hw ag (by rw [eq5]; exact h5) (by rw [(hC_5 T 1 (by omega)).2]; exact h6) (fun p hp => ?_)
        have g := hg p hp
        have a := joyA_le hw hp (vOf T p) 1
        have b := lng_le T p 1
        rw [hC_at T 1 _ (by omega), hC_at T 1 _ (by omega), if_neg (show ¬ (43 ≤ 49 + p ∧ 49 + p < 43 + q) by omega), show 43 + p - 43 = p by omega, show 49 + p - 49 = p by omega]
        constructor
        · split
          · omega
          · split <;> omega
        · split <;> omega
      have g43 : hC T 1 q (43 + q) = T (43 + q) := by rw [hC_at T 1 _ (by omega), if_neg (show ¬ (43 ≤ 43 + q ∧ 43 + q < 43 + q) by omega), if_neg (show ¬ (49 ≤ 43 + q ∧ 43 + q < 49 + q) by omega)]
      have g49 : hC T 1 q (49 + q) = T (49 + q) := by rw [hC_at T 1 _ (by omega), if_neg (show ¬ (43 ≤ 49 + q ∧ 49 + q < 43 + q) by omega), if_neg (show ¬ (49 ≤ 49 + q ∧ 49 + q < 49 + q) by omega)]
      have ga := joyA_le hw q2 (vOf T q) 1
      have gb := hg q q2
      have w2 : WF (up1 (hC T 1 q) (43 + q) (T (43 + q) + joyA T q (vOf T q) 1)) := by
        obtain ⟨y0, y1, y2, y3, -⟩ := wC.1
        exact WF_up wC (by omega) (by omega) (by omega) (by omega) (by omega) (by omega) (fun v hv => by omega) (fun p hp => by omega) (fun p s _ _ => by omega) (fun i hi => by omega)
      have t1 := TM_up wC (k := 43 + q) (x := T (43 + q) + joyA T q (vOf T q) 1) (by omega) (by omega) c1
      have t2 := TM_up w2 (k := 49 + q) (x := T (49 + q) + sm (lng T q) 1) (by omega) (by omega) t1
      have eC : up1 (up1 (hC T 1 q) (43 + q) (T (43 + q) + joyA T q (vOf T q) 1)) (49 + q) (T (49 + q) + sm (lng T q) 1) = hC T 1 (q + 1) := rfl
      rw [eC] at t2
      have ag3 := hC_ag T 1 (show q + 1 ≤ 6 by omega)
      have wC3 : WF (hC T 1 (q + 1)) := by
        obtain ⟨y0, y1, y2, y3, -⟩ := w2.1
        have b := lng_le T q 1
        exact WF_up w2 (by omega) (by omega) (by omega) (by omega) (by omega) (by omega) (fun v hv => by omega) (fun p hp => by omega) (fun p s _ _ => by omega) (fun i hi => by omega)
      obtain ⟨M, m1, m2, m3⟩ := ih (q + 1) (by omega) (u2 (u2 K 140 (43 + q) (nI (T (43 + q) + joyA T q (vOf T q) 1))) 140 (49 + q) (nI (T (49 + q) + sm (lng T q) 1))) (FM_u (by omega) (FM_u (by omega) f1)) t2
      refine ⟨M, m1, m2, ?_⟩
      have hl2 : hAt T (vOf T q) (T 5) < 2 ^ 31 := lt6 (hAt_lt hw _ _) (by omega)
      have es : sm (fun p => joyA T p (vOf T p) 1) (q + 1) = sm (fun p => joyA T p (vOf T p) 1) q + joyA T q (vOf T q) 1 := rfl
      have e63 : ∀ (n : Nat) (s0 s1 s2 : Int32) (K' : Nat → Nat → Int32) (x1 x2 x3 : Int32), am_run (am_G am_prog (N + 30) (d + 4 + 0)) eX9_goesHour uX9_goesHour n 63 [(0, .ref 135), (1, .int x1), (2, .int x2), (3, .int x3)] [.int s0, .int s1, .int s2, .ref 140] (mkh X K' J) = RX9_goesHour_63 N (d + 4) n X x1 x2 x3 s0 s1 s2 140 K' J := fun _ _ _ _ _ _ _ _ => rfl
      have b63 : ∀ (n : Nat) (s0 : Nat) (_ : s0 = sm (lng T q) 1), RX9_goesHour_63 N (d + 4) (n + 1) X (nI (sm (fun p => joyA T p (vOf T p) 1) q)) (nI q) (nI (hAt T (vOf T q) (T 5))) (nI s0) (nI (T (49 + q))) (nI (49 + q)) 140 (u2 K 140 (43 + q) (nI (T (43 + q) + joyA T q (vOf T q) 1))) J = RX9_goesHour_4 N (d + 4) n X (nI (sm (fun p => joyA T p (vOf T p) 1) (q + 1))) (nI (q + 1)) (u2 (u2 K 140 (43 + q) (nI (T (43 + q) + joyA T q (vOf T q) 1))) 140 (49 + q) (nI (T (49 + q) + sm (lng T q) 1))) J := by
        intro n s0 hs0
        subst hs0
        rw [sX9_goesHour_63 N (d + 4) n, q9_t140, nc_in (by omega) (by omega), nI_clamp (by omega), nI_add, c9_liked (I := u2 (u2 K 140 (43 + q) (nI (T (43 + q) + joyA T q (vOf T q) 1))) 140 (49 + q) (nI (T (49 + q) + sm (lng T q) 1))) t2 wC3 (by rw [ag3 2 (by omega) (by omega) (by omega)]; exact q2) hl2, joy_cg ag3, cI_some, nI_add, nI_add, es, joyA_1]
        rfl
      refine ev_le (ev_s (g := fun n => RX9_goesHour_63 N (d + 4) n X (nI (sm (fun p => joyA T p (vOf T p) 1) q)) (nI q) (nI (hAt T (vOf T q) (T 5))) (nI (sm (lng T q) 1)) (nI (T (49 + q))) (nI (49 + q)) 140 (u2 K 140 (43 + q) (nI (T (43 + q) + joyA T q (vOf T q) 1))) J) (fun n => ?_) (ev_s (fun n => b63 n _ rfl) m3)) (by omega)
      rw [sX9_goesHour_4 N (d + 4) n, tm2 c1, eq2, nc_lt (by omega) (by omega), tm5 c1, eq5, c9_heard c1 wC (by omega) (by omega), vOf_cg ag, hAt_cg hw ag, cI_some, kX9_goesHour_0 N (d + 4) n, nI_add, nc_in (by omega) (by omega), c9_liked c1 wC (by rw [eq2]; exact q2) hl2, joy_cg ag, cI_some, kX9_goesHour_1 N (d + 4) n, nc_in (by omega) (by omega), nI_add, nc_in (by omega) (by omega), nI_clamp (by omega), nI_clamp (by omega), tmG c1 q (by omega), g43, nI_add, e63, e63, ← joyA_1, lng_1]
      rw [show u2 K 140 (43 + q) (nI (T (43 + q) + joyA T q (vOf T q) 1)) 140 (49 + q) = nI (T (49 + q)) by rw [u2_nk _ _ _ _ _ (by omega), tmN c1 q (by omega), g49]]
      by_cases r0 : hAt T (vOf T q) (T 5) = 0
      · rw [nc_eq r0, if_pos r0]
      · rw [nc_ne r0 (by omega) (by omega), if_neg r0]
  obtain ⟨M, m1, m2, m3⟩ := main (T 2) 0 (by omega) I (FM_0 _) hT
  exact ⟨M, m3 (N + 29) (by omega), m1, m2⟩
/-- in hour i all are so much more glad -/
def gsum (T : Nat → Nat) (i : Nat) : Nat := sm (fun p => jag T p (vOf T p) i) (T 2)
theorem gsum_eq {T : Nat → Nat} (hw : WF T) (hg : GB T) {m : Nat} (hm : T 5 + m ≤ 9999) : sm (fun p => joyA (hrT T m) p (vOf (hrT T m) p) 1) (hrT T m 2) = gsum T m := by
  have ag := hrT_ag hw m
  have e5 : hrT T m 5 = T 5 + m := by rw [hrT_at hw, if_pos rfl]
  unfold gsum
  rw [ag 2 (by omega) (by omega) (by omega)]
  refine sm_congr _ (fun p hp => ?_)
  rw [joyA_1, e5, vOf_cg ag, hAt_cg hw ag, joy_cg ag]
  rfl
theorem gsum_all (T : Nat → Nat) (n : Nat) : sm (gsum T) n = sm (fun p => joyA T p (vOf T p) n) (T 2) := sm_comm (fun i p => jag T p (vOf T p) i) (T 2) n
theorem hrT_0 {T : Nat → Nat} (hw : WF T) : hrT T 0 = T := by
  funext j
  rw [hrT_at hw]
  by_cases q : j = 5
  · rw [if_pos q, q]; rfl
  · rw [if_neg q]
    split
    · rfl
    · split <;> rfl
theorem p_hour {xs : Nat → Int32} {N d : Nat} {X : lt_X} {I : Nat → Nat → Int32} {J : Nat → Nat → Int64} (H : INV xs X I J) (hN : 100000 ≤ N) (x : Int32) : PR xs N d X I J 131 278 [.int x] := by
  obtain ⟨T, hB, hw, hT, hM, hX, ht⟩ := INV_B H
  obtain ⟨h0, h1, h2, h3, h4, h5, h6⟩ := hw.1
  have hg := hB.2.2.2.2.2.2
  by_cases q : rng x 1 99 = true
  · obtain ⟨n, hn1, hn, rfl⟩ := rng_e q (by omega)
    have hh : ∀ dd : Nat, am_G am_prog (N + 30) (dd + 1) 78 [.ref X.2.1, .int (nI n)] (mkh X I J) = if 9999 < T 5 + n then some (.int (nI 0), (mkh X I J)) else some (.int (nI 1), (mkh X I J)) := by
      intro dd
      rw [gX5_hasHours N dd ht, sX5_hasHours_0 N dd _ ht, tcH hT, nI_add]
      by_cases r : 9999 < T 5 + n
      · rw [nc_lt r (by omega), if_pos r]
      · rw [nc_nlt (by omega) (by omega), if_neg r]
    by_cases q2 : 9999 < T 5 + n
    · refine PR_v H hM (-1) (nI 7) ?_ (fun K hK => ?_)
      · rw [gX8_hour N (d + 38), sX8_hour_0 N (d + 38) _ hX]
        rw [rng_c (by omega) (by omega), if_pos q, hh (d + 38), if_pos q2, cI_some, kX8_hour_0 N (d + 38) _ hX, nc_eq rfl]
      · rw [gX9_hour N (d + 38), sX9_hour_0 N (d + 38)]
        rw [c9_in (by omega) (by omega), cI_some, kX9_hour_0 N (d + 38), nc_10, if_pos q, tm5 (c := u2 (u2 K 135 1 (nI 0)) 135 0 (nI 0) 140) hK, nI_add, nc_lt q2 (by omega)]
    · obtain ⟨K1, e1, f1, g1⟩ := c5_passHours (N := N) (d := d + 36) (X := X) (J := J) ht hT hw hg (n := n) (by omega) hn (by omega)
      refine PR_here (U := hrT T n) (K := K1) H hB (hrT_big hw n) (WF_hr hw hg (by omega)) (GB_hr hw hg n) (.int (nI (sm (fun p => joyA T p (vOf T p) n) (T 2)))) ?_ f1 g1 (fun L hL => ?_)
      · rw [gX8_hour N (d + 38), sX8_hour_0 N (d + 38) _ hX]
        rw [rng_c (by omega) (by omega), if_pos q, hh (d + 38), if_neg q2, cI_some, kX8_hour_0 N (d + 38) _ hX, nc_ne (by omega) (by omega) (by omega), e1, cI_some, kX8_hour_1 N (d + 38) _ hX]
      · have hK : TM (L 140) T := by rw [hL 140 (by omega)]; exact hM
        have main : ∀ k m, m + k = n → ∀ K, FM (u2 (u2 L 135 1 (nI 0)) 135 0 (nI 0)) K → TM (K 140) (hrT T m) → ∃ M, FM (u2 (u2 L 135 1 (nI 0)) 135 0 (nI 0)) M ∧ TM (M 140) (hrT T n) ∧ ev (fun z => RX9_hour_53 N (d + 38) z X (nI n) (nI (sm (gsum T) m)) (nI m) K J) (1 + k) (some (.int (nI (sm (gsum T) n)), mkh X M J)) := by
          intro k
          induction k with
          | zero =>
            intro m hm K f2 c2
            have e : m = n := by omega
            subst e
            refine ⟨K, f2, c2, ev_0 (fun z => ?_)⟩
            rw [sX9_hour_53 N (d + 38) z, nc_nlt (by omega) (by omega)]
          | succ k ih =>
            intro m hm K f2 c2
            have wm := WF_hr hw hg (n := m) (by omega)
            have e5 : hrT T m 5 = T 5 + m := by rw [hrT_at hw, if_pos rfl]
            obtain ⟨M, e2, f3, c3⟩ := c9_goesHour (N := N) (d := d + 34) (X := X) (J := J) (I := K) c2 wm (GB_hr hw hg m) (by rw [e5]; omega) (by omega)
            rw [hrT_succ hw hg (by omega)] at c3
            rw [gsum_eq hw hg (by omega)] at e2
            obtain ⟨M2, a1, a2, a3⟩ := ih (m + 1) (by omega) M (FM_t f2 f3) c3
            refine ⟨M2, a1, a2, ev_le (ev_s (fun z => ?_) a3) (by omega)⟩
            rw [sX9_hour_53 N (d + 38) z, nc_lt (by omega) (by omega), e2, cI_some, kX9_hour_1 N (d + 38) z, nI_add, nI_add]
            rfl
        obtain ⟨M, a1, a2, a3⟩ := main n 0 (by omega) (u2 (u2 L 135 1 (nI 0)) 135 0 (nI 0)) (FM_0 _) (by rw [hrT_0 hw]; exact hK)
        refine ⟨M, ?_, a1, a2⟩
        rw [gX9_hour N (d + 38), sX9_hour_0 N (d + 38)]
        rw [c9_in (by omega) (by omega), cI_some, kX9_hour_0 N (d + 38), nc_10, if_pos q, tm5 (c := u2 (u2 L 135 1 (nI 0)) 135 0 (nI 0) 140) hK, nI_add, nc_nlt (by omega) (by omega), ← gsum_all]
        exact a3 (N + 29) (by omega)
  · refine PR_v H hM (-1) (nI 5) ?_ (fun K hK => ?_)
    · rw [gX8_hour N (d + 38), sX8_hour_0 N (d + 38) _ hX]
      rw [rng_c (by omega) (by omega), if_neg q]
    · rw [gX9_hour N (d + 38), sX9_hour_0 N (d + 38)]
      rw [c9_in (by omega) (by omega), cI_some, kX9_hour_0 N (d + 38), nc_10, if_neg q]
