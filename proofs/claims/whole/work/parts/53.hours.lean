/-! hours -/
/-- the same but for hour, year, glad, lonely -/
def agH (T U : Nat → Nat) : Prop := ∀ j, j ≠ 5 → j ≠ 6 → (j < 43 ∨ 55 ≤ j) → U j = T j
theorem vOf_cg {T U : Nat → Nat} (h : agH T U) (p : Nat) : vOf U p = vOf T p := by
  unfold vOf
  rw [h 3 (by omega) (by omega) (by omega)]
  refine orf_congr _ (fun k _ => ?_)
  unfold vOg vIn
  rw [h (67 + k) (by omega) (by omega) (by omega), h (61 + k) (by omega) (by omega) (by omega), h (55 + k) (by omega) (by omega) (by omega)]
theorem hAt_cg {T U : Nat → Nat} (hw : WF T) (h : agH T U) (vs x : Nat) : hAt U vs x = hAt T vs x := by
  have h1 := hw.1.2.1
  unfold hAt
  rw [h 1 (by omega) (by omega) (by omega)]
  refine orf_congr _ (fun v hv => ?_)
  unfold hAg able plc
  rw [h (25 + v) (by omega) (by omega) (by omega), h (31 + v) (by omega) (by omega) (by omega), h (19 + v) (by omega) (by omega) (by omega), h (73 + 8 * v + x % T (19 + v)) (by omega) (by omega) (by omega)]
theorem joy_cg {T U : Nat → Nat} (h : agH T U) (p ss : Nat) : joy U p ss = joy T p ss := by
  unfold joy
  rw [h 0 (by omega) (by omega) (by omega)]
  refine sm_congr _ (fun s _ => ?_)
  unfold jyg
  rw [h (121 + 6 * p + s) (by omega) (by omega) (by omega)]
def lng (T : Nat → Nat) (p i : Nat) : Nat := if hAt T (vOf T p) (T 5 + i) = 0 then 1 else 0
theorem lng_le (T : Nat → Nat) (p n : Nat) : sm (lng T p) n ≤ n := by
  have := sm_le (g := lng T p) (b := 1) n (fun i _ => by unfold lng; split <;> omega)
  omega
/-- persons below q have had n hours -/
def hC (T : Nat → Nat) (n : Nat) : Nat → Nat → Nat
  | 0 => T
  | q + 1 => up1 (up1 (hC T n q) (43 + q) (T (43 + q) + joyA T q (vOf T q) n)) (49 + q) (T (49 + q) + sm (lng T q) n)
theorem hC_at (T : Nat → Nat) (n : Nat) : ∀ q, q ≤ 6 → ∀ j, hC T n q j = if 43 ≤ j ∧ j < 43 + q then T j + joyA T (j - 43) (vOf T (j - 43)) n else if 49 ≤ j ∧ j < 49 + q then T j + sm (lng T (j - 49)) n else T j := by
  intro q
  induction q with
  | zero => intro _ j; rw [if_neg (by omega), if_neg (by omega)]; rfl
  | succ q ih =>
    intro hq j
    simp only [hC]
    by_cases q1 : j = 49 + q
    · rw [q1, up1_at, if_neg (by omega), if_pos (by omega), show 49 + q - 49 = q by omega]
    · rw [up1_ne q1]
      by_cases q2 : j = 43 + q
      · rw [q2, up1_at, if_pos (by omega), show 43 + q - 43 = q by omega]
      · rw [up1_ne q2, ih (by omega) j]
        have hA : (43 ≤ j ∧ j < 43 + (q + 1)) ↔ (43 ≤ j ∧ j < 43 + q) := by omega
        have hB : (49 ≤ j ∧ j < 49 + (q + 1)) ↔ (49 ≤ j ∧ j < 49 + q) := by omega
        simp only [hA, hB]
def hrT (T : Nat → Nat) (n : Nat) : Nat → Nat := up1 (hC T n (T 2)) 5 (T 5 + n)
theorem hC_ag (T : Nat → Nat) (n : Nat) {q : Nat} (hq : q ≤ 6) : agH T (hC T n q) := by
  intro j h1 h2 h3
  rw [hC_at T n q hq, if_neg (by omega), if_neg (by omega)]
theorem hC_5 (T : Nat → Nat) (n : Nat) {q : Nat} (hq : q ≤ 6) : hC T n q 5 = T 5 ∧ hC T n q 6 = T 6 := by
  rw [hC_at T n q hq, hC_at T n q hq, if_neg (by omega), if_neg (by omega), if_neg (by omega), if_neg (by omega)]
  exact ⟨rfl, rfl⟩
theorem hrT_at {T : Nat → Nat} (hw : WF T) (n j : Nat) : hrT T n j = if j = 5 then T 5 + n else if 43 ≤ j ∧ j < 43 + T 2 then T j + joyA T (j - 43) (vOf T (j - 43)) n else if 49 ≤ j ∧ j < 49 + T 2 then T j + sm (lng T (j - 49)) n else T j := by
  unfold hrT
  by_cases q : j = 5
  · rw [q, up1_at, if_pos rfl]
  · rw [up1_ne q, if_neg q, hC_at T n (T 2) hw.1.2.2.1]
theorem hrT_ag {T : Nat → Nat} (hw : WF T) (n : Nat) : agH T (hrT T n) := by
  intro j h1 h2 h3
  have h6 := hw.1.2.2.1
  rw [hrT_at hw, if_neg h1, if_neg (by omega), if_neg (by omega)]
theorem hrT_big {T : Nat → Nat} (hw : WF T) (n : Nat) : ∀ j, j < 4 ∨ 157 ≤ j → hrT T n j = T j := fun j hj => hrT_ag hw n j (by omega) (by omega) (by omega)
/-- bounds but for the hour's own: x where hours up to m have gone -/
theorem WF_ag {T U : Nat → Nat} (hw : WF T) (h : agH T U) (h5 : U 5 ≤ 9999) (h6 : U 6 ≤ 999) (hp : ∀ p, p < T 2 → U (43 + p) ≤ 600000 ∧ U (49 + p) ≤ 20000) : WF U := by
  obtain ⟨⟨w0, w1, w2, w3, w4, w5, w6⟩, wv, wr, wp, wl, ws⟩ := hw
  have e0 := h 0 (by omega) (by omega) (by omega); have e1 := h 1 (by omega) (by omega) (by omega); have e2 := h 2 (by omega) (by omega) (by omega); have e3 := h 3 (by omega) (by omega) (by omega)
  refine ⟨⟨by omega, by omega, by omega, by omega, by rw [h 4 (by omega) (by omega) (by omega)]; exact w4, h5, h6⟩, fun v hv => ?_, fun v k hv hk => ?_, fun p hp1 => ?_, fun p s hp1 hs => ?_, fun k hk => ?_⟩
  · rw [e1] at hv
    rw [h (7 + v) (by omega) (by omega) (by omega), h (13 + v) (by omega) (by omega) (by omega), h (19 + v) (by omega) (by omega) (by omega), h (25 + v) (by omega) (by omega) (by omega), h (31 + v) (by omega) (by omega) (by omega)]
    exact wv v hv
  · rw [e1] at hv
    rw [h (19 + v) (by omega) (by omega) (by omega)] at hk
    rw [e0, h _ (by omega) (by omega) (by omega)]; exact wr v k hv hk
  · rw [e2] at hp1
    rw [h (37 + p) (by omega) (by omega) (by omega)]
    exact ⟨(wp p hp1).1, hp p hp1⟩
  · rw [e2] at hp1
    rw [h _ (by omega) (by omega) (by omega)]; exact wl p s hp1 hs
  · rw [e3] at hk
    rw [e1, e2, h _ (by omega) (by omega) (by omega), h _ (by omega) (by omega) (by omega), h _ (by omega) (by omega) (by omega)]; exact ws k hk
theorem GB_hr {T : Nat → Nat} (hw : WF T) (hg : GB T) (n : Nat) : GB (hrT T n) := by
  intro p hp
  have h6 := hw.1.2.2.1
  rw [hrT_big hw n 2 (by omega)] at hp
  have g := hg p hp
  have a := joyA_le hw hp (vOf T p) n
  have b := lng_le T p n
  have e1 : hrT T n (43 + p) = T (43 + p) + joyA T p (vOf T p) n := by rw [hrT_at hw, if_neg (show ¬ 43 + p = 5 by omega), if_pos (show 43 ≤ 43 + p ∧ 43 + p < 43 + T 2 by omega), show 43 + p - 43 = p by omega]
  have e2 : hrT T n (49 + p) = T (49 + p) + sm (lng T p) n := by rw [hrT_at hw, if_neg (show ¬ 49 + p = 5 by omega), if_neg (show ¬ (43 ≤ 49 + p ∧ 49 + p < 43 + T 2) by omega), if_pos (show 49 ≤ 49 + p ∧ 49 + p < 49 + T 2 by omega), show 49 + p - 49 = p by omega]
  have e5 : hrT T n 5 = T 5 + n := by rw [hrT_at hw, if_pos rfl]
  omega
theorem WF_hr {T : Nat → Nat} (hw : WF T) (hg : GB T) {n : Nat} (hn : T 5 + n ≤ 9999) : WF (hrT T n) := by
  have h6 := hw.1.2.2.1
  refine WF_ag hw (hrT_ag hw n) ?_ ?_ (fun p hp => ?_)
  · rw [hrT_at hw, if_pos rfl]; exact hn
  · rw [hrT_at hw, if_neg (by omega), if_neg (by omega), if_neg (by omega)]; exact hw.1.2.2.2.2.2.2
  · have g := GB_hr hw hg n p (by rw [hrT_big hw n 2 (by omega)]; exact hp)
    have e5 : hrT T n 5 = T 5 + n := by rw [hrT_at hw, if_pos rfl]
    omega
/-- within the class's loops: person q has had i of n hours -/
def hD (T : Nat → Nat) (n q i : Nat) : Nat → Nat := up1 (up1 (hC T n q) (43 + q) (T (43 + q) + sm (jag T q (vOf T q)) i)) (49 + q) (T (49 + q) + sm (lng T q) i)
theorem hD_ag (T : Nat → Nat) (n i : Nat) {q : Nat} (hq : q < 6) : agH T (hD T n q i) := by
  intro j h1 h2 h3
  unfold hD
  rw [up1_ne (by omega), up1_ne (by omega)]
  exact hC_ag T n (by omega) j h1 h2 h3
theorem WF_hD {T : Nat → Nat} (hw : WF T) (hg : GB T) {n q i : Nat} (hn : T 5 + n ≤ 9999) (hq : q < T 2) (hi : i ≤ n) : WF (hD T n q i) := by
  obtain ⟨h0, h1, h2, h3, h4, h5, h6⟩ := hw.1
  refine WF_ag hw (hD_ag T n i (by omega)) ?_ ?_ (fun p hp => ?_)
  · unfold hD; rw [up1_ne (by omega), up1_ne (by omega), (hC_5 T n (by omega)).1]; exact h5
  · unfold hD; rw [up1_ne (by omega), up1_ne (by omega), (hC_5 T n (by omega)).2]; exact h6
  · have g := hg p hp
    have a := joyA_le hw hp (vOf T p) n
    have b := lng_le T p n
    have a' := sm_le (g := jag T p (vOf T p)) (b := 54) i (fun j _ => joy_le hw hp _)
    have b' := lng_le T p i
    unfold hD
    by_cases q1 : p = q
    · subst q1
      rw [up1_ne (by omega), up1_at, up1_at]; omega
    · rw [up1_ne (by omega), up1_ne (by omega), up1_ne (by omega), up1_ne (by omega), hC_at T n q (by omega), hC_at T n q (by omega), if_neg (show ¬ (43 ≤ 49 + p ∧ 49 + p < 43 + q) by omega), show 43 + p - 43 = p by omega, show 49 + p - 49 = p by omega]
      constructor
      · split
        · omega
        · split <;> omega
      · split <;> omega
theorem c5_passHours {N d : Nat} {X : lt_X} {I : Nat → Nat → Int32} {J : Nat → Nat → Int64} {t : Nat} {T : Nat → Nat} (ht : isT t) (hT : TC I t T) (hw : WF T) (hg : GB T) {n : Nat} (hn : T 5 + n ≤ 9999) (hn99 : n ≤ 99) (hN : 10000 ≤ N) : ∃ K, am_G am_prog (N + 30) (d + 3) 80 [.ref t, .int (nI n)] (mkh X I J) = some (.int (nI (sm (fun p => joyA T p (vOf T p) n) (T 2))), mkh X K J) ∧ FC t I K ∧ TC K t (hrT T n) := by
  obtain ⟨h0, h1, h2, h3, h4, h5, h6⟩ := hw.1
  rw [gX5_passHours N (d + 2) ht, sX5_passHours_0 N (d + 2) _ ht]
  -- the outer loop, persons from q on
  have main : ∀ k q, q + k = T 2 → ∀ K, FC t I K → TC K t (hC T n q) → ∃ M, FC t I M ∧ TC M t (hrT T n) ∧ ev (fun m => RX5_passHours_4 N (d + 2) m X t (nI n) (nI (sm (fun p => joyA T p (vOf T p) n) q)) (nI q) K J) (1 + k * 120) (some (.int (nI (sm (fun p => joyA T p (vOf T p) n) (T 2))), mkh X M J)) := by
    intro k
    induction k with
    | zero =>
      intro q hq K f1 c1
      have e : q = T 2 := by omega
      subst e
      have e2 : hC T n (T 2) 2 = T 2 := hC_ag T n h2 2 (by omega) (by omega) (by omega)
      have wq : WF (hC T n (T 2)) := by
        refine WF_ag hw (hC_ag T n h2) (by rw [(hC_5 T n h2).1]; exact h5) (by rw [(hC_5 T n h2).2]; exact h6) (fun p hp => ?_)
        have g := hg p hp
        have a := joyA_le hw hp (vOf T p) n
        have b := lng_le T p n
        rw [hC_at T n _ h2, hC_at T n _ h2, if_pos (by omega), if_neg (by omega), if_pos (by omega), show 43 + p - 43 = p by omega, show 49 + p - 49 = p by omega]
        omega
      refine ⟨u2 K t 3 (nI (T 5 + n)), FC_u (by omega) (by omega) f1, TC_hour wq c1, ?_⟩
      refine ev_le (ev_0 (fun m => ?_)) (by omega)
      rw [sX5_passHours_4 N (d + 2) m ht, tc2 c1, e2, tcH c1, (hC_5 T n h2).1, nI_add, nc_nlt (by omega) (by omega)]
    | succ k ih =>
      intro q hq K f1 c1
      have q2 : q < T 2 := by omega
      have eq2 : hC T n q 2 = T 2 := hC_ag T n (by omega) 2 (by omega) (by omega) (by omega)
      -- the inner loop
      have inner : ∀ r i, i + r = n → ∀ K, FC t I K → TC K t (hD T n q i) → ∃ M, FC t I M ∧ TC M t (hrT T n) ∧ ev (fun m => RX5_passHours_24 N (d + 2) m X t (nI n) (nI (sm (fun p => joyA T p (vOf T p) n) q + sm (jag T q (vOf T q)) i)) (nI q) (nI (vOf T q)) (nI i) K J) (1 + k * 120 + 1 + r) (some (.int (nI (sm (fun p => joyA T p (vOf T p) n) (T 2))), mkh X M J)) := by
        intro r
        induction r with
        | zero =>
          intro i hi K f1 c1
          have e : i = n := by omega
          subst e
          obtain ⟨M, m1, m2, m3⟩ := ih (q + 1) (by omega) K f1 c1
          refine ⟨M, m1, m2, ev_s (fun m => ?_) m3⟩
          rw [sX5_passHours_24 N (d + 2) m ht, nc_nlt (by omega) (by omega), nI_add]
          rfl
        | succ r ihr =>
          intro i hi K f1 c1
          have wD := WF_hD hw hg hn q2 (show i ≤ n by omega)
          have ag := hD_ag T n i (q := q) (by omega)
          have e5 : hD T n q i 5 = T 5 := by unfold hD; rw [up1_ne (by omega), up1_ne (by omega), (hC_5 T n (by omega)).1]
          have e2 : hD T n q i 2 = T 2 := ag 2 (by omega) (by omega) (by omega)
          have hl : vOf T q < 2 ^ 31 := lt6 (vOf_lt hw q) (by omega)
          have hl2 : hAt T (vOf T q) (T 5 + i) < 2 ^ 31 := lt6 (hAt_lt hw _ _) (by omega)
          have eA : hAt (hD T n q i) (vOf T q) (T 5 + i) = hAt T (vOf T q) (T 5 + i) := hAt_cg hw ag _ _
          have eJ : joy (hD T n q i) q (hAt T (vOf T q) (T 5 + i)) = joy T q (hAt T (vOf T q) (T 5 + i)) := joy_cg ag _ _
          have eg : sm (jag T q (vOf T q)) (i + 1) = sm (jag T q (vOf T q)) i + joy T q (hAt T (vOf T q) (T 5 + i)) := rfl
          have g43 : hD T n q i (43 + q) = T (43 + q) + sm (jag T q (vOf T q)) i := by unfold hD; rw [up1_ne (by omega), up1_at]
          have g49 : hD T n q i (49 + q) = T (49 + q) + sm (lng T q) i := by unfold hD; rw [up1_at]
          have t1 := TC_glad wD (j := q) (x := T (43 + q) + sm (jag T q (vOf T q)) (i + 1)) (by rw [e2]; exact q2) c1
          have hstep : ∀ m K', (hAt T (vOf T q) (T 5 + i) = 0 → K' = u2 (u2 K (t + 8) q (nI (T (43 + q) + sm (jag T q (vOf T q)) (i + 1)))) (t + 9) q (nI (T (49 + q) + sm (lng T q) (i + 1)))) → (hAt T (vOf T q) (T 5 + i) ≠ 0 → K' = u2 K (t + 8) q (nI (T (43 + q) + sm (jag T q (vOf T q)) (i + 1)))) → RX5_passHours_24 N (d + 2) (m + 1) X t (nI n) (nI (sm (fun p => joyA T p (vOf T p) n) q + sm (jag T q (vOf T q)) i)) (nI q) (nI (vOf T q)) (nI i) K J = RX5_passHours_24 N (d + 2) m X t (nI n) (nI (sm (fun p => joyA T p (vOf T p) n) q + sm (jag T q (vOf T q)) (i + 1))) (nI q) (nI (vOf T q)) (nI (i + 1)) K' J := by
            intro m K' k1 k2
            rw [sX5_passHours_24 N (d + 2) m ht, nc_lt (by omega) (by omega), tcH c1, e5, nI_add, c5_heardAt ht c1 wD hl (by omega), eA, cI_some, kX5_passHours_1 N (d + 2) m ht, c5_joyBy ht c1 wD (by rw [e2]; exact q2) hl2, eJ, cI_some, kX5_passHours_2 N (d + 2) m ht]
            have z1 : ∀ w, u2 K (t + 8) q w (t + 9) q = K (t + 9) q := fun w => by rw [u2_na _ _ _ _ _ (by omega)]
            by_cases r0 : hAt T (vOf T q) (T 5 + i) = 0
            · rw [k1 r0]
              have el : sm (lng T q) (i + 1) = sm (lng T q) i + 1 := by simp only [sm, lng, if_pos r0]
              simp (disch := first | assumption | omega) only [nI_add, pk_mul, nI_clamp, nc_in, nc_lt, nc_nlt, cI_some, cV_some, nc_eq r0, tcG c1 q (by omega), tcN c1 q (by omega), g43, g49, eg, el, z1, Nat.add_assoc]
            · rw [k2 r0]
              simp (disch := first | assumption | omega) only [nI_add, pk_mul, nI_clamp, nc_in, nc_lt, nc_nlt, cI_some, cV_some, nc_ne r0, tcG c1 q (by omega), g43, eg, Nat.add_assoc]
          by_cases r0 : hAt T (vOf T q) (T 5 + i) = 0
          · have w2 : WF (up1 (hD T n q i) (43 + q) (T (43 + q) + sm (jag T q (vOf T q)) (i + 1))) := by
              have a' := sm_le (g := jag T q (vOf T q)) (b := 54) (i + 1) (fun j _ => joy_le hw q2 _)
              have g := hg q q2
              obtain ⟨y0, y1, y2, y3, -⟩ := wD.1
              refine WF_up wD (by omega) (by omega) (by omega) (by omega) (by omega) (by omega) (fun v hv => by omega) (fun p hp => by omega) (fun p s _ _ => by omega) (fun i hi => by omega)
            have t2 := TC_lonely w2 (j := q) (x := T (49 + q) + sm (lng T q) (i + 1)) (by rw [up1_ne (by omega), e2]; exact q2) t1
            have ed : up1 (up1 (hD T n q i) (43 + q) (T (43 + q) + sm (jag T q (vOf T q)) (i + 1))) (49 + q) (T (49 + q) + sm (lng T q) (i + 1)) = hD T n q (i + 1) := by
              funext j
              unfold hD
              by_cases r1 : j = 49 + q
              · rw [r1, up1_at, up1_at]
              · rw [up1_ne r1, up1_ne r1]
                by_cases r2 : j = 43 + q
                · rw [r2, up1_at, up1_at]
                · rw [up1_ne r2, up1_ne r2, up1_ne r1, up1_ne r2]
            rw [ed] at t2
            obtain ⟨M, m1, m2, m3⟩ := ihr (i + 1) (by omega) _ (FC_u (by omega) (by omega) (FC_u (by omega) (by omega) f1)) t2
            exact ⟨M, m1, m2, ev_le (ev_s (fun m => hstep m _ (fun _ => rfl) (fun h => absurd r0 h)) m3) (by omega)⟩
          · have el : sm (lng T q) (i + 1) = sm (lng T q) i := by simp only [sm, lng, if_neg r0, Nat.add_zero]
            have ed : up1 (hD T n q i) (43 + q) (T (43 + q) + sm (jag T q (vOf T q)) (i + 1)) = hD T n q (i + 1) := by
              funext j
              unfold hD
              rw [el]
              by_cases r2 : j = 43 + q
              · rw [r2, up1_at, up1_ne (by omega), up1_at]
              · rw [up1_ne r2]
                by_cases r1 : j = 49 + q
                · rw [r1, up1_at, up1_at]
                · rw [up1_ne r1, up1_ne r1, up1_ne r2, up1_ne r2]
            rw [ed] at t1
            obtain ⟨M, m1, m2, m3⟩ := ihr (i + 1) (by omega) _ (FC_u (by omega) (by omega) f1) t1
            exact ⟨M, m1, m2, ev_le (ev_s (fun m => hstep m _ (fun h => absurd h r0) (fun _ => rfl)) m3) (by omega)⟩
      have wC : WF (hC T n q) := by
        refine WF_ag hw (hC_ag T n (by omega)) (by rw [(hC_5 T n (by omega)).1]; exact h5) (by rw [(hC_5 T n (by omega)).2]; exact h6) (fun p hp => ?_)
        have g := hg p hp
        have a := joyA_le hw hp (vOf T p) n
        have b := lng_le T p n
        rw [hC_at T n _ (by omega), hC_at T n _ (by omega), if_neg (show ¬ (43 ≤ 49 + p ∧ 49 + p < 43 + q) by omega), show 43 + p - 43 = p by omega, show 49 + p - 49 = p by omega]
        constructor
        · split
          · omega
          · split <;> omega
        · split <;> omega
      have ed : hD T n q 0 = hC T n q := by
        funext j
        unfold hD
        by_cases r1 : j = 49 + q
        · rw [r1, up1_at, hC_at T n _ (by omega), if_neg (by omega), if_neg (by omega)]; rfl
        · rw [up1_ne r1]
          by_cases r2 : j = 43 + q
          · rw [r2, up1_at, hC_at T n _ (by omega), if_neg (by omega), if_neg (by omega)]; rfl
          · rw [up1_ne r2]
      obtain ⟨M, m1, m2, m3⟩ := inner n 0 (by omega) K f1 (by rw [ed]; exact c1)
      refine ⟨M, m1, m2, ev_le (ev_s (fun m => ?_) m3) (by omega)⟩
      rw [sX5_passHours_4 N (d + 2) m ht, tc2 c1, eq2, nc_lt (by omega) (by omega), c5_voicesOf ht c1 wC (by omega), vOf_cg (hC_ag T n (by omega)), cI_some, kX5_passHours_0 N (d + 2) m ht]
      rfl
  obtain ⟨M, m1, m2, m3⟩ := main (T 2) 0 (by omega) I (FC_0 _ _) hT
  exact ⟨M, m3 (N + 29) (by omega), m1, m2⟩
