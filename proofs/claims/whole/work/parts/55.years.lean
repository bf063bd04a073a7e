/-! years -/
/-- voices below q are a year older -/
def yC (T : Nat → Nat) : Nat → Nat → Nat
  | 0 => T
  | q + 1 => if T (25 + q) = 1 then (if T (13 + q) ≤ T (7 + q) + 1 then up1 (up1 (yC T q) (7 + q) (T (7 + q) + 1)) (25 + q) 0 else up1 (yC T q) (7 + q) (T (7 + q) + 1)) else yC T q
theorem yC_at (T : Nat → Nat) : ∀ q, q ≤ 6 → ∀ j, yC T q j = if 7 ≤ j ∧ j < 7 + q ∧ T (25 + (j - 7)) = 1 then T j + 1 else if 25 ≤ j ∧ j < 25 + q ∧ T j = 1 ∧ T (13 + (j - 25)) ≤ T (7 + (j - 25)) + 1 then 0 else T j := by
  intro q
  induction q with
  | zero => intro _ j; rw [if_neg (by omega), if_neg (by omega)]; rfl
  | succ q ih =>
    intro hq j
    simp only [yC]
    by_cases a : T (25 + q) = 1
    · rw [if_pos a]
      by_cases b : T (13 + q) ≤ T (7 + q) + 1
      · rw [if_pos b]
        by_cases r1 : j = 25 + q
        · subst r1
          rw [up1_at, if_neg (by omega), if_pos]
          rw [show 25 + q - 25 = q by omega]; exact ⟨by omega, by omega, a, b⟩
        · rw [up1_ne r1]
          by_cases r2 : j = 7 + q
          · subst r2
            rw [up1_at, if_pos]
            rw [show 7 + q - 7 = q by omega]; exact ⟨by omega, by omega, a⟩
          · rw [up1_ne r2, ih (by omega) j]
            have hA : (7 ≤ j ∧ j < 7 + (q + 1) ∧ T (25 + (j - 7)) = 1) ↔ (7 ≤ j ∧ j < 7 + q ∧ T (25 + (j - 7)) = 1) := by omega
            have hB : (25 ≤ j ∧ j < 25 + (q + 1) ∧ T j = 1 ∧ T (13 + (j - 25)) ≤ T (7 + (j - 25)) + 1) ↔ (25 ≤ j ∧ j < 25 + q ∧ T j = 1 ∧ T (13 + (j - 25)) ≤ T (7 + (j - 25)) + 1) := by omega
            simp only [hA, hB]
      · rw [if_neg b]
        by_cases r2 : j = 7 + q
        · subst r2
          rw [up1_at, if_pos]
          rw [show 7 + q - 7 = q by omega]; exact ⟨by omega, by omega, a⟩
        · rw [up1_ne r2, ih (by omega) j]
          have hA : (7 ≤ j ∧ j < 7 + (q + 1) ∧ T (25 + (j - 7)) = 1) ↔ (7 ≤ j ∧ j < 7 + q ∧ T (25 + (j - 7)) = 1) := by omega
          have hB : (25 ≤ j ∧ j < 25 + (q + 1) ∧ T j = 1 ∧ T (13 + (j - 25)) ≤ T (7 + (j - 25)) + 1) ↔ (25 ≤ j ∧ j < 25 + q ∧ T j = 1 ∧ T (13 + (j - 25)) ≤ T (7 + (j - 25)) + 1) := by
            by_cases r3 : j = 25 + q
            · subst r3; rw [show 25 + q - 25 = q by omega]; omega
            · omega
          simp only [hA, hB]
    · rw [if_neg a, ih (by omega) j]
      have hA : (7 ≤ j ∧ j < 7 + (q + 1) ∧ T (25 + (j - 7)) = 1) ↔ (7 ≤ j ∧ j < 7 + q ∧ T (25 + (j - 7)) = 1) := by
        by_cases r3 : j = 7 + q
        · subst r3; rw [show 7 + q - 7 = q by omega]; omega
        · omega
      have hB : (25 ≤ j ∧ j < 25 + (q + 1) ∧ T j = 1 ∧ T (13 + (j - 25)) ≤ T (7 + (j - 25)) + 1) ↔ (25 ≤ j ∧ j < 25 + q ∧ T j = 1 ∧ T (13 + (j - 25)) ≤ T (7 + (j - 25)) + 1) := by
        by_cases r3 : j = 25 + q
        · subst r3; omega
        · omega
      simp only [hA, hB]
/-- a year goes by, but for its number -/
def yr1 (T : Nat → Nat) : Nat → Nat := yC T (T 1)
def yrI (T : Nat → Nat) : Nat → Nat → Nat
  | 0 => T
  | n + 1 => yr1 (yrI T n)
def yrT (T : Nat → Nat) (n : Nat) : Nat → Nat := up1 (yrI T n) 6 (T 6 + n)
theorem yC_ag (T : Nat → Nat) {q : Nat} (hq : q ≤ 6) (j : Nat) (h : j < 7 ∨ 13 ≤ j) (h2 : j < 25 ∨ 31 ≤ j) : yC T q j = T j := by
  rw [yC_at T q hq, if_neg (by omega), if_neg (by omega)]
theorem WF_yC {T : Nat → Nat} (hw : WF T) {q : Nat} (hq : q ≤ T 1) : WF (yC T q) := by
  obtain ⟨⟨h0, h1, h2, h3, h4, h5, h6⟩, wv, wr, wp, wl, ws⟩ := hw
  have g : ∀ j, (j < 7 ∨ 13 ≤ j) → (j < 25 ∨ 31 ≤ j) → yC T q j = T j := fun j a b => yC_ag T (by omega) j a b
  refine ⟨⟨by rw [g 0 (by omega) (by omega)]; exact h0, by rw [g 1 (by omega) (by omega)]; exact h1, by rw [g 2 (by omega) (by omega)]; exact h2, by rw [g 3 (by omega) (by omega)]; exact h3, by rw [g 4 (by omega) (by omega)]; exact h4, by rw [g 5 (by omega) (by omega)]; exact h5, by rw [g 6 (by omega) (by omega)]; exact h6⟩, fun v hv => ?_, fun v k hv hk => ?_, fun p hp => ?_, fun p s hp hs => ?_, fun k hk => ?_⟩
  · rw [g 1 (by omega) (by omega)] at hv
    have a := wv v hv
    rw [g (13 + v) (by omega) (by omega), g (19 + v) (by omega) (by omega), g (31 + v) (by omega) (by omega)]
    have e7 : yC T q (7 + v) = if v < q ∧ T (25 + v) = 1 then T (7 + v) + 1 else T (7 + v) := by
      rw [yC_at T q (by omega)]
      by_cases r : v < q ∧ T (25 + v) = 1
      · rw [if_pos r, if_pos]; rw [show 7 + v - 7 = v by omega]; exact ⟨by omega, by omega, r.2⟩
      · rw [if_neg r, if_neg (by rw [show 7 + v - 7 = v by omega]; omega), if_neg (by omega)]
    have e25 : yC T q (25 + v) = if v < q ∧ T (25 + v) = 1 ∧ T (13 + v) ≤ T (7 + v) + 1 then 0 else T (25 + v) := by
      rw [yC_at T q (by omega), if_neg (by omega)]
      by_cases r : v < q ∧ T (25 + v) = 1 ∧ T (13 + v) ≤ T (7 + v) + 1
      · rw [if_pos r, if_pos]; rw [show 25 + v - 25 = v by omega]; exact ⟨by omega, by omega, r.2.1, r.2.2⟩
      · rw [if_neg r, if_neg (by rw [show 25 + v - 25 = v by omega]; omega)]
    rw [e7, e25]
    by_cases r1 : v < q ∧ T (25 + v) = 1
    · rw [if_pos r1]
      by_cases r2 : T (13 + v) ≤ T (7 + v) + 1
      · rw [if_pos ⟨r1.1, r1.2, r2⟩]; omega
      · rw [if_neg (by omega)]; omega
    · rw [if_neg r1, if_neg (by omega)]; omega
  · rw [g 1 (by omega) (by omega)] at hv
    rw [g (19 + v) (by omega) (by omega)] at hk
    rw [g 0 (by omega) (by omega), g _ (by omega) (by omega)]; exact wr v k hv hk
  · rw [g 2 (by omega) (by omega)] at hp
    rw [g _ (by omega) (by omega), g _ (by omega) (by omega), g _ (by omega) (by omega)]; exact wp p hp
  · rw [g 2 (by omega) (by omega)] at hp
    rw [g _ (by omega) (by omega)]; exact wl p s hp hs
  · rw [g 3 (by omega) (by omega)] at hk
    rw [g 1 (by omega) (by omega), g 2 (by omega) (by omega), g _ (by omega) (by omega), g _ (by omega) (by omega), g _ (by omega) (by omega)]; exact ws k hk
theorem yrI_wf {T : Nat → Nat} (hw : WF T) : ∀ n, WF (yrI T n) ∧ ∀ j, (j < 7 ∨ 13 ≤ j) → (j < 25 ∨ 31 ≤ j) → yrI T n j = T j := by
  intro n
  induction n with
  | zero => exact ⟨hw, fun _ _ _ => rfl⟩
  | succ n ih =>
    obtain ⟨w, g⟩ := ih
    refine ⟨WF_yC w (Nat.le_refl _), fun j a b => ?_⟩
    show yC (yrI T n) (yrI T n 1) j = T j
    rw [yC_ag _ w.1.2.1 j a b]; exact g j a b
/-- one voice's year in the class's cells -/
theorem TC_yC {K : Nat → Nat → Int32} {t : Nat} {T : Nat → Nat} (hw : WF T) {q : Nat} (hq : q < T 1) (c1 : TC K t (yC T q)) :
    (T (25 + q) = 0 → TC K t (yC T (q + 1))) ∧
    (T (25 + q) = 1 → T (7 + q) + 1 < T (13 + q) → TC (u2 K (t + 3) q (nI (T (7 + q) + 1))) t (yC T (q + 1))) ∧
    (T (25 + q) = 1 → T (13 + q) ≤ T (7 + q) + 1 → TC (u2 (u2 K (t + 3) q (nI (T (7 + q) + 1))) t 5 (nI (bst (fun v => yC T q (25 + v) == 1) (T 1) &&& nnot (2 ^ q)))) t (yC T (q + 1))) := by
  obtain ⟨h0, h1, h2, h3, -⟩ := hw.1
  have wq := WF_yC hw (show q ≤ T 1 by omega)
  have e1 : yC T q 1 = T 1 := yC_ag T (by omega) 1 (by omega) (by omega)
  refine ⟨fun a => ?_, fun a b => ?_, fun a b => ?_⟩
  · rw [show yC T (q + 1) = yC T q by simp only [yC]; rw [if_neg (by omega)]]; exact c1
  · rw [show yC T (q + 1) = up1 (yC T q) (7 + q) (T (7 + q) + 1) by simp only [yC]; rw [if_pos a, if_neg (by omega)]]
    exact TC_age wq (by rw [e1]; exact hq) c1
  · rw [show yC T (q + 1) = up1 (up1 (yC T q) (7 + q) (T (7 + q) + 1)) (25 + q) 0 by simp only [yC]; rw [if_pos a, if_pos b]]
    have t1 := TC_age wq (j := q) (x := T (7 + q) + 1) (by rw [e1]; exact hq) c1
    -- bounds but for the age of one who is to die: the row of those that live comes first
    have e25 : yC T q (25 + q) = 1 := by
      rw [yC_at T q (by omega), if_neg (by omega), if_neg (by omega)]; exact a
    have w0 : WF (up1 (yC T q) (25 + q) 0) := by
      obtain ⟨y0, y1, y2, y3, -⟩ := wq.1
      exact WF_up wq (by omega) (by omega) (by omega) (by omega) (by omega) (by omega) (fun v hv => by omega) (fun p hp => by omega) (fun p s _ _ => by omega) (fun i hi => by omega)
    have c2 : TC (u2 K t 5 (nI (bst (fun v => yC T q (25 + v) == 1) (T 1) &&& nnot (2 ^ q)))) t (up1 (yC T q) (25 + q) 0) := by
      refine TC_living wq (j := q) (x := 0) (by rw [e1]; exact hq) ?_ c1
      rw [e1, ← bst_clr (c := fun v => yC T q (25 + v) == 1) (e := fun v => up1 (yC T q) (25 + q) 0 (25 + v) == 1) (by omega) hq (fun i hi hn => by show (up1 (yC T q) (25 + q) 0 (25 + i) == 1) = _; rw [up1_ne (by omega)]) (by show (up1 (yC T q) (25 + q) 0 (25 + q) == 1) = false; rw [up1_at]; rfl)]
    have c3 := TC_age w0 (j := q) (x := T (7 + q) + 1) (by rw [up1_ne (by omega), e1]; exact hq) c2
    rw [up1_comm (T := yC T q) (a := 25 + q) (b := 7 + q) (by omega)] at c3
    have eu : u2 (u2 K (t + 3) q (nI (T (7 + q) + 1))) t 5 (nI (bst (fun v => yC T q (25 + v) == 1) (T 1) &&& nnot (2 ^ q))) = u2 (u2 K t 5 (nI (bst (fun v => yC T q (25 + v) == 1) (T 1) &&& nnot (2 ^ q)))) (t + 3) q (nI (T (7 + q) + 1)) := by
      funext b j
      by_cases r1 : b = t
      · subst r1
        rw [u2_na _ (b + 3) q b _ (by omega)]
        by_cases r2 : j = 5
        · subst r2; rw [u2_at, u2_at]
        · rw [u2_nk _ _ _ _ _ r2, u2_nk _ _ _ _ _ r2, u2_na _ _ _ _ _ (by omega)]
      · rw [u2_na _ _ _ _ _ r1]
        by_cases r3 : b = t + 3
        · subst r3
          by_cases r2 : j = q
          · subst r2; rw [u2_at, u2_at]
          · rw [u2_nk _ _ _ _ _ r2, u2_nk _ _ _ _ _ r2, u2_na _ _ _ _ _ r1]
        · rw [u2_na _ _ _ _ _ r3, u2_na _ _ _ _ _ r3, u2_na _ _ _ _ _ r1]
    rw [eu]; exact c3
def alv (T : Nat → Nat) : Nat := bst (fun v => T (25 + v) == 1) (T 1)
theorem c5_passYears {N d : Nat} {X : lt_X} {I : Nat → Nat → Int32} {J : Nat → Nat → Int64} {t : Nat} {T : Nat → Nat} (ht : isT t) (hT : TC I t T) (hw : WF T) {n : Nat} (hn : T 6 + n ≤ 999) (hn99 : n ≤ 99) (hN : 10000 ≤ N) : ∃ K, am_G am_prog (N + 30) (d + 2) 81 [.ref t, .int (nI n)] (mkh X I J) = some (.int (nI (alv T &&& nnot (alv (yrI T n)))), mkh X K J) ∧ FC t I K ∧ TC K t (yrT T n) := by
  obtain ⟨h0, h1, h2, h3, h4, h5, h6⟩ := hw.1
  rw [gX5_passYears N d ht, sX5_passYears_0 N d _ ht, tcV hT]
  have main : ∀ k m, m + k = n → ∀ K, FC t I K → TC K t (yrI T m) → ∃ M, FC t I M ∧ TC M t (yrT T n) ∧ ev (fun z => RX5_passYears_7 N d z X t (nI n) (nI (alv T)) (nI m) K J) (1 + k * 10) (some (.int (nI (alv T &&& nnot (alv (yrI T n)))), mkh X M J)) := by
    intro k
    induction k with
    | zero =>
      intro m hm K f1 c1
      have e : m = n := by omega
      subst e
      obtain ⟨wm, gm⟩ := yrI_wf hw m
      have hlt : alv (yrI T m) < 2 ^ 32 := bst_lt (by have := wm.1.2.1; omega)
      refine ⟨u2 K t 4 (nI (T 6 + m)), FC_u (by omega) (by omega) f1, TC_year wm c1, ?_⟩
      refine ev_le (ev_0 (fun z => ?_)) (by omega)
      rw [sX5_passYears_7 N d z ht, nc_nlt (by omega) (by omega), tcV c1, tcY c1, gm 6 (by omega) (by omega), nI_add]
      show some (Value.int (nI (alv T) &&& (nI (alv (yrI T m)) ^^^ (-1))), _) = _
      rw [no_not hlt, no_and]
    | succ k ih =>
      intro m hm K f1 c1
      obtain ⟨wm, gm⟩ := yrI_wf hw m
      obtain ⟨y0, y1, y2, y3, -⟩ := wm.1
      have inner : ∀ r q, q + r = yrI T m 1 → ∀ K, FC t I K → TC K t (yC (yrI T m) q) → ∃ M, FC t I M ∧ TC M t (yrT T n) ∧ ev (fun z => RX5_passYears_15 N d z X t (nI n) (nI (alv T)) (nI m) (nI q) K J) (1 + k * 10 + 1 + r) (some (.int (nI (alv T &&& nnot (alv (yrI T n)))), mkh X M J)) := by
        intro r
        induction r with
        | zero =>
          intro q hq K f1 c1
          have e : q = yrI T m 1 := by omega
          subst e
          obtain ⟨M, m1, m2, m3⟩ := ih (m + 1) (by omega) K f1 c1
          refine ⟨M, m1, m2, ev_s (fun z => ?_) m3⟩
          rw [sX5_passYears_15 N d z ht, tc1 c1, yC_ag _ y1 1 (by omega) (by omega), nc_nlt (by omega) (by omega), nI_add]
        | succ r ihr =>
          intro q hq K f1 c1
          have hq1 : q < yrI T m 1 := by omega
          have wq := WF_yC wm (show q ≤ yrI T m 1 by omega)
          have ey1 : yC (yrI T m) q 1 = yrI T m 1 := yC_ag _ (by omega) 1 (by omega) (by omega)
          have e25 : yC (yrI T m) q (25 + q) = yrI T m (25 + q) := by rw [yC_at _ q (by omega), if_neg (by omega), if_neg (by omega)]
          have e7 : yC (yrI T m) q (7 + q) = yrI T m (7 + q) := by rw [yC_at _ q (by omega), if_neg (by omega), if_neg (by omega)]
          have e13 : yC (yrI T m) q (13 + q) = yrI T m (13 + q) := yC_ag _ (by omega) _ (by omega) (by omega)
          have hv := wm.2.1 q hq1
          have hp32 : 2 ^ q < 2 ^ 32 := Nat.pow_lt_pow_right (by omega) (by omega)
          obtain ⟨t0, t1, t2⟩ := TC_yC wm hq1 c1
          have hst : ∀ z K', (yrI T m (25 + q) = 0 → K' = K) → (yrI T m (25 + q) = 1 → yrI T m (7 + q) + 1 < yrI T m (13 + q) → K' = u2 K (t + 3) q (nI (yrI T m (7 + q) + 1))) → (yrI T m (25 + q) = 1 → yrI T m (13 + q) ≤ yrI T m (7 + q) + 1 → K' = u2 (u2 K (t + 3) q (nI (yrI T m (7 + q) + 1))) t 5 (nI (bst (fun v => yC (yrI T m) q (25 + v) == 1) (yrI T m 1) &&& nnot (2 ^ q)))) → RX5_passYears_15 N d (z + 1) X t (nI n) (nI (alv T)) (nI m) (nI q) K J = RX5_passYears_15 N d z X t (nI n) (nI (alv T)) (nI m) (nI (q + 1)) K' J := by
            intro z K' k0 k1 k2
            rw [sX5_passYears_15 N d z ht, tc1 c1, ey1, nc_lt (by omega) (by omega), c5_isLiving ht c1 wq (by rw [ey1]; exact hq1), e25, cI_some, kX5_passYears_0 N d z ht, nc_10]
            by_cases a : yrI T m (25 + q) = 1
            · rw [if_pos a]
              by_cases b : yrI T m (13 + q) ≤ yrI T m (7 + q) + 1
              · rw [k2 a b]
                simp (disch := first | assumption | omega) only [nI_add, pk_mul, nI_clamp, nc_in, nc_lt, nc_nlt, cI_some, cV_some, tcA c1 q (by omega), tcL c1 q (by omega), e7, e13, u2_at, no_shl, no_not hp32, tcV c1, ey1, no_and]
              · rw [k1 a (by omega)]
                simp (disch := first | assumption | omega) only [nI_add, pk_mul, nI_clamp, nc_in, nc_lt, nc_nlt, cI_some, cV_some, tcA c1 q (by omega), tcL c1 q (by omega), e7, e13, u2_at]
            · rw [if_neg a, k0 (by omega), nI_add]
          by_cases a : yrI T m (25 + q) = 1
          · by_cases b : yrI T m (13 + q) ≤ yrI T m (7 + q) + 1
            · obtain ⟨M, m1, m2, m3⟩ := ihr (q + 1) (by omega) _ (FC_u (by omega) (by omega) (FC_u (by omega) (by omega) f1)) (t2 a b)
              exact ⟨M, m1, m2, ev_le (ev_s (fun z => hst z _ (fun h => by omega) (fun _ h => by omega) (fun _ _ => rfl)) m3) (by omega)⟩
            · obtain ⟨M, m1, m2, m3⟩ := ihr (q + 1) (by omega) _ (FC_u (by omega) (by omega) f1) (t1 a (by omega))
              exact ⟨M, m1, m2, ev_le (ev_s (fun z => hst z _ (fun h => by omega) (fun _ _ => rfl) (fun _ h => by omega)) m3) (by omega)⟩
          · obtain ⟨M, m1, m2, m3⟩ := ihr (q + 1) (by omega) _ f1 (t0 (by omega))
            exact ⟨M, m1, m2, ev_le (ev_s (fun z => hst z _ (fun _ => rfl) (fun h => by omega) (fun h => by omega)) m3) (by omega)⟩
      obtain ⟨M, m1, m2, m3⟩ := inner (yrI T m 1) 0 (by omega) K f1 c1
      refine ⟨M, m1, m2, ev_le (ev_s (fun z => ?_) m3) (by omega)⟩
      rw [sX5_passYears_7 N d z ht, nc_lt (by omega) (by omega)]
  obtain ⟨M, m1, m2, m3⟩ := main n 0 (by omega) I (FC_0 _ _) hT
  exact ⟨M, m3 (N + 29) (by omega), m1, m2⟩
