/-! the reference's years; the pair year -/
theorem TM_up6 {c : Nat → Int32} {T : Nat → Nat} (h1 : T 1 ≤ 6) {k x : Nat} (hk : 4 ≤ k) (hk2 : k < 19 ∨ 25 ≤ k) (H : TM c T) : TM (upd c k (nI x)) (up1 T k x) := by
  obtain ⟨a0, a1, a2, a3, a4, a5⟩ := H
  have g : ∀ i, c i = nI (T i) → upd c k (nI x) i = nI (up1 T k x i) := by
    intro i e
    by_cases q : i = k
    · rw [q, up1_at]; exact if_pos rfl
    · rw [up1_ne q, ← e]; exact if_neg q
  have e1 : up1 T k x 1 = T 1 := up1_ne (by omega)
  have e2 : up1 T k x 2 = T 2 := up1_ne (by omega)
  have e3 : up1 T k x 3 = T 3 := up1_ne (by omega)
  refine ⟨fun i hi => g i (a0 i hi), fun v hv => ?_, fun v i hv hi => ?_, fun p hp => ?_, fun p s hp hs => ?_, fun i hi => ?_⟩
  · rw [e1] at hv
    obtain ⟨b1, b2, b3, b4, b5⟩ := a1 v hv
    exact ⟨g _ b1, g _ b2, g _ b3, g _ b4, g _ b5⟩
  · rw [e1] at hv
    rw [up1_ne (by omega)] at hi
    exact g _ (a2 v i hv hi)
  · rw [e2] at hp
    obtain ⟨b1, b2, b3⟩ := a3 p hp
    exact ⟨g _ b1, g _ b2, g _ b3⟩
  · rw [e2] at hp; exact g _ (a4 p s hp hs)
  · rw [e3] at hi
    obtain ⟨b1, b2, b3⟩ := a5 i hi
    exact ⟨g _ b1, g _ b2, g _ b3⟩
def dyg (T : Nat → Nat) (v : Nat) : Nat := if T (25 + v) = 1 ∧ T (13 + v) ≤ T (7 + v) + 1 then 2 ^ v else 0
def dyS (T : Nat → Nat) : Nat := orf (dyg T) (T 1)
theorem c9_goesYear {N d : Nat} {X : lt_X} {I : Nat → Nat → Int32} {J : Nat → Nat → Int64} {T : Nat → Nat} (hT : TM (I 140) T) (hw : WF T) (hN : 10000 ≤ N) : ∃ M, am_G am_prog (N + 30) (d + 1) 279 [.ref 135] (mkh X I J) = some (.int (nI (dyS T)), mkh X M J) ∧ FM I M ∧ TM (M 140) (up1 (yr1 T) 6 (T 6 + 1)) := by
  obtain ⟨h0, h1, h2, h3, h4, h5, h6⟩ := hw.1
  rw [gX9_goesYear N d, sX9_goesYear_0 N d]
  have main : ∀ k q, q + k = T 1 → ∀ K, FM I K → TM (K 140) (yC T q) → ∃ M, FM I M ∧ TM (M 140) (up1 (yr1 T) 6 (T 6 + 1)) ∧ ev (fun m => RX9_goesYear_4 N d m X (nI (orf (dyg T) q)) (nI q) K J) (1 + k) (some (.int (nI (dyS T)), mkh X M J)) := by
    intro k
    induction k with
    | zero =>
      intro q hq K f1 c1
      have e : q = T 1 := by omega
      subst e
      have g : ∀ j, (j < 7 ∨ 13 ≤ j) → (j < 25 ∨ 31 ≤ j) → yC T (T 1) j = T j := fun j a b => yC_ag T h1 j a b
      refine ⟨u2 K 140 6 (nI (T 6 + 1)), FM_u (by omega) f1, TM_up6 (by show yC T (T 1) 1 ≤ 6; rw [g 1 (by omega) (by omega)]; exact h1) (by omega) (by omega) c1, ev_0 (fun m => ?_)⟩
      rw [sX9_goesYear_4 N d m, tm1 c1, g 1 (by omega) (by omega), nc_nlt (by omega) (by omega), tm6 c1, g 6 (by omega) (by omega), nI_add]
      rfl
    | succ k ih =>
      intro q hq K f1 c1
      have hq1 : q < T 1 := by omega
      have ey1 : yC T q 1 = T 1 := yC_ag _ (by omega) 1 (by omega) (by omega)
      have e25 : yC T q (25 + q) = T (25 + q) := by rw [yC_at _ q (by omega), if_neg (by omega), if_neg (by omega)]
      have e7 : yC T q (7 + q) = T (7 + q) := by rw [yC_at _ q (by omega), if_neg (by omega), if_neg (by omega)]
      have e13 : yC T q (13 + q) = T (13 + q) := yC_ag _ (by omega) _ (by omega) (by omega)
      have hv := hw.2.1 q hq1
      have t1 := TM_up6 (k := 7 + q) (x := T (7 + q) + 1) (by rw [ey1]; exact h1) (by omega) (by omega) c1
      have u13 : ∀ w, u2 K 140 (7 + q) w 140 (13 + q) = K 140 (13 + q) := fun w => u2_nk _ _ _ _ _ (by omega)
      by_cases a : T (25 + q) = 1
      · by_cases b : T (13 + q) ≤ T (7 + q) + 1
        · have t2 := TM_up6 (k := 25 + q) (x := 0) (by rw [up1_ne (by omega), ey1]; exact h1) (by omega) (by omega) t1
          rw [show up1 (up1 (yC T q) (7 + q) (T (7 + q) + 1)) (25 + q) 0 = yC T (q + 1) by simp only [yC]; rw [if_pos a, if_pos b]] at t2
          have ed : orf (dyg T) (q + 1) = orf (dyg T) q ||| 2 ^ q := by simp only [orf, dyg]; rw [if_pos ⟨a, b⟩]
          obtain ⟨M, m1, m2, m3⟩ := ih (q + 1) (by omega) (u2 (u2 K 140 (7 + q) (nI (T (7 + q) + 1))) 140 (25 + q) (nI 0)) (FM_u (by omega) (FM_u (by omega) f1)) t2
          refine ⟨M, m1, m2, ev_le (ev_s (fun m => ?_) m3) (by omega)⟩
          rw [sX9_goesYear_4 N d m]
          simp (disch := first | assumption | omega) only [nI_add, pk_mul, nI_clamp, nc_in, nc_lt, nc_nlt, cI_some, cV_some, tm1 c1, ey1, tmV c1 q (by omega), e25, a, nc_ne, tmA c1 q (by omega), e7, u13, tmL c1 q (by omega), e13, u2_at, no_shl, no_or, ed]
        · rw [show up1 (yC T q) (7 + q) (T (7 + q) + 1) = yC T (q + 1) by simp only [yC]; rw [if_pos a, if_neg b]] at t1
          have ed : orf (dyg T) (q + 1) = orf (dyg T) q := by simp only [orf, dyg]; rw [if_neg (by omega), Nat.or_zero]
          obtain ⟨M, m1, m2, m3⟩ := ih (q + 1) (by omega) (u2 K 140 (7 + q) (nI (T (7 + q) + 1))) (FM_u (by omega) f1) t1
          refine ⟨M, m1, m2, ev_le (ev_s (fun m => ?_) m3) (by omega)⟩
          rw [sX9_goesYear_4 N d m]
          simp (disch := first | assumption | omega) only [nI_add, pk_mul, nI_clamp, nc_in, nc_lt, nc_nlt, cI_some, cV_some, tm1 c1, ey1, tmV c1 q (by omega), e25, a, nc_ne, tmA c1 q (by omega), e7, u13, tmL c1 q (by omega), e13, u2_at, ed]
      · have a0 : T (25 + q) = 0 := by omega
        have ed : orf (dyg T) (q + 1) = orf (dyg T) q := by simp only [orf, dyg]; rw [if_neg (by omega), Nat.or_zero]
        obtain ⟨M, m1, m2, m3⟩ := ih (q + 1) (by omega) K f1 (by rw [show yC T (q + 1) = yC T q by simp only [yC]; rw [if_neg a]]; exact c1)
        refine ⟨M, m1, m2, ev_le (ev_s (fun m => ?_) m3) (by omega)⟩
        rw [sX9_goesYear_4 N d m]
        simp (disch := first | assumption | omega) only [nI_add, pk_mul, nI_clamp, nc_in, nc_lt, nc_nlt, cI_some, cV_some, tm1 c1, ey1, tmV c1 q (by omega), e25, nc_eq a0, ed]
  obtain ⟨M, m1, m2, m3⟩ := main (T 1) 0 (by omega) I (FM_0 _) hT
  exact ⟨M, m3 (N + 29) (by omega), m1, m2⟩
theorem yr1_6 {U : Nat → Nat} (h1 : U 1 ≤ 6) (x : Nat) : yr1 (up1 U 6 x) = up1 (yr1 U) 6 x := by
  funext j
  unfold yr1
  rw [up1_ne (show 1 ≠ 6 by omega)]
  by_cases q : j = 6
  · rw [q, up1_at, yC_ag _ h1 6 (by omega) (by omega), up1_at]
  · rw [up1_ne q, yC_at _ _ h1, yC_at _ _ h1, up1_ne q, up1_ne (show 25 + (j - 7) ≠ 6 by omega), up1_ne (show 13 + (j - 25) ≠ 6 by omega), up1_ne (show 7 + (j - 25) ≠ 6 by omega)]
theorem up1_up1 (T : Nat → Nat) (k x y : Nat) : up1 (up1 T k x) k y = up1 T k y := by
  funext j
  by_cases q : j = k
  · rw [q, up1_at, up1_at]
  · rw [up1_ne q, up1_ne q, up1_ne q]
theorem yrT_succ {T : Nat → Nat} (hw : WF T) (m : Nat) : up1 (yr1 (yrT T m)) 6 (yrT T m 6 + 1) = yrT T (m + 1) := by
  have w := (yrI_wf hw m).1
  unfold yrT
  rw [yr1_6 w.1.2.1, up1_up1, up1_at]
  rfl
theorem dyS_6 (U : Nat → Nat) (x : Nat) : dyS (up1 U 6 x) = dyS U := by
  unfold dyS
  rw [up1_ne (show 1 ≠ 6 by omega)]
  refine orf_congr _ (fun v _ => ?_)
  unfold dyg
  rw [up1_ne (show 25 + v ≠ 6 by omega), up1_ne (show 13 + v ≠ 6 by omega), up1_ne (show 7 + v ≠ 6 by omega)]
theorem yr1_25 {U : Nat → Nat} (h1 : U 1 ≤ 6) {v : Nat} (hv : v < U 1) : (yr1 U (25 + v) = 1) ↔ (U (25 + v) = 1 ∧ ¬ U (13 + v) ≤ U (7 + v) + 1) := by
  unfold yr1
  rw [yC_at _ _ h1, if_neg (by omega), show 25 + v - 25 = v by omega]
  by_cases r : U (25 + v) = 1 ∧ U (13 + v) ≤ U (7 + v) + 1
  · rw [if_pos ⟨by omega, by omega, r.1, r.2⟩]; omega
  · rw [if_neg (by omega)]; omega
theorem dyS_bit (U : Nat → Nat) (v : Nat) : (dyS U).testBit v = true ↔ v < U 1 ∧ U (25 + v) = 1 ∧ U (13 + v) ≤ U (7 + v) + 1 := by
  unfold dyS
  rw [orf_bit]
  constructor
  · rintro ⟨i, h1, h2⟩
    unfold dyg at h2
    rw [if_bit, pow_bit] at h2
    obtain ⟨h2, rfl⟩ := h2
    exact ⟨h1, h2.1, h2.2⟩
  · rintro ⟨h1, h2, h3⟩
    refine ⟨v, h1, ?_⟩
    unfold dyg
    rw [if_bit, pow_bit]
    exact ⟨⟨h2, h3⟩, rfl⟩
theorem died_bits {T : Nat → Nat} (hw : WF T) (v : Nat) : ∀ n, ((orf (fun m => dyS (yrI T m)) n).testBit v = true ↔ v < T 1 ∧ T (25 + v) = 1 ∧ yrI T n (25 + v) ≠ 1) ∧ (v < T 1 → yrI T n (25 + v) = 1 → T (25 + v) = 1) := by
  intro n
  induction n with
  | zero =>
    refine ⟨?_, fun _ h => h⟩
    simp only [orf, Nat.zero_testBit]
    constructor
    · intro h; cases h
    · rintro ⟨_, h1, h2⟩; exact absurd h1 h2
  | succ n ih =>
    obtain ⟨w, g⟩ := yrI_wf hw n
    have e1 : yrI T n 1 = T 1 := g 1 (by omega) (by omega)
    have s1 : v < T 1 → (yrI T (n + 1) (25 + v) = 1 ↔ (yrI T n (25 + v) = 1 ∧ ¬ yrI T n (13 + v) ≤ yrI T n (7 + v) + 1)) := fun hv => yr1_25 w.1.2.1 (by rw [e1]; exact hv)
    constructor
    · simp only [orf, Nat.testBit_or, Bool.or_eq_true]
      rw [ih.1, dyS_bit, e1]
      constructor
      · rintro (⟨a, b, c⟩ | ⟨a, b, c⟩)
        · exact ⟨a, b, fun h => c ((s1 a).mp h).1⟩
        · exact ⟨a, ih.2 a b, fun h => ((s1 a).mp h).2 c⟩
      · rintro ⟨a, b, c⟩
        by_cases q : yrI T n (25 + v) = 1
        · refine Or.inr ⟨a, q, ?_⟩
          by_cases r : yrI T n (13 + v) ≤ yrI T n (7 + v) + 1
          · exact r
          · exact absurd ((s1 a).mpr ⟨q, r⟩) c
        · exact Or.inl ⟨a, b, q⟩
    · intro hv h
      exact ih.2 hv ((s1 hv).mp h).1
theorem died_eq {T : Nat → Nat} (hw : WF T) (n : Nat) : orf (fun m => dyS (yrI T m)) n = alv T &&& nnot (alv (yrI T n)) := by
  obtain ⟨w, g⟩ := yrI_wf hw n
  have h1 := hw.1.2.1
  have e1 : yrI T n 1 = T 1 := g 1 (by omega) (by omega)
  have hlt : alv (yrI T n) < 2 ^ 32 := bst_lt (by rw [e1]; omega)
  apply bit_ext
  intro v
  rw [(died_bits hw v n).1, Nat.testBit_and, Bool.and_eq_true, nnot_bit hlt]
  unfold alv
  rw [bst_bit, bst_bit', e1]
  constructor
  · rintro ⟨a, b, c⟩
    refine ⟨⟨a, by rw [b]; rfl⟩, ?_⟩
    simp [show v < 32 by omega, a, c]
  · rintro ⟨⟨a, b⟩, c⟩
    refine ⟨a, by simpa using b, fun h => ?_⟩
    rw [h] at c
    simp [a] at c
theorem WF_yr {T : Nat → Nat} (hw : WF T) {n : Nat} (hn : T 6 + n ≤ 999) : WF (yrT T n) := by
  have w := (yrI_wf hw n).1
  obtain ⟨y0, y1, y2, y3, -⟩ := w.1
  exact WF_up w (by omega) (by omega) (by omega) (by omega) (by omega) (by omega) (fun v hv => by omega) (fun p hp => by omega) (fun p s _ _ => by omega) (fun i hi => by omega)
theorem yrT_ag {T : Nat → Nat} (hw : WF T) (n j : Nat) (h : j < 6 ∨ 13 ≤ j) (h2 : j < 25 ∨ 31 ≤ j) : yrT T n j = T j := by
  unfold yrT
  rw [up1_ne (by omega)]; exact (yrI_wf hw n).2 j (by omega) (by omega)
theorem GB_yr {T : Nat → Nat} (hw : WF T) (hg : GB T) (n : Nat) : GB (yrT T n) := by
  intro p hp
  rw [yrT_ag hw n 2 (by omega) (by omega)] at hp
  rw [yrT_ag hw n _ (by omega) (by omega), yrT_ag hw n _ (by omega) (by omega), yrT_ag hw n _ (by omega) (by omega)]
  exact hg p hp
theorem p_year {xs : Nat → Int32} {N d : Nat} {X : lt_X} {I : Nat → Nat → Int32} {J : Nat → Nat → Int64} (H : INV xs X I J) (hN : 100000 ≤ N) (x : Int32) : PR xs N d X I J 132 280 [.int x] := by
  obtain ⟨T, hB, hw, hT, hM, hX, ht⟩ := INV_B H
  obtain ⟨h0, h1, h2, h3, h4, h5, h6⟩ := hw.1
  have hg := hB.2.2.2.2.2.2
  by_cases q : rng x 1 99 = true
  · obtain ⟨n, hn1, hn, rfl⟩ := rng_e q (by omega)
    have hh : ∀ dd : Nat, am_G am_prog (N + 30) (dd + 1) 79 [.ref X.2.1, .int (nI n)] (mkh X I J) = if 999 < T 6 + n then some (.int (nI 0), (mkh X I J)) else some (.int (nI 1), (mkh X I J)) := by
      intro dd
      rw [gX5_hasYears N dd ht, sX5_hasYears_0 N dd _ ht, tcY hT, nI_add]
      by_cases r : 999 < T 6 + n
      · rw [nc_lt r (by omega), if_pos r]
      · rw [nc_nlt (by omega) (by omega), if_neg r]
    by_cases q2 : 999 < T 6 + n
    · refine PR_v H hM (-1) (nI 7) ?_ (fun K hK => ?_)
      · rw [gX8_year N (d + 38), sX8_year_0 N (d + 38) _ hX]
        rw [rng_c (by omega) (by omega), if_pos q, hh (d + 38), if_pos q2, cI_some, kX8_year_0 N (d + 38) _ hX, nc_eq rfl]
      · rw [gX9_year N (d + 38), sX9_year_0 N (d + 38)]
        rw [c9_in (by omega) (by omega), cI_some, kX9_year_0 N (d + 38), nc_10, if_pos q, tm6 (c := u2 (u2 K 135 1 (nI 0)) 135 0 (nI 0) 140) hK, nI_add, nc_lt q2 (by omega)]
    · obtain ⟨K1, e1, f1, g1⟩ := c5_passYears (N := N) (d := d + 37) (X := X) (J := J) ht hT hw (n := n) (by omega) hn (by omega)
      refine PR_here (U := yrT T n) (K := K1) H hB (fun j hj => yrT_ag hw n j (by omega) (by omega)) (WF_yr hw (by omega)) (GB_yr hw hg n) (.int (nI (alv T &&& nnot (alv (yrI T n))))) ?_ f1 g1 (fun L hL => ?_)
      · rw [gX8_year N (d + 38), sX8_year_0 N (d + 38) _ hX]
        rw [rng_c (by omega) (by omega), if_pos q, hh (d + 38), if_neg q2, cI_some, kX8_year_0 N (d + 38) _ hX, nc_ne (by omega) (by omega) (by omega), e1, cI_some, kX8_year_1 N (d + 38) _ hX]
      · have hK : TM (L 140) T := by rw [hL 140 (by omega)]; exact hM
        have main : ∀ k m, m + k = n → ∀ K, FM (u2 (u2 L 135 1 (nI 0)) 135 0 (nI 0)) K → TM (K 140) (yrT T m) → ∃ M, FM (u2 (u2 L 135 1 (nI 0)) 135 0 (nI 0)) M ∧ TM (M 140) (yrT T n) ∧ ev (fun z => RX9_year_54 N (d + 38) z X (nI n) (nI (orf (fun m => dyS (yrI T m)) m)) (nI m) K J) (1 + k) (some (.int (nI (orf (fun m => dyS (yrI T m)) n)), mkh X M J)) := by
          intro k
          induction k with
          | zero =>
            intro m hm K f2 c2
            have e : m = n := by omega
            subst e
            refine ⟨K, f2, c2, ev_0 (fun z => ?_)⟩
            rw [sX9_year_54 N (d + 38) z, nc_nlt (by omega) (by omega)]
          | succ k ih =>
            intro m hm K f2 c2
            have wm := WF_yr hw (n := m) (by omega)
            obtain ⟨M, e2, f3, c3⟩ := c9_goesYear (N := N) (d := d + 38) (X := X) (J := J) (I := K) c2 wm (by omega)
            rw [yrT_succ hw] at c3
            rw [show dyS (yrT T m) = dyS (yrI T m) from dyS_6 _ _] at e2
            obtain ⟨M2, a1, a2, a3⟩ := ih (m + 1) (by omega) M (FM_t f2 f3) c3
            refine ⟨M2, a1, a2, ev_le (ev_s (fun z => ?_) a3) (by omega)⟩
            rw [sX9_year_54 N (d + 38) z, nc_lt (by omega) (by omega), e2, cI_some, kX9_year_1 N (d + 38) z, nI_add, no_or]
            rfl
        have e0 : yrT T 0 = T := by
          funext j
          show up1 T 6 (T 6 + 0) j = T j
          by_cases r : j = 6
          · rw [r, up1_at]; rfl
          · rw [up1_ne r]
        obtain ⟨M, a1, a2, a3⟩ := main n 0 (by omega) (u2 (u2 L 135 1 (nI 0)) 135 0 (nI 0)) (FM_0 _) (by rw [e0]; exact hK)
        refine ⟨M, ?_, a1, a2⟩
        rw [gX9_year N (d + 38), sX9_year_0 N (d + 38)]
        rw [c9_in (by omega) (by omega), cI_some, kX9_year_0 N (d + 38), nc_10, if_pos q, tm6 (c := u2 (u2 L 135 1 (nI 0)) 135 0 (nI 0) 140) hK, nI_add, nc_nlt (by omega) (by omega), ← died_eq hw]
        exact a3 (N + 29) (by omega)
  · refine PR_v H hM (-1) (nI 5) ?_ (fun K hK => ?_)
    · rw [gX8_year N (d + 38), sX8_year_0 N (d + 38) _ hX]
      rw [rng_c (by omega) (by omega), if_neg q]
    · rw [gX9_year N (d + 38), sX9_year_0 N (d + 38)]
      rw [c9_in (by omega) (by omega), cI_some, kX9_year_0 N (d + 38), nc_10, if_neg q]
