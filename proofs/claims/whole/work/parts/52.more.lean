/-! status, top, bottom, fault, lived; flaw; teach -/
theorem PR_0 {xs : Nat → Int32} {N d : Nat} {X : lt_X} {I : Nat → Nat → Int32} {J : Nat → Nat → Int64} {c m : Nat} {as : List Value} (H : INV xs X I J) (v : Value) (hc : am_G am_prog (N + 30) (d + 40) c (.ref 3 :: as) (mkh X I J) = some (v, mkh X I J)) (hm : am_G am_prog (N + 30) (d + 40) m (.ref 135 :: as) (mkh X I J) = some (v, mkh X (u2 I 135 1 (nI 0)) J)) : PR xs N d X I J c m as := by
  refine ⟨v, X, I, J, X, _, J, hc, hm, INV_tells H (K := I) ⟨fun _ _ _ => rfl, fun _ _ => rfl⟩ ⟨fun a h1 _ _ => u2_na _ _ _ _ _ h1, fun k hk => u2_nk _ _ _ _ _ (by omega)⟩ ?_, rfl⟩
  rw [u2_na _ _ _ _ _ (by omega), u2_nk _ _ _ _ _ (by omega)]
  exact H.2.2.2.2.2.2.2.2.2.2
theorem p_status {xs : Nat → Int32} {N d : Nat} {X : lt_X} {I : Nat → Nat → Int32} {J : Nat → Nat → Int64} (H : INV xs X I J) (hN : 100000 ≤ N) : PR xs N d X I J 110 185 [] := by
  have hX := H.1
  refine PR_0 H (.int (I 3 15)) ?_ ?_
  · rw [gX8_status N (d + 39), sX8_status_0 N (d + 39) _ hX]
  · rw [gX9_status N (d + 39), sX9_status_0 N (d + 39)]
    rw [H.2.2.2.2.2.2.2.2.2.2]
theorem p_top {xs : Nat → Int32} {N d : Nat} {X : lt_X} {I : Nat → Nat → Int32} {J : Nat → Nat → Int64} (H : INV xs X I J) (hN : 100000 ≤ N) : PR xs N d X I J 111 186 [] := by
  have hX := H.1
  refine PR_0 H (.long (J 3 16)) ?_ ?_
  · rw [gX8_top N (d + 39), sX8_top_0 N (d + 39) _ hX]
  · rw [gX9_top N (d + 39), sX9_top_0 N (d + 39)]
    rw [H.2.2.2.2.2.2.2.2.1.1]
theorem p_bottom {xs : Nat → Int32} {N d : Nat} {X : lt_X} {I : Nat → Nat → Int32} {J : Nat → Nat → Int64} (H : INV xs X I J) (hN : 100000 ≤ N) : PR xs N d X I J 112 187 [] := by
  have hX := H.1
  refine PR_0 H (.long (J 3 17)) ?_ ?_
  · rw [gX8_bottom N (d + 39), sX8_bottom_0 N (d + 39) _ hX]
  · rw [gX9_bottom N (d + 39), sX9_bottom_0 N (d + 39)]
    rw [H.2.2.2.2.2.2.2.2.1.2]
theorem p_fault {xs : Nat → Int32} {N d : Nat} {X : lt_X} {I : Nat → Nat → Int32} {J : Nat → Nat → Int64} (H : INV xs X I J) (hN : 100000 ≤ N) (x : Int32) : PR xs N d X I J 124 239 [.int x] := by
  have hX := H.1
  rcases H.2.2.2.2.2.2.1 with ⟨f1, f2, f3⟩ | ⟨f1, f2, f3⟩
  · refine PR_0 H (.int (-1)) ?_ ?_
    · rw [gX8_fault N (d + 39), sX8_fault_0 N (d + 39) _ hX]
      rw [f1, nc_eq rfl]
    · rw [gX9_fault N (d + 39), sX9_fault_0 N (d + 39)]
      rw [f2, f3]
      split
      · rfl
      · split <;> rfl
  · by_cases q0 : x = nI 0
    · refine PR_0 H (.int (I 115 10)) ?_ ?_
      · rw [gX8_fault N (d + 39), sX8_fault_0 N (d + 39) _ hX]
        rw [f1, nc_ne (by omega) (by omega) (by omega), if_pos q0]
      · rw [gX9_fault N (d + 39), sX9_fault_0 N (d + 39)]
        rw [if_pos q0, f2]
    · by_cases q1 : x = nI 1
      · refine PR_0 H (.int (I 115 11)) ?_ ?_
        · rw [gX8_fault N (d + 39), sX8_fault_0 N (d + 39) _ hX]
          rw [f1, nc_ne (by omega) (by omega) (by omega), if_neg q0, if_pos q1]
        · rw [gX9_fault N (d + 39), sX9_fault_0 N (d + 39)]
          rw [if_neg q0, if_pos q1, f3]
      · refine PR_0 H (.int (-1)) ?_ ?_
        · rw [gX8_fault N (d + 39), sX8_fault_0 N (d + 39) _ hX]
          rw [f1, nc_ne (by omega) (by omega) (by omega), if_neg q0, if_neg q1]
        · rw [gX9_fault N (d + 39), sX9_fault_0 N (d + 39)]
          rw [if_neg q0, if_neg q1]
theorem p_lived {xs : Nat → Int32} {N d : Nat} {X : lt_X} {I : Nat → Nat → Int32} {J : Nat → Nat → Int64} (H : INV xs X I J) (hN : 100000 ≤ N) (x : Int32) : PR xs N d X I J 174 351 [.int x] := by
  have hX := H.1
  by_cases q : rng x 0 4 = true
  · obtain ⟨k, -, hk, rfl⟩ := rng_e q (by omega)
    rcases H.2.2.2.2.2.2.2.1 with ⟨f1, f2⟩ | ⟨f1, f2, f3⟩
    · refine PR_tells H (.int (-1)) (nI 8) (CR_st ?_) (fun K hK => MR_2 (a := nI 0) (b := nI 0) ?_)
      · rw [gX8_lived N (d + 38), sX8_lived_0 N (d + 38) _ hX]
        rw [rng_c (by omega) (by omega), if_pos q, f1, nc_eq rfl]
      · rw [gX9_lived N (d + 38), sX9_lived_0 N (d + 38)]
        rw [c9_in (by omega) (by omega), cI_some, kX9_lived_0 N (d + 38), nc_10, if_pos q]
        rw [show (u2 (u2 K 135 1 (nI 0)) 135 0 (nI 0)) 135 33 = I 135 33 by rw [u2_nk _ _ _ _ _ (by omega), u2_nk _ _ _ _ _ (by omega), hK 135 (by omega) (by omega)], f2, nc_eq rfl]
    · refine PR_tells H (.int (I 134 k)) (nI 0) (CR_st ?_) (fun K hK => MR_0 (a := nI 0) ?_)
      · rw [gX8_lived N (d + 38), sX8_lived_0 N (d + 38) _ hX]
        rw [rng_c (by omega) (by omega), if_pos q, f1, nc_ne (by omega) (by omega) (by omega), nc_in (by omega) (by omega), nI_clamp (by omega)]
      · rw [gX9_lived N (d + 38), sX9_lived_0 N (d + 38)]
        rw [c9_in (by omega) (by omega), cI_some, kX9_lived_0 N (d + 38), nc_10, if_pos q]
        rw [show (u2 (u2 K 135 1 (nI 0)) 135 0 (nI 0)) 135 33 = I 135 33 by rw [u2_nk _ _ _ _ _ (by omega), u2_nk _ _ _ _ _ (by omega), hK 135 (by omega) (by omega)], f2, nc_ne (by omega) (by omega) (by omega), nc_in (by omega) (by omega), nI_clamp (by omega)]
        rw [show (u2 (u2 K 135 1 (nI 0)) 135 0 (nI 0)) 146 k = I 146 k by rw [u2_na _ _ _ _ _ (by omega), u2_na _ _ _ _ _ (by omega), hK 146 (by omega) (by omega)], f3 k (by omega)]
  · refine PR_tells H (.int (-1)) (nI 5) (CR_st ?_) (fun K hK => MR_2 (a := nI 0) (b := nI 0) ?_)
    · rw [gX8_lived N (d + 38), sX8_lived_0 N (d + 38) _ hX]
      rw [rng_c (by omega) (by omega), if_neg q]
    · rw [gX9_lived N (d + 38), sX9_lived_0 N (d + 38)]
      rw [c9_in (by omega) (by omega), cI_some, kX9_lived_0 N (d + 38), nc_10, if_neg q]
/-! flaw -/
theorem c8_flaw41 {N d : Nat} {X : lt_X} {I : Nat → Nat → Int32} {J : Nat → Nat → Int64} {T : Nat → Nat} (hX : hsX X) (hT : TC I X.2.1 T) (hw : WF T) {k f : Nat} (hk : k < T 3) (hf : f < T 1 ∨ f = 4294967295) (n : Nat) : RX8_flaw_41 N d (n + 1) X (nI k) (nI f) I J = if T (61 + k) = f ∨ T (55 + k) = f then some (.int (nI 0), (mkh X (u2 I 3 15 (nI 9)) J)) else some (.int (nI 1), (mkh X (u2 (u2 I (X.2.1 + 12) k (nI f)) 3 15 (nI 0)) J)) := by
  obtain ⟨h0, h1, h2, h3, -⟩ := hw.1
  obtain ⟨b1, b2, -⟩ := hw.2.2.2.2.2 k hk
  rw [sX8_flaw_41 N d n hX]
  by_cases q : T (61 + k) = f
  · simp (disch := first | assumption | omega) only [nI_add, pk_mul, nI_clamp, nc_in, nc_lt, nc_nlt, cI_some, cV_some, tcF hT, nc_eq q, if_pos (Or.inl q : T (61 + k) = f ∨ T (55 + k) = f)]
  · by_cases q2 : T (55 + k) = f
    · simp (disch := first | assumption | omega) only [nI_add, pk_mul, nI_clamp, nc_in, nc_lt, nc_nlt, cI_some, cV_some, tcF hT, tcT hT, nc_ne q, nc_eq q2, if_pos (Or.inr q2 : T (61 + k) = f ∨ T (55 + k) = f)]
    · rw [if_neg (show ¬ (T (61 + k) = f ∨ T (55 + k) = f) by omega)]
      simp (disch := first | assumption | omega) only [nI_add, pk_mul, nI_clamp, nc_in, nc_lt, nc_nlt, cI_some, cV_some, tcF hT, tcT hT, nc_ne q, nc_ne q2]
theorem c9_flaw38 {N d : Nat} {X : lt_X} {I : Nat → Nat → Int32} {J : Nat → Nat → Int64} {T : Nat → Nat} (hT : TM (I 140) T) (hw : WF T) {k y f : Nat} (hk : k < T 3) (hf : y < T 1 ∧ f = y ∨ y = 6 ∧ f = 4294967295) (n : Nat) : RX9_flaw_38 N (d + 1) (n + 2) X (nI k) (nI y) I J = if T (61 + k) = f ∨ T (55 + k) = f then some (.int (nI 0), (mkh X (u2 I 135 0 (nI 9)) J)) else some (.int (nI 1), (mkh X (u2 I 140 (61 + k) (nI f)) J)) := by
  obtain ⟨h0, h1, h2, h3, -⟩ := hw.1
  obtain ⟨b1, b2, -⟩ := hw.2.2.2.2.2 k hk
  have e67 : ∀ s0 s1 : Int32, am_run (am_G am_prog (N + 30) (d + 1 + 2)) eX9_flaw uX9_flaw (n + 1) 67 [(0, .ref 135)] [.int s0, .int s1, .ref 135] (mkh X I J) = RX9_flaw_67 N (d + 1) (n + 1) X s0 s1 135 I J := fun _ _ => rfl
  have b67 : RX9_flaw_67 N (d + 1) (n + 1) X (nI f) (nI (61 + k)) 135 I J = if T (61 + k) = f then some (.int (nI 0), (mkh X (u2 I 135 0 (nI 9)) J)) else some (.int (nI 1), (mkh X (u2 I 140 (61 + k) (nI f)) J)) := by
    rw [sX9_flaw_67 N (d + 1) n, c9_becomes (by omega) (x := T (61 + k)) (by omega) (by omega) (tmF hT k hk)]
    by_cases q : T (61 + k) = f
    · rw [if_pos q, if_pos q, cI_some, kX9_flaw_1 N (d + 1) n, nc_eq rfl]
    · rw [if_neg q, if_neg q, cI_some, kX9_flaw_1 N (d + 1) n, nc_ne (by omega) (by omega) (by omega)]
  rw [sX9_flaw_38 N (d + 1) (n + 1), e67, e67]
  rcases hf with ⟨hy, rfl⟩ | ⟨rfl, rfl⟩
  · by_cases q2 : T (55 + k) = f
    · rw [if_pos (Or.inr q2)]
      simp (disch := first | assumption | omega) only [nI_add, pk_mul, nI_clamp, nc_in, nc_lt, nc_nlt, cI_some, cV_some, tmT hT, nc_eq q2.symm]
    · simp (disch := first | assumption | omega) only [nI_add, pk_mul, nI_clamp, nc_in, nc_lt, nc_nlt, cI_some, cV_some, tmT hT, nc_ne, b67]
      by_cases q : T (61 + k) = f
      · rw [if_pos q, if_pos (Or.inl q)]
      · rw [if_neg q, if_neg (by omega)]
  · simp (disch := first | assumption | omega) only [nI_add, pk_mul, nI_clamp, nc_in, nc_lt, nc_nlt, cI_some, cV_some, nc_eq, nc_ne, if_true, if_false, ite_true, ite_false, tmT hT, no_m1]
    rw [b67]
    by_cases q : T (61 + k) = 4294967295
    · rw [if_pos q, if_pos (Or.inl q)]
    · rw [if_neg q, if_neg (by omega)]
theorem p_flaw {xs : Nat → Int32} {N d : Nat} {X : lt_X} {I : Nat → Nat → Int32} {J : Nat → Nat → Int64} (H : INV xs X I J) (hN : 100000 ≤ N) (x y : Int32) : PR xs N d X I J 137 288 [.int x, .int y] := by
  obtain ⟨T, hB, hw, hT, hM, hX, ht⟩ := INV_B H
  obtain ⟨h0, h1, h2, h3, h4, h5, h6⟩ := hw.1
  by_cases q : inb x (T 3) = true
  · obtain ⟨k, hk, rfl⟩ := inb_e q (by omega)
    have main : ∀ (z f : Nat), z < T 1 ∧ f = z ∨ z = 6 ∧ f = 4294967295 → PR xs N d X I J 137 288 [.int (nI k), .int (nI z)] := by
      intro z f hf
      have hc : am_G am_prog (N + 30) (d + 40) 137 [.ref 3, .int (nI k), .int (nI z)] (mkh X I J) = RX8_flaw_41 N (d + 38) (N + 29) X (nI k) (nI f) I J := by
        rw [gX8_flaw N (d + 38), sX8_flaw_0 N (d + 38) _ hX]
        rw [c8_has hX hT hw (by omega), cI_some, kX8_flaw_0 N (d + 38) _ hX, nc_10, if_pos q]
        rcases hf with ⟨hy, rfl⟩ | ⟨rfl, rfl⟩
        · rw [nc_ne (by omega) (by omega) (by omega), c8_has hX hT hw (by omega), cI_some, kX8_flaw_1 N (d + 38) _ hX, nc_10, if_pos (inb_nI hy (by omega)), nc_ne (by omega) (by omega) (by omega)]
        · rw [nc_eq rfl, nc_eq rfl, no_m1]
      have hm : ∀ K : Nat → Nat → Int32, TM (K 140) T → am_G am_prog (N + 30) (d + 40) 288 [.ref 135, .int (nI k), .int (nI z)] (mkh X K J) = RX9_flaw_38 N (d + 37) (N + 29) X (nI k) (nI z) (u2 (u2 K 135 1 (nI 0)) 135 0 (nI 0)) J := by
        intro K hK
        rw [gX9_flaw N (d + 37), sX9_flaw_0 N (d + 37)]
        rw [c9_isSetAt (I := u2 (u2 K 135 1 (nI 0)) 135 0 (nI 0)) hK hw, cI_some, kX9_flaw_0 N (d + 37), nc_10, if_pos q]
        rcases hf with ⟨hy, rfl⟩ | ⟨rfl, rfl⟩
        · rw [nc_ne (by omega) (by omega) (by omega), c9_isVoiceAt (I := u2 (u2 K 135 1 (nI 0)) 135 0 (nI 0)) hK hw, cI_some, kX9_flaw_2 N (d + 37), nc_10, if_pos (inb_nI hy (by omega))]
        · rw [nc_eq rfl]
      have hf2 : f < T 1 ∨ f = 4294967295 := by omega
      rw [c8_flaw41 hX hT hw hk hf2 (N + 28)] at hc
      by_cases r : T (61 + k) = f ∨ T (55 + k) = f
      · refine PR_v H hM (nI 0) (nI 9) ?_ (fun K hK => ?_)
        · rw [hc, if_pos r]
        · rw [hm K hK, c9_flaw38 (d := d + 36) (I := u2 (u2 K 135 1 (nI 0)) 135 0 (nI 0)) hK hw hk hf (N + 27), if_pos r]
      · have w1 := WF_flaw hw hk hf2
        have t1 := TC_flaw hw hk (x := f) hT
        refine PR_here (U := up1 T (61 + k) f) (K := u2 I (X.2.1 + 12) k (nI f)) H hB (up1_big (by omega) (by omega)) w1 (GB_up (by omega) (by omega) (by omega) h2 hB.2.2.2.2.2.2) (.int (nI 1)) ?_ (FC_u (by omega) (by omega) (FC_0 _ _)) t1 (fun L hL => ?_)
        · rw [hc, if_neg r]
        · have hK : TM (L 140) T := by rw [hL 140 (by omega)]; exact hM
          refine ⟨u2 (u2 (u2 L 135 1 (nI 0)) 135 0 (nI 0)) 140 (61 + k) (nI f), ?_, FM_u (by omega) (FM_0 _), TM_up hw (by omega) (by omega) hK⟩
          rw [hm L hK, c9_flaw38 (d := d + 36) (I := u2 (u2 L 135 1 (nI 0)) 135 0 (nI 0)) hK hw hk hf (N + 27), if_neg r]
    by_cases q6 : y = nI 6
    · rw [q6]; exact main 6 4294967295 (Or.inr ⟨rfl, rfl⟩)
    · by_cases q2 : inb y (T 1) = true
      · obtain ⟨v, hv, rfl⟩ := inb_e q2 (by omega)
        exact main v v (Or.inl ⟨hv, rfl⟩)
      · refine PR_v H hM (nI 0) (nI 2) ?_ (fun K hK => ?_)
        · rw [gX8_flaw N (d + 38), sX8_flaw_0 N (d + 38) _ hX]
          rw [c8_has hX hT hw (by omega), cI_some, kX8_flaw_0 N (d + 38) _ hX, nc_10, if_pos q, if_neg q6, c8_has hX hT hw (by omega), cI_some, kX8_flaw_1 N (d + 38) _ hX, nc_10, if_neg q2]
        · rw [gX9_flaw N (d + 37), sX9_flaw_0 N (d + 37)]
          rw [c9_isSetAt (I := u2 (u2 K 135 1 (nI 0)) 135 0 (nI 0)) hK hw, cI_some, kX9_flaw_0 N (d + 37), nc_10, if_pos q, if_neg q6, c9_isVoiceAt (I := u2 (u2 K 135 1 (nI 0)) 135 0 (nI 0)) hK hw, cI_some, kX9_flaw_2 N (d + 37), nc_10, if_neg q2]
  · refine PR_v H hM (nI 0) (nI 2) ?_ (fun K hK => ?_)
    · rw [gX8_flaw N (d + 38), sX8_flaw_0 N (d + 38) _ hX]
      rw [c8_has hX hT hw (by omega), cI_some, kX8_flaw_0 N (d + 38) _ hX, nc_10, if_neg q]
    · rw [gX9_flaw N (d + 37), sX9_flaw_0 N (d + 37)]
      rw [c9_isSetAt (I := u2 (u2 K 135 1 (nI 0)) 135 0 (nI 0)) hK hw, cI_some, kX9_flaw_0 N (d + 37), nc_10, if_neg q]
/-! teach -/
def tchT (T : Nat → Nat) (v s : Nat) : Nat → Nat := up1 (up1 T (73 + 8 * v + T (19 + v)) s) (19 + v) (T (19 + v) + 1)
theorem tchT_ne {T : Nat → Nat} {v s j : Nat} (h1 : j ≠ 73 + 8 * v + T (19 + v)) (h2 : j ≠ 19 + v) : tchT T v s j = T j := by
  unfold tchT; rw [up1_ne h2, up1_ne h1]
theorem tchT_l (T : Nat → Nat) (v s : Nat) : tchT T v s (19 + v) = T (19 + v) + 1 := up1_at _ _ _
theorem tchT_r {T : Nat → Nat} {v : Nat} (s : Nat) (h : v < 6) : tchT T v s (73 + 8 * v + T (19 + v)) = s := by
  unfold tchT; rw [up1_ne (by omega), up1_at]
theorem WF_teach {T : Nat → Nat} (hw : WF T) {v s : Nat} (hv0 : v < T 1) (hl0 : T (19 + v) < 8) (hs0 : s < T 0) : WF (tchT T v s) := by
  obtain ⟨⟨h0, h1, h2, h3, h4, h5, h6⟩, wv, wr, wp, wl, ws⟩ := hw
  have g : ∀ j, j ≠ 19 + v → (j < 73 ∨ 121 ≤ j) → tchT T v s j = T j := fun j a b => tchT_ne (by omega) a
  have e0 := g 0 (by omega) (by omega); have e1 := g 1 (by omega) (by omega); have e2 := g 2 (by omega) (by omega); have e3 := g 3 (by omega) (by omega)
  refine ⟨⟨by omega, by omega, by omega, by omega, by rw [g 4 (by omega) (by omega)]; exact h4, by rw [g 5 (by omega) (by omega)]; exact h5, by rw [g 6 (by omega) (by omega)]; exact h6⟩, fun u hu => ?_, fun u i hu hi => ?_, fun p hp => ?_, fun p s hp hs => ?_, fun i hi => ?_⟩
  · rw [e1] at hu
    have a := wv u hu
    rw [g (7 + u) (by omega) (by omega), g (13 + u) (by omega) (by omega), g (25 + u) (by omega) (by omega), g (31 + u) (by omega) (by omega)]
    by_cases q : u = v
    · subst q; rw [tchT_l]; omega
    · rw [g (19 + u) (by omega) (by omega)]; omega
  · rw [e1] at hu
    have a := wv u hu
    rw [e0]
    by_cases q : u = v
    · subst q
      rw [tchT_l] at hi
      by_cases r : i = T (19 + u)
      · subst r; rw [tchT_r _ (by omega)]; exact hs0
      · rw [tchT_ne (by omega) (by omega)]; exact wr u i hu (by omega)
    · rw [g (19 + u) (by omega) (by omega)] at hi
      rw [tchT_ne (by omega) (by omega)]; exact wr u i hu hi
  · rw [e2] at hp
    rw [g _ (by omega) (by omega), g _ (by omega) (by omega), g _ (by omega) (by omega)]; exact wp p hp
  · rw [e2] at hp
    rw [g _ (by omega) (by omega)]; exact wl p s hp hs
  · rw [e3] at hi
    rw [e1, e2, g _ (by omega) (by omega), g _ (by omega) (by omega), g _ (by omega) (by omega)]; exact ws i hi
theorem TC_teach {I : Nat → Nat → Int32} {t : Nat} {T : Nat → Nat} (hw : WF T) {v s : Nat} (hv0 : v < T 1) (hl0 : T (19 + v) < 8) (H : TC I t T) : TC (u2 (u2 I (t + 6) (v * 8 + T (19 + v)) (nI s)) (t + 5) v (nI (T (19 + v) + 1))) t (tchT T v s) := by
  obtain ⟨a1, ⟨a2, a3, a4⟩, ⟨a5, a6⟩, a7, a8, a9, a10, a11⟩ := H
  obtain ⟨h0, h1, h2, h3, -⟩ := hw.1
  have g : ∀ j, j ≠ 19 + v → (j < 73 ∨ 121 ≤ j) → tchT T v s j = T j := fun j a b => tchT_ne (by omega) a
  have z : ∀ a, a ≠ t + 5 → a ≠ t + 6 → u2 (u2 I (t + 6) (v * 8 + T (19 + v)) (nI s)) (t + 5) v (nI (T (19 + v) + 1)) a = I a := fun a b1 b2 => by rw [u2_na _ _ _ _ _ b1, u2_na _ _ _ _ _ b2]
  refine ⟨fun k hk => ?_, ⟨?_, ?_, ?_⟩, ⟨?_, ?_⟩, fun u hu => ?_, fun u k hu hk => ?_, fun p hp => ?_, fun p s hp hs => ?_, fun k hk => ?_⟩
  · rw [z _ (by omega) (by omega), g _ (by omega) (by omega)]; exact a1 k hk
  · rw [z _ (by omega) (by omega), g _ (by omega) (by omega)]; exact a2
  · rw [z _ (by omega) (by omega), g _ (by omega) (by omega)]; exact a3
  · rw [z _ (by omega) (by omega), g _ (by omega) (by omega)]; exact a4
  · rw [z _ (by omega) (by omega), g 1 (by omega) (by omega), a5, bst_congr (c := fun u => tchT T v s (25 + u) == 1) (e := fun u => T (25 + u) == 1) (T 1) (fun i hi => by show (tchT T v s (25 + i) == 1) = _; rw [g _ (by omega) (by omega)])]
  · rw [z _ (by omega) (by omega), g 1 (by omega) (by omega), a6, bst_congr (c := fun u => tchT T v s (31 + u) == 1) (e := fun u => T (31 + u) == 1) (T 1) (fun i hi => by show (tchT T v s (31 + i) == 1) = _; rw [g _ (by omega) (by omega)])]
  · rw [g 1 (by omega) (by omega)] at hu
    obtain ⟨b1, b2, b3⟩ := a7 u hu
    refine ⟨by rw [z _ (by omega) (by omega), g _ (by omega) (by omega)]; exact b1, by rw [z _ (by omega) (by omega), g _ (by omega) (by omega)]; exact b2, ?_⟩
    by_cases q : u = v
    · subst q; rw [u2_at, tchT_l]
    · rw [u2_nk _ _ _ _ _ q, u2_na _ _ _ _ _ (by omega), g _ (by omega) (by omega)]; exact b3
  · rw [g 1 (by omega) (by omega)] at hu
    have h8 := hw.2.1 u hu
    have hv8 := hw.2.1 v hv0
    rw [u2_na _ _ _ _ _ (by omega)]
    by_cases q : u = v
    · subst q
      rw [tchT_l] at hk
      by_cases r : k = T (19 + u)
      · subst r; rw [u2_at, tchT_r _ (by omega)]
      · rw [u2_nk _ _ _ _ _ (by omega), tchT_ne (by omega) (by omega)]; exact a8 u k hu (by omega)
    · rw [g (19 + u) (by omega) (by omega)] at hk
      rw [u2_nk _ _ _ _ _ (by omega), tchT_ne (by omega) (by omega)]; exact a8 u k hu hk
  · rw [g 2 (by omega) (by omega)] at hp
    rw [z _ (by omega) (by omega), z _ (by omega) (by omega), z _ (by omega) (by omega), g _ (by omega) (by omega), g _ (by omega) (by omega), g _ (by omega) (by omega)]; exact a9 p hp
  · rw [g 2 (by omega) (by omega)] at hp
    rw [z _ (by omega) (by omega), g _ (by omega) (by omega)]; exact a10 p s hp hs
  · rw [g 3 (by omega) (by omega)] at hk
    rw [z _ (by omega) (by omega), z _ (by omega) (by omega), z _ (by omega) (by omega), g _ (by omega) (by omega), g _ (by omega) (by omega), g _ (by omega) (by omega)]; exact a11 k hk
theorem TM_teach {c : Nat → Int32} {T : Nat → Nat} (hw : WF T) {v s : Nat} (hv0 : v < T 1) (hl0 : T (19 + v) < 8) (H : TM c T) : TM (upd (upd c (73 + 8 * v + T (19 + v)) (nI s)) (19 + v) (nI (T (19 + v) + 1))) (tchT T v s) := by
  obtain ⟨a0, a1, a2, a3, a4, a5⟩ := H
  obtain ⟨h0, h1, h2, h3, -⟩ := hw.1
  have g : ∀ j, j ≠ 19 + v → (j < 73 ∨ 121 ≤ j) → tchT T v s j = T j := fun j a b => tchT_ne (by omega) a
  have z : ∀ i, c i = nI (T i) → upd (upd c (73 + 8 * v + T (19 + v)) (nI s)) (19 + v) (nI (T (19 + v) + 1)) i = nI (tchT T v s i) := by
    intro i e
    unfold tchT
    by_cases q : i = 19 + v
    · rw [q, up1_at]; exact if_pos rfl
    · rw [up1_ne q]
      refine (if_neg q).trans ?_
      by_cases r : i = 73 + 8 * v + T (19 + v)
      · rw [r, up1_at]; exact if_pos rfl
      · rw [up1_ne r, ← e]; exact if_neg r
  refine ⟨fun i hi => z i (a0 i hi), fun u hu => ?_, fun u i hu hi => ?_, fun p hp => ?_, fun p s hp hs => ?_, fun i hi => ?_⟩
  · rw [g 1 (by omega) (by omega)] at hu
    obtain ⟨b1, b2, b3, b4, b5⟩ := a1 u hu
    exact ⟨z _ b1, z _ b2, z _ b3, z _ b4, z _ b5⟩
  · rw [g 1 (by omega) (by omega)] at hu
    by_cases q : u = v
    · subst q
      rw [tchT_l] at hi
      by_cases r : i = T (19 + u)
      · subst r
        rw [tchT_r _ (by omega)]
        refine (if_neg (by omega)).trans ?_
        exact if_pos rfl
      · exact z _ (a2 u i hu (by omega))
    · rw [g (19 + u) (by omega) (by omega)] at hi
      exact z _ (a2 u i hu hi)
  · rw [g 2 (by omega) (by omega)] at hp
    obtain ⟨b1, b2, b3⟩ := a3 p hp
    exact ⟨z _ b1, z _ b2, z _ b3⟩
  · rw [g 2 (by omega) (by omega)] at hp; exact z _ (a4 p s hp hs)
  · rw [g 3 (by omega) (by omega)] at hi
    obtain ⟨b1, b2, b3⟩ := a5 i hi
    exact ⟨z _ b1, z _ b2, z _ b3⟩
theorem p_teach {xs : Nat → Int32} {N d : Nat} {X : lt_X} {I : Nat → Nat → Int32} {J : Nat → Nat → Int64} (H : INV xs X I J) (hN : 100000 ≤ N) (x y : Int32) : PR xs N d X I J 139 290 [.int x, .int y] := by
  obtain ⟨T, hB, hw, hT, hM, hX, ht⟩ := INV_B H
  obtain ⟨h0, h1, h2, h3, h4, h5, h6⟩ := hw.1
  by_cases qx : inb x (T 1) = true
  · obtain ⟨v, hv, rfl⟩ := inb_e qx (by omega)
    have hr := hw.2.1 v hv
    by_cases qy : inb y (T 0) = true
    · obtain ⟨s, hs, rfl⟩ := inb_e qy (by omega)
      by_cases q : T (19 + v) < 8
      · have w1 := WF_teach hw hv q hs
        have t1 := TC_teach hw hv q (s := s) hT
        have eb : ∀ j, j < 4 ∨ 157 ≤ j → tchT T v s j = T j := fun j hj => tchT_ne (by omega) (by omega)
        have gb : GB (tchT T v s) := by
          intro p hp
          rw [eb 2 (by omega)] at hp
          rw [tchT_ne (by omega) (by omega), tchT_ne (by omega) (by omega), tchT_ne (by omega) (by omega)]
          exact hB.2.2.2.2.2.2 p hp
        have hv1 : v < tchT T v s 1 := by rw [eb 1 (by omega)]; exact hv
        refine PR_here (U := tchT T v s) (K := u2 (u2 I (X.2.1 + 6) (v * 8 + T (19 + v)) (nI s)) (X.2.1 + 5) v (nI (T (19 + v) + 1))) H hB eb w1 gb (.int (nI (T (19 + v) + 1))) ?_ (FC_u (by omega) (by omega) (FC_u (by omega) (by omega) (FC_0 _ _))) t1 (fun L hL => ?_)
        · rw [gX8_teach N (d + 38), sX8_teach_0 N (d + 38) _ hX]
          rw [c8_has hX hT hw (by omega), cI_some, kX8_teach_0 N (d + 38) _ hX, nc_10, if_pos qx, c8_has hX hT hw (by omega), cI_some, kX8_teach_1 N (d + 38) _ hX, nc_10, if_pos qy]
          simp (disch := first | assumption | omega) only [nI_add, pk_mul, nI_clamp, nc_in, nc_lt, nc_nlt, cI_some, cV_some, tcR hT]
          rw [gX5_addToRow N (d + 38) ht, sX5_addToRow_0 N (d + 38) _ ht]
          simp (disch := first | assumption | omega) only [nI_add, pk_mul, nI_clamp, nc_in, nc_lt, nc_nlt, cI_some, cV_some, tcR hT, kX8_teach_2 N (d + 38) _ hX, u2_at]
        · have hK : TM (L 140) T := by rw [hL 140 (by omega)]; exact hM
          have e40 : ∀ j, u2 (u2 L 135 1 (nI 0)) 135 0 (nI 0) 140 j = L 140 j := fun _ => rfl
          have e41 : ∀ w, u2 (u2 (u2 L 135 1 (nI 0)) 135 0 (nI 0)) 140 (73 + 8 * v + T (19 + v)) w 140 (19 + v) = L 140 (19 + v) := fun w => by rw [u2_nk _ _ _ _ _ (by omega), e40]
          refine ⟨u2 (u2 (u2 (u2 L 135 1 (nI 0)) 135 0 (nI 0)) 140 (73 + 8 * v + T (19 + v)) (nI s)) 140 (19 + v) (nI (T (19 + v) + 1)), ?_, FM_u (by omega) (FM_u (by omega) (FM_0 _)), TM_teach hw hv q hK⟩
          rw [gX9_teach N (d + 37), sX9_teach_0 N (d + 37)]
          rw [c9_isVoiceAt (I := u2 (u2 L 135 1 (nI 0)) 135 0 (nI 0)) hK hw, cI_some, kX9_teach_0 N (d + 37), nc_10, if_pos qx, c9_isSubjectAt (I := u2 (u2 L 135 1 (nI 0)) 135 0 (nI 0)) hK hw, cI_some, kX9_teach_1 N (d + 37), nc_10, if_pos qy]
          simp (disch := first | assumption | omega) only [nI_add, pk_mul, nI_clamp, nc_in, nc_lt, nc_nlt, cI_some, cV_some, e40, tmR hK, nc_ne, e41]
      · have q8 : T (19 + v) = 8 := by omega
        refine PR_v H hM (-1) (nI 7) ?_ (fun K hK => ?_)
        · rw [gX8_teach N (d + 38), sX8_teach_0 N (d + 38) _ hX]
          rw [c8_has hX hT hw (by omega), cI_some, kX8_teach_0 N (d + 38) _ hX, nc_10, if_pos qx, c8_has hX hT hw (by omega), cI_some, kX8_teach_1 N (d + 38) _ hX, nc_10, if_pos qy]
          simp (disch := first | assumption | omega) only [nI_add, pk_mul, nI_clamp, nc_in, nc_lt, nc_nlt, cI_some, cV_some, tcR hT]
        · have e40 : ∀ j, u2 (u2 K 135 1 (nI 0)) 135 0 (nI 0) 140 j = K 140 j := fun _ => rfl
          rw [gX9_teach N (d + 37), sX9_teach_0 N (d + 37)]
          rw [c9_isVoiceAt (I := u2 (u2 K 135 1 (nI 0)) 135 0 (nI 0)) hK hw, cI_some, kX9_teach_0 N (d + 37), nc_10, if_pos qx, c9_isSubjectAt (I := u2 (u2 K 135 1 (nI 0)) 135 0 (nI 0)) hK hw, cI_some, kX9_teach_1 N (d + 37), nc_10, if_pos qy]
          simp (disch := first | assumption | omega) only [nI_add, pk_mul, nI_clamp, nc_in, nc_lt, nc_nlt, cI_some, cV_some, e40, tmR hK, nc_eq q8]
    · refine PR_v H hM (-1) (nI 2) ?_ (fun K hK => ?_)
      · rw [gX8_teach N (d + 38), sX8_teach_0 N (d + 38) _ hX]
        rw [c8_has hX hT hw (by omega), cI_some, kX8_teach_0 N (d + 38) _ hX, nc_10, if_pos qx, c8_has hX hT hw (by omega), cI_some, kX8_teach_1 N (d + 38) _ hX, nc_10, if_neg qy]
      · rw [gX9_teach N (d + 37), sX9_teach_0 N (d + 37)]
        rw [c9_isVoiceAt (I := u2 (u2 K 135 1 (nI 0)) 135 0 (nI 0)) hK hw, cI_some, kX9_teach_0 N (d + 37), nc_10, if_pos qx, c9_isSubjectAt (I := u2 (u2 K 135 1 (nI 0)) 135 0 (nI 0)) hK hw, cI_some, kX9_teach_1 N (d + 37), nc_10, if_neg qy]
  · refine PR_v H hM (-1) (nI 2) ?_ (fun K hK => ?_)
    · rw [gX8_teach N (d + 38), sX8_teach_0 N (d + 38) _ hX]
      rw [c8_has hX hT hw (by omega), cI_some, kX8_teach_0 N (d + 38) _ hX, nc_10, if_neg qx]
    · rw [gX9_teach N (d + 37), sX9_teach_0 N (d + 37)]
      rw [c9_isVoiceAt (I := u2 (u2 K 135 1 (nI 0)) 135 0 (nI 0)) hK hw, cI_some, kX9_teach_0 N (d + 37), nc_10, if_neg qx]
