/-! what is done to the town that is here -/
def FC (t : Nat) (I K : Nat → Nat → Int32) : Prop := ∀ a, ¬ (t ≤ a ∧ a < t + 14) → K a = I a
def FM (I M : Nat → Nat → Int32) : Prop := (∀ a, a ≠ 140 → M a = I a) ∧ ∀ k, 157 ≤ k → M 140 k = I 140 k
theorem FC_0 (t : Nat) (I : Nat → Nat → Int32) : FC t I I := fun _ _ => rfl
theorem FC_u {t a k : Nat} {I K : Nat → Nat → Int32} {v : Int32} (h : t ≤ a) (h2 : a < t + 14) (H : FC t I K) : FC t I (u2 K a k v) := fun b hb => by
  rw [u2_na _ _ _ _ _ (by omega)]; exact H b hb
theorem FC_t {t : Nat} {I K M : Nat → Nat → Int32} (H : FC t I K) (H2 : FC t K M) : FC t I M := fun a ha => by rw [H2 a ha, H a ha]
theorem FM_0 (I : Nat → Nat → Int32) : FM I I := ⟨fun _ _ => rfl, fun _ _ => rfl⟩
theorem FM_u {k : Nat} {I M : Nat → Nat → Int32} {v : Int32} (h : k < 157) (H : FM I M) : FM I (u2 M 140 k v) :=
  ⟨fun a ha => by rw [u2_na _ _ _ _ _ ha]; exact H.1 a ha, fun j hj => by rw [u2_nk _ _ _ _ _ (by omega)]; exact H.2 j hj⟩
theorem FM_t {I K M : Nat → Nat → Int32} (H : FM I K) (H2 : FM K M) : FM I M := ⟨fun a ha => by rw [H2.1 a ha, H.1 a ha], fun k hk => by rw [H2.2 k hk, H.2 k hk]⟩
theorem u2_id {I : Nat → Nat → Int32} {a k : Nat} {v : Int32} (h : I a k = v) : u2 I a k v = I := by
  funext b j
  by_cases q : b = a
  · subst q
    by_cases r : j = k
    · subst r; rw [u2_at, h]
    · rw [u2_nk _ _ _ _ _ r]
  · rw [u2_na _ _ _ _ _ q]
theorem INV_B {xs : Nat → Int32} {X : lt_X} {I : Nat → Nat → Int32} {J : Nat → Nat → Int64} (H : INV xs X I J) : ∃ T, TB I J X.2.1 0 T ∧ WF T ∧ TC I X.2.1 T ∧ TM (I 140) T ∧ hsX X ∧ isT X.2.1 := by
  obtain ⟨hX, -, ⟨T, h⟩, -⟩ := H
  exact ⟨T, h, h.1, h.2.1, TM_0.mp h.2.2.1, hX, hsX_he hX⟩
theorem PR_here {xs : Nat → Int32} {N d : Nat} {X : lt_X} {I K : Nat → Nat → Int32} {J : Nat → Nat → Int64} {c m : Nat} {as : List Value} {T U : Nat → Nat} (H : INV xs X I J) (hB : TB I J X.2.1 0 T) (hU : ∀ k, k < 4 ∨ 157 ≤ k → U k = T k) (hw : WF U) (hg : GB U) (v : Value)
    (hc : am_G am_prog (N + 30) (d + 40) c (.ref 3 :: as) (mkh X I J) = some (v, mkh X (u2 K 3 15 (nI 0)) J)) (hK : FC X.2.1 I K) (h1 : TC K X.2.1 U)
    (hm : ∀ L : Nat → Nat → Int32, (∀ a, 135 ≤ a → L a = I a) → ∃ M, am_G am_prog (N + 30) (d + 40) m (.ref 135 :: as) (mkh X L J) = some (v, mkh X M J) ∧ FM (u2 (u2 L 135 1 (nI 0)) 135 0 (nI 0)) M ∧ TM (M 140) U) : PR xs N d X I J c m as := by
  have he := hsX_no H.1
  have l0 : ∀ a, a ≠ 3 → ¬ (X.2.1 ≤ a ∧ a < X.2.1 + 14) → u2 K 3 15 (nI 0) a = I a := fun a b1 b2 => by rw [u2_na _ _ _ _ _ b1]; exact hK a b2
  obtain ⟨M, m1, m2, m3⟩ := hm (u2 K 3 15 (nI 0)) (fun a ha => l0 a (by omega) (by omega))
  have g : ∀ a, a ≠ 140 → a ≠ 135 → M a = u2 K 3 15 (nI 0) a := fun a b1 b2 => by
    rw [m2.1 a b1, u2_na _ _ _ _ _ b2, u2_na _ _ _ _ _ b2]
  have g140 : ∀ k, 157 ≤ k → M 140 k = I 140 k := fun k hk => by
    rw [m2.2 k hk, u2_na _ _ _ _ _ (by omega), u2_na _ _ _ _ _ (by omega), l0 140 (by omega) (by omega)]
  have g135 : ∀ k, k ≠ 0 → k ≠ 1 → M 135 k = u2 K 3 15 (nI 0) 135 k := fun k b1 b2 => by
    rw [m2.1 135 (by omega), u2_nk _ _ _ _ _ b1, u2_nk _ _ _ _ _ b2]
  refine ⟨v, X, _, J, X, M, J, hc, m1, INV_step H (K := u2 K 3 15 (nI 0)) ⟨fun a b1 b2 b3 b4 => l0 a b2 (by omega), fun k hk => ?_, fun a ha => l0 a (by omega) (by omega)⟩ ⟨fun a ha => g a (by omega) (by omega), fun a b1 b2 b3 b4 => g a (by omega) (by omega), fun k hk => ?_, fun k hk => g135 k (by omega) (by omega)⟩ ?_ ?_, rfl⟩
  · rw [u2_nk _ _ _ _ _ hk, hK 3 (by omega)]
  · rw [g140 k (by omega), l0 140 (by omega) (by omega)]
  · refine ⟨U, TB_up hB hU hw hg (TC_frame (fun a b1 b2 => ?_) h1) m3 (fun a b1 b2 => ?_) (fun k b1 b2 => g140 k b1)⟩
    · rw [g a (by omega) (by omega), u2_na _ _ _ _ _ (by omega)]
    · rw [g a (by omega) (by omega), l0 a (by omega) (by omega)]
  · rw [g 3 (by omega) (by omega), u2_at, m2.1 135 (by omega), u2_at]
theorem c9_becomes {N d : Nat} {X : lt_X} {I : Nat → Nat → Int32} {J : Nat → Nat → Int64} {k x y : Nat} (hk : k < 2145) (hx : x < 2 ^ 32) (hy : y < 2 ^ 32) (hc : I 140 k = nI x) : am_G am_prog (N + 30) (d + 1) 283 [.ref 135, .int (nI k), .int (nI y)] (mkh X I J) = if x = y then some (.int (nI 0), (mkh X I J)) else some (.int (nI 1), mkh X (u2 I 140 k (nI y)) J) := by
  rw [gX9_becomes N d, sX9_becomes_0 N d]
  by_cases q : x = y
  · simp (disch := first | assumption | omega) only [nI_add, pk_mul, nI_clamp, nc_in, nc_lt, nc_nlt, cI_some, cV_some, hc, nc_eq q, if_pos q]
  · simp (disch := first | assumption | omega) only [nI_add, pk_mul, nI_clamp, nc_in, nc_lt, nc_nlt, cI_some, cV_some, hc, nc_ne q, if_neg q]
theorem up1_big {T : Nat → Nat} {k x : Nat} (h : 4 ≤ k) (h2 : k < 157) : ∀ j, j < 4 ∨ 157 ≤ j → up1 T k x j = T j := fun j hj => up1_ne (by omega)
theorem WF_owner {T : Nat → Nat} (hw : WF T) {k x : Nat} (hk : k < T 3) (hx : x < T 2 ∨ x = 4294967295) : WF (up1 T (67 + k) x) := by
  obtain ⟨h0, h1, h2, h3, -⟩ := hw.1
  exact WF_up hw (by omega) (by omega) (by omega) (by omega) (by omega) (by omega) (fun v hv => by omega) (fun p hp => by omega) (fun p s _ _ => by omega) (fun i hi => by omega)
theorem WF_flaw {T : Nat → Nat} (hw : WF T) {k x : Nat} (hk : k < T 3) (hx : x < T 1 ∨ x = 4294967295) : WF (up1 T (61 + k) x) := by
  obtain ⟨h0, h1, h2, h3, -⟩ := hw.1
  exact WF_up hw (by omega) (by omega) (by omega) (by omega) (by omega) (by omega) (fun v hv => by omega) (fun p hp => by omega) (fun p s _ _ => by omega) (fun i hi => by omega)
theorem WF_cold {T : Nat → Nat} (hw : WF T) {v x : Nat} (hv0 : v < T 1) (hx : x ≤ 1) : WF (up1 T (31 + v) x) := by
  obtain ⟨h0, h1, h2, h3, -⟩ := hw.1
  exact WF_up hw (by omega) (by omega) (by omega) (by omega) (by omega) (by omega) (fun v hv => by omega) (fun p hp => by omega) (fun p s _ _ => by omega) (fun i hi => by omega)
theorem WF_coins {T : Nat → Nat} (hw : WF T) {p x : Nat} (hp0 : p < T 2) (hx : x ≤ 9999) : WF (up1 T (37 + p) x) := by
  obtain ⟨h0, h1, h2, h3, -⟩ := hw.1
  exact WF_up hw (by omega) (by omega) (by omega) (by omega) (by omega) (by omega) (fun v hv => by omega) (fun p hp => by omega) (fun p s _ _ => by omega) (fun i hi => by omega)
theorem WF_like {T : Nat → Nat} (hw : WF T) {p s x : Nat} (hp0 : p < T 2) (hs0 : s < 6) (hx : x ≤ 9) : WF (up1 T (121 + 6 * p + s) x) := by
  obtain ⟨h0, h1, h2, h3, -⟩ := hw.1
  exact WF_up hw (by omega) (by omega) (by omega) (by omega) (by omega) (by omega) (fun v hv => by omega) (fun p hp => by omega) (fun p s _ _ => by omega) (fun i hi => by omega)
theorem WF_odds {T : Nat → Nat} (hw : WF T) {x : Nat} (hx : x ≤ 16) : WF (up1 T 4 x) := by
  obtain ⟨h0, h1, h2, h3, -⟩ := hw.1
  exact WF_up hw (by omega) (by omega) (by omega) (by omega) (by omega) (by omega) (fun v hv => by omega) (fun p hp => by omega) (fun p s _ _ => by omega) (fun i hi => by omega)
/-! gifts -/
theorem c5_makesGift {N d : Nat} {X : lt_X} {I : Nat → Nat → Int32} {J : Nat → Nat → Int64} {t : Nat} {T : Nat → Nat} (ht : isT t) (hT : TC I t T) (hw : WF T) {k p : Nat} (hk : k < T 3) (hp : p < T 2) : am_G am_prog (N + 30) (d + 1) 83 [.ref t, .int (nI k), .int (nI p)] (mkh X I J) = if T (67 + k) = p then some (.int (nI 0), (mkh X I J)) else some (.int (nI 1), mkh X (u2 I (t + 13) k (nI p)) J) := by
  obtain ⟨h0, h1, h2, h3, -⟩ := hw.1
  have hb := (hw.2.2.2.2.2 k hk).2.2
  rw [gX5_makesGift N d ht, sX5_makesGift_0 N d _ ht]
  by_cases q : T (67 + k) = p
  · simp (disch := first | assumption | omega) only [nI_add, pk_mul, nI_clamp, nc_in, nc_lt, nc_nlt, cI_some, cV_some, tcB hT, nc_eq q, if_pos q]
  · simp (disch := first | assumption | omega) only [nI_add, pk_mul, nI_clamp, nc_in, nc_lt, nc_nlt, cI_some, cV_some, tcB hT, nc_ne q, if_neg q]
/-! sales -/
def canS (T : Nat → Nat) (k p c : Nat) : Prop := T (67 + k) ≠ 4294967295 ∧ T (67 + k) ≠ p ∧ c ≤ T (37 + p) ∧ T (37 + T (67 + k)) + c ≤ 9999
def soldT (T : Nat → Nat) (k p c : Nat) : Nat → Nat := up1 (up1 (up1 T (37 + p) (T (37 + p) - c)) (37 + T (67 + k)) (T (37 + T (67 + k)) + c)) (67 + k) p
theorem WF_sold {T : Nat → Nat} (hw : WF T) {k p c : Nat} (hk : k < T 3) (hp : p < T 2) (hc : canS T k p c) : WF (soldT T k p c) := by
  obtain ⟨c1, c2, c3, c4⟩ := hc
  obtain ⟨h0, h1, h2, h3, -⟩ := hw.1
  have hb := (hw.2.2.2.2.2 k hk).2.2
  have hcp := (hw.2.2.2.1 p hp).1
  have w1 := WF_coins hw hp (x := T (37 + p) - c) (by omega)
  have w2 := WF_coins w1 (p := T (67 + k)) (x := T (37 + T (67 + k)) + c) (by rw [up1_ne (by omega)]; omega) c4
  exact WF_owner w2 (by rw [up1_ne (by omega), up1_ne (by omega)]; exact hk) (by rw [up1_ne (by omega), up1_ne (by omega)]; omega)
theorem GB_sold {T : Nat → Nat} (hw : WF T) (hg : GB T) {k p c : Nat} (hk : k < T 3) (hp : p < T 2) (hc : canS T k p c) : GB (soldT T k p c) := by
  obtain ⟨c1, c2, c3, c4⟩ := hc
  obtain ⟨h0, h1, h2, h3, -⟩ := hw.1
  have hb := (hw.2.2.2.2.2 k hk).2.2
  have g1 := GB_up (x := T (37 + p) - c) (k := 37 + p) (by omega) (by omega) (by omega) h2 hg
  have g2 := GB_up (x := T (37 + T (67 + k)) + c) (k := 37 + T (67 + k)) (by omega) (by omega) (by omega) (by rw [up1_ne (by omega)]; exact h2) g1
  exact GB_up (by omega) (by omega) (by omega) (by rw [up1_ne (by omega), up1_ne (by omega)]; exact h2) g2
theorem soldT_big {T : Nat → Nat} (hw : WF T) {k p c : Nat} (hk : k < T 3) (hp : p < T 2) (hc : canS T k p c) : ∀ j, j < 4 ∨ 157 ≤ j → soldT T k p c j = T j := by
  intro j hj
  obtain ⟨h0, h1, h2, h3, -⟩ := hw.1
  have hb := (hw.2.2.2.2.2 k hk).2.2
  obtain ⟨c1, c2, c3, c4⟩ := hc
  unfold soldT
  rw [up1_ne (by omega), up1_ne (by omega), up1_ne (by omega)]
theorem c5_makesSale {N d : Nat} {X : lt_X} {I : Nat → Nat → Int32} {J : Nat → Nat → Int64} {t : Nat} {T : Nat → Nat} (ht : isT t) (hT : TC I t T) (hw : WF T) {k p c : Nat} (hk : k < T 3) (hp : p < T 2) (hc9 : c ≤ 999) :
    (canS T k p c → ∃ K, am_G am_prog (N + 30) (d + 1) 82 [.ref t, .int (nI k), .int (nI p), .int (nI c)] (mkh X I J) = some (.int (nI 1), mkh X K J) ∧ FC t I K ∧ TC K t (soldT T k p c)) ∧
    (¬ canS T k p c → am_G am_prog (N + 30) (d + 1) 82 [.ref t, .int (nI k), .int (nI p), .int (nI c)] (mkh X I J) = some (.int (nI 0), (mkh X I J))) := by
  obtain ⟨h0, h1, h2, h3, -⟩ := hw.1
  have hb := (hw.2.2.2.2.2 k hk).2.2
  have hcp := (hw.2.2.2.1 p hp).1
  rw [gX5_makesSale N d ht, sX5_makesSale_0 N d _ ht]
  constructor
  · intro hc
    obtain ⟨c1, c2, c3, c4⟩ := hc
    have hq : T (67 + k) < T 2 := by omega
    have hcq := (hw.2.2.2.1 _ hq).1
    have w1 := WF_coins hw hp (x := T (37 + p) - c) (by omega)
    have t1 := TC_coins hw hp (x := T (37 + p) - c) hT
    have w2 := WF_coins w1 (p := T (67 + k)) (x := T (37 + T (67 + k)) + c) (by rw [up1_ne (by omega)]; omega) c4
    have t2 := TC_coins w1 (j := T (67 + k)) (x := T (37 + T (67 + k)) + c) (by rw [up1_ne (by omega)]; omega) t1
    have t3 := TC_owner w2 (j := k) (x := p) (by rw [up1_ne (by omega), up1_ne (by omega)]; exact hk) t2
    have e1 : ∀ v, u2 I (t + 7) p v (t + 7) (T (67 + k)) = I (t + 7) (T (67 + k)) := fun v => u2_nk _ _ _ _ _ (by omega)
    have q1 : T (67 + k) < 2 ^ 31 := by omega
    refine ⟨_, ?_, FC_u (by omega) (by omega) (FC_u (by omega) (by omega) (FC_u (by omega) (by omega) (FC_0 _ _))), t3⟩
    simp (disch := first | assumption | omega) only [nI_add, pk_mul, nI_clamp, nc_in, nc_lt, nc_nlt, cI_some, cV_some, tcB hT, nc_nm1 q1, nc_ne c2, tcM hT, e1, pk_sub]
  · intro hc
    by_cases q1 : T (67 + k) = 4294967295
    · simp (disch := first | assumption | omega) only [nI_add, pk_mul, nI_clamp, nc_in, nc_lt, nc_nlt, cI_some, cV_some, tcB hT, nc_m1 q1]
    have q1' : T (67 + k) < 2 ^ 31 := by omega
    have hq : T (67 + k) < T 2 := by omega
    have hcq := (hw.2.2.2.1 _ hq).1
    by_cases q2 : T (67 + k) = p
    · simp (disch := first | assumption | omega) only [nI_add, pk_mul, nI_clamp, nc_in, nc_lt, nc_nlt, cI_some, cV_some, tcB hT, nc_nm1 q1', nc_eq q2]
    by_cases q3 : T (37 + p) < c
    · simp (disch := first | assumption | omega) only [nI_add, pk_mul, nI_clamp, nc_in, nc_lt, nc_nlt, cI_some, cV_some, tcB hT, nc_nm1 q1', nc_ne q2, tcM hT]
    have q4 : 9999 < T (37 + T (67 + k)) + c := by
      unfold canS at hc; omega
    simp (disch := first | assumption | omega) only [nI_add, pk_mul, nI_clamp, nc_in, nc_lt, nc_nlt, cI_some, cV_some, tcB hT, nc_nm1 q1', nc_ne q2, tcM hT]
theorem up1_comm {T : Nat → Nat} {a b x y : Nat} (h : a ≠ b) : up1 (up1 T a x) b y = up1 (up1 T b y) a x := by
  funext j
  by_cases q : j = a
  · subst q; rw [up1_ne h, up1_at, up1_at]
  · by_cases r : j = b
    · subst r; rw [up1_at, up1_ne q, up1_at]
    · rw [up1_ne r, up1_ne q, up1_ne q, up1_ne r]
theorem c9_sells {N d : Nat} {X : lt_X} {I : Nat → Nat → Int32} {J : Nat → Nat → Int64} {T : Nat → Nat} (hT : TM (I 140) T) (hw : WF T) {k p c : Nat} (hk : k < T 3) (hp : p < T 2) (hc9 : c ≤ 999) :
    (canS T k p c → ∃ M, am_G am_prog (N + 30) (d + 1) 281 [.ref 135, .int (nI k), .int (nI p), .int (nI c)] (mkh X I J) = some (.int (nI 1), mkh X M J) ∧ FM I M ∧ TM (M 140) (soldT T k p c)) ∧
    (¬ canS T k p c → am_G am_prog (N + 30) (d + 1) 281 [.ref 135, .int (nI k), .int (nI p), .int (nI c)] (mkh X I J) = some (.int (nI 0), (mkh X I J))) := by
  obtain ⟨h0, h1, h2, h3, -⟩ := hw.1
  have hb := (hw.2.2.2.2.2 k hk).2.2
  have hcp := (hw.2.2.2.1 p hp).1
  rw [gX9_sells N d, sX9_sells_0 N d]
  constructor
  · intro hc
    have hc0 := hc
    obtain ⟨c1, c2, c3, c4⟩ := hc
    have hq : T (67 + k) < T 2 := by omega
    have hcq := (hw.2.2.2.1 _ hq).1
    have w1 := WF_coins hw hq (x := T (37 + T (67 + k)) + c) c4
    have t1 := TM_up hw (k := 37 + T (67 + k)) (x := T (37 + T (67 + k)) + c) (by omega) (by omega) hT
    have w2 := WF_coins w1 (p := p) (x := T (37 + p) - c) (by rw [up1_ne (by omega)]; omega) (by omega)
    have t2 := TM_up w1 (k := 37 + p) (x := T (37 + p) - c) (by omega) (by omega) t1
    have t3 := TM_up w2 (k := 67 + k) (x := p) (by omega) (by omega) t2
    rw [up1_comm (T := T) (by omega)] at t3
    have e1 : ∀ v, u2 I 140 (37 + T (67 + k)) v 140 (37 + p) = I 140 (37 + p) := fun v => u2_nk _ _ _ _ _ (by omega)
    refine ⟨u2 (u2 (u2 I 140 (37 + T (67 + k)) (nI (T (37 + T (67 + k)) + c))) 140 (37 + p) (nI (T (37 + p) - c))) 140 (67 + k) (nI p), ?_, FM_u (by omega) (FM_u (by omega) (FM_u (by omega) (FM_0 _))), t3⟩
    simp (disch := first | assumption | omega) only [nI_add, pk_mul, nI_clamp, nc_in, nc_lt, nc_nlt, cI_some, cV_some, tmB hT, nc_ne c2, tmM hT, e1, pk_sub]
  · intro hc
    by_cases q1 : T (67 + k) = 4294967295
    · simp (disch := first | assumption | omega) only [nI_add, pk_mul, nI_clamp, nc_in, nc_lt, nc_nlt, cI_some, cV_some, tmB hT, nc_neg q1]
    have hq : T (67 + k) < T 2 := by omega
    have hcq := (hw.2.2.2.1 _ hq).1
    by_cases q2 : T (67 + k) = p
    · simp (disch := first | assumption | omega) only [nI_add, pk_mul, nI_clamp, nc_in, nc_lt, nc_nlt, cI_some, cV_some, tmB hT, nc_eq q2]
    by_cases q3 : T (37 + p) < c
    · simp (disch := first | assumption | omega) only [nI_add, pk_mul, nI_clamp, nc_in, nc_lt, nc_nlt, cI_some, cV_some, tmB hT, nc_ne q2, tmM hT]
    have q4 : 9999 < T (37 + T (67 + k)) + c := by
      unfold canS at hc; omega
    simp (disch := first | assumption | omega) only [nI_add, pk_mul, nI_clamp, nc_in, nc_lt, nc_nlt, cI_some, cV_some, tmB hT, nc_ne q2, tmM hT]
/-! colds -/
theorem bst_set {c e : Nat → Bool} {m j : Nat} (hj : j < m) (h : ∀ i, i < m → i ≠ j → e i = c i) (h1 : e j = true) : bst e m = bst c m ||| 2 ^ j := by
  apply bit_ext
  intro s
  rw [Nat.testBit_or, Bool.or_eq_true, bst_bit, bst_bit, pow_bit]
  constructor
  · rintro ⟨a, b⟩
    by_cases q : s = j
    · exact Or.inr q.symm
    · exact Or.inl ⟨a, by rw [← h s a q]; exact b⟩
  · rintro (⟨a, b⟩ | a)
    · by_cases q : s = j
      · rw [q]; exact ⟨hj, h1⟩
      · exact ⟨a, by rw [h s a q]; exact b⟩
    · rw [← a]; exact ⟨hj, h1⟩
theorem bst_clr {c e : Nat → Bool} {m j : Nat} (hm : m ≤ 32) (hj : j < m) (h : ∀ i, i < m → i ≠ j → e i = c i) (h1 : e j = false) : bst e m = bst c m &&& nnot (2 ^ j) := by
  have hp : 2 ^ j < 2 ^ 32 := Nat.pow_lt_pow_right (by omega) (by omega)
  apply bit_ext
  intro s
  rw [Nat.testBit_and, Bool.and_eq_true, nnot_bit hp, bst_bit, bst_bit]
  constructor
  · rintro ⟨a, b⟩
    have q : s ≠ j := fun q => by rw [q, h1] at b; cases b
    refine ⟨⟨a, by rw [← h s a q]; exact b⟩, ?_⟩
    rw [Nat.testBit_two_pow]
    simp [show s < 32 by omega, Ne.symm q]
  · rintro ⟨⟨a, b⟩, r⟩
    have q : s ≠ j := fun q => by
      rw [q, Nat.testBit_two_pow] at r; simp at r
    exact ⟨a, by rw [h s a q]; exact b⟩
theorem c5_catchesCold {N d : Nat} {X : lt_X} {I : Nat → Nat → Int32} {J : Nat → Nat → Int64} {t : Nat} {T : Nat → Nat} (ht : isT t) (hT : TC I t T) (hw : WF T) {v : Nat} (hv : v < T 1) : am_G am_prog (N + 30) (d + 2) 84 [.ref t, .int (nI v)] (mkh X I J) = if T (25 + v) = 1 ∧ T (31 + v) = 0 then some (.int (nI 1), mkh X (u2 I t 6 (nI (bst (fun i => up1 T (31 + v) 1 (31 + i) == 1) (T 1)))) J) else some (.int (nI 0), (mkh X I J)) := by
  obtain ⟨h0, h1, h2, h3, -⟩ := hw.1
  have hr := hw.2.1 v hv
  rw [gX5_catchesCold N d ht, sX5_catchesCold_0 N d _ ht, c5_hasCold ht hT hw hv, cI_some, kX5_catchesCold_0 N d _ ht, nc_10]
  by_cases q : T (31 + v) = 1
  · rw [if_pos q, if_neg (by omega)]
  · rw [if_neg q, c5_isLiving ht hT hw hv, cI_some, kX5_catchesCold_1 N d _ ht, nc_10]
    by_cases q2 : T (25 + v) = 1
    · rw [if_pos q2, if_pos (by omega), tcK hT, no_shl (by omega), no_or]
      rw [← bst_set (c := fun i => T (31 + i) == 1) (e := fun i => up1 T (31 + v) 1 (31 + i) == 1) hv (fun i hi hn => by show (up1 T (31 + v) 1 (31 + i) == 1) = _; rw [up1_ne (by omega)]) (by show (up1 T (31 + v) 1 (31 + v) == 1) = true; rw [up1_at]; rfl)]
    · rw [if_neg q2, if_neg (by omega)]
theorem c5_getsWell {N d : Nat} {X : lt_X} {I : Nat → Nat → Int32} {J : Nat → Nat → Int64} {t : Nat} {T : Nat → Nat} (ht : isT t) (hT : TC I t T) (hw : WF T) {v : Nat} (hv : v < T 1) : am_G am_prog (N + 30) (d + 2) 85 [.ref t, .int (nI v)] (mkh X I J) = if T (31 + v) = 1 then some (.int (nI 1), mkh X (u2 I t 6 (nI (bst (fun i => up1 T (31 + v) 0 (31 + i) == 1) (T 1)))) J) else some (.int (nI 0), (mkh X I J)) := by
  obtain ⟨h0, h1, h2, h3, -⟩ := hw.1
  have hr := hw.2.1 v hv
  rw [gX5_getsWell N d ht, sX5_getsWell_0 N d _ ht, c5_hasCold ht hT hw hv, cI_some, kX5_getsWell_0 N d _ ht, nc_10]
  by_cases q : T (31 + v) = 1
  · rw [if_pos q, if_pos q, tcK hT, no_shl (by omega), no_not (Nat.pow_lt_pow_right (by omega) (by omega)), no_and]
    rw [← bst_clr (c := fun i => T (31 + i) == 1) (e := fun i => up1 T (31 + v) 0 (31 + i) == 1) (by omega) hv (fun i hi hn => by show (up1 T (31 + v) 0 (31 + i) == 1) = _; rw [up1_ne (by omega)]) (by show (up1 T (31 + v) 0 (31 + v) == 1) = false; rw [up1_at]; rfl)]
  · rw [if_neg q, if_neg q]
theorem c9_chills {N d : Nat} {X : lt_X} {I : Nat → Nat → Int32} {J : Nat → Nat → Int64} {T : Nat → Nat} (hT : TM (I 140) T) (hw : WF T) {v : Nat} (hv : v < T 1) (x : Nat) (hx : x ≤ 1) : am_G am_prog (N + 30) (d + 2) 286 [.ref 135, .int (nI v), .int (nI x)] (mkh X I J) = if (x = 1 → T (25 + v) = 1) ∧ T (31 + v) ≠ x then some (.int (nI 1), mkh X (u2 I 140 (31 + v) (nI x)) J) else some (.int (nI 0), (mkh X I J)) := by
  obtain ⟨h0, h1, h2, h3, -⟩ := hw.1
  have hr := hw.2.1 v hv
  have b0 : RX9_chills_17 N (d + 1) (N + 29) X (nI v) (nI x) I J = if T (31 + v) = x then some (.int (nI 0), (mkh X I J)) else some (.int (nI 1), mkh X (u2 I 140 (31 + v) (nI x)) J) := by
    rw [sX9_chills_17 N (d + 1) (N + 28)]
    by_cases q : x = 0
    · subst q
      rw [nc_eq rfl, nI_add, c9_becomes (by omega) (x := T (31 + v)) (by omega) (by omega) (tmK hT v hv)]
      by_cases r : T (31 + v) = 0
      · simp (disch := first | assumption | omega) only [nI_add, pk_mul, nI_clamp, nc_in, nc_lt, nc_nlt, cI_some, cV_some, nc_eq, nc_ne, if_true, if_false, ite_true, ite_false, if_pos r, kX9_chills_0 N (d + 1)]
      · simp (disch := first | assumption | omega) only [nI_add, pk_mul, nI_clamp, nc_in, nc_lt, nc_nlt, cI_some, cV_some, nc_eq, nc_ne, if_true, if_false, ite_true, ite_false, if_neg r, kX9_chills_0 N (d + 1)]
    · have q1 : x = 1 := by omega
      subst q1
      rw [nc_ne (by omega) (by omega) (by omega), nI_add, c9_becomes (by omega) (x := T (31 + v)) (by omega) (by omega) (tmK hT v hv)]
      by_cases r : T (31 + v) = 1
      · simp (disch := first | assumption | omega) only [nI_add, pk_mul, nI_clamp, nc_in, nc_lt, nc_nlt, cI_some, cV_some, nc_eq, nc_ne, if_true, if_false, ite_true, ite_false, if_pos r, kX9_chills_0 N (d + 1)]
      · simp (disch := first | assumption | omega) only [nI_add, pk_mul, nI_clamp, nc_in, nc_lt, nc_nlt, cI_some, cV_some, nc_eq, nc_ne, if_true, if_false, ite_true, ite_false, if_neg r, kX9_chills_0 N (d + 1)]
  rw [gX9_chills N (d + 1), sX9_chills_0 N (d + 1)]
  by_cases q : x = 0
  · subst q
    rw [nc_eq rfl, b0]
    by_cases r : T (31 + v) = 0
    · rw [if_pos r, if_neg (by omega)]
    · rw [if_neg r, if_pos (by omega)]
  · have q1 : x = 1 := by omega
    subst q1
    rw [nc_ne (by omega) (by omega) (by omega)]
    by_cases r : T (25 + v) = 1
    · simp (disch := first | assumption | omega) only [nI_add, pk_mul, nI_clamp, nc_in, nc_lt, nc_nlt, cI_some, cV_some, tmV hT, nc_eq r]
      rw [b0]
      by_cases r2 : T (31 + v) = 1
      · rw [if_pos r2, if_neg (by omega)]
      · rw [if_neg r2, if_pos (by omega)]
    · simp (disch := first | assumption | omega) only [nI_add, pk_mul, nI_clamp, nc_in, nc_lt, nc_nlt, cI_some, cV_some, tmV hT, nc_ne r]
      rw [if_neg (fun h => r (h.1 trivial))]
