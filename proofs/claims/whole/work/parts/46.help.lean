/-! numbers that come from outside: in range or not -/
def inb (x : Int32) (n : Nat) : Bool := decide (0 ≤ x.toInt ∧ x.toInt < n)
def rng (x : Int32) (a b : Nat) : Bool := decide ((a : Int) ≤ x.toInt ∧ x.toInt ≤ b)
theorem inb_e {x : Int32} {n : Nat} (h : inb x n = true) (hn : n < 2 ^ 31) : ∃ j, j < n ∧ x = nI j := by
  have h := of_decide_eq_true h
  obtain ⟨j, hj⟩ : ∃ j : Nat, x.toInt = j := ⟨x.toInt.toNat, by omega⟩
  refine ⟨j, by omega, Int32.toInt_inj.mp ?_⟩
  rw [hj, nI_toInt (by omega)]
theorem rng_e {x : Int32} {a b : Nat} (h : rng x a b = true) (hb : b < 2 ^ 31) : ∃ j, a ≤ j ∧ j ≤ b ∧ x = nI j := by
  have h := of_decide_eq_true h
  obtain ⟨j, hj⟩ : ∃ j : Nat, x.toInt = j := ⟨x.toInt.toNat, by omega⟩
  refine ⟨j, by omega, by omega, Int32.toInt_inj.mp ?_⟩
  rw [hj, nI_toInt (by omega)]
theorem inb_nI {j n : Nat} (h : j < n) (hn : n < 2 ^ 31) : inb (nI j) n = true := by
  unfold inb; rw [nI_toInt (by omega)]; exact decide_eq_true ⟨by omega, by omega⟩
theorem lt_nI {x : Int32} {a : Nat} (ha : a < 2 ^ 31) : x < nI a ↔ x.toInt < a := by
  rw [Int32.lt_iff_toInt_lt, nI_toInt ha]
theorem nI_lt' {x : Int32} {a : Nat} (ha : a < 2 ^ 31) : nI a < x ↔ (a : Int) < x.toInt := by
  rw [Int32.lt_iff_toInt_lt, nI_toInt ha]
theorem rng_c {α : Type} {x : Int32} {a b : Nat} {A B : α} (ha : a < 2 ^ 31) (hb : b < 2 ^ 31) : (if x < nI a then A else if nI b < x then A else B) = if rng x a b = true then B else A := by
  by_cases q1 : x < nI a
  · rw [if_pos q1, if_neg]
    rw [lt_nI ha] at q1
    unfold rng; simp; omega
  · rw [if_neg q1]
    rw [lt_nI ha] at q1
    by_cases q2 : nI b < x
    · rw [if_pos q2, if_neg]
      rw [nI_lt' hb] at q2
      unfold rng; simp; omega
    · rw [if_neg q2, if_pos]
      rw [nI_lt' hb] at q2
      exact decide_eq_true ⟨by omega, by omega⟩
theorem inb_c {α : Type} {x : Int32} {n : Nat} {A B : α} (hn : n < 2 ^ 31) : (if x < nI 0 then A else if x < nI n then B else A) = if inb x n = true then B else A := by
  by_cases q1 : x < nI 0
  · rw [if_pos q1, if_neg]
    rw [lt_nI (by omega)] at q1
    unfold inb; simp; omega
  · rw [if_neg q1]
    rw [lt_nI (by omega)] at q1
    by_cases q2 : x < nI n
    · rw [if_pos q2, if_pos]
      rw [lt_nI hn] at q2
      exact decide_eq_true ⟨by omega, by omega⟩
    · rw [if_neg q2, if_neg]
      rw [lt_nI hn] at q2
      unfold inb; simp; omega
theorem nc_10 {α : Type} {c : Prop} [Decidable c] {A B : α} : (if nI (if c then 1 else 0) = nI 0 then A else B) = if c then B else A := by
  by_cases q : c
  · rw [if_pos q, if_pos q, nc_ne (by omega) (by omega) (by omega)]
  · rw [if_neg q, if_neg q, nc_eq rfl]
theorem c8_has {N d : Nat} {X : lt_X} {I : Nat → Nat → Int32} {J : Nat → Nat → Int64} {T : Nat → Nat} (hX : hsX X) (hT : TC I X.2.1 T) (hw : WF T) {k : Nat} (hk : k < 4) (x : Int32) : am_G am_prog (N + 30) (d + 1) 178 [.ref 3, .int (nI k), .int x] (mkh X I J) = some (.int (nI (if inb x (T k) = true then 1 else 0)), (mkh X I J)) := by
  have h6 : T k ≤ 6 := by
    obtain ⟨⟨h0, h1, h2, h3, -⟩, -⟩ := hw
    match k, hk with
    | 0, _ => exact h0
    | 1, _ => exact h1
    | 2, _ => exact h2
    | 3, _ => exact h3
  rw [gX8_has N d, sX8_has_0 N d _ hX]
  simp (disch := first | assumption | omega) only [nI_add, pk_mul, nI_clamp, nc_in, nc_lt, nc_nlt, cI_some, cV_some, tcC hT]
  rw [inb_c (by omega)]
  split <;> rfl
theorem c8_answerIfAny {N d : Nat} {X : lt_X} {I : Nat → Nat → Int32} {J : Nat → Nat → Int64} (hX : hsX X) (x : Int32) : am_G am_prog (N + 30) (d + 2) 180 [.ref 3, .int x] (mkh X I J) = if x = (-1) then some (.int (-1), (mkh X (u2 I 3 15 (nI 8)) J)) else some (.int x, (mkh X (u2 I 3 15 (nI 0)) J)) := by
  rw [gX8_answerIfAny N d, sX8_answerIfAny_0 N d _ hX]
theorem c9_isInL {N d : Nat} {X : lt_X} {I : Nat → Nat → Int32} {J : Nat → Nat → Int64} (a b c : Int64) : am_G am_prog (N + 30) (d + 1) 190 [.long a, .long b, .long c] (mkh X I J) = some (.int (nI (if b ≤ a ∧ a ≤ c then 1 else 0)), (mkh X I J)) := by
  rw [gX9_isIn N d, sX9_isIn_0 N d]
  have e1 := lg_cmp_lt a b
  have e2 := lg_cmp_gt a c
  by_cases q1 : lg_cmp a b < nI 0
  · rw [if_pos q1, if_neg]
    intro h
    exact Int64.not_lt.mpr h.1 (e1.mp q1)
  · rw [if_neg q1]
    by_cases q2 : nI 0 < lg_cmp a c
    · rw [if_pos q2, if_neg]
      intro h
      exact Int64.not_lt.mpr h.2 (e2.mp q2)
    · rw [if_neg q2, if_pos]
      exact ⟨Int64.not_lt.mp (fun h => q1 (e1.mpr h)), Int64.not_lt.mp (fun h => q2 (e2.mpr h))⟩
theorem c9_in {N d : Nat} {X : lt_X} {I : Nat → Nat → Int32} {J : Nat → Nat → Int64} {x : Int32} {a b : Nat} (ha : a < 2 ^ 31) (hb : b < 2 ^ 31) : am_G am_prog (N + 30) (d + 1) 190 [.long x.toInt64, .long (lN a), .long (lN b)] (mkh X I J) = some (.int (nI (if rng x a b = true then 1 else 0)), (mkh X I J)) := by
  rw [c9_isInL]
  have e : (lN a ≤ x.toInt64 ∧ x.toInt64 ≤ lN b) ↔ rng x a b = true := by
    rw [Int64.le_iff_toInt_le, Int64.le_iff_toInt_le, Int32.toInt_toInt64, pk_lT (by omega), pk_lT (by omega)]
    unfold rng; simp
  by_cases q : rng x a b = true
  · rw [if_pos q, if_pos (e.mpr q)]
  · rw [if_neg q, if_neg (fun h => q (e.mp h))]
theorem pred_toInt {n : Nat} (hn : n < 2 ^ 30) : ((nI n - nI 1).toInt64).toInt = (n : Int) - 1 := by
  rw [Int32.toInt_toInt64, pk_sub_toInt hn (by omega)]; rfl
theorem c9_inb {N d : Nat} {X : lt_X} {I : Nat → Nat → Int32} {J : Nat → Nat → Int64} {x : Int32} {n : Nat} (hn : n < 2 ^ 30) : am_G am_prog (N + 30) (d + 1) 190 [.long x.toInt64, .long (lN 0), .long ((nI n - nI 1).toInt64)] (mkh X I J) = some (.int (nI (if inb x n = true then 1 else 0)), (mkh X I J)) := by
  rw [c9_isInL]
  have e : (lN 0 ≤ x.toInt64 ∧ x.toInt64 ≤ (nI n - nI 1).toInt64) ↔ inb x n = true := by
    rw [Int64.le_iff_toInt_le, Int64.le_iff_toInt_le, Int32.toInt_toInt64, pk_lT (by omega), pred_toInt hn]
    unfold inb; simp; omega
  by_cases q : inb x n = true
  · rw [if_pos q, if_pos (e.mpr q)]
  · rw [if_neg q, if_neg (fun h => q (e.mp h))]
theorem nb_10 {c : Prop} [Decidable c] {o : am_O} : am_nb (nI (if c then 1 else 0)) o = o := by
  by_cases q : c
  · rw [if_pos q]; exact nb_ok (by omega)
  · rw [if_neg q]; exact nb_ok (by omega)
theorem c9_isVoiceAt {N d : Nat} {X : lt_X} {I : Nat → Nat → Int32} {J : Nat → Nat → Int64} {T : Nat → Nat} (hT : TM (I 140) T) (hw : WF T) (x : Int32) : am_G am_prog (N + 30) (d + 2) 259 [.ref 135, .int x] (mkh X I J) = some (.int (nI (if inb x (T 1) = true then 1 else 0)), (mkh X I J)) := by
  have h1 := hw.1.2.1
  rw [gX9_isVoiceAt N d, sX9_isVoiceAt_0 N d, tm1 hT, c9_inb (by omega), cI_some, kX9_isVoiceAt_0 N d, nb_10]
theorem c9_isPersonAt {N d : Nat} {X : lt_X} {I : Nat → Nat → Int32} {J : Nat → Nat → Int64} {T : Nat → Nat} (hT : TM (I 140) T) (hw : WF T) (x : Int32) : am_G am_prog (N + 30) (d + 2) 260 [.ref 135, .long x.toInt64] (mkh X I J) = some (.int (nI (if inb x (T 2) = true then 1 else 0)), (mkh X I J)) := by
  have h1 := hw.1.2.2.1
  rw [gX9_isPersonAt N d, sX9_isPersonAt_0 N d, tm2 hT, c9_inb (by omega), cI_some, kX9_isPersonAt_0 N d, nb_10]
theorem c9_isSubjectAt {N d : Nat} {X : lt_X} {I : Nat → Nat → Int32} {J : Nat → Nat → Int64} {T : Nat → Nat} (hT : TM (I 140) T) (hw : WF T) (x : Int32) : am_G am_prog (N + 30) (d + 2) 258 [.ref 135, .long x.toInt64] (mkh X I J) = some (.int (nI (if inb x (T 0) = true then 1 else 0)), (mkh X I J)) := by
  have h1 := hw.1.1
  rw [gX9_isSubjectAt N d, sX9_isSubjectAt_0 N d, tm0 hT, c9_inb (by omega), cI_some, kX9_isSubjectAt_0 N d, nb_10]
theorem c9_isSetAt {N d : Nat} {X : lt_X} {I : Nat → Nat → Int32} {J : Nat → Nat → Int64} {T : Nat → Nat} (hT : TM (I 140) T) (hw : WF T) (x : Int32) : am_G am_prog (N + 30) (d + 2) 261 [.ref 135, .int x] (mkh X I J) = some (.int (nI (if inb x (T 3) = true then 1 else 0)), (mkh X I J)) := by
  have h1 := hw.1.2.2.2.1
  rw [gX9_isSetAt N d, sX9_isSetAt_0 N d, tm3 hT, c9_inb (by omega), cI_some, kX9_isSetAt_0 N d, nb_10]
theorem c8_isSetOfPeople {N d : Nat} {X : lt_X} {I : Nat → Nat → Int32} {J : Nat → Nat → Int64} {T : Nat → Nat} (hX : hsX X) (hT : TC I X.2.1 T) (hw : WF T) (x : Int32) : am_G am_prog (N + 30) (d + 1) 155 [.ref 3, .int x] (mkh X I J) = some (.int (nI (if inb x (2 ^ T 2) = true then 1 else 0)), (mkh X I J)) := by
  have h1 := hw.1.2.2.1
  have h2 : 2 ^ T 2 ≤ 2 ^ 6 := Nat.pow_le_pow_right (by omega) h1
  rw [gX8_isSetOfPeople N d, sX8_isSetOfPeople_0 N d _ hX, tc2 hT, no_shl (by omega), inb_c (by omega)]
  split <;> rfl
theorem INV_T {xs : Nat → Int32} {X : lt_X} {I : Nat → Nat → Int32} {J : Nat → Nat → Int64} (H : INV xs X I J) : ∃ T, WF T ∧ TC I X.2.1 T ∧ TM (I 140) T ∧ hsX X ∧ isT X.2.1 := by
  obtain ⟨hX, -, ⟨T, h1, h2, h3, -⟩, -⟩ := H
  exact ⟨T, h1, h2, TM_0.mp h3, hX, hsX_he hX⟩
theorem MR_0 {o : am_O} {X : lt_X} {I : Nat → Nat → Int32} {J : Nat → Nat → Int64} {v : Value} {a s : Int32} (h : o = some (v, mkh X (u2 (u2 I 135 1 a) 135 0 s) J)) : MR o X I J v s :=
  ⟨_, h, ⟨fun a h1 _ _ => by rw [u2_na _ _ _ _ _ h1, u2_na _ _ _ _ _ h1], fun k hk => by rw [u2_nk _ _ _ _ _ (by omega), u2_nk _ _ _ _ _ (by omega)]⟩, u2_at _ _ _ _⟩
theorem MR_2 {o : am_O} {X : lt_X} {I : Nat → Nat → Int32} {J : Nat → Nat → Int64} {v : Value} {a b s : Int32} (h : o = some (v, mkh X (u2 (u2 (u2 I 135 1 a) 135 0 b) 135 0 s) J)) : MR o X I J v s := MR_0 (by rw [h, u2_u2])
/-- what the class and the reference say, each by v and s -/
theorem PR_v {xs : Nat → Int32} {N d : Nat} {X : lt_X} {I : Nat → Nat → Int32} {J : Nat → Nat → Int64} {c m : Nat} {as : List Value} {T : Nat → Nat} (H : INV xs X I J) (hM : TM (I 140) T) (r : Int32) (s : Int32) (hc : am_G am_prog (N + 30) (d + 40) c (.ref 3 :: as) (mkh X I J) = some (.int r, mkh X (u2 I 3 15 s) J)) (hm : ∀ K, TM (K 140) T → am_G am_prog (N + 30) (d + 40) m (.ref 135 :: as) (mkh X K J) = some (.int r, mkh X (u2 (u2 (u2 K 135 1 (nI 0)) 135 0 (nI 0)) 135 0 s) J)) : PR xs N d X I J c m as :=
  PR_tells H (.int r) s (CR_st hc) (fun K hK => MR_2 (hm K (by rw [hK 140 (by omega) (by omega)]; exact hM)))
theorem u2_same (I : Nat → Nat → Int32) (a k : Nat) (v : Int32) : u2 (u2 I a k v) a k v = u2 I a k v := u2_u2 I a k v v
