/-! a town's cells: T k, numbered as the reference has them; the class's town at t, the reference's block -/
def TC (I : Nat → Nat → Int32) (t : Nat) (T : Nat → Nat) : Prop :=
  (∀ k, k < 4 → I (t + 2) k = nI (T k)) ∧ (I t 2 = nI (T 4) ∧ I t 3 = nI (T 5) ∧ I t 4 = nI (T 6)) ∧
  (I t 5 = nI (bst (fun v => T (25 + v) == 1) (T 1)) ∧ I t 6 = nI (bst (fun v => T (31 + v) == 1) (T 1))) ∧
  (∀ v, v < T 1 → I (t + 3) v = nI (T (7 + v)) ∧ I (t + 4) v = nI (T (13 + v)) ∧ I (t + 5) v = nI (T (19 + v))) ∧
  (∀ v k, v < T 1 → k < T (19 + v) → I (t + 6) (v * 8 + k) = nI (T (73 + 8 * v + k))) ∧
  (∀ p, p < T 2 → I (t + 7) p = nI (T (37 + p)) ∧ I (t + 8) p = nI (T (43 + p)) ∧ I (t + 9) p = nI (T (49 + p))) ∧
  (∀ p s, p < T 2 → s < 6 → I (t + 10) (p * 6 + s) = nI (T (121 + 6 * p + s))) ∧
  (∀ k, k < T 3 → I (t + 11) k = nI (T (55 + k)) ∧ I (t + 12) k = nI (T (61 + k)) ∧ I (t + 13) k = nI (T (67 + k)))
def TM (c : Nat → Int32) (T : Nat → Nat) : Prop :=
  (∀ k, k < 7 → c k = nI (T k)) ∧
  (∀ v, v < T 1 → c (7 + v) = nI (T (7 + v)) ∧ c (13 + v) = nI (T (13 + v)) ∧ c (19 + v) = nI (T (19 + v)) ∧ c (25 + v) = nI (T (25 + v)) ∧ c (31 + v) = nI (T (31 + v))) ∧
  (∀ v k, v < T 1 → k < T (19 + v) → c (73 + 8 * v + k) = nI (T (73 + 8 * v + k))) ∧
  (∀ p, p < T 2 → c (37 + p) = nI (T (37 + p)) ∧ c (43 + p) = nI (T (43 + p)) ∧ c (49 + p) = nI (T (49 + p))) ∧
  (∀ p s, p < T 2 → s < 6 → c (121 + 6 * p + s) = nI (T (121 + 6 * p + s))) ∧
  (∀ k, k < T 3 → c (55 + k) = nI (T (55 + k)) ∧ c (61 + k) = nI (T (61 + k)) ∧ c (67 + k) = nI (T (67 + k)))
def WF (T : Nat → Nat) : Prop :=
  (T 0 ≤ 6 ∧ T 1 ≤ 6 ∧ T 2 ≤ 6 ∧ T 3 ≤ 6 ∧ T 4 ≤ 16 ∧ T 5 ≤ 9999 ∧ T 6 ≤ 999) ∧
  (∀ v, v < T 1 → T (7 + v) ≤ 120 ∧ T (13 + v) ≤ 120 ∧ 1 ≤ T (19 + v) ∧ T (19 + v) ≤ 8 ∧ T (25 + v) ≤ 1 ∧ T (31 + v) ≤ 1 ∧ (T (25 + v) = 1 → T (7 + v) ≤ 119)) ∧
  (∀ v k, v < T 1 → k < T (19 + v) → T (73 + 8 * v + k) < T 0) ∧
  (∀ p, p < T 2 → T (37 + p) ≤ 9999 ∧ T (43 + p) ≤ 600000 ∧ T (49 + p) ≤ 20000) ∧
  (∀ p s, p < T 2 → s < 6 → T (121 + 6 * p + s) ≤ 9) ∧
  (∀ k, k < T 3 → T (55 + k) < T 1 ∧ (T (61 + k) < T 1 ∨ T (61 + k) = 4294967295) ∧ (T (67 + k) < T 2 ∨ T (67 + k) = 4294967295))
/-- how glad, how lonely, by the hours gone by -/
def GB (T : Nat → Nat) : Prop := ∀ p, p < T 2 → T (43 + p) ≤ 54 * T 5 ∧ T (49 + p) ≤ T 5
section
variable {I : Nat → Nat → Int32} {t : Nat} {T : Nat → Nat}
theorem tcC (h : TC I t T) : ∀ k, k < 4 → I (t + 2) k = nI (T k) := h.1
theorem tc0 (h : TC I t T) : I (t + 2) 0 = nI (T 0) := h.1 0 (by omega)
theorem tc1 (h : TC I t T) : I (t + 2) 1 = nI (T 1) := h.1 1 (by omega)
theorem tc2 (h : TC I t T) : I (t + 2) 2 = nI (T 2) := h.1 2 (by omega)
theorem tc3 (h : TC I t T) : I (t + 2) 3 = nI (T 3) := h.1 3 (by omega)
theorem tcO (h : TC I t T) : I t 2 = nI (T 4) := h.2.1.1
theorem tcH (h : TC I t T) : I t 3 = nI (T 5) := h.2.1.2.1
theorem tcY (h : TC I t T) : I t 4 = nI (T 6) := h.2.1.2.2
theorem tcV (h : TC I t T) : I t 5 = nI (bst (fun v => T (25 + v) == 1) (T 1)) := h.2.2.1.1
theorem tcK (h : TC I t T) : I t 6 = nI (bst (fun v => T (31 + v) == 1) (T 1)) := h.2.2.1.2
theorem tcA (h : TC I t T) : ∀ v, v < T 1 → I (t + 3) v = nI (T (7 + v)) := fun v hv => (h.2.2.2.1 v hv).1
theorem tcL (h : TC I t T) : ∀ v, v < T 1 → I (t + 4) v = nI (T (13 + v)) := fun v hv => (h.2.2.2.1 v hv).2.1
theorem tcR (h : TC I t T) : ∀ v, v < T 1 → I (t + 5) v = nI (T (19 + v)) := fun v hv => (h.2.2.2.1 v hv).2.2
theorem tcW (h : TC I t T) : ∀ v k, v < T 1 → k < T (19 + v) → I (t + 6) (v * 8 + k) = nI (T (73 + 8 * v + k)) := h.2.2.2.2.1
theorem tcM (h : TC I t T) : ∀ p, p < T 2 → I (t + 7) p = nI (T (37 + p)) := fun v hv => (h.2.2.2.2.2.1 v hv).1
theorem tcG (h : TC I t T) : ∀ p, p < T 2 → I (t + 8) p = nI (T (43 + p)) := fun v hv => (h.2.2.2.2.2.1 v hv).2.1
theorem tcN (h : TC I t T) : ∀ p, p < T 2 → I (t + 9) p = nI (T (49 + p)) := fun v hv => (h.2.2.2.2.2.1 v hv).2.2
theorem tcI (h : TC I t T) : ∀ p s, p < T 2 → s < 6 → I (t + 10) (p * 6 + s) = nI (T (121 + 6 * p + s)) := h.2.2.2.2.2.2.1
theorem tcT (h : TC I t T) : ∀ k, k < T 3 → I (t + 11) k = nI (T (55 + k)) := fun v hv => (h.2.2.2.2.2.2.2 v hv).1
theorem tcF (h : TC I t T) : ∀ k, k < T 3 → I (t + 12) k = nI (T (61 + k)) := fun v hv => (h.2.2.2.2.2.2.2 v hv).2.1
theorem tcB (h : TC I t T) : ∀ k, k < T 3 → I (t + 13) k = nI (T (67 + k)) := fun v hv => (h.2.2.2.2.2.2.2 v hv).2.2
end
/-! what a town says -/
def owned (T : Nat → Nat) (p : Nat) : Nat := bst (fun k => T (67 + k) == p) (T 3)
def vIn (T : Nat → Nat) (k : Nat) : Nat := if T (61 + k) = 4294967295 then 2 ^ T (55 + k) else 2 ^ T (55 + k) ||| 2 ^ T (61 + k)
def vOg (T : Nat → Nat) (p k : Nat) : Nat := if T (67 + k) = p then vIn T k else 0
def vOf (T : Nat → Nat) (p : Nat) : Nat := orf (vOg T p) (T 3)
def able (T : Nat → Nat) (v : Nat) : Bool := T (25 + v) == 1 && T (31 + v) == 0
def plc (T : Nat → Nat) (v h : Nat) : Nat := T (73 + 8 * v + h % T (19 + v))
def hAg (T : Nat → Nat) (vs h v : Nat) : Nat := if (vs.testBit v && able T v) = true then 2 ^ plc T v h else 0
def hAt (T : Nat → Nat) (vs h : Nat) : Nat := orf (hAg T vs h) (T 1)
def jyg (T : Nat → Nat) (p ss s : Nat) : Nat := if ss.testBit s = true then T (121 + 6 * p + s) else 0
def joy (T : Nat → Nat) (p ss : Nat) : Nat := sm (jyg T p ss) (T 0)
def jag (T : Nat → Nat) (p vs i : Nat) : Nat := joy T p (hAt T vs (T 5 + i))
def joyA (T : Nat → Nat) (p vs n : Nat) : Nat := sm (jag T p vs) n
def wth (T : Nat → Nat) (p k : Nat) : Nat := joyA T p (vIn T k) 12
def hrs (T : Nat → Nat) (v : Nat) : Nat := bst (fun p => (vOf T p).testBit v) (T 2)
/-! bounds -/
theorem lt6 {a w : Nat} (h : a < 2 ^ 6) (hw : 6 ≤ w) : a < 2 ^ w := Nat.lt_of_lt_of_le h (Nat.pow_le_pow_right (by omega) hw)
theorem pw6 {a : Nat} (h : a < 6) : 2 ^ a < 2 ^ 6 := Nat.pow_lt_pow_right (by omega) h
theorem owned_lt {T : Nat → Nat} (hw : WF T) (p : Nat) : owned T p < 2 ^ 6 := bst_lt hw.1.2.2.2.1
theorem vIn_lt {T : Nat → Nat} (hw : WF T) {k : Nat} (hk : k < T 3) : vIn T k < 2 ^ 6 := by
  obtain ⟨h1, h2, -⟩ := hw.2.2.2.2.2 k hk
  have h6 := hw.1.2.1
  unfold vIn
  split
  · exact pw6 (by omega)
  · exact Nat.or_lt_two_pow (pw6 (by omega)) (pw6 (by omega))
theorem vOf_lt {T : Nat → Nat} (hw : WF T) (p : Nat) : vOf T p < 2 ^ 6 := orf_lt _ (fun k hk => by
  unfold vOg
  split
  · exact vIn_lt hw hk
  · exact Nat.two_pow_pos 6)
theorem plc_lt {T : Nat → Nat} (hw : WF T) {v h : Nat} (hv : v < T 1) : plc T v h < T 0 := hw.2.2.1 v _ hv (Nat.mod_lt _ (by have := hw.2.1 v hv; omega))
theorem hAt_lt {T : Nat → Nat} (hw : WF T) (vs h : Nat) : hAt T vs h < 2 ^ 6 := orf_lt _ (fun v hv => by
  unfold hAg
  split
  · have := plc_lt hw hv (h := h); have := hw.1.1; exact pw6 (by omega)
  · exact Nat.two_pow_pos 6)
theorem joy_le {T : Nat → Nat} (hw : WF T) {p : Nat} (hp : p < T 2) (ss : Nat) : joy T p ss ≤ 54 := by
  have h := sm_le (g := jyg T p ss) (b := 9) (T 0) (fun s hs => by
    unfold jyg
    split
    · exact hw.2.2.2.2.1 p s hp (by have := hw.1.1; omega)
    · omega)
  have := hw.1.1
  unfold joy
  omega
theorem joyA_le {T : Nat → Nat} (hw : WF T) {p : Nat} (hp : p < T 2) (vs n : Nat) : joyA T p vs n ≤ 54 * n := sm_le _ (fun i _ => joy_le hw hp _)
theorem wth_le {T : Nat → Nat} (hw : WF T) {p : Nat} (hp : p < T 2) (k : Nat) : wth T p k ≤ 648 := joyA_le hw hp _ 12
/-! the class's town -/
theorem c5_setsOf {N d : Nat} {X : lt_X} {I : Nat → Nat → Int32} {J : Nat → Nat → Int64} {t : Nat} {T : Nat → Nat} (ht : isT t) (hT : TC I t T) (hw : WF T) {p : Nat} (hp : p < 2 ^ 32) : am_G am_prog (N + 30) (d + 1) 64 [.ref t, .int (nI p)] (mkh X I J) = some (.int (nI (owned T p)), (mkh X I J)) := by
  have h6 := hw.1.2.2.2.1
  rw [gX5_setsOf N d ht, sX5_setsOf_0 N d _ ht]
  refine lqs (run := fun n i => RX5_setsOf_4 N d n X t (nI p) (nI (bst (fun k => T (67 + k) == p) i)) (nI i) I J) (m := T 3) ?_ ?_ (N + 29) 0 (by omega) (by omega)
  · intro n i hi
    have hb := (hw.2.2.2.2.2 i hi).2.2
    have h2 := hw.1.2.2.1
    rw [sX5_setsOf_4 N d n ht]
    by_cases q : T (67 + i) = p
    · have e : bst (fun k => T (67 + k) == p) (i + 1) = bst (fun k => T (67 + k) == p) i ||| 2 ^ i := by simp [bst, orf, q]
      simp (disch := first | assumption | omega) only [nI_add, pk_mul, nI_clamp, nc_in, nc_lt, nc_nlt, cI_some, cV_some, tc3 hT, tcB hT, nc_eq q, no_shl, no_or, e]
    · have e : bst (fun k => T (67 + k) == p) (i + 1) = bst (fun k => T (67 + k) == p) i := by simp [bst, orf, q]
      simp (disch := first | assumption | omega) only [nI_add, pk_mul, nI_clamp, nc_in, nc_lt, nc_nlt, cI_some, cV_some, tc3 hT, tcB hT, nc_ne q, e]
  · intro n
    rw [sX5_setsOf_4 N d n ht]
    simp (disch := first | assumption | omega) only [nI_add, pk_mul, nI_clamp, nc_in, nc_lt, nc_nlt, cI_some, cV_some, tc3 hT]
    rfl
theorem c5_voicesIn {N d : Nat} {X : lt_X} {I : Nat → Nat → Int32} {J : Nat → Nat → Int64} {t : Nat} {T : Nat → Nat} (ht : isT t) (hT : TC I t T) (hw : WF T) {k : Nat} (hk : k < T 3) : am_G am_prog (N + 30) (d + 1) 65 [.ref t, .int (nI k)] (mkh X I J) = some (.int (nI (vIn T k)), (mkh X I J)) := by
  have h6 := hw.1.2.2.2.1
  have h1 := hw.1.2.1
  obtain ⟨b1, b2, -⟩ := hw.2.2.2.2.2 k hk
  rw [gX5_voicesIn N d ht, sX5_voicesIn_0 N d _ ht]
  unfold vIn
  by_cases q : T (61 + k) = 4294967295
  · simp (disch := first | assumption | omega) only [nI_add, pk_mul, nI_clamp, nc_in, nc_lt, nc_nlt, cI_some, cV_some, tcT hT, tcF hT, nc_m1 q, no_shl, if_pos q]
  · have q' : T (61 + k) < 2 ^ 31 := by omega
    simp (disch := first | assumption | omega) only [nI_add, pk_mul, nI_clamp, nc_in, nc_lt, nc_nlt, cI_some, cV_some, tcT hT, tcF hT, nc_nm1 q', no_shl, no_or, if_neg q]
theorem c5_voicesOf {N d : Nat} {X : lt_X} {I : Nat → Nat → Int32} {J : Nat → Nat → Int64} {t : Nat} {T : Nat → Nat} (ht : isT t) (hT : TC I t T) (hw : WF T) {p : Nat} (hp : p < 2 ^ 32) : am_G am_prog (N + 30) (d + 2) 66 [.ref t, .int (nI p)] (mkh X I J) = some (.int (nI (vOf T p)), (mkh X I J)) := by
  have h6 := hw.1.2.2.2.1
  have h2 := hw.1.2.2.1
  rw [gX5_voicesOf N (d + 1) ht, sX5_voicesOf_0 N (d + 1) _ ht]
  refine lqs (run := fun n i => RX5_voicesOf_4 N (d + 1) n X t (nI p) (nI (orf (vOg T p) i)) (nI i) I J) (m := T 3) ?_ ?_ (N + 29) 0 (by omega) (by omega)
  · intro n i hi
    have hb := (hw.2.2.2.2.2 i hi).2.2
    rw [sX5_voicesOf_4 N (d + 1) n ht]
    by_cases q : T (67 + i) = p
    · have e : orf (vOg T p) (i + 1) = orf (vOg T p) i ||| vIn T i := by simp [orf, vOg, q]
      simp (disch := first | assumption | omega) only [nI_add, pk_mul, nI_clamp, nc_in, nc_lt, nc_nlt, cI_some, cV_some, tc3 hT, tcB hT, nc_eq q, c5_voicesIn ht hT hw hi, kX5_voicesOf_0 N (d + 1) n ht, no_or, e]
    · have e : orf (vOg T p) (i + 1) = orf (vOg T p) i := by simp [orf, vOg, q]
      simp (disch := first | assumption | omega) only [nI_add, pk_mul, nI_clamp, nc_in, nc_lt, nc_nlt, cI_some, cV_some, tc3 hT, tcB hT, nc_ne q, e]
  · intro n
    rw [sX5_voicesOf_4 N (d + 1) n ht]
    simp (disch := first | assumption | omega) only [nI_add, pk_mul, nI_clamp, nc_in, nc_lt, nc_nlt, cI_some, cV_some, tc3 hT]
    rfl
theorem c5_heardAt {N d : Nat} {X : lt_X} {I : Nat → Nat → Int32} {J : Nat → Nat → Int64} {t : Nat} {T : Nat → Nat} (ht : isT t) (hT : TC I t T) (hw : WF T) {vs h : Nat} (hv : vs < 2 ^ 31) (hh : h < 2 ^ 31) : am_G am_prog (N + 30) (d + 1) 74 [.ref t, .int (nI vs), .int (nI h)] (mkh X I J) = some (.int (nI (hAt T vs h)), (mkh X I J)) := by
  have h1 := hw.1.2.1
  have h0 := hw.1.1
  have hc : bst (fun v => T (31 + v) == 1) (T 1) < 2 ^ 32 := bst_lt (by omega)
  rw [gX5_heardAt N d ht, sX5_heardAt_0 N d _ ht, tcV hT, tcK hT, no_and, no_not hc, no_and]
  have hlt : (vs &&& bst (fun v => T (25 + v) == 1) (T 1)) &&& nnot (bst (fun v => T (31 + v) == 1) (T 1)) < 2 ^ 31 := Nat.lt_of_le_of_lt (Nat.le_trans Nat.and_le_left Nat.and_le_left) hv
  have hb : ∀ v, v < T 1 → ((vs &&& bst (fun v => T (25 + v) == 1) (T 1)) &&& nnot (bst (fun v => T (31 + v) == 1) (T 1))).testBit v = (vs.testBit v && able T v) := by
    intro v hv1
    have hl := (hw.2.1 v hv1).2.2.2.2.2.1
    rw [Nat.testBit_and, Nat.testBit_and, nnot_bit hc, bst_bit', bst_bit']
    have e : (T (31 + v) == 0) = !(T (31 + v) == 1) := by
      rcases Nat.le_one_iff_eq_zero_or_eq_one.mp hl with e | e <;> rw [e] <;> rfl
    simp [able, hv1, show v < 32 by omega, e, Bool.and_assoc]
  generalize (vs &&& bst (fun v => T (25 + v) == 1) (T 1)) &&& nnot (bst (fun v => T (31 + v) == 1) (T 1)) = ab at hlt hb
  refine lqs (run := fun n i => RX5_heardAt_20 N d n X t (nI h) (nI ab) (nI (orf (hAg T vs h) i)) (nI i) I J) (m := T 1) ?_ ?_ (N + 29) 0 (by omega) (by omega)
  · intro n i hi
    have hr := hw.2.1 i hi
    have hm : h % T (19 + i) < T (19 + i) := Nat.mod_lt _ (by omega)
    have hp := plc_lt hw hi (h := h)
    unfold plc at hp
    have hbi := hb i hi
    rw [sX5_heardAt_20 N d n ht]
    by_cases q : (vs.testBit i && able T i) = true
    · rw [q] at hbi
      have e : orf (hAg T vs h) (i + 1) = orf (hAg T vs h) i ||| 2 ^ T (73 + 8 * i + h % T (19 + i)) := by simp only [orf, hAg, if_pos q, plc]
      simp (disch := first | assumption | omega) only [nI_add, pk_mul, nI_clamp, nc_in, nc_lt, nc_nlt, cI_some, cV_some, tc1 hT, nc_b1 hbi, tcR hT, nz_ok, pk_rem, tcW hT, no_shl, no_or, e]
    · have q' : (vs.testBit i && able T i) = false := by simpa using q
      rw [q'] at hbi
      have e : orf (hAg T vs h) (i + 1) = orf (hAg T vs h) i := by simp only [orf, hAg, if_neg q, Nat.or_zero]
      simp (disch := first | assumption | omega) only [nI_add, pk_mul, nI_clamp, nc_in, nc_lt, nc_nlt, cI_some, cV_some, tc1 hT, nc_b0 hbi, e]
  · intro n
    rw [sX5_heardAt_20 N d n ht]
    simp (disch := first | assumption | omega) only [nI_add, pk_mul, nI_clamp, nc_in, nc_lt, nc_nlt, cI_some, cV_some, tc1 hT]
    rfl
theorem c5_joyBy {N d : Nat} {X : lt_X} {I : Nat → Nat → Int32} {J : Nat → Nat → Int64} {t : Nat} {T : Nat → Nat} (ht : isT t) (hT : TC I t T) (hw : WF T) {p ss : Nat} (hp : p < T 2) (hs : ss < 2 ^ 31) : am_G am_prog (N + 30) (d + 1) 75 [.ref t, .int (nI p), .int (nI ss)] (mkh X I J) = some (.int (nI (joy T p ss)), (mkh X I J)) := by
  have h0 := hw.1.1
  have h2 := hw.1.2.2.1
  rw [gX5_joyBy N d ht, sX5_joyBy_0 N d _ ht]
  refine lqs (run := fun n i => RX5_joyBy_5 N d n X t (nI p) (nI ss) (nI (sm (jyg T p ss) i)) (nI i) I J) (m := T 0) ?_ ?_ (N + 29) 0 (by omega) (by omega)
  · intro n i hi
    have i6 : i < 6 := by omega
    rw [sX5_joyBy_5 N d n ht]
    by_cases q : ss.testBit i = true
    · have e : sm (jyg T p ss) (i + 1) = sm (jyg T p ss) i + T (121 + 6 * p + i) := by simp only [sm, jyg, if_pos q]
      simp (disch := first | assumption | omega) only [nI_add, pk_mul, nI_clamp, nc_in, nc_lt, nc_nlt, cI_some, cV_some, tc0 hT, nc_b1 q, tcI hT, e]
    · have q' : ss.testBit i = false := by simpa using q
      have e : sm (jyg T p ss) (i + 1) = sm (jyg T p ss) i := by simp only [sm, jyg, if_neg q, Nat.add_zero]
      simp (disch := first | assumption | omega) only [nI_add, pk_mul, nI_clamp, nc_in, nc_lt, nc_nlt, cI_some, cV_some, tc0 hT, nc_b0 q', e]
  · intro n
    rw [sX5_joyBy_5 N d n ht]
    simp (disch := first | assumption | omega) only [nI_add, pk_mul, nI_clamp, nc_in, nc_lt, nc_nlt, cI_some, cV_some, tc0 hT]
    rfl
theorem c5_joyAhead {N d : Nat} {X : lt_X} {I : Nat → Nat → Int32} {J : Nat → Nat → Int64} {t : Nat} {T : Nat → Nat} (ht : isT t) (hT : TC I t T) (hw : WF T) {p vs m : Nat} (hp : p < T 2) (hv : vs < 2 ^ 31) (hm : m ≤ N) (hm3 : m ≤ 1000) : am_G am_prog (N + 30) (d + 2) 76 [.ref t, .int (nI p), .int (nI vs), .int (nI m)] (mkh X I J) = some (.int (nI (joyA T p vs m)), (mkh X I J)) := by
  have h5 := hw.1.2.2.2.2.2.1
  rw [gX5_joyAhead N (d + 1) ht, sX5_joyAhead_0 N (d + 1) _ ht]
  refine lqs (run := fun n i => RX5_joyAhead_6 N (d + 1) n X t (nI p) (nI vs) (nI m) (nI (sm (jag T p vs) i)) (nI i) I J) (m := m) ?_ ?_ (N + 29) 0 (by omega) (by omega)
  · intro n i hi
    have hl : hAt T vs (T 5 + i) < 2 ^ 31 := lt6 (hAt_lt hw _ _) (by omega)
    have e : sm (jag T p vs) (i + 1) = sm (jag T p vs) i + joy T p (hAt T vs (T 5 + i)) := rfl
    rw [sX5_joyAhead_6 N (d + 1) n ht]
    simp (disch := first | assumption | omega) only [nI_add, pk_mul, nI_clamp, nc_in, nc_lt, nc_nlt, cI_some, cV_some, tcH hT]
    rw [c5_heardAt ht hT hw hv (by omega)]
    simp (disch := first | assumption | omega) only [nI_add, pk_mul, nI_clamp, nc_in, nc_lt, nc_nlt, cI_some, cV_some, kX5_joyAhead_0 N (d + 1) n ht]
    rw [c5_joyBy ht hT hw hp hl]
    simp (disch := first | assumption | omega) only [nI_add, pk_mul, nI_clamp, nc_in, nc_lt, nc_nlt, cI_some, cV_some, kX5_joyAhead_1 N (d + 1) n ht, e]
  · intro n
    rw [sX5_joyAhead_6 N (d + 1) n ht]
    simp (disch := first | assumption | omega) only [nI_add, pk_mul, nI_clamp, nc_in, nc_lt, nc_nlt, cI_some, cV_some]
    rfl
theorem c5_worthTo {N d : Nat} {X : lt_X} {I : Nat → Nat → Int32} {J : Nat → Nat → Int64} {t : Nat} {T : Nat → Nat} (ht : isT t) (hT : TC I t T) (hw : WF T) {p k : Nat} (hp : p < T 2) (hk : k < T 3) (hN : 1000 ≤ N) : am_G am_prog (N + 30) (d + 3) 77 [.ref t, .int (nI p), .int (nI k)] (mkh X I J) = some (.int (nI (wth T p k)), (mkh X I J)) := by
  rw [gX5_worthTo N (d + 2) ht, sX5_worthTo_0 N (d + 2) _ ht, c5_voicesIn ht hT hw hk]
  simp (disch := first | assumption | omega) only [nI_add, pk_mul, nI_clamp, nc_in, nc_lt, nc_nlt, cI_some, cV_some, kX5_worthTo_0 N (d + 2) _ ht]
  rw [c5_joyAhead ht hT hw hp (lt6 (vIn_lt hw hk) (by omega)) (by omega) (by omega)]
  rfl
