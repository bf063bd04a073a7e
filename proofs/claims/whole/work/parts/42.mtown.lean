/-! the reference's town, its readers -/
section
variable {c : Nat → Int32} {T : Nat → Nat}
theorem tmC (h : TM c T) : ∀ k, k < 7 → c k = nI (T k) := h.1
theorem tm0 (h : TM c T) : c 0 = nI (T 0) := h.1 0 (by omega)
theorem tm1 (h : TM c T) : c 1 = nI (T 1) := h.1 1 (by omega)
theorem tm2 (h : TM c T) : c 2 = nI (T 2) := h.1 2 (by omega)
theorem tm3 (h : TM c T) : c 3 = nI (T 3) := h.1 3 (by omega)
theorem tm4 (h : TM c T) : c 4 = nI (T 4) := h.1 4 (by omega)
theorem tm5 (h : TM c T) : c 5 = nI (T 5) := h.1 5 (by omega)
theorem tm6 (h : TM c T) : c 6 = nI (T 6) := h.1 6 (by omega)
theorem tmA (h : TM c T) : ∀ v, v < T 1 → c (7 + v) = nI (T (7 + v)) := fun v hv => (h.2.1 v hv).1
theorem tmL (h : TM c T) : ∀ v, v < T 1 → c (13 + v) = nI (T (13 + v)) := fun v hv => (h.2.1 v hv).2.1
theorem tmR (h : TM c T) : ∀ v, v < T 1 → c (19 + v) = nI (T (19 + v)) := fun v hv => (h.2.1 v hv).2.2.1
theorem tmV (h : TM c T) : ∀ v, v < T 1 → c (25 + v) = nI (T (25 + v)) := fun v hv => (h.2.1 v hv).2.2.2.1
theorem tmK (h : TM c T) : ∀ v, v < T 1 → c (31 + v) = nI (T (31 + v)) := fun v hv => (h.2.1 v hv).2.2.2.2
theorem tmW (h : TM c T) : ∀ v k, v < T 1 → k < T (19 + v) → c (73 + 8 * v + k) = nI (T (73 + 8 * v + k)) := h.2.2.1
theorem tmM (h : TM c T) : ∀ p, p < T 2 → c (37 + p) = nI (T (37 + p)) := fun v hv => (h.2.2.2.1 v hv).1
theorem tmG (h : TM c T) : ∀ p, p < T 2 → c (43 + p) = nI (T (43 + p)) := fun v hv => (h.2.2.2.1 v hv).2.1
theorem tmN (h : TM c T) : ∀ p, p < T 2 → c (49 + p) = nI (T (49 + p)) := fun v hv => (h.2.2.2.1 v hv).2.2
theorem tmI (h : TM c T) : ∀ p s, p < T 2 → s < 6 → c (121 + 6 * p + s) = nI (T (121 + 6 * p + s)) := h.2.2.2.2.1
theorem tmT (h : TM c T) : ∀ k, k < T 3 → c (55 + k) = nI (T (55 + k)) := fun v hv => (h.2.2.2.2.2 v hv).1
theorem tmF (h : TM c T) : ∀ k, k < T 3 → c (61 + k) = nI (T (61 + k)) := fun v hv => (h.2.2.2.2.2 v hv).2.1
theorem tmB (h : TM c T) : ∀ k, k < T 3 → c (67 + k) = nI (T (67 + k)) := fun v hv => (h.2.2.2.2.2 v hv).2.2
end
/-! what is heard, as the reference has it -/
def sbt (T : Nat → Nat) (v h : Nat) : Nat := if v = 4294967295 then 0 else if able T v = true then 2 ^ plc T v h else 0
def hBy (T : Nat → Nat) (k h : Nat) : Nat := sbt T (T (55 + k)) h ||| sbt T (T (61 + k)) h
def hdg (T : Nat → Nat) (p h k : Nat) : Nat := if T (67 + k) = p then hBy T k h else 0
def hrd (T : Nat → Nat) (p h : Nat) : Nat := orf (hdg T p h) (T 3)
theorem hAt_bit {T : Nat → Nat} {vs h s : Nat} : (hAt T vs h).testBit s = true ↔ ∃ v, v < T 1 ∧ vs.testBit v = true ∧ able T v = true ∧ plc T v h = s := by
  unfold hAt
  rw [orf_bit]
  constructor
  · rintro ⟨v, h1, h2⟩
    unfold hAg at h2
    rw [if_bit, pow_bit, Bool.and_eq_true] at h2
    exact ⟨v, h1, h2.1.1, h2.1.2, h2.2⟩
  · rintro ⟨v, h1, h2, h3, h4⟩
    refine ⟨v, h1, ?_⟩
    unfold hAg
    rw [if_bit, pow_bit, Bool.and_eq_true]
    exact ⟨⟨h2, h3⟩, h4⟩
theorem vIn_bit {T : Nat → Nat} (hw : WF T) {k v : Nat} (hk : k < T 3) : (vIn T k).testBit v = true ↔ v = T (55 + k) ∨ (v = T (61 + k) ∧ v < T 1) := by
  obtain ⟨h1, h2, -⟩ := hw.2.2.2.2.2 k hk
  have h6 := hw.1.2.1
  unfold vIn
  split
  · rw [pow_bit]
    constructor
    · intro h; exact Or.inl h.symm
    · rintro (h | ⟨h, h'⟩)
      · exact h.symm
      · omega
  · rw [Nat.testBit_or, Bool.or_eq_true, pow_bit, pow_bit]
    constructor
    · rintro (h | h)
      · exact Or.inl h.symm
      · exact Or.inr ⟨h.symm, by omega⟩
    · rintro (h | ⟨h, -⟩)
      · exact Or.inl h.symm
      · exact Or.inr h.symm
theorem sbt_bit {T : Nat → Nat} {v h s : Nat} : (sbt T v h).testBit s = true ↔ v ≠ 4294967295 ∧ able T v = true ∧ plc T v h = s := by
  unfold sbt
  by_cases q : v = 4294967295
  · simp [q]
  · rw [if_neg q, if_bit, pow_bit]
    exact ⟨fun h => ⟨q, h.1, h.2⟩, fun h => ⟨h.2.1, h.2.2⟩⟩
theorem hBy_eq {T : Nat → Nat} (hw : WF T) {k : Nat} (hk : k < T 3) (h : Nat) : hBy T k h = hAt T (vIn T k) h := by
  obtain ⟨h1, h2, -⟩ := hw.2.2.2.2.2 k hk
  have h6 := hw.1.2.1
  apply bit_ext
  intro s
  unfold hBy
  rw [Nat.testBit_or, Bool.or_eq_true, sbt_bit, sbt_bit, hAt_bit]
  constructor
  · rintro (⟨a, b, c⟩ | ⟨a, b, c⟩)
    · exact ⟨_, h1, (vIn_bit hw hk).mpr (Or.inl rfl), b, c⟩
    · exact ⟨_, by omega, (vIn_bit hw hk).mpr (Or.inr ⟨rfl, by omega⟩), b, c⟩
  · rintro ⟨v, a, b, c, e⟩
    rcases (vIn_bit hw hk).mp b with rfl | ⟨rfl, _⟩
    · exact Or.inl ⟨by omega, c, e⟩
    · exact Or.inr ⟨by omega, c, e⟩
theorem vOf_bit {T : Nat → Nat} {p v : Nat} : (vOf T p).testBit v = true ↔ ∃ k, k < T 3 ∧ T (67 + k) = p ∧ (vIn T k).testBit v = true := by
  unfold vOf
  rw [orf_bit]
  constructor
  · rintro ⟨k, h1, h2⟩
    unfold vOg at h2
    rw [if_bit] at h2
    exact ⟨k, h1, h2.1, h2.2⟩
  · rintro ⟨k, h1, h2, h3⟩
    refine ⟨k, h1, ?_⟩
    unfold vOg
    rw [if_bit]
    exact ⟨h2, h3⟩
theorem hrd_eq {T : Nat → Nat} (hw : WF T) (p h : Nat) : hrd T p h = hAt T (vOf T p) h := by
  apply bit_ext
  intro s
  unfold hrd
  rw [orf_bit, hAt_bit]
  constructor
  · rintro ⟨k, h1, h2⟩
    unfold hdg at h2
    rw [if_bit, hBy_eq hw h1, hAt_bit] at h2
    obtain ⟨h2, v, a, b, c, e⟩ := h2
    exact ⟨v, a, vOf_bit.mpr ⟨k, h1, h2, b⟩, c, e⟩
  · rintro ⟨v, a, b, c, e⟩
    obtain ⟨k, h1, h2, h3⟩ := vOf_bit.mp b
    refine ⟨k, h1, ?_⟩
    unfold hdg
    rw [if_bit, hBy_eq hw h1, hAt_bit]
    exact ⟨h2, v, a, h3, c, e⟩
theorem sbt_lt {T : Nat → Nat} (hw : WF T) {v : Nat} (hv : v < T 1 ∨ v = 4294967295) (h : Nat) : sbt T v h < 2 ^ 6 := by
  unfold sbt
  split
  · exact Nat.two_pow_pos 6
  · split
    · have := plc_lt hw (show v < T 1 by omega) (h := h); have := hw.1.1; exact pw6 (by omega)
    · exact Nat.two_pow_pos 6
/-! the reference's readers -/
theorem c9_ownedBy {N d : Nat} {X : lt_X} {I : Nat → Nat → Int32} {J : Nat → Nat → Int64} {T : Nat → Nat} (hT : TM (I 140) T) (hw : WF T) {p : Nat} (hp : p < 2 ^ 32) : am_G am_prog (N + 30) (d + 1) 262 [.ref 135, .int (nI p)] (mkh X I J) = some (.int (nI (owned T p)), (mkh X I J)) := by
  have h6 := hw.1.2.2.2.1
  rw [gX9_ownedBy N d, sX9_ownedBy_0 N d]
  refine lqs (run := fun n i => RX9_ownedBy_4 N d n X (nI p) (nI (bst (fun k => T (67 + k) == p) i)) (nI i) I J) (m := T 3) ?_ ?_ (N + 29) 0 (by omega) (by omega)
  · intro n i hi
    have hb := (hw.2.2.2.2.2 i hi).2.2
    have h2 := hw.1.2.2.1
    rw [sX9_ownedBy_4 N d n]
    by_cases q : T (67 + i) = p
    · have e : bst (fun k => T (67 + k) == p) (i + 1) = bst (fun k => T (67 + k) == p) i ||| 2 ^ i := by simp [bst, orf, q]
      simp (disch := first | assumption | omega) only [nI_add, pk_mul, nI_clamp, nc_in, nc_lt, nc_nlt, cI_some, cV_some, tm3 hT, tmB hT, nc_eq q, no_shl, no_or, e]
    · have e : bst (fun k => T (67 + k) == p) (i + 1) = bst (fun k => T (67 + k) == p) i := by simp [bst, orf, q]
      simp (disch := first | assumption | omega) only [nI_add, pk_mul, nI_clamp, nc_in, nc_lt, nc_nlt, cI_some, cV_some, tm3 hT, tmB hT, nc_ne q, no_or0, e]
  · intro n
    rw [sX9_ownedBy_4 N d n]
    simp (disch := first | assumption | omega) only [nI_add, pk_mul, nI_clamp, nc_in, nc_lt, nc_nlt, cI_some, cV_some, tm3 hT]
    rfl
theorem c9_placeOf {N d : Nat} {X : lt_X} {I : Nat → Nat → Int32} {J : Nat → Nat → Int64} {T : Nat → Nat} (hT : TM (I 140) T) (hw : WF T) {v h : Nat} (hv : v < T 1) (hh : h < 2 ^ 31) : am_G am_prog (N + 30) (d + 1) 272 [.ref 135, .int (nI v), .int (nI h)] (mkh X I J) = some (.int (nI (plc T v h)), (mkh X I J)) := by
  have h1 := hw.1.2.1
  have hr := hw.2.1 v hv
  have hm : h % T (19 + v) < T (19 + v) := Nat.mod_lt _ (by omega)
  rw [gX9_placeOf N d, sX9_placeOf_0 N d]
  simp (disch := first | assumption | omega) only [nI_add, pk_mul, nI_clamp, nc_in, nc_lt, nc_nlt, cI_some, cV_some, tmR hT, nz_ok, pk_rem, tmW hT]
  rfl
theorem c9_said {N d : Nat} {X : lt_X} {I : Nat → Nat → Int32} {J : Nat → Nat → Int64} {T : Nat → Nat} (hT : TM (I 140) T) (hw : WF T) {v h : Nat} (hv : v < T 1 ∨ v = 4294967295) (hh : h < 2 ^ 31) : am_G am_prog (N + 30) (d + 2) 273 [.ref 135, .int (nI v), .int (nI h)] (mkh X I J) = some (.int (nI (if v = 4294967295 then 4294967295 else if able T v = true then plc T v h else 4294967295)), (mkh X I J)) := by
  have h1 := hw.1.2.1
  rw [gX9_said N (d + 1), sX9_said_0 N (d + 1)]
  by_cases q : v = 4294967295
  · rw [nc_neg q, if_pos q, no_m1]
  · have hv' : v < T 1 := by omega
    have hr := hw.2.1 v hv'
    rw [if_neg q]
    by_cases q1 : T (25 + v) = 1
    · by_cases q2 : T (31 + v) = 0
      · rw [if_pos (show able T v = true by simp [able, q1, q2])]
        simp (disch := first | assumption | omega) only [nI_add, pk_mul, nI_clamp, nc_in, nc_lt, nc_nlt, cI_some, cV_some, tmV hT, tmK hT, nc_eq q1, nc_eq q2]
        rw [c9_placeOf hT hw hv' hh]
        rfl
      · rw [if_neg (show ¬ able T v = true by simp [able, q2])]
        simp (disch := first | assumption | omega) only [nI_add, pk_mul, nI_clamp, nc_in, nc_lt, nc_nlt, cI_some, cV_some, tmV hT, tmK hT, nc_eq q1, nc_ne q2, no_m1]
    · rw [if_neg (show ¬ able T v = true by simp [able, q1])]
      simp (disch := first | assumption | omega) only [nI_add, pk_mul, nI_clamp, nc_in, nc_lt, nc_nlt, cI_some, cV_some, tmV hT, nc_ne q1, no_m1]
theorem c9_heardBy {N d : Nat} {X : lt_X} {I : Nat → Nat → Int32} {J : Nat → Nat → Int64} {T : Nat → Nat} (hT : TM (I 140) T) (hw : WF T) {k h : Nat} (hk : k < T 3) (hh : h < 2 ^ 31) : am_G am_prog (N + 30) (d + 3) 274 [.ref 135, .int (nI k), .int (nI h)] (mkh X I J) = some (.int (nI (hBy T k h)), (mkh X I J)) := by
  have h1 := hw.1.2.1
  have h0 := hw.1.1
  have h3 := hw.1.2.2.2.1
  obtain ⟨b1, b2, -⟩ := hw.2.2.2.2.2 k hk
  have hp1 := plc_lt hw b1 (h := h)
  rw [gX9_heardBy N (d + 2), sX9_heardBy_0 N (d + 2)]
  simp (disch := first | assumption | omega) only [nI_add, pk_mul, nI_clamp, nc_in, nc_lt, nc_nlt, cI_some, cV_some, tmT hT]
  rw [c9_said hT hw (Or.inl b1) hh]
  simp (disch := first | assumption | omega) only [nI_add, pk_mul, nI_clamp, nc_in, nc_lt, nc_nlt, cI_some, cV_some, kX9_heardBy_0 N (d + 2), tmF hT]
  rw [c9_said hT hw b2 hh]
  simp (disch := first | assumption | omega) only [nI_add, pk_mul, nI_clamp, nc_in, nc_lt, nc_nlt, cI_some, cV_some, kX9_heardBy_1 N (d + 2)]
  have e1 : ¬ T (55 + k) = 4294967295 := by omega
  have s1 : ∀ (z : Int32), RX9_heardBy_42 N (d + 2) (N + 29) X (nI (if T (61 + k) = 4294967295 then 4294967295 else if able T (T (61 + k)) = true then plc T (T (61 + k)) h else 4294967295)) z I J = some (.int (z ||| nI (sbt T (T (61 + k)) h)), (mkh X I J)) := by
    intro z
    rw [sX9_heardBy_42 N (d + 2) (N + 28)]
    unfold sbt
    by_cases q : T (61 + k) = 4294967295
    · simp only [if_pos q]
      rw [nc_neg rfl]
    · have b3 : T (61 + k) < T 1 := by omega
      have hp2 := plc_lt hw b3 (h := h)
      simp only [if_neg q]
      by_cases q2 : able T (T (61 + k)) = true
      · simp only [if_pos q2]
        rw [nc_nlt (by omega) (by omega), no_shl (by omega)]
      · simp only [if_neg q2]
        rw [nc_neg rfl]
  unfold hBy
  rw [if_neg e1]
  by_cases q : able T (T (55 + k)) = true
  · rw [if_pos q, nc_nlt (by omega) (by omega), s1, no_shl (by omega), no_or]
    unfold sbt
    rw [if_neg e1, if_pos q]
  · rw [if_neg q, nc_neg rfl, s1, no_or]
    rw [show sbt T (T (55 + k)) h = 0 by unfold sbt; rw [if_neg e1, if_neg q]]
theorem c9_heard {N d : Nat} {X : lt_X} {I : Nat → Nat → Int32} {J : Nat → Nat → Int64} {T : Nat → Nat} (hT : TM (I 140) T) (hw : WF T) {p h : Nat} (hp : p < 2 ^ 32) (hh : h < 2 ^ 31) : am_G am_prog (N + 30) (d + 4) 275 [.ref 135, .int (nI p), .int (nI h)] (mkh X I J) = some (.int (nI (hAt T (vOf T p) h)), (mkh X I J)) := by
  have h6 := hw.1.2.2.2.1
  have h2 := hw.1.2.2.1
  rw [gX9_heard N (d + 3), sX9_heard_0 N (d + 3), ← hrd_eq hw]
  refine lqs (run := fun n i => RX9_heard_5 N (d + 3) n X (nI p) (nI h) (nI (orf (hdg T p h) i)) (nI i) I J) (m := T 3) ?_ ?_ (N + 29) 0 (by omega) (by omega)
  · intro n i hi
    have hb := (hw.2.2.2.2.2 i hi).2.2
    rw [sX9_heard_5 N (d + 3) n]
    by_cases q : T (67 + i) = p
    · have e : orf (hdg T p h) (i + 1) = orf (hdg T p h) i ||| hBy T i h := by simp only [orf, hdg, if_pos q]
      simp (disch := first | assumption | omega) only [nI_add, pk_mul, nI_clamp, nc_in, nc_lt, nc_nlt, cI_some, cV_some, tm3 hT, tmB hT, nc_eq q]
      rw [c9_heardBy hT hw hi hh]
      simp (disch := first | assumption | omega) only [nI_add, pk_mul, nI_clamp, nc_in, nc_lt, nc_nlt, cI_some, cV_some, kX9_heard_0 N (d + 3) n, no_or, e]
    · have e : orf (hdg T p h) (i + 1) = orf (hdg T p h) i := by simp only [orf, hdg, if_neg q, Nat.or_zero]
      simp (disch := first | assumption | omega) only [nI_add, pk_mul, nI_clamp, nc_in, nc_lt, nc_nlt, cI_some, cV_some, tm3 hT, tmB hT, nc_ne q, no_or0, e]
  · intro n
    rw [sX9_heard_5 N (d + 3) n]
    simp (disch := first | assumption | omega) only [nI_add, pk_mul, nI_clamp, nc_in, nc_lt, nc_nlt, cI_some, cV_some, tm3 hT]
    rfl
theorem c9_has {N d : Nat} {X : lt_X} {I : Nat → Nat → Int32} {J : Nat → Nat → Int64} {a v : Nat} (ha : a < 2 ^ 31) (hv : v < 32) : am_G am_prog (N + 30) (d + 1) 201 [.int (nI a), .int (nI v)] (mkh X I J) = some (.int (nI (if a.testBit v = true then 1 else 0)), (mkh X I J)) := by
  rw [gX9_has N d, sX9_has_0 N d]
  by_cases q : a.testBit v = true
  · rw [nc_c1 q ha hv, if_pos q]
  · rw [nc_c0 (by simpa using q) ha hv, if_neg q]
theorem c9_likeOf {N d : Nat} {X : lt_X} {I : Nat → Nat → Int32} {J : Nat → Nat → Int64} {T : Nat → Nat} (hT : TM (I 140) T) (hw : WF T) {p s : Nat} (hp : p < T 2) (hs : s < 6) : am_G am_prog (N + 30) (d + 1) 269 [.ref 135, .int (nI p), .int (nI s)] (mkh X I J) = some (.int (nI (T (121 + 6 * p + s))), (mkh X I J)) := by
  have h2 := hw.1.2.2.1
  rw [gX9_likeOf N d, sX9_likeOf_0 N d]
  simp (disch := first | assumption | omega) only [nI_add, pk_mul, nI_clamp, nc_in, nc_lt, nc_nlt, cI_some, cV_some, tmI hT]
theorem c9_liked {N d : Nat} {X : lt_X} {I : Nat → Nat → Int32} {J : Nat → Nat → Int64} {T : Nat → Nat} (hT : TM (I 140) T) (hw : WF T) {p ss : Nat} (hp : p < T 2) (hs : ss < 2 ^ 31) : am_G am_prog (N + 30) (d + 2) 276 [.ref 135, .int (nI p), .int (nI ss)] (mkh X I J) = some (.int (nI (joy T p ss)), (mkh X I J)) := by
  have h0 := hw.1.1
  rw [gX9_liked N d, sX9_liked_0 N d]
  refine lqs (run := fun n i => RX9_liked_5 N d n X (nI p) (nI ss) (nI (sm (jyg T p ss) i)) (nI i) I J) (m := T 0) ?_ ?_ (N + 29) 0 (by omega) (by omega)
  · intro n i hi
    have i6 : i < 6 := by omega
    rw [sX9_liked_5 N d n]
    simp (disch := first | assumption | omega) only [nI_add, pk_mul, nI_clamp, nc_in, nc_lt, nc_nlt, cI_some, cV_some, tm0 hT]
    rw [c9_has hs (by omega)]
    simp (disch := first | assumption | omega) only [nI_add, pk_mul, nI_clamp, nc_in, nc_lt, nc_nlt, cI_some, cV_some, kX9_liked_0 N d n]
    by_cases q : ss.testBit i = true
    · have e : sm (jyg T p ss) (i + 1) = sm (jyg T p ss) i + T (121 + 6 * p + i) := by simp only [sm, jyg, if_pos q]
      rw [if_pos q, nc_ne (by omega) (by omega) (by omega), c9_likeOf hT hw hp i6]
      simp (disch := first | assumption | omega) only [nI_add, pk_mul, nI_clamp, nc_in, nc_lt, nc_nlt, cI_some, cV_some, kX9_liked_1 N d n, e]
    · have e : sm (jyg T p ss) (i + 1) = sm (jyg T p ss) i := by simp only [sm, jyg, if_neg q, Nat.add_zero]
      rw [if_neg q, nc_eq rfl, e, Nat.add_zero]
  · intro n
    rw [sX9_liked_5 N d n]
    simp (disch := first | assumption | omega) only [nI_add, pk_mul, nI_clamp, nc_in, nc_lt, nc_nlt, cI_some, cV_some, tm0 hT]
    rfl
