/-! more readers of the reference -/
theorem c9_worthOf {N d : Nat} {X : lt_X} {I : Nat → Nat → Int32} {J : Nat → Nat → Int64} {T : Nat → Nat} (hT : TM (I 140) T) (hw : WF T) {p k : Nat} (hp : p < T 2) (hk : k < T 3) : am_G am_prog (N + 30) (d + 4) 301 [.ref 135, .int (nI p), .int (nI k)] (mkh X I J) = some (.int (nI (wth T p k)), (mkh X I J)) := by
  have h5 := hw.1.2.2.2.2.2.1
  rw [gX9_worthOf N (d + 3), sX9_worthOf_0 N (d + 3)]
  refine lqs (run := fun n i => RX9_worthOf_5 N (d + 3) n X (nI p) (nI k) (nI (sm (jag T p (vIn T k)) i)) (nI i) I J) (m := 12) ?_ ?_ (N + 29) 0 (by omega) (by omega)
  · intro n i hi
    have hl : hAt T (vIn T k) (T 5 + i) < 2 ^ 31 := lt6 (hAt_lt hw _ _) (by omega)
    have e : sm (jag T p (vIn T k)) (i + 1) = sm (jag T p (vIn T k)) i + joy T p (hAt T (vIn T k) (T 5 + i)) := rfl
    rw [sX9_worthOf_5 N (d + 3) n]
    simp (disch := first | assumption | omega) only [nI_add, pk_mul, nI_clamp, nc_in, nc_lt, nc_nlt, cI_some, cV_some, tm5 hT]
    rw [c9_heardBy hT hw hk (by omega), hBy_eq hw hk]
    simp (disch := first | assumption | omega) only [nI_add, pk_mul, nI_clamp, nc_in, nc_lt, nc_nlt, cI_some, cV_some, kX9_worthOf_0 N (d + 3) n]
    rw [c9_liked hT hw hp hl]
    simp (disch := first | assumption | omega) only [nI_add, pk_mul, nI_clamp, nc_in, nc_lt, nc_nlt, cI_some, cV_some, kX9_worthOf_1 N (d + 3) n, e]
  · intro n
    rw [sX9_worthOf_5 N (d + 3) n]
    simp (disch := first | assumption | omega) only [nI_add, pk_mul, nI_clamp, nc_in, nc_lt, nc_nlt, cI_some, cV_some]
    rfl
theorem c9_voicesBy {N d : Nat} {X : lt_X} {I : Nat → Nat → Int32} {J : Nat → Nat → Int64} {T : Nat → Nat} (hT : TM (I 140) T) (hw : WF T) {r : Nat} (hr : r = 25 ∨ r = 31) : am_G am_prog (N + 30) (d + 1) 263 [.ref 135, .int (nI r)] (mkh X I J) = some (.int (nI (bst (fun v => T (r + v) == 1) (T 1))), (mkh X I J)) := by
  have h1 := hw.1.2.1
  rw [gX9_voicesBy N d, sX9_voicesBy_0 N d]
  refine lqs (run := fun n i => RX9_voicesBy_4 N d n X (nI r) (nI (bst (fun v => T (r + v) == 1) i)) (nI i) I J) (m := T 1) ?_ ?_ (N + 29) 0 (by omega) (by omega)
  · intro n i hi
    have hv := hw.2.1 i hi
    have hc : I 140 (r + i) = nI (T (r + i)) := by
      rcases hr with rfl | rfl
      · exact tmV hT i hi
      · exact tmK hT i hi
    have hl : T (r + i) ≤ 1 := by
      rcases hr with rfl | rfl <;> omega
    rw [sX9_voicesBy_4 N d n]
    by_cases q : T (r + i) = 1
    · have e : bst (fun v => T (r + v) == 1) (i + 1) = bst (fun v => T (r + v) == 1) i ||| 2 ^ i := by simp [bst, orf, q]
      simp (disch := first | assumption | omega) only [nI_add, pk_mul, nI_clamp, nc_in, nc_lt, nc_nlt, cI_some, cV_some, tm1 hT, hc, q, no_shl, no_or, e]
    · have e : bst (fun v => T (r + v) == 1) (i + 1) = bst (fun v => T (r + v) == 1) i := by simp [bst, orf, q]
      have q0 : T (r + i) = 0 := by omega
      simp (disch := first | assumption | omega) only [nI_add, pk_mul, nI_clamp, nc_in, nc_lt, nc_nlt, cI_some, cV_some, tm1 hT, hc, q0]
      rw [no_shlN (by omega) (by simp), Nat.zero_mul, no_or0, e]
  · intro n
    rw [sX9_voicesBy_4 N d n]
    simp (disch := first | assumption | omega) only [nI_add, pk_mul, nI_clamp, nc_in, nc_lt, nc_nlt, cI_some, cV_some, tm1 hT]
theorem c9_sumOf {N d : Nat} {X : lt_X} {I : Nat → Nat → Int32} {J : Nat → Nat → Int64} {T : Nat → Nat} (hT : TM (I 140) T) (hw : WF T) {r : Nat} (hr : r = 37 ∨ r = 43) : am_G am_prog (N + 30) (d + 1) 264 [.ref 135, .int (nI r)] (mkh X I J) = some (.int (nI (smT T r)), (mkh X I J)) := by
  have h2 := hw.1.2.2.1
  rw [gX9_sumOf N d, sX9_sumOf_0 N d]
  refine lqs (run := fun n i => RX9_sumOf_4 N d n X (nI r) (nI (sm (fun p => T (r + p)) i)) (nI i) I J) (m := T 2) ?_ ?_ (N + 29) 0 (by omega) (by omega)
  · intro n i hi
    have e : sm (fun p => T (r + p)) (i + 1) = sm (fun p => T (r + p)) i + T (r + i) := rfl
    have hc : I 140 (r + i) = nI (T (r + i)) := by
      rcases hr with rfl | rfl
      · exact tmM hT i hi
      · exact tmG hT i hi
    rw [sX9_sumOf_4 N d n]
    simp (disch := first | assumption | omega) only [nI_add, pk_mul, nI_clamp, nc_in, nc_lt, nc_nlt, cI_some, cV_some, tm2 hT, hc, e]
  · intro n
    rw [sX9_sumOf_4 N d n]
    simp (disch := first | assumption | omega) only [nI_add, pk_mul, nI_clamp, nc_in, nc_lt, nc_nlt, cI_some, cV_some, tm2 hT]
    rfl
def crg (T : Nat → Nat) (v k : Nat) : Nat := if T (67 + k) ≠ 4294967295 ∧ (T (55 + k) = v ∨ T (61 + k) = v) then 2 ^ T (67 + k) else 0
theorem crg_eq {T : Nat → Nat} (hw : WF T) {v : Nat} (hv : v < T 1) : orf (crg T v) (T 3) = hrs T v := by
  apply bit_ext
  intro p
  unfold hrs
  rw [orf_bit, bst_bit, vOf_bit]
  constructor
  · rintro ⟨k, h1, h2⟩
    unfold crg at h2
    rw [if_bit, pow_bit] at h2
    obtain ⟨⟨a, b⟩, rfl⟩ := h2
    have hb := hw.2.2.2.2.2 k h1
    refine ⟨by omega, k, h1, rfl, (vIn_bit hw h1).mpr ?_⟩
    rcases b with b | b
    · exact Or.inl b.symm
    · exact Or.inr ⟨b.symm, hv⟩
  · rintro ⟨h0, k, h1, rfl, h3⟩
    have h6 := hw.1.2.2.1
    refine ⟨k, h1, ?_⟩
    unfold crg
    rw [if_bit, pow_bit]
    refine ⟨⟨by omega, ?_⟩, rfl⟩
    rcases (vIn_bit hw h1).mp h3 with b | ⟨b, -⟩
    · exact Or.inl b.symm
    · exact Or.inr b.symm
theorem c9_crowdOf {N d : Nat} {X : lt_X} {I : Nat → Nat → Int32} {J : Nat → Nat → Int64} {T : Nat → Nat} (hT : TM (I 140) T) (hw : WF T) {v : Nat} (hv : v < T 1) (hN : 1000 ≤ N) : am_G am_prog (N + 30) (d + 1) 299 [.ref 135, .int (nI v)] (mkh X I J) = some (.int (nI (hrs T v)), (mkh X I J)) := by
  have h1 := hw.1.2.1
  have h2 := hw.1.2.2.1
  have h3 := hw.1.2.2.2.1
  rw [gX9_crowdOf N d, sX9_crowdOf_0 N d, ← crg_eq hw hv]
  refine lqc (run := fun n i => RX9_crowdOf_4 N d n X (nI v) (nI (orf (crg T v) i)) (nI i) I J) (m := T 3) (c := 2) (B := 1) ?_ ?_ (T 3) 0 (by omega) (N + 29) (by omega)
  · intro i B hi e0
    obtain ⟨b1, b2, b3⟩ := hw.2.2.2.2.2 i hi
    by_cases q0 : T (67 + i) = 4294967295
    · have e : orf (crg T v) (i + 1) = orf (crg T v) i := by simp [orf, crg, q0]
      refine ev_le (ev_s (fun n => ?_) e0) (by omega)
      rw [sX9_crowdOf_4 N d n]
      simp (disch := first | assumption | omega) only [nI_add, pk_mul, nI_clamp, nc_in, nc_lt, nc_nlt, cI_some, cV_some, tm3 hT, tmB hT, nc_neg q0, e]
    · have o1 : ∀ n, RX9_crowdOf_52 N d (n + 1) X (nI v) (nI (orf (crg T v) i)) (nI i) I J = RX9_crowdOf_4 N d n X (nI v) (nI (orf (crg T v) i ||| 2 ^ T (67 + i))) (nI (i + 1)) I J := by
        intro n
        rw [sX9_crowdOf_52 N d n]
        simp (disch := first | assumption | omega) only [nI_add, pk_mul, nI_clamp, nc_in, nc_lt, nc_nlt, cI_some, cV_some, tmB hT, no_shl, no_or]
      by_cases q1 : T (55 + i) = v
      · have e : orf (crg T v) (i + 1) = orf (crg T v) i ||| 2 ^ T (67 + i) := by simp [orf, crg, q0, q1]
        rw [e] at e0
        refine ev_le (ev_s (g := fun n => RX9_crowdOf_52 N d n X (nI v) (nI (orf (crg T v) i)) (nI i) I J) (fun n => ?_) (ev_s o1 e0)) (by omega)
        rw [sX9_crowdOf_4 N d n]
        simp (disch := first | assumption | omega) only [nI_add, pk_mul, nI_clamp, nc_in, nc_lt, nc_nlt, cI_some, cV_some, tm3 hT, tmB hT, tmT hT, nc_eq q1]
      · by_cases q2 : T (61 + i) = v
        · have e : orf (crg T v) (i + 1) = orf (crg T v) i ||| 2 ^ T (67 + i) := by simp [orf, crg, q0, q2]
          rw [e] at e0
          refine ev_le (ev_s (g := fun n => RX9_crowdOf_52 N d n X (nI v) (nI (orf (crg T v) i)) (nI i) I J) (fun n => ?_) (ev_s o1 e0)) (by omega)
          rw [sX9_crowdOf_4 N d n]
          simp (disch := first | assumption | omega) only [nI_add, pk_mul, nI_clamp, nc_in, nc_lt, nc_nlt, cI_some, cV_some, tm3 hT, tmB hT, tmT hT, tmF hT, nc_ne q1, nc_eq q2]
        · have e : orf (crg T v) (i + 1) = orf (crg T v) i := by simp [orf, crg, q1, q2]
          refine ev_le (ev_s (fun n => ?_) e0) (by omega)
          rw [sX9_crowdOf_4 N d n]
          simp (disch := first | assumption | omega) only [nI_add, pk_mul, nI_clamp, nc_in, nc_lt, nc_nlt, cI_some, cV_some, tm3 hT, tmB hT, tmT hT, tmF hT, nc_ne q1, nc_ne q2, e]
  · refine ev_0 (fun n => ?_)
    rw [sX9_crowdOf_4 N d n]
    simp (disch := first | assumption | omega) only [nI_add, pk_mul, nI_clamp, nc_in, nc_lt, nc_nlt, cI_some, cV_some, tm3 hT]
theorem c9_alikeIn {N d : Nat} {X : lt_X} {I : Nat → Nat → Int32} {J : Nat → Nat → Int64} {T : Nat → Nat} (hT : TM (I 140) T) (hw : WF T) {vs h : Nat} (hv : vs < 2 ^ 31) (hh : h < 2 ^ 31) (hN : 1000 ≤ N) : am_G am_prog (N + 30) (d + 2) 323 [.ref 135, .int (nI vs), .int (nI h)] (mkh X I J) = some (.int (nI (mst T vs h)), (mkh X I J)) := by
  have h0 := hw.1.1
  have h1 := hw.1.2.1
  rw [gX9_alikeIn N d, sX9_alikeIn_0 N d]
  refine lqc (run := fun n i => RX9_alikeIn_5 N d n X (nI vs) (nI h) (nI (mxf (alk T vs h) i)) (nI i) I J) (m := T 0) (c := 8) (B := 1) ?_ ?_ (T 0) 0 (by omega) (N + 29) (by omega)
  · intro i B hi e0
    have hml := mxf_le (g := alk T vs h) (b := 6) i (fun j _ => alk_le hw vs h j)
    have hal := alk_le hw vs h i
    have ex : mxf (alk T vs h) (i + 1) = max (mxf (alk T vs h) i) (sm (alg T vs h i) (T 1)) := rfl
    refine ev_le (ev_s (g := fun n => RX9_alikeIn_22 N d n X (nI vs) (nI h) (nI (mxf (alk T vs h) i)) (nI i) (nI (sm (alg T vs h i) 0)) (nI 0) I J) (fun n => ?_) (lqc (run := fun n j => RX9_alikeIn_22 N d n X (nI vs) (nI h) (nI (mxf (alk T vs h) i)) (nI i) (nI (sm (alg T vs h i) j)) (nI j) I J) (m := T 1) (c := 1) (B := B + 1) ?_ ?_ (T 1) 0 (by omega))) (by omega)
    · rw [sX9_alikeIn_5 N d n]
      simp (disch := first | assumption | omega) only [nI_add, pk_mul, nI_clamp, nc_in, nc_lt, nc_nlt, cI_some, cV_some, tm0 hT]
      rfl
    · intro j B' hj e1
      refine ev_s (fun n => ?_) e1
      have hp := plc_lt hw hj (h := h)
      rw [sX9_alikeIn_22 N d n]
      simp (disch := first | assumption | omega) only [nI_add, pk_mul, nI_clamp, nc_in, nc_lt, nc_nlt, cI_some, cV_some, tm1 hT]
      rw [c9_has hv (by omega)]
      simp (disch := first | assumption | omega) only [nI_add, pk_mul, nI_clamp, nc_in, nc_lt, nc_nlt, cI_some, cV_some, kX9_alikeIn_0 N d n]
      by_cases q : vs.testBit j = true
      · rw [if_pos q, nc_ne (by omega) (by omega) (by omega), c9_placeOf hT hw hj hh]
        simp (disch := first | assumption | omega) only [nI_add, pk_mul, nI_clamp, nc_in, nc_lt, nc_nlt, cI_some, cV_some, kX9_alikeIn_1 N d n]
        by_cases q2 : plc T j h = i
        · have e : sm (alg T vs h i) (j + 1) = sm (alg T vs h i) j + 1 := by simp [sm, alg, q, q2]
          rw [nc_eq q2, e]
        · have e : sm (alg T vs h i) (j + 1) = sm (alg T vs h i) j := by simp [sm, alg, q2]
          rw [nc_ne q2 (by omega) (by omega), e, Nat.add_zero]
      · have e : sm (alg T vs h i) (j + 1) = sm (alg T vs h i) j := by simp [sm, alg, q]
        rw [if_neg q, nc_eq rfl, e, Nat.add_zero]
    · refine ev_s (fun n => ?_) e0
      rw [sX9_alikeIn_22 N d n]
      have hal2 : sm (alg T vs h i) (T 1) ≤ 6 := hal
      simp (disch := first | assumption | omega) only [nI_add, pk_mul, nI_clamp, nc_in, nc_lt, nc_nlt, cI_some, cV_some, tm1 hT, no_max, ex]
  · refine ev_0 (fun n => ?_)
    rw [sX9_alikeIn_5 N d n]
    simp (disch := first | assumption | omega) only [nI_add, pk_mul, nI_clamp, nc_in, nc_lt, nc_nlt, cI_some, cV_some, tm0 hT]
    rfl
theorem c9_leastLike {N d : Nat} {X : lt_X} {I : Nat → Nat → Int32} {J : Nat → Nat → Int64} {T : Nat → Nat} (hT : TM (I 140) T) (hw : WF T) {ps s : Nat} (hp : ps < 2 ^ 31) (hs : s < 6) : am_G am_prog (N + 30) (d + 2) 325 [.ref 135, .int (nI ps), .int (nI s)] (mkh X I J) = some (.int (nI (lsk T ps s 9999 (T 2))), (mkh X I J)) := by
  have h2 := hw.1.2.2.1
  rw [gX9_leastLike N d, sX9_leastLike_0 N d]
  refine lqs (run := fun n i => RX9_leastLike_7 N d n X (nI ps) (nI s) (nI (lsk T ps s 9999 i)) (nI i) I J) (m := T 2) ?_ ?_ (N + 29) 0 (by omega) (by omega)
  · intro n i hi
    have hl := hw.2.2.2.2.1 i s hi hs
    have hb := lsk_le (T := T) ps s 9999 i
    rw [sX9_leastLike_7 N d n]
    simp (disch := first | assumption | omega) only [nI_add, pk_mul, nI_clamp, nc_in, nc_lt, nc_nlt, cI_some, cV_some, tm2 hT]
    rw [c9_has hp (by omega)]
    simp (disch := first | assumption | omega) only [nI_add, pk_mul, nI_clamp, nc_in, nc_lt, nc_nlt, cI_some, cV_some, kX9_leastLike_0 N d n]
    by_cases q : ps.testBit i = true
    · have e : lsk T ps s 9999 (i + 1) = min (lsk T ps s 9999 i) (T (121 + 6 * i + s)) := by simp [lsk, q]
      rw [if_pos q, nc_ne (by omega) (by omega) (by omega), c9_likeOf hT hw hi hs]
      simp (disch := first | assumption | omega) only [nI_add, pk_mul, nI_clamp, nc_in, nc_lt, nc_nlt, cI_some, cV_some, kX9_leastLike_1 N d n, no_min, e]
    · have e : lsk T ps s 9999 (i + 1) = lsk T ps s 9999 i := by simp [lsk, q]
      rw [if_neg q, nc_eq rfl, e]
  · intro n
    rw [sX9_leastLike_7 N d n]
    simp (disch := first | assumption | omega) only [nI_add, pk_mul, nI_clamp, nc_in, nc_lt, nc_nlt, cI_some, cV_some, tm2 hT]
theorem lsk_two {T : Nat → Nat} (hw : WF T) (ps : Nat) {s : Nat} (hs : s < 6) : ∀ k, k ≤ T 2 → (lsk T ps s 9999 k = lsk T ps s 9 k) ∨ ((∀ p, p < k → ps.testBit p = false) ∧ lsk T ps s 9999 k = 9999 ∧ lsk T ps s 9 k = 9) := by
  intro k
  induction k with
  | zero => intro _; exact Or.inr ⟨fun p h => by omega, rfl, rfl⟩
  | succ k ih =>
    intro hk
    have hl := hw.2.2.2.2.1 k s (by omega) hs
    simp only [lsk]
    rcases ih (by omega) with e | ⟨e1, e2, e3⟩
    · rw [e]; exact Or.inl rfl
    · by_cases q : ps.testBit k = true
      · rw [if_pos q, if_pos q, e2, e3]; exact Or.inl (by omega)
      · rw [if_neg q, if_neg q, e2, e3]
        refine Or.inr ⟨fun p hp => ?_, rfl, rfl⟩
        by_cases r : p = k
        · rw [r]; simpa using q
        · exact e1 p (by omega)
theorem lsk_eq {T : Nat → Nat} (hw : WF T) {ps s p : Nat} (hs : s < 6) (hp : p < T 2) (hb : ps.testBit p = true) : lsk T ps s 9999 (T 2) = lst T ps s := by
  rcases lsk_two hw ps hs (T 2) (Nat.le_refl _) with e | ⟨e, -⟩
  · exact e
  · rw [e p hp] at hb; cases hb
theorem c9_allLike {N d : Nat} {X : lt_X} {I : Nat → Nat → Int32} {J : Nat → Nat → Int64} {T : Nat → Nat} (hT : TM (I 140) T) (hw : WF T) {ps s : Nat} (hp : ps < 2 ^ 31) (hs : s < 6) : am_G am_prog (N + 30) (d + 2) 326 [.ref 135, .int (nI ps), .int (nI s)] (mkh X I J) = some (.int (nI (alk2 T ps s)), (mkh X I J)) := by
  have h2 := hw.1.2.2.1
  rw [gX9_allLike N d, sX9_allLike_0 N d]
  refine lqs (run := fun n i => RX9_allLike_5 N d n X (nI ps) (nI s) (nI (sm (alg2 T ps s) i)) (nI i) I J) (m := T 2) ?_ ?_ (N + 29) 0 (by omega) (by omega)
  · intro n i hi
    rw [sX9_allLike_5 N d n]
    simp (disch := first | assumption | omega) only [nI_add, pk_mul, nI_clamp, nc_in, nc_lt, nc_nlt, cI_some, cV_some, tm2 hT]
    rw [c9_has hp (by omega)]
    simp (disch := first | assumption | omega) only [nI_add, pk_mul, nI_clamp, nc_in, nc_lt, nc_nlt, cI_some, cV_some, kX9_allLike_0 N d n]
    by_cases q : ps.testBit i = true
    · have e : sm (alg2 T ps s) (i + 1) = sm (alg2 T ps s) i + T (121 + 6 * i + s) := by simp [sm, alg2, q]
      rw [if_pos q, nc_ne (by omega) (by omega) (by omega), c9_likeOf hT hw hi hs]
      simp (disch := first | assumption | omega) only [nI_add, pk_mul, nI_clamp, nc_in, nc_lt, nc_nlt, cI_some, cV_some, kX9_allLike_1 N d n, e]
    · have e : sm (alg2 T ps s) (i + 1) = sm (alg2 T ps s) i := by simp [sm, alg2, q]
      rw [if_neg q, nc_eq rfl, e, Nat.add_zero]
  · intro n
    rw [sX9_allLike_5 N d n]
    simp (disch := first | assumption | omega) only [nI_add, pk_mul, nI_clamp, nc_in, nc_lt, nc_nlt, cI_some, cV_some, tm2 hT]
    rfl
theorem c9_fansOf {N d : Nat} {X : lt_X} {I : Nat → Nat → Int32} {J : Nat → Nat → Int64} {T : Nat → Nat} (hT : TM (I 140) T) (hw : WF T) {v s : Nat} (hv : v < T 1) (hs : s < 6) (hN : 1000 ≤ N) : am_G am_prog (N + 30) (d + 2) 330 [.ref 135, .int (nI v), .int (nI s)] (mkh X I J) = some (.int (nI (fan T (hrs T v) s)), (mkh X I J)) := by
  have h2 := hw.1.2.2.1
  have hl : hrs T v < 2 ^ 31 := lt6 (bst_lt h2) (by omega)
  rw [gX9_fansOf N d, sX9_fansOf_0 N d]
  refine lqs (run := fun n i => RX9_fansOf_5 N d n X (nI v) (nI s) (nI (sm (fng T (hrs T v) s) i)) (nI i) I J) (m := T 2) ?_ ?_ (N + 29) 0 (by omega) (by omega)
  · intro n i hi
    have hk := hw.2.2.2.2.1 i s hi hs
    rw [sX9_fansOf_5 N d n]
    simp (disch := first | assumption | omega) only [nI_add, pk_mul, nI_clamp, nc_in, nc_lt, nc_nlt, cI_some, cV_some, tm2 hT]
    rw [c9_crowdOf hT hw hv hN]
    simp (disch := first | assumption | omega) only [nI_add, pk_mul, nI_clamp, nc_in, nc_lt, nc_nlt, cI_some, cV_some, kX9_fansOf_0 N d n]
    rw [c9_has hl (by omega)]
    simp (disch := first | assumption | omega) only [nI_add, pk_mul, nI_clamp, nc_in, nc_lt, nc_nlt, cI_some, cV_some, kX9_fansOf_1 N d n]
    by_cases q : (hrs T v).testBit i = true
    · rw [if_pos q, nc_ne (by omega) (by omega) (by omega), c9_likeOf hT hw hi hs]
      simp (disch := first | assumption | omega) only [nI_add, pk_mul, nI_clamp, nc_in, nc_lt, nc_nlt, cI_some, cV_some, kX9_fansOf_2 N d n]
      by_cases q2 : 5 ≤ T (121 + 6 * i + s)
      · have e : sm (fng T (hrs T v) s) (i + 1) = sm (fng T (hrs T v) s) i + 1 := by simp [sm, fng, q, q2]
        rw [nc_nlt q2 (by omega), e]
      · have e : sm (fng T (hrs T v) s) (i + 1) = sm (fng T (hrs T v) s) i := by simp [sm, fng, q2]
        rw [nc_lt (by omega) (by omega), e, Nat.add_zero]
    · have e : sm (fng T (hrs T v) s) (i + 1) = sm (fng T (hrs T v) s) i := by simp [sm, fng, q]
      rw [if_neg q, nc_eq rfl, e, Nat.add_zero]
  · intro n
    rw [sX9_fansOf_5 N d n]
    simp (disch := first | assumption | omega) only [nI_add, pk_mul, nI_clamp, nc_in, nc_lt, nc_nlt, cI_some, cV_some, tm2 hT]
    rfl
/-- what the reference answers where there are no subjects: none -/
def orN (k : Nat) (f : Nat → Nat) : Nat := if k = 0 then 4294967295 else f (k - 1)
theorem c9_popularOf {N d : Nat} {X : lt_X} {I : Nat → Nat → Int32} {J : Nat → Nat → Int64} {T : Nat → Nat} (hT : TM (I 140) T) (hw : WF T) {v : Nat} (hv : v < T 1) (hN : 1000 ≤ N) : am_G am_prog (N + 30) (d + 3) 331 [.ref 135, .int (nI v)] (mkh X I J) = some (.int (nI (orN (T 0) (ppl T (hrs T v)))), (mkh X I J)) := by
  have h6 := hw.1.1
  rw [gX9_popularOf N (d + 2), sX9_popularOf_0 N (d + 2), no_m1]
  refine lqs (run := fun n i => RX9_popularOf_4 N (d + 2) n X (nI v) (nI (orN i (ppl T (hrs T v)))) (nI i) I J) (m := T 0) ?_ ?_ (N + 29) 0 (by omega) (by omega)
  · intro n i hi
    rw [sX9_popularOf_4 N (d + 2) n]
    by_cases q0 : i = 0
    · subst q0
      rw [show orN 0 (ppl T (hrs T v)) = 4294967295 from rfl, tm0 hT, nc_lt hi (by omega), nc_neg rfl, nI_add]
      rfl
    · obtain ⟨j, rfl⟩ : ∃ z, i = z + 1 := ⟨i - 1, by omega⟩
      have e0 : orN (j + 1) (ppl T (hrs T v)) = ppl T (hrs T v) j := rfl
      have e1 : orN (j + 1 + 1) (ppl T (hrs T v)) = ppl T (hrs T v) (j + 1) := rfl
      have hb : ppl T (hrs T v) j ≤ j := bof_le _ _
      have f1 := fan_le hw (hrs T v) (j + 1)
      have f2 := fan_le hw (hrs T v) (ppl T (hrs T v) j)
      simp (disch := first | assumption | omega) only [nI_add, pk_mul, nI_clamp, nc_in, nc_lt, nc_nlt, cI_some, cV_some, tm0 hT, e0, e1]
      rw [c9_fansOf hT hw hv (by omega) hN]
      simp (disch := first | assumption | omega) only [nI_add, pk_mul, nI_clamp, nc_in, nc_lt, nc_nlt, cI_some, cV_some, kX9_popularOf_0 N (d + 2) n]
      rw [c9_fansOf hT hw hv (by omega) hN]
      simp (disch := first | assumption | omega) only [nI_add, pk_mul, nI_clamp, nc_in, nc_lt, nc_nlt, cI_some, cV_some, kX9_popularOf_1 N (d + 2) n]
      by_cases q : fan T (hrs T v) (ppl T (hrs T v) j) < fan T (hrs T v) (j + 1)
      · have e : ppl T (hrs T v) (j + 1) = j + 1 := by unfold ppl at q ⊢; simp [bof, q]
        rw [nc_lt q (by omega), e]
      · have e : ppl T (hrs T v) (j + 1) = ppl T (hrs T v) j := by unfold ppl at q ⊢; simp [bof, q]
        rw [nc_nlt (by omega) (by omega), e]
  · intro n
    rw [sX9_popularOf_4 N (d + 2) n]
    simp (disch := first | assumption | omega) only [nI_add, pk_mul, nI_clamp, nc_in, nc_lt, nc_nlt, cI_some, cV_some, tm0 hT]
theorem c9_peaceful {N d : Nat} {X : lt_X} {I : Nat → Nat → Int32} {J : Nat → Nat → Int64} {T : Nat → Nat} (hT : TM (I 140) T) (hw : WF T) {ps p0 : Nat} (hp : ps < 2 ^ 31) (hp0 : p0 < T 2) (hb0 : ps.testBit p0 = true) (hN : 1000 ≤ N) : am_G am_prog (N + 30) (d + 3) 327 [.ref 135, .int (nI ps)] (mkh X I J) = some (.int (nI (orN (T 0) (pce T ps))), (mkh X I J)) := by
  have h6 := hw.1.1
  rw [gX9_peaceful N (d + 2), sX9_peaceful_0 N (d + 2), no_m1]
  refine lqc (run := fun n i => RX9_peaceful_4 N (d + 2) n X (nI ps) (nI (orN i (pce T ps))) (nI i) I J) (m := T 0) (c := 2) (B := 1) ?_ ?_ (T 0) 0 (by omega) (N + 29) (by omega)
  · intro i B hi e0
    by_cases q0 : i = 0
    · subst q0
      have e1 : orN (0 + 1) (pce T ps) = 0 := rfl
      rw [e1] at e0
      refine ev_s (g := fun n => RX9_peaceful_35 N (d + 2) n X (nI ps) (nI 4294967295) (nI 0) (nI 1) I J) (fun n => ?_) (ev_s (fun n => ?_) e0)
      · rw [sX9_peaceful_4 N (d + 2) n, show orN 0 (pce T ps) = 4294967295 from rfl, tm0 hT, nc_lt hi (by omega), nc_neg rfl]
      · rw [sX9_peaceful_35 N (d + 2) n]
        simp (disch := first | assumption | omega) only [nI_add, pk_mul, nI_clamp, nc_in, nc_lt, nc_nlt, cI_some, cV_some]
    · obtain ⟨j, rfl⟩ : ∃ z, i = z + 1 := ⟨i - 1, by omega⟩
      have e2 : orN (j + 1) (pce T ps) = pce T ps j := rfl
      have e1 : orN (j + 1 + 1) (pce T ps) = pce T ps (j + 1) := rfl
      rw [e1] at e0
      have hb : pce T ps j ≤ j := bof_le _ _
      have f1 : lst T ps (j + 1) ≤ 9 := lsk_le _ _ _ _
      have f2 : lst T ps (pce T ps j) ≤ 9 := lsk_le _ _ _ _
      have f3 := alk2_le hw ps (show j + 1 < 6 by omega)
      have f4 := alk2_le hw ps (show pce T ps j < 6 by omega)
      obtain ⟨z1, z2⟩ := no_sub0 (show lst T ps (j + 1) < 2 ^ 30 by omega) (show lst T ps (pce T ps j) < 2 ^ 30 by omega)
      refine ev_s (g := fun n => RX9_peaceful_35 N (d + 2) n X (nI ps) (nI (pce T ps j)) (nI (j + 1)) (nI (lst T ps (j + 1)) - nI (lst T ps (pce T ps j))) I J) (fun n => ?_) (ev_s (fun n => ?_) e0)
      · rw [sX9_peaceful_4 N (d + 2) n]
        simp (disch := first | assumption | omega) only [nI_add, pk_mul, nI_clamp, nc_in, nc_lt, nc_nlt, cI_some, cV_some, tm0 hT, e2]
        rw [c9_leastLike hT hw hp (by omega), lsk_eq hw (by omega) hp0 hb0]
        simp (disch := first | assumption | omega) only [nI_add, pk_mul, nI_clamp, nc_in, nc_lt, nc_nlt, cI_some, cV_some, kX9_peaceful_0 N (d + 2) n]
        rw [c9_leastLike hT hw hp (by omega), lsk_eq hw (by omega) hp0 hb0]
        simp (disch := first | assumption | omega) only [nI_add, pk_mul, nI_clamp, nc_in, nc_lt, nc_nlt, cI_some, cV_some, kX9_peaceful_2 N (d + 2) n]
      · rw [sX9_peaceful_35 N (d + 2) n]
        by_cases q : lst T ps (pce T ps j) < lst T ps (j + 1)
        · have e : pce T ps (j + 1) = j + 1 := by unfold pce at q ⊢; simp [bof, pcr, q]
          rw [if_pos (z2.mpr q), e, nI_add]
        · rw [if_neg (fun h => q (z2.mp h))]
          by_cases q2 : lst T ps (j + 1) = lst T ps (pce T ps j)
          · rw [if_pos (z1.mpr q2), c9_allLike hT hw hp (by omega)]
            simp (disch := first | assumption | omega) only [nI_add, pk_mul, nI_clamp, nc_in, nc_lt, nc_nlt, cI_some, cV_some, kX9_peaceful_1 N (d + 2) n]
            rw [c9_allLike hT hw hp (by omega)]
            simp (disch := first | assumption | omega) only [nI_add, pk_mul, nI_clamp, nc_in, nc_lt, nc_nlt, cI_some, cV_some, kX9_peaceful_3 N (d + 2) n]
            by_cases q3 : alk2 T ps (pce T ps j) < alk2 T ps (j + 1)
            · have e : pce T ps (j + 1) = j + 1 := by
                have r : pcr T ps (j + 1) (pce T ps j) = true := by simp [pcr, q2, q3]
                unfold pce at r ⊢; simp [bof, r]
              rw [nc_lt q3 (by omega), e]
            · have e : pce T ps (j + 1) = pce T ps j := by
                have r : pcr T ps (j + 1) (pce T ps j) = false := by simp [pcr, q2, q3]
                unfold pce at r ⊢; simp [bof, r]
              rw [nc_nlt (by omega) (by omega), e]
          · have e : pce T ps (j + 1) = pce T ps j := by
              have r : pcr T ps (j + 1) (pce T ps j) = false := by simp [pcr, q, q2]
              unfold pce at r ⊢; simp [bof, r]
            rw [if_neg (fun h => q2 (z1.mp h)), e, nI_add]
  · refine ev_0 (fun n => ?_)
    rw [sX9_peaceful_4 N (d + 2) n]
    simp (disch := first | assumption | omega) only [nI_add, pk_mul, nI_clamp, nc_in, nc_lt, nc_nlt, cI_some, cV_some, tm0 hT]
def pcn (a : Nat) : Nat := sm (fun k => if a.testBit k = true then 1 else 0) 6
theorem c9_sizeOf {N d : Nat} {X : lt_X} {I : Nat → Nat → Int32} {J : Nat → Nat → Int64} {a : Nat} (ha : a < 2 ^ 31) : am_G am_prog (N + 30) (d + 2) 202 [.int (nI a)] (mkh X I J) = some (.int (nI (pcn a)), (mkh X I J)) := by
  rw [gX9_sizeOf N d, sX9_sizeOf_0 N d]
  refine lqs (run := fun n i => RX9_sizeOf_4 N d n X (nI a) (nI (sm (fun k => if a.testBit k = true then 1 else 0) i)) (nI i) I J) (m := 6) ?_ ?_ (N + 29) 0 (by omega) (by omega)
  · intro n i hi
    rw [sX9_sizeOf_4 N d n]
    simp (disch := first | assumption | omega) only [nI_add, pk_mul, nI_clamp, nc_in, nc_lt, nc_nlt, cI_some, cV_some]
    rw [c9_has ha (by omega)]
    simp (disch := first | assumption | omega) only [nI_add, pk_mul, nI_clamp, nc_in, nc_lt, nc_nlt, cI_some, cV_some, kX9_sizeOf_0 N d n]
    by_cases q : a.testBit i = true
    · have e : sm (fun k => if a.testBit k = true then 1 else 0) (i + 1) = sm (fun k => if a.testBit k = true then 1 else 0) i + 1 := by simp [sm, q]
      rw [if_pos q, nc_ne (by omega) (by omega) (by omega), e]
    · have e : sm (fun k => if a.testBit k = true then 1 else 0) (i + 1) = sm (fun k => if a.testBit k = true then 1 else 0) i := by simp [sm, q]
      rw [if_neg q, nc_eq rfl, e, Nat.add_zero]
  · intro n
    rw [sX9_sizeOf_4 N d n]
    simp (disch := first | assumption | omega) only [nI_add, pk_mul, nI_clamp, nc_in, nc_lt, nc_nlt, cI_some, cV_some]
    rfl
def fst1 (T : Nat → Nat) (p : Nat) : Nat := fnd (fun k => T (67 + k) == p) 0 (T 3)
theorem c9_firstOf {N d : Nat} {X : lt_X} {I : Nat → Nat → Int32} {J : Nat → Nat → Int64} {T : Nat → Nat} (hT : TM (I 140) T) (hw : WF T) {p : Nat} (hp : p < 2 ^ 32) : am_G am_prog (N + 30) (d + 1) 309 [.ref 135, .int (nI p)] (mkh X I J) = (if fst1 T p < T 3 then some (.int (nI (fst1 T p)), (mkh X I J)) else some (.int (nI 4294967295), (mkh X I J))) := by
  have h3 := hw.1.2.2.2.1
  have h2 := hw.1.2.2.1
  rw [gX9_firstOf N d, sX9_firstOf_0 N d]
  refine lqf (run := fun n i => RX9_firstOf_2 N d n X (nI p) (nI i) I J) (m := T 3) (p := fun k => T (67 + k) == p) (A := fun i => some (.int (nI i), (mkh X I J))) (Z := some (.int (nI 4294967295), (mkh X I J))) ?_ ?_ ?_ (T 3) 0 (N + 29) (by omega) (by omega)
  · intro n i hi q
    have q : T (67 + i) = p := by simpa using q
    rw [sX9_firstOf_2 N d n]
    simp (disch := first | assumption | omega) only [nI_add, pk_mul, nI_clamp, nc_in, nc_lt, nc_nlt, cI_some, cV_some, tm3 hT, tmB hT, nc_eq q]
  · intro n i hi q
    have q : ¬ T (67 + i) = p := by simpa using q
    have hb := (hw.2.2.2.2.2 i hi).2.2
    rw [sX9_firstOf_2 N d n]
    simp (disch := first | assumption | omega) only [nI_add, pk_mul, nI_clamp, nc_in, nc_lt, nc_nlt, cI_some, cV_some, tm3 hT, tmB hT, nc_ne q]
  · intro n
    rw [sX9_firstOf_2 N d n, no_m1]
    simp (disch := first | assumption | omega) only [nI_add, pk_mul, nI_clamp, nc_in, nc_lt, nc_nlt, cI_some, cV_some, tm3 hT]
def mxo (T : Nat → Nat) (p q : Nat) : Nat := mxf (fun k => if T (67 + k) = q then wth T p k else 0) (T 3)
theorem c9_bestOwned {N d : Nat} {X : lt_X} {I : Nat → Nat → Int32} {J : Nat → Nat → Int64} {T : Nat → Nat} (hT : TM (I 140) T) (hw : WF T) {p q : Nat} (hp : p < T 2) (hq : q < 2 ^ 32) : am_G am_prog (N + 30) (d + 5) 316 [.ref 135, .int (nI p), .int (nI q)] (mkh X I J) = some (.int (nI (mxo T p q)), (mkh X I J)) := by
  have h3 := hw.1.2.2.2.1
  have h2 := hw.1.2.2.1
  rw [gX9_bestOwned N (d + 4), sX9_bestOwned_0 N (d + 4)]
  refine lqs (run := fun n i => RX9_bestOwned_5 N (d + 4) n X (nI p) (nI q) (nI (mxf (fun k => if T (67 + k) = q then wth T p k else 0) i)) (nI i) I J) (m := T 3) ?_ ?_ (N + 29) 0 (by omega) (by omega)
  · intro n i hi
    have hb := (hw.2.2.2.2.2 i hi).2.2
    have hl := wth_le hw hp i
    have hm : mxf (fun k => if T (67 + k) = q then wth T p k else 0) i ≤ 648 := mxf_le i (fun k _ => by
      show (if T (67 + k) = q then wth T p k else 0) ≤ 648
      split
      · exact wth_le hw hp k
      · omega)
    rw [sX9_bestOwned_5 N (d + 4) n]
    by_cases r : T (67 + i) = q
    · have e : mxf (fun k => if T (67 + k) = q then wth T p k else 0) (i + 1) = max (mxf (fun k => if T (67 + k) = q then wth T p k else 0) i) (wth T p i) := by simp [mxf, r]
      simp (disch := first | assumption | omega) only [nI_add, pk_mul, nI_clamp, nc_in, nc_lt, nc_nlt, cI_some, cV_some, tm3 hT, tmB hT, nc_eq r]
      rw [c9_worthOf hT hw hp hi]
      simp (disch := first | assumption | omega) only [nI_add, pk_mul, nI_clamp, nc_in, nc_lt, nc_nlt, cI_some, cV_some, kX9_bestOwned_0 N (d + 4) n, no_max, e]
    · have e : mxf (fun k => if T (67 + k) = q then wth T p k else 0) (i + 1) = mxf (fun k => if T (67 + k) = q then wth T p k else 0) i := by simp [mxf, r]
      simp (disch := first | assumption | omega) only [nI_add, pk_mul, nI_clamp, nc_in, nc_lt, nc_nlt, cI_some, cV_some, tm3 hT, tmB hT, nc_ne r, e]
  · intro n
    rw [sX9_bestOwned_5 N (d + 4) n]
    simp (disch := first | assumption | omega) only [nI_add, pk_mul, nI_clamp, nc_in, nc_lt, nc_nlt, cI_some, cV_some, tm3 hT]
    rfl
theorem c9_gladAfter {N d : Nat} {X : lt_X} {I : Nat → Nat → Int32} {J : Nat → Nat → Int64} {T : Nat → Nat} (hT : TM (I 140) T) (hw : WF T) {p m : Nat} (hp : p < T 2) (hm : m ≤ 1000) (hN : 2000 ≤ N) : am_G am_prog (N + 30) (d + 5) 294 [.ref 135, .int (nI p), .int (nI m)] (mkh X I J) = some (.int (nI (T (43 + p) + joyA T p (vOf T p) m)), (mkh X I J)) := by
  have h2 := hw.1.2.2.1
  have h5 := hw.1.2.2.2.2.2.1
  rw [gX9_gladAfter N (d + 4), sX9_gladAfter_0 N (d + 4)]
  simp (disch := first | assumption | omega) only [nI_add, pk_mul, nI_clamp, nc_in, nc_lt, nc_nlt, cI_some, cV_some, tmG hT]
  refine lqs (run := fun n i => RX9_gladAfter_13 N (d + 4) n X (nI p) (nI m) (nI (T (43 + p) + sm (jag T p (vOf T p)) i)) (nI i) I J) (m := m) ?_ ?_ (N + 29) 0 (by omega) (by omega)
  · intro n i hi
    have hl : hAt T (vOf T p) (T 5 + i) < 2 ^ 31 := lt6 (hAt_lt hw _ _) (by omega)
    have e : sm (jag T p (vOf T p)) (i + 1) = sm (jag T p (vOf T p)) i + joy T p (hAt T (vOf T p) (T 5 + i)) := rfl
    rw [sX9_gladAfter_13 N (d + 4) n]
    simp (disch := first | assumption | omega) only [nI_add, pk_mul, nI_clamp, nc_in, nc_lt, nc_nlt, cI_some, cV_some, tm5 hT]
    rw [c9_heard hT hw (by omega) (by omega)]
    simp (disch := first | assumption | omega) only [nI_add, pk_mul, nI_clamp, nc_in, nc_lt, nc_nlt, cI_some, cV_some, kX9_gladAfter_0 N (d + 4) n]
    rw [c9_liked hT hw hp hl]
    simp (disch := first | assumption | omega) only [nI_add, pk_mul, nI_clamp, nc_in, nc_lt, nc_nlt, cI_some, cV_some, kX9_gladAfter_1 N (d + 4) n, e, Nat.add_assoc]
  · intro n
    rw [sX9_gladAfter_13 N (d + 4) n]
    simp (disch := first | assumption | omega) only [nI_add, pk_mul, nI_clamp, nc_in, nc_lt, nc_nlt, cI_some, cV_some]
    rfl
