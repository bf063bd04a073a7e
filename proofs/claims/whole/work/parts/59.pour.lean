/-! pour, feed -/
theorem cpL_tr {X : lt_X} {I : Nat → Nat → Int32} {J : Nat → Nat → Int64} {t u i j m : Nat} (ht : isTr t) (hu : isTr u) (h1 : i + m ≤ 60) (h2 : j + m ≤ 60) (f : am_H → am_O) : am_cpL (mkh X I J) (t + 1) (nI i) (u + 1) (nI j) (nI m) f = f (mkh X I (w2L J (u + 1) (va_cpy (J (t + 1)) (J (u + 1)) i j m))) := by
  have k1 : lk X.1 (t + 1) = (12, 60) := by rcases ht with rfl | rfl | rfl | rfl <;> rfl
  have k2 : lk X.1 (u + 1) = (12, 60) := by rcases hu with rfl | rfl | rfl | rfl <;> rfl
  unfold am_cpL
  rw [mkh_K, k1, k2, if_pos ⟨rfl, rfl⟩, nI_clamp (by omega), nI_clamp (by omega), nI_clamp (by omega), if_pos ⟨⟨nI_pos (by omega), nI_pos (by omega), nI_pos (by omega)⟩, h1, h2⟩]
  rfl
/-- a stretch of a row of longs comes to another place -/
def cpA (f : Nat → Int64) (s t k : Nat) : Nat → Int64 := fun p => if t ≤ p ∧ p < t + k then f (s + (p - t)) else f p
def cpD (f : Nat → Int64) (s t m k : Nat) : Nat → Int64 := fun p => if t + m ≤ p + k ∧ p < t + m then f (s + (p - t)) else f p
theorem u2L_w (J : Nat → Nat → Int64) (f : Nat → Int64) (a k : Nat) (v : Int64) : u2L (w2L J a f) a k v = w2L J a (vp_updL f k v) := by
  funext b
  unfold u2L w2L
  by_cases q : b = a
  · rw [if_pos q, if_pos q]; rw [if_pos q]
  · rw [if_neg q, if_neg q]; rw [if_neg q]
theorem w2L_id (J : Nat → Nat → Int64) (a : Nat) : w2L J a (J a) = J := by
  funext b
  unfold w2L
  by_cases q : b = a
  · rw [if_pos q, q]
  · rw [if_neg q]
theorem w2L_at (J : Nat → Nat → Int64) (a : Nat) (f : Nat → Int64) : w2L J a f a = f := if_pos rfl
theorem w2L_na {J : Nat → Nat → Int64} {a b : Nat} {f : Nat → Int64} (h : b ≠ a) : w2L J a f b = J b := if_neg h
theorem c9_pourL {N d : Nat} {X : lt_X} {I : Nat → Nat → Int32} {J : Nat → Nat → Int64} {a b i j m : Nat} (ha : a < 4) (hb : b < 4) (h1 : i + m ≤ 60) (h2 : j + m ≤ 60) (hN : 1000 ≤ N) : RX9_pour_158 N d (N + 29) X (nI a) (nI i) (nI b) (nI j) (nI m) (nI (if i < j then 1 else 0)) (nI 0) I J = some (.int (nI 1), mkh X I (w2L J 138 (cpA (J 138) (60 * a + i) (60 * b + j) m))) := by
  by_cases q : i < j
  · rw [if_pos q]
    have e0 : cpD (J 138) (60 * a + i) (60 * b + j) m 0 = J 138 := by
      funext p; unfold cpD; rw [if_neg (by omega)]
    have em : cpD (J 138) (60 * a + i) (60 * b + j) m m = cpA (J 138) (60 * a + i) (60 * b + j) m := by
      funext p; unfold cpD cpA
      have : (60 * b + j + m ≤ p + m ∧ p < 60 * b + j + m) ↔ (60 * b + j ≤ p ∧ p < 60 * b + j + m) := by omega
      simp only [this]
    have h := lqc (run := fun n k => RX9_pour_158 N d n X (nI a) (nI i) (nI b) (nI j) (nI m) (nI 1) (nI k) I (w2L J 138 (cpD (J 138) (60 * a + i) (60 * b + j) m k))) (m := m) (c := 2) (B := 1) (R := some (.int (nI 1), mkh X I (w2L J 138 (cpA (J 138) (60 * a + i) (60 * b + j) m)))) (fun k B hk e1 => by
      refine ev_le (ev_s (g := fun n => RX9_pour_182 N d n X (nI a) (nI i) (nI b) (nI j) (nI m) (nI 1) (nI k) (nI (m - 1 - k)) I (w2L J 138 (cpD (J 138) (60 * a + i) (60 * b + j) m k))) (fun n => ?_) (ev_s (fun n => ?_) e1)) (by omega)
      · rw [sX9_pour_158 N d n, nc_lt hk (by omega), nc_ne (by omega) (by omega) (by omega), pk_sub (by omega), pk_sub (by omega)]
      · rw [sX9_pour_182 N d n, pk_mul, pk_mul, nI_add, nI_add, nI_add, nI_add, nc_in (by omega) (by omega), nc_in (by omega) (by omega), nI_clamp (by omega), nI_clamp (by omega), nI_add, u2L_w, w2L_at]
        have ef : vp_updL (cpD (J 138) (60 * a + i) (60 * b + j) m k) (60 * b + j + (m - 1 - k)) (cpD (J 138) (60 * a + i) (60 * b + j) m k (60 * a + i + (m - 1 - k))) = cpD (J 138) (60 * a + i) (60 * b + j) m (k + 1) := by
          funext p
          unfold vp_updL
          by_cases r : p = 60 * b + j + (m - 1 - k)
          · rw [if_pos r]
            unfold cpD
            rw [if_neg (by omega), if_pos (by omega)]
            congr 1; omega
          · rw [if_neg r]
            unfold cpD
            have : (60 * b + j + m ≤ p + k ∧ p < 60 * b + j + m) ↔ (60 * b + j + m ≤ p + (k + 1) ∧ p < 60 * b + j + m) := by omega
            simp only [this]
        rw [ef]) (ev_0 (fun n => by
      rw [sX9_pour_158 N d n, nc_nlt (Nat.le_refl _) (by omega), em])) m 0 (by omega)
    rw [e0, w2L_id] at h
    exact h (N + 29) (by omega)
  · rw [if_neg q]
    have e0 : cpA (J 138) (60 * a + i) (60 * b + j) 0 = J 138 := by
      funext p; unfold cpA; rw [if_neg (by omega)]
    have h := lqc (run := fun n k => RX9_pour_158 N d n X (nI a) (nI i) (nI b) (nI j) (nI m) (nI 0) (nI k) I (w2L J 138 (cpA (J 138) (60 * a + i) (60 * b + j) k))) (m := m) (c := 2) (B := 1) (R := some (.int (nI 1), mkh X I (w2L J 138 (cpA (J 138) (60 * a + i) (60 * b + j) m)))) (fun k B hk e1 => by
      refine ev_le (ev_s (g := fun n => RX9_pour_182 N d n X (nI a) (nI i) (nI b) (nI j) (nI m) (nI 0) (nI k) (nI k) I (w2L J 138 (cpA (J 138) (60 * a + i) (60 * b + j) k))) (fun n => ?_) (ev_s (fun n => ?_) e1)) (by omega)
      · rw [sX9_pour_158 N d n, nc_lt hk (by omega), nc_eq rfl]
      · rw [sX9_pour_182 N d n, pk_mul, pk_mul, nI_add, nI_add, nI_add, nI_add, nc_in (by omega) (by omega), nc_in (by omega) (by omega), nI_clamp (by omega), nI_clamp (by omega), nI_add, u2L_w, w2L_at]
        have ef : vp_updL (cpA (J 138) (60 * a + i) (60 * b + j) k) (60 * b + j + k) (cpA (J 138) (60 * a + i) (60 * b + j) k (60 * a + i + k)) = cpA (J 138) (60 * a + i) (60 * b + j) (k + 1) := by
          funext p
          unfold vp_updL
          by_cases r : p = 60 * b + j + k
          · rw [if_pos r]
            unfold cpA
            rw [if_neg (by omega), if_pos (by omega)]
            congr 1; omega
          · rw [if_neg r]
            unfold cpA
            have : (60 * b + j ≤ p ∧ p < 60 * b + j + k) ↔ (60 * b + j ≤ p ∧ p < 60 * b + j + (k + 1)) := by omega
            simp only [this]
        rw [ef]) (ev_0 (fun n => by
      rw [sX9_pour_158 N d n, nc_nlt (Nat.le_refl _) (by omega)])) m 0 (by omega)
    rw [e0, w2L_id] at h
    exact h (N + 29) (by omega)
theorem try_in {I : Nat → Nat → Int32} {J : Nat → Nat → Int64} (hR : TRY I J) {i : Nat} (hi : i < 4) (h : I (5 + 2 * i) 1 ≠ nI 0) : ∃ m s, m ≤ 60 ∧ s ≤ 3 ∧ I (5 + 2 * i) 1 = nI 1 ∧ I (5 + 2 * i) 2 = nI s ∧ I 136 i = nI s ∧ I (5 + 2 * i) 3 = nI m ∧ I 137 i = nI m ∧ ∀ k, k < m → J (6 + 2 * i) k = J 138 (60 * i + k) := by
  rcases hR i hi with ⟨e, -⟩ | ⟨e, m, s, a1, a2, a3⟩
  · exact absurd e h
  · exact ⟨m, s, a1, a2, e, a3⟩
theorem try_out {I : Nat → Nat → Int32} {J : Nat → Nat → Int64} (hR : TRY I J) {i : Nat} (hi : i < 4) (h : I (5 + 2 * i) 1 = nI 0) : I 137 i = (-1) := by
  rcases hR i hi with ⟨-, e⟩ | ⟨e, -⟩
  · exact e
  · rw [h] at e; exact absurd e (by decide)
theorem lc_fit {α : Type} {x : Int32} {l m : Nat} (hl : l < 2 ^ 31) (hm : m < 2 ^ 31) (h0 : ¬ x < nI 0) {A B : α} : (if nI 0 < lg_cmp (x.toInt64 + (nI l).toInt64) ((nI m).toInt64) then A else B) = if fitb x l m = true then B else A := by
  have e2 : (nI 0 < lg_cmp (x.toInt64 + (nI l).toInt64) ((nI m).toInt64)) ↔ (m : Int) < x.toInt + l := by
    refine (lg_cmp_gt _ _).trans ?_
    rw [Int64.lt_iff_toInt_lt, add64, Int32.toInt_toInt64, nI_toInt hm, nI_toInt hl]
  rw [lt_nI (by omega)] at h0
  by_cases q2 : nI 0 < lg_cmp (x.toInt64 + (nI l).toInt64) ((nI m).toInt64)
  · rw [if_pos q2, if_neg]
    rw [e2] at q2
    unfold fitb; simp; omega
  · rw [if_neg q2, if_pos]
    rw [e2] at q2
    exact decide_eq_true ⟨by omega, by omega⟩
theorem fitb_neg {x : Int32} {l m : Nat} (h : x < nI 0) : fitb x l m = false := by
  rw [lt_nI (by omega)] at h
  unfold fitb; simp; omega
theorem p_pour {xs : Nat → Int32} {N d : Nat} {X : lt_X} {I : Nat → Nat → Int32} {J : Nat → Nat → Int64} (H : INV xs X I J) (hN : 100000 ≤ N) (x y z w v : Int32) : PR xs N d X I J 116 198 [.int x, .int y, .int z, .int w, .int v] := by
  have hX := H.1
  have hR := H.2.2.2.2.1
  have bad : ∀ st : Nat, (am_G am_prog (N + 30) (d + 40) 116 [.ref 3, .int x, .int y, .int z, .int w, .int v] (mkh X I J) = some (.int (nI 0), mkh X (u2 I 3 15 (nI st)) J)) → (∀ K : Nat → Nat → Int32, K 136 = I 136 → K 137 = I 137 → am_G am_prog (N + 30) (d + 40) 198 [.ref 135, .int x, .int y, .int z, .int w, .int v] (mkh X K J) = some (.int (nI 0), mkh X (u2 (u2 (u2 K 135 1 (nI 0)) 135 0 (nI 0)) 135 0 (nI st)) J)) → PR xs N d X I J 116 198 [.int x, .int y, .int z, .int w, .int v] :=
    fun st h1 h2 => PR_tells H (.int (nI 0)) (nI st) (CR_st h1) (fun K hK => MR_2 (h2 K (hK 136 (by omega) (by omega)) (hK 137 (by omega) (by omega))))
  by_cases qx : inb x 4 = true
  rotate_left
  · refine bad 1 ?_ (fun K k6 k7 => ?_)
    · rw [gX8_pour N (d + 38), sX8_pour_0 N (d + 38) _ hX]
      rw [c8_isTray hX, cI_some, kX8_pour_0 N (d + 38) _ hX, nc_10, if_neg qx]
    · rw [gX9_pour N (d + 38), sX9_pour_0 N (d + 38)]
      rw [inb_c (x := x) (by omega), if_neg qx]
  obtain ⟨a, ha, rfl⟩ := inb_e qx (by omega)
  by_cases qz : inb z 4 = true
  rotate_left
  · refine bad 1 ?_ (fun K k6 k7 => ?_)
    · rw [gX8_pour N (d + 38), sX8_pour_0 N (d + 38) _ hX]
      rw [c8_isTray hX, cI_some, kX8_pour_0 N (d + 38) _ hX, nc_10, if_pos qx, c8_isTray hX, cI_some, kX8_pour_1 N (d + 38) _ hX, nc_10, if_neg qz]
    · rw [gX9_pour N (d + 38), sX9_pour_0 N (d + 38)]
      rw [inb_c (x := nI a) (by omega), if_pos qx, inb_c (x := z) (by omega), if_neg qz]
  obtain ⟨b, hb, rfl⟩ := inb_e qz (by omega)
  have hta := tr_is ha
  have htb := tr_is hb
  have n1 : (-1 : Int32) < nI 0 := by decide
  by_cases ea : I (5 + 2 * a) 1 = nI 0
  · have oa := try_out hR ha ea
    refine bad 3 ?_ (fun K k6 k7 => ?_)
    · rw [gX8_pour N (d + 38), sX8_pour_0 N (d + 38) _ hX]
      rw [c8_isTray hX, cI_some, kX8_pour_0 N (d + 38) _ hX, nc_10, if_pos qx, c8_isTray hX, cI_some, kX8_pour_1 N (d + 38) _ hX, nc_10, if_pos qz, lR_tr ha, lR_tr hb, gI_tr hta, if_pos ea]
    · rw [gX9_pour N (d + 38), sX9_pour_0 N (d + 38)]
      rw [inb_c (x := nI a) (by omega), if_pos qx, inb_c (x := nI b) (by omega), if_pos qz]
      simp (disch := first | assumption | omega) only [if_true, if_false, nc_in, nI_clamp, k7, oa, if_pos n1]
  obtain ⟨ma, sa, hma, hsa, ta1, ta2, ta3, ta4, ta5, ta6⟩ := try_in hR ha ea
  by_cases eb : I (5 + 2 * b) 1 = nI 0
  · have ob := try_out hR hb eb
    refine bad 3 ?_ (fun K k6 k7 => ?_)
    · rw [gX8_pour N (d + 38), sX8_pour_0 N (d + 38) _ hX]
      rw [c8_isTray hX, cI_some, kX8_pour_0 N (d + 38) _ hX, nc_10, if_pos qx, c8_isTray hX, cI_some, kX8_pour_1 N (d + 38) _ hX, nc_10, if_pos qz, lR_tr ha, lR_tr hb, gI_tr hta, if_neg ea, gI_tr htb, if_pos eb]
    · rw [gX9_pour N (d + 38), sX9_pour_0 N (d + 38)]
      rw [inb_c (x := nI a) (by omega), if_pos qx, inb_c (x := nI b) (by omega), if_pos qz]
      simp (disch := first | assumption | omega) only [if_true, if_false, nc_in, nI_clamp, k7, ta5, nc_nlt, ob, if_pos n1]
  obtain ⟨mb, sb, hmb, hsb, tb1, tb2, tb3, tb4, tb5, tb6⟩ := try_in hR hb eb
  by_cases es : sa = sb
  rotate_left
  · refine bad 11 ?_ (fun K k6 k7 => ?_)
    · rw [gX8_pour N (d + 38), sX8_pour_0 N (d + 38) _ hX]
      rw [c8_isTray hX, cI_some, kX8_pour_0 N (d + 38) _ hX, nc_10, if_pos qx, c8_isTray hX, cI_some, kX8_pour_1 N (d + 38) _ hX, nc_10, if_pos qz, lR_tr ha, lR_tr hb, gI_tr hta, if_neg ea, gI_tr htb, if_neg eb, gI_tr hta, gI_tr htb, ta2, tb2, nc_ne es (by omega) (by omega)]
    · rw [gX9_pour N (d + 38), sX9_pour_0 N (d + 38)]
      rw [inb_c (x := nI a) (by omega), if_pos qx, inb_c (x := nI b) (by omega), if_pos qz]
      simp (disch := first | assumption | omega) only [if_true, if_false, nc_in, nI_clamp, k7, k6, ta5, tb5, nc_nlt, ta3, tb3, nc_ne]
  subst es
  by_cases qv : v < nI 0
  · refine bad 6 ?_ (fun K k6 k7 => ?_)
    · rw [gX8_pour N (d + 38), sX8_pour_0 N (d + 38) _ hX]
      rw [c8_isTray hX, cI_some, kX8_pour_0 N (d + 38) _ hX, nc_10, if_pos qx, c8_isTray hX, cI_some, kX8_pour_1 N (d + 38) _ hX, nc_10, if_pos qz, lR_tr ha, lR_tr hb, gI_tr hta, if_neg ea, gI_tr htb, if_neg eb, gI_tr hta, gI_tr htb, ta2, tb2, nc_eq rfl, if_pos qv]
    · rw [gX9_pour N (d + 38), sX9_pour_0 N (d + 38)]
      rw [inb_c (x := nI a) (by omega), if_pos qx, inb_c (x := nI b) (by omega), if_pos qz]
      simp (disch := first | assumption | omega) only [if_true, if_false, nc_in, nI_clamp, k7, k6, ta5, tb5, nc_nlt, ta3, tb3, nc_eq, if_pos qv]
  obtain ⟨m, hm, rfl⟩ := nI_of (show ¬ v < 0 from qv)
  have bad4 : (fitb y m ma = true → fitb w m mb = false) → PR xs N d X I J 116 198 [.int (nI a), .int y, .int (nI b), .int w, .int (nI m)] := by
    intro hf
    refine bad 4 ?_ (fun K k6 k7 => ?_)
    · rw [gX8_pour N (d + 38), sX8_pour_0 N (d + 38) _ hX]
      rw [c8_isTray hX, cI_some, kX8_pour_0 N (d + 38) _ hX, nc_10, if_pos qx, c8_isTray hX, cI_some, kX8_pour_1 N (d + 38) _ hX, nc_10, if_pos qz, lR_tr ha, lR_tr hb, gI_tr hta, if_neg ea, gI_tr htb, if_neg eb, gI_tr hta, gI_tr htb, ta2, tb2, nc_eq rfl, if_neg qv, c7_hasRun hta hm (by omega) ta4, cI_some, kX8_pour_2 N (d + 38) _ hX, nc_10]
      by_cases r : fitb y m ma = true
      · rw [if_pos r, c7_hasRun htb hm (by omega) tb4, cI_some, kX8_pour_3 N (d + 38) _ hX, nc_10, if_neg (by rw [hf r]; simp)]
      · rw [if_neg r]
    · rw [gX9_pour N (d + 38), sX9_pour_0 N (d + 38)]
      rw [inb_c (x := nI a) (by omega), if_pos qx, inb_c (x := nI b) (by omega), if_pos qz]
      simp (disch := first | assumption | omega) only [if_true, if_false, nc_in, nI_clamp, k7, k6, ta5, tb5, nc_nlt, ta3, tb3, nc_eq, if_neg qv]
      by_cases r1 : y < nI 0
      · rw [if_pos r1]
      · rw [if_neg r1]
        by_cases r2 : w < nI 0
        · rw [if_pos r2]
        · rw [if_neg r2, lc_fit hm (by omega) r1, lc_fit hm (by omega) r2]
          by_cases r : fitb y m ma = true
          · rw [if_pos r, if_neg (by rw [hf r]; simp)]
          · rw [if_neg r]
  by_cases qy : fitb y m ma = true
  rotate_left
  · exact bad4 (fun h => absurd h qy)
  by_cases qw : fitb w m mb = true
  rotate_left
  · exact bad4 (fun _ => by simpa using qw)
  obtain ⟨i, hi, rfl⟩ := fitb_e qy (by omega)
  obtain ⟨j, hj, rfl⟩ := fitb_e qw (by omega)
  have ry : ¬ nI i < nI 0 := nI_nlt (by omega) (by omega)
  have rw1 : ¬ nI j < nI 0 := nI_nlt (by omega) (by omega)
  have hc : am_G am_prog (N + 30) (d + 40) 116 [.ref 3, .int (nI a), .int (nI i), .int (nI b), .int (nI j), .int (nI m)] (mkh X I J) = some (.int (nI 1), mkh X (u2 I 3 15 (nI 0)) (w2L J (6 + 2 * b) (va_cpy (J (6 + 2 * a)) (J (6 + 2 * b)) i j m))) := by
    rw [gX8_pour N (d + 38), sX8_pour_0 N (d + 38) _ hX]
    rw [c8_isTray hX, cI_some, kX8_pour_0 N (d + 38) _ hX, nc_10, if_pos qx, c8_isTray hX, cI_some, kX8_pour_1 N (d + 38) _ hX, nc_10, if_pos qz, lR_tr ha, lR_tr hb, gI_tr hta, if_neg ea, gI_tr htb, if_neg eb, gI_tr hta, gI_tr htb, ta2, tb2, nc_eq rfl, if_neg qv, c7_hasRun hta hm (by omega) ta4, cI_some, kX8_pour_2 N (d + 38) _ hX, nc_10, if_pos qy, c7_hasRun htb hm (by omega) tb4, cI_some, kX8_pour_3 N (d + 38) _ hX, nc_10, if_pos qw, gR_tr hta, gR_tr htb, cpL_tr hta htb (by omega) (by omega), gX8_agree N (d + 38), sX8_agree_0 N (d + 38) _ hX, cI_some, nb_ok (by omega), show 5 + 2 * a + 1 = 6 + 2 * a by omega, show 5 + 2 * b + 1 = 6 + 2 * b by omega]
  have hl := c9_pourL (N := N) (d := d + 38) (X := X) (I := u2 (u2 (u2 I 3 15 (nI 0)) 135 1 (nI 0)) 135 0 (nI 0)) (J := w2L J (6 + 2 * b) (va_cpy (J (6 + 2 * a)) (J (6 + 2 * b)) i j m)) ha hb (i := i) (j := j) (m := m) (by omega) (by omega) (by omega)
  have e38 : w2L J (6 + 2 * b) (va_cpy (J (6 + 2 * a)) (J (6 + 2 * b)) i j m) 138 = J 138 := w2L_na (by omega)
  rw [e38] at hl
  have k6 : (u2 I 3 15 (nI 0)) 136 = I 136 := u2_na _ _ _ _ _ (by omega)
  have k7 : (u2 I 3 15 (nI 0)) 137 = I 137 := u2_na _ _ _ _ _ (by omega)
  have hmm : am_G am_prog (N + 30) (d + 40) 198 [.ref 135, .int (nI a), .int (nI i), .int (nI b), .int (nI j), .int (nI m)] (mkh X (u2 I 3 15 (nI 0)) (w2L J (6 + 2 * b) (va_cpy (J (6 + 2 * a)) (J (6 + 2 * b)) i j m))) = some (.int (nI 1), mkh X (u2 (u2 (u2 I 3 15 (nI 0)) 135 1 (nI 0)) 135 0 (nI 0)) (w2L (w2L J (6 + 2 * b) (va_cpy (J (6 + 2 * a)) (J (6 + 2 * b)) i j m)) 138 (cpA (J 138) (60 * a + i) (60 * b + j) m))) := by
    rw [gX9_pour N (d + 38), sX9_pour_0 N (d + 38)]
    rw [inb_c (x := nI a) (by omega), if_pos qx, inb_c (x := nI b) (by omega), if_pos qz]
    simp (disch := first | assumption | omega) only [if_true, if_false, nc_in, nI_clamp, k7, k6, ta5, tb5, nc_nlt, ta3, tb3, nc_eq, if_neg qv, if_neg ry, if_neg rw1]
    rw [lc_fit hm (by omega) ry, lc_fit hm (by omega) rw1, if_pos qy, if_pos qw, ← hl]
    by_cases r : i < j
    · rw [nc_lt r (by omega), if_pos r]
    · rw [nc_nlt (by omega) (by omega), if_neg r]
  refine ⟨_, X, _, _, X, _, _, hc, hmm, INV_trays H (fun a b1 b2 _ _ _ => by rw [u2_na _ _ _ _ _ b2, u2_na _ _ _ _ _ b2, u2_na _ _ _ _ _ b1]) (fun k hk => by rw [u2_na _ _ _ _ _ (by omega), u2_na _ _ _ _ _ (by omega), u2_nk _ _ _ _ _ hk]) (fun k b1 b2 => by rw [u2_nk _ _ _ _ _ b1, u2_nk _ _ _ _ _ b2, u2_na _ _ _ _ _ (by omega)]) (fun a b1 b2 => by rw [w2L_na b1, w2L_na (by omega)]) (by rw [u2_na _ _ _ _ _ (by omega), u2_na _ _ _ _ _ (by omega), u2_at, u2_at]) ?_, rfl⟩
  intro c hc4
  have e0 : ∀ a, a ≠ 3 → a ≠ 135 → u2 (u2 (u2 I 3 15 (nI 0)) 135 1 (nI 0)) 135 0 (nI 0) a = I a := fun a b1 b2 => by rw [u2_na _ _ _ _ _ b2, u2_na _ _ _ _ _ b2, u2_na _ _ _ _ _ b1]
  rw [e0 (5 + 2 * c) (by omega) (by omega), e0 136 (by omega) (by omega), e0 137 (by omega) (by omega)]
  rcases hR c hc4 with h | ⟨h, m2, s2, g1, g2, g3, g4, g5, g6, g7⟩
  · exact Or.inl h
  · refine Or.inr ⟨h, m2, s2, g1, g2, g3, g4, g5, g6, fun k hk => ?_⟩
    rw [w2L_at, w2L_na (show 6 + 2 * c ≠ 138 by omega)]
    by_cases r : c = b
    · subst r
      rw [w2L_at]
      unfold cpA
      by_cases r2 : j ≤ k ∧ k < j + m
      · rw [pk_cpy_in r2.1 r2.2, if_pos (by omega), ta6 (i + (k - j)) (by omega)]
        congr 1; omega
      · rw [pk_cpy_out (by omega), if_neg (by omega)]; exact g7 k hk
    · rw [w2L_na (by omega)]
      unfold cpA
      rw [if_neg (by omega)]; exact g7 k hk
