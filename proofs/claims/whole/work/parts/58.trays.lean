/-! trays: tray, write, read -/
theorem lR_tr {X : lt_X} {I : Nat → Nat → Int32} {J : Nat → Nat → Int64} {i : Nat} (hi : i < 4) (f : Nat → am_O) : am_lR (mkh X I J) 13 4 (nI i) f = f (5 + 2 * i) := by
  match i, hi with
  | 0, _ => exact Eq.trans rfl rfl
  | 1, _ => exact Eq.trans rfl rfl
  | 2, _ => exact Eq.trans rfl rfl
  | 3, _ => exact Eq.trans rfl rfl
theorem tr_is {i : Nat} (hi : i < 4) : isTr (5 + 2 * i) := by unfold isTr; omega
theorem gI_tr {X : lt_X} {I : Nat → Nat → Int32} {J : Nat → Nat → Int64} {tr : Nat} (h : isTr tr) (k : Nat) (f : Int32 → am_O) : am_gI (mkh X I J) 7 tr k f = f (I tr k) := by
  rcases h with rfl | rfl | rfl | rfl <;> exact Eq.trans rfl rfl
theorem gR_tr {X : lt_X} {I : Nat → Nat → Int32} {J : Nat → Nat → Int64} {tr : Nat} (h : isTr tr) (f : Nat → am_O) : am_gR (mkh X I J) 7 tr 0 f = f (tr + 1) := by
  rcases h with rfl | rfl | rfl | rfl <;> exact Eq.trans rfl rfl
theorem lL_tr {X : lt_X} {I : Nat → Nat → Int32} {J : Nat → Nat → Int64} {tr j : Nat} (h : isTr tr) (hj : j < 60) (f : Int64 → am_O) : am_lL (mkh X I J) (tr + 1) (nI j) f = f (J (tr + 1) j) := by
  have hk : lk X.1 (tr + 1) = (12, 60) := by rcases h with rfl | rfl | rfl | rfl <;> rfl
  exact lL_mk hk hj (by omega)
theorem c8_isTray {N d : Nat} {X : lt_X} {I : Nat → Nat → Int32} {J : Nat → Nat → Int64} (hX : hsX X) (x : Int32) : am_G am_prog (N + 30) (d + 1) 117 [.int x] (mkh X I J) = some (.int (nI (if inb x 4 = true then 1 else 0)), (mkh X I J)) := by
  rw [gX8_isTray N d, sX8_isTray_0 N d _ hX, inb_c (by omega)]
  split <;> rfl
theorem add64 (x y : Int32) : (x.toInt64 + y.toInt64).toInt = x.toInt + y.toInt := by
  rw [Int64.toInt_add, Int32.toInt_toInt64, Int32.toInt_toInt64]
  have a1 := Int32.le_toInt x; have a2 := Int32.toInt_lt x; have b1 := Int32.le_toInt y; have b2 := Int32.toInt_lt y
  exact Int.bmod_eq_of_le (by omega) (by omega)
def fitb (y : Int32) (l m : Nat) : Bool := decide (0 ≤ y.toInt ∧ y.toInt + l ≤ m)
theorem fitb_e {y : Int32} {l m : Nat} (h : fitb y l m = true) (hm : m < 2 ^ 31) : ∃ j, j + l ≤ m ∧ y = nI j := by
  have h := of_decide_eq_true h
  obtain ⟨j, hj⟩ : ∃ j : Nat, y.toInt = j := ⟨y.toInt.toNat, by omega⟩
  refine ⟨j, by omega, Int32.toInt_inj.mp ?_⟩
  rw [hj, nI_toInt (by omega)]
theorem c7_hasRun {N d : Nat} {X : lt_X} {I : Nat → Nat → Int32} {J : Nat → Nat → Int64} {tr : Nat} (htr : isTr tr) {l m : Nat} (hl : l < 2 ^ 31) (hm : m < 2 ^ 31) (h3 : I tr 3 = nI m) (y : Int32) : am_G am_prog (N + 30) (d + 1) 107 [.ref tr, .int y, .int (nI l)] (mkh X I J) = some (.int (nI (if fitb y l m = true then 1 else 0)), (mkh X I J)) := by
  rw [gX7_hasRun N d htr, sX7_hasRun_0 N d _ htr, h3]
  have e2 : (nI 0 < lg_cmp (y.toInt64 + (nI l).toInt64) ((nI m).toInt64)) ↔ (m : Int) < y.toInt + l := by
    refine (lg_cmp_gt _ _).trans ?_
    rw [Int64.lt_iff_toInt_lt, add64, Int32.toInt_toInt64, nI_toInt hm, nI_toInt hl]
  by_cases q1 : y < nI 0
  · rw [if_pos q1, if_neg]
    rw [lt_nI (by omega)] at q1
    unfold fitb; simp; omega
  · rw [if_neg q1]
    rw [lt_nI (by omega)] at q1
    by_cases q2 : nI 0 < lg_cmp (y.toInt64 + (nI l).toInt64) ((nI m).toInt64)
    · rw [if_pos q2, if_neg]
      rw [e2] at q2
      unfold fitb; simp; omega
    · rw [if_neg q2, if_pos]
      rw [e2] at q2
      exact decide_eq_true ⟨by omega, by omega⟩
theorem fitb_1 (y : Int32) (m : Nat) : fitb y 1 m = inb y m := by
  unfold fitb inb
  congr 1
  first | done | (apply propext; omega)
/-- what is wrong with a place of a tray: by number, there or not, how many -/
theorem c8_placeStatus {N d : Nat} {X : lt_X} {I : Nat → Nat → Int32} {J : Nat → Nat → Int64} (hX : hsX X) (hR : TRY I J) (x y : Int32) : ∃ s : Nat, am_G am_prog (N + 30) (d + 2) 118 [.ref 3, .int x, .int y] (mkh X I J) = some (.int (nI s), (mkh X I J)) ∧ ((inb x 4 = false ∧ s = 1) ∨ (∃ i, i < 4 ∧ x = nI i ∧ ((I (5 + 2 * i) 1 = nI 0 ∧ s = 3) ∨ ∃ m, I (5 + 2 * i) 1 = nI 1 ∧ I (5 + 2 * i) 3 = nI m ∧ m ≤ 60 ∧ ((inb y m = false ∧ s = 4) ∨ (inb y m = true ∧ s = 0))))) := by
  rw [gX8_placeStatus N d, sX8_placeStatus_0 N d _ hX, c8_isTray hX, cI_some, kX8_placeStatus_0 N d _ hX, nc_10]
  by_cases q : inb x 4 = true
  · obtain ⟨i, hi, rfl⟩ := inb_e q (by omega)
    have htr := tr_is hi
    rw [if_pos q, lR_tr hi, gI_tr htr]
    rcases hR i hi with ⟨a, -⟩ | ⟨a, m, s, hm, -, -, -, h3, -⟩
    · refine ⟨3, ?_, Or.inr ⟨i, hi, rfl, Or.inl ⟨a, rfl⟩⟩⟩
      rw [a, nc_eq rfl]
    · rw [a, nc_ne (by omega) (by omega) (by omega), lR_tr hi, c7_hasRun htr (by omega) (by omega) h3, fitb_1, cI_some, kX8_placeStatus_1 N d _ hX, nc_10]
      by_cases q2 : inb y m = true
      · exact ⟨0, by rw [if_pos q2], Or.inr ⟨i, hi, rfl, Or.inr ⟨m, a, h3, hm, Or.inr ⟨q2, rfl⟩⟩⟩⟩
      · exact ⟨4, by rw [if_neg q2], Or.inr ⟨i, hi, rfl, Or.inr ⟨m, a, h3, hm, Or.inl ⟨by simpa using q2, rfl⟩⟩⟩⟩
  · exact ⟨1, by rw [if_neg q], Or.inl ⟨by simpa using q, rfl⟩⟩
theorem c9_trayed {N d : Nat} {X : lt_X} {I : Nat → Nat → Int32} {J : Nat → Nat → Int64} (x : Int32) : (inb x 4 = false → am_G am_prog (N + 30) (d + 1) 194 [.ref 135, .int x] (mkh X I J) = some (.int (nI 1), (mkh X I J))) ∧ ∀ i, i < 4 → x = nI i → am_G am_prog (N + 30) (d + 1) 194 [.ref 135, .int x] (mkh X I J) = if I 137 i < nI 0 then some (.int (nI 3), (mkh X I J)) else some (.int (nI 0), (mkh X I J)) := by
  rw [gX9_trayed N d, sX9_trayed_0 N d, inb_c (by omega)]
  constructor
  · intro q; rw [if_neg (by rw [q]; simp)]
  · rintro i hi rfl
    rw [if_pos (inb_nI hi (by omega)), nc_in hi (by omega), nI_clamp (by omega)]
theorem c9_placed {N d : Nat} {X : lt_X} {I : Nat → Nat → Int32} {J : Nat → Nat → Int64} (x y : Int32) (s : Nat) (K : Nat → Nat → Int32) (h137 : I 137 = K 137) {J0 : Nat → Nat → Int64} (hR : TRY K J0) (hs : (inb x 4 = false ∧ s = 1) ∨ (∃ i, i < 4 ∧ x = nI i ∧ ((K (5 + 2 * i) 1 = nI 0 ∧ s = 3) ∨ ∃ m, K (5 + 2 * i) 1 = nI 1 ∧ K (5 + 2 * i) 3 = nI m ∧ m ≤ 60 ∧ ((inb y m = false ∧ s = 4) ∨ (inb y m = true ∧ s = 0))))) : am_G am_prog (N + 30) (d + 2) 195 [.ref 135, .int x, .int y] (mkh X I J) = some (.int (nI s), (mkh X I J)) := by
  rw [gX9_placed N d, sX9_placed_0 N d]
  obtain ⟨t1, t2⟩ := c9_trayed (N := N) (d := d) (X := X) (I := I) (J := J) x
  rcases hs with ⟨q, rfl⟩ | ⟨i, hi, rfl, hs⟩
  · rw [t1 q, cI_some, kX9_placed_0 N d, nc_lt (by omega) (by omega)]
  · rw [t2 i hi rfl, h137]
    rcases hs with ⟨a, rfl⟩ | ⟨m, a, b, hm, hs⟩
    · rcases hR i hi with ⟨-, e⟩ | ⟨e, -⟩
      · rw [e, if_pos (by decide), cI_some, kX9_placed_0 N d, nc_lt (by omega) (by omega)]
      · rw [a] at e; exact absurd e (by decide)
    · rcases hR i hi with ⟨e, -⟩ | ⟨-, m', s', hm', hs', -, -, b', c', -⟩
      · rw [a] at e; exact absurd e (by decide)
      · rw [b] at b'
        have em : m = m' := (no_inj (by omega) (by omega)).mp b'
        subst em
        rw [c', nc_nlt (by omega) (by omega), cI_some, kX9_placed_0 N d, nc_nlt (by omega) (by omega), nc_in hi (by omega), nI_clamp (by omega), h137, c', inb_c (by omega)]
        rcases hs with ⟨q, rfl⟩ | ⟨q, rfl⟩
        · rw [if_neg (by rw [q]; simp)]
        · rw [if_pos q]
theorem p_read {xs : Nat → Int32} {N d : Nat} {X : lt_X} {I : Nat → Nat → Int32} {J : Nat → Nat → Int64} (H : INV xs X I J) (hN : 100000 ≤ N) (x y : Int32) : PR xs N d X I J 115 197 [.int x, .int y] := by
  have hX := H.1
  have hR := H.2.2.2.2.1
  obtain ⟨s, e, hs⟩ := c8_placeStatus (N := N) (d := d + 37) (X := X) (I := I) (J := J) hX hR x y
  have hs' := hs
  have mm : ∀ K : Nat → Nat → Int32, (∀ a, a ≠ 3 → ¬ (126 ≤ a ∧ a ≤ 133) → K a = I a) → am_G am_prog (N + 30) (d + 39) 195 [.ref 135, .int x, .int y] (mkh X (u2 K 135 1 (nI 0)) J) = some (.int (nI s), mkh X (u2 K 135 1 (nI 0)) J) := by
    intro K hK
    exact c9_placed (d := d + 37) (I := u2 K 135 1 (nI 0)) x y s I (by rw [u2_na _ _ _ _ _ (by omega), hK 137 (by omega) (by omega)]) hR hs
  by_cases q : s = 0
  · subst q
    rcases hs with ⟨-, h⟩ | ⟨i, hi, rfl, ⟨-, h⟩ | ⟨m, a, b, hm, ⟨-, h⟩ | ⟨hy, -⟩⟩⟩
    · omega
    · omega
    · omega
    · obtain ⟨j, hj, rfl⟩ := inb_e hy (by omega)
      have htr := tr_is hi
      have hJ : J (6 + 2 * i) j = J 138 (60 * i + j) := by
        rcases hR i hi with ⟨e', -⟩ | ⟨-, m', s', hm', -, -, -, b', -, hk⟩
        · rw [a] at e'; exact absurd e' (by decide)
        · rw [b] at b'
          have em : m = m' := (no_inj (by omega) (by omega)).mp b'
          exact hk j (by omega)
      refine PR_tells H (.long (J (6 + 2 * i) j)) (nI 0) (CR_st ?_) (fun K hK => MR_0 (a := nI 0) ?_)
      · rw [gX8_read N (d + 37), sX8_read_0 N (d + 37) _ hX]
        rw [e, cI_some, kX8_read_0 N (d + 37) _ hX, nc_eq rfl, lR_tr hi, gR_tr htr, lL_tr htr (by omega), show 5 + 2 * i + 1 = 6 + 2 * i by omega]
      · rw [gX9_read N (d + 37), sX9_read_0 N (d + 37)]
        rw [mm K hK, cI_some, kX9_read_0 N (d + 37), nc_nlt (by omega) (by omega), pk_mul, nI_add, nc_in (by omega) (by omega), nI_clamp (by omega), hJ]
  · have hs4 : s ≤ 4 := by
      rcases hs with ⟨-, h⟩ | ⟨i, hi, -, ⟨-, h⟩ | ⟨m, -, -, -, ⟨-, h⟩ | ⟨-, h⟩⟩⟩ <;> omega
    refine PR_tells H (.long (-1)) (nI s) (CR_st ?_) (fun K hK => MR_0 (a := nI 0) ?_)
    · rw [gX8_read N (d + 37), sX8_read_0 N (d + 37) _ hX]
      rw [e, cI_some, kX8_read_0 N (d + 37) _ hX, nc_ne (by omega) (by omega) (by omega)]
    · rw [gX9_read N (d + 37), sX9_read_0 N (d + 37)]
      rw [mm K hK, cI_some, kX9_read_0 N (d + 37), nc_lt (by omega) (by omega)]
/-- trays change, nothing else -/
theorem INV_trays {xs : Nat → Int32} {X : lt_X} {I M : Nat → Nat → Int32} {J L : Nat → Nat → Int64} (H : INV xs X I J) (h1 : ∀ a, a ≠ 3 → a ≠ 135 → a ≠ 136 → a ≠ 137 → ¬ (5 ≤ a ∧ a ≤ 12) → M a = I a) (h2 : ∀ k, k ≠ 15 → M 3 k = I 3 k) (h3 : ∀ k, k ≠ 0 → k ≠ 1 → M 135 k = I 135 k) (h4 : ∀ a, a ≠ 138 → ¬ (5 ≤ a ∧ a ≤ 12) → L a = J a) (hs : M 3 15 = M 135 0) (hR : TRY M L) : INV xs X M L := by
  obtain ⟨hX, a1, a2, a3, a4, a5, a6, a7, a8, a9, a10⟩ := H
  have he := hsX_no hX
  refine ⟨hX, ?_, ?_, ?_, hR, ?_, ?_, ?_, ?_, ?_, hs⟩
  · rw [h1 1 (by omega) (by omega) (by omega) (by omega) (by omega)]; exact a1
  · exact TW_frame (fun a b1 b2 => h1 a (by omega) (by omega) (by omega) (by omega) (by omega)) (fun k _ => by rw [h1 140 (by omega) (by omega) (by omega) (by omega) (by omega)]) (fun k _ => by rw [h4 _ (by omega) (by omega)]) (fun k _ => by rw [h4 _ (by omega) (by omega)]) a2
  · obtain ⟨m, b1, b2, b3, b4⟩ := a3
    refine ⟨m, b1, by rw [h2 6 (by omega)]; exact b2, by rw [h3 23 (by omega) (by omega)]; exact b3, fun j hj => ?_⟩
    exact TW_frame (fun a c1 c2 => h1 a (by omega) (by omega) (by omega) (by omega) (by omega)) (fun k _ => by rw [h1 140 (by omega) (by omega) (by omega) (by omega) (by omega)]) (fun k _ => by rw [h4 _ (by omega) (by omega)]) (fun k _ => by rw [h4 _ (by omega) (by omega)]) (b4 j hj)
  · obtain ⟨n, b1, b2, b3, b4⟩ := a5
    refine ⟨n, b1, by rw [h2 2 (by omega)]; exact b2, by rw [h3 8 (by omega) (by omega)]; exact b3, fun k hk => ?_⟩
    rw [h1 13 (by omega) (by omega) (by omega) (by omega) (by omega), h1 139 (by omega) (by omega) (by omega) (by omega) (by omega)]; exact b4 k hk
  · unfold FLT
    rw [h2 14 (by omega), h3 10 (by omega) (by omega), h3 11 (by omega) (by omega), h1 115 (by omega) (by omega) (by omega) (by omega) (by omega)]; exact a6
  · unfold LVD
    rw [h2 13 (by omega), h3 33 (by omega) (by omega), h1 134 (by omega) (by omega) (by omega) (by omega) (by omega), h1 146 (by omega) (by omega) (by omega) (by omega) (by omega)]; exact a7
  · unfold FRC
    rw [h4 3 (by omega) (by omega), h4 135 (by omega) (by omega)]; exact a8
  · intro k hk
    rw [h4 116 (by omega) (by omega)]; exact a9 k hk
def ctv (s : Nat) (z : Int64) : Int64 := if s = 0 then z.toInt32.toInt8.toInt32.toInt64 else if s = 1 then z.toInt32.toInt16.toInt32.toInt64 else if s = 2 then z.toInt32.toInt64 else z
theorem c7_put {N d : Nat} {X : lt_X} {I : Nat → Nat → Int32} {J : Nat → Nat → Int64} {tr : Nat} (htr : isTr tr) {s j : Nat} (hs : s ≤ 3) (h2 : I tr 2 = nI s) (hj : j < 60) (z : Int64) : am_G am_prog (N + 30) (d + 1) 108 [.ref tr, .int (nI j), .long z] (mkh X I J) = some (.null, mkh X I (u2L J (tr + 1) j (ctv s z))) := by
  rw [gX7_put N d htr, sX7_put_0 N d _ htr, h2]
  simp (disch := first | assumption | omega) only [nc_in, nI_clamp]
  unfold ctv
  by_cases q0 : s = 0
  · rw [nc_eq q0, if_pos q0]
  · rw [nc_ne q0 (by omega) (by omega), if_neg q0]
    by_cases q1 : s = 1
    · rw [nc_eq q1, if_pos q1]
    · rw [nc_ne q1 (by omega) (by omega), if_neg q1]
      by_cases q2 : s = 2
      · rw [nc_eq q2, if_pos q2]
      · rw [nc_ne q2 (by omega) (by omega), if_neg q2]
theorem c9_cut {N d : Nat} {X : lt_X} {I : Nat → Nat → Int32} {J : Nat → Nat → Int64} {s : Nat} (hs : s ≤ 3) (z : Int64) : am_G am_prog (N + 30) (d + 1) 192 [.int (nI s), .long z] (mkh X I J) = some (.long (ctv s z), (mkh X I J)) := by
  rw [gX9_cut N d, sX9_cut_0 N d]
  unfold ctv
  by_cases q0 : s = 0
  · rw [nc_eq q0, if_pos q0]
  · rw [nc_ne q0 (by omega) (by omega), if_neg q0]
    by_cases q1 : s = 1
    · rw [nc_eq q1, if_pos q1]
    · rw [nc_ne q1 (by omega) (by omega), if_neg q1]
      by_cases q2 : s = 2
      · rw [nc_eq q2, if_pos q2]
      · rw [nc_ne q2 (by omega) (by omega), if_neg q2]
theorem p_write {xs : Nat → Int32} {N d : Nat} {X : lt_X} {I : Nat → Nat → Int32} {J : Nat → Nat → Int64} (H : INV xs X I J) (hN : 100000 ≤ N) (x y : Int32) (z : Int64) : PR xs N d X I J 114 196 [.int x, .int y, .long z] := by
  have hX := H.1
  have hR := H.2.2.2.2.1
  obtain ⟨s, e, hs⟩ := c8_placeStatus (N := N) (d := d + 37) (X := X) (I := I) (J := J) hX hR x y
  have mm : ∀ (K : Nat → Nat → Int32) (L : Nat → Nat → Int64), K 137 = I 137 → am_G am_prog (N + 30) (d + 39) 195 [.ref 135, .int x, .int y] (mkh X (u2 K 135 1 (nI 0)) L) = some (.int (nI s), mkh X (u2 K 135 1 (nI 0)) L) := by
    intro K L hK
    exact c9_placed (d := d + 37) (I := u2 K 135 1 (nI 0)) x y s I (by rw [u2_na _ _ _ _ _ (by omega), hK]) hR hs
  by_cases q : s = 0
  · subst q
    rcases hs with ⟨-, h⟩ | ⟨i, hi, rfl, ⟨-, h⟩ | ⟨m, a, b, hm, ⟨-, h⟩ | ⟨hy, -⟩⟩⟩
    · omega
    · omega
    · omega
    · obtain ⟨j, hj, rfl⟩ := inb_e hy (by omega)
      have htr := tr_is hi
      obtain ⟨m', s', hm', hs', c2, c3, c4, c5, c6⟩ : ∃ m s, m ≤ 60 ∧ s ≤ 3 ∧ I (5 + 2 * i) 2 = nI s ∧ I 136 i = nI s ∧ I (5 + 2 * i) 3 = nI m ∧ I 137 i = nI m ∧ ∀ k, k < m → J (6 + 2 * i) k = J 138 (60 * i + k) := by
        rcases hR i hi with ⟨e', -⟩ | ⟨-, h⟩
        · rw [a] at e'; exact absurd e' (by decide)
        · exact h
      refine ⟨.int (nI 1), X, u2 I 3 15 (nI 0), u2L J (6 + 2 * i) j (ctv s' z), X, u2 (u2 (u2 I 3 15 (nI 0)) 135 1 (nI 0)) 135 0 (nI 0), u2L (u2L J (6 + 2 * i) j (ctv s' z)) 138 (60 * i + j) (ctv s' z), ?_, ?_, INV_trays H (fun a b1 b2 _ _ _ => by rw [u2_na _ _ _ _ _ b2, u2_na _ _ _ _ _ b2, u2_na _ _ _ _ _ b1]) (fun k hk => by rw [u2_na _ _ _ _ _ (by omega), u2_na _ _ _ _ _ (by omega), u2_nk _ _ _ _ _ hk]) (fun k b1 b2 => by rw [u2_nk _ _ _ _ _ b1, u2_nk _ _ _ _ _ b2, u2_na _ _ _ _ _ (by omega)]) (fun a b1 b2 => by rw [u2L_na _ _ _ _ _ b1, u2L_na _ _ _ _ _ (by omega)]) (by rw [u2_na _ _ _ _ _ (by omega), u2_na _ _ _ _ _ (by omega), u2_at, u2_at]) ?_, rfl⟩
      · rw [gX8_write N (d + 37), sX8_write_0 N (d + 37) _ hX]
        rw [e, cI_some, kX8_write_0 N (d + 37) _ hX, nc_eq rfl, lR_tr hi, c7_put htr hs' c2 (by omega), cV_some, kX8_write_1 N (d + 37) _ hX, show 5 + 2 * i + 1 = 6 + 2 * i by omega]
      · rw [gX9_write N (d + 37), sX9_write_0 N (d + 37)]
        rw [mm _ _ (by rw [u2_na _ _ _ _ _ (by omega)]), cI_some, kX9_write_0 N (d + 37), nc_nlt (by omega) (by omega), nc_in hi (by omega), nI_clamp (by omega), show u2 (u2 I 3 15 (nI 0)) 135 1 (nI 0) 136 i = nI s' by rw [u2_na _ _ _ _ _ (by omega), u2_na _ _ _ _ _ (by omega)]; exact c3, c9_cut hs', cL_some9, kX9_write_1 N (d + 37), pk_mul, nI_add, nc_in (by omega) (by omega), nI_clamp (by omega)]
      · intro i2 hi2
        have e0 : ∀ a, a ≠ 3 → a ≠ 135 → u2 (u2 (u2 I 3 15 (nI 0)) 135 1 (nI 0)) 135 0 (nI 0) a = I a := fun a b1 b2 => by rw [u2_na _ _ _ _ _ b2, u2_na _ _ _ _ _ b2, u2_na _ _ _ _ _ b1]
        rw [e0 (5 + 2 * i2) (by omega) (by omega), e0 136 (by omega) (by omega), e0 137 (by omega) (by omega)]
        rcases hR i2 hi2 with h | ⟨h, m2, s2, g1, g2, g3, g4, g5, g6, g7⟩
        · exact Or.inl h
        · refine Or.inr ⟨h, m2, s2, g1, g2, g3, g4, g5, g6, fun k hk => ?_⟩
          rw [u2L_na _ _ _ _ _ (by omega)]
          by_cases r : i2 = i
          · subst r
            by_cases r2 : k = j
            · subst r2; rw [u2L_at, u2L_at]
            · rw [u2L_nk _ _ _ _ _ r2, u2L_nk _ _ _ _ _ (by omega), u2L_na _ _ _ _ _ (by omega)]; exact g7 k hk
          · rw [u2L_na _ _ _ _ _ (by omega), u2L_nk _ _ _ _ _ (by omega), u2L_na _ _ _ _ _ (by omega)]; exact g7 k hk
  · have hs4 : s ≤ 4 := by
      rcases hs with ⟨-, h⟩ | ⟨i, hi, -, ⟨-, h⟩ | ⟨m, -, -, -, ⟨-, h⟩ | ⟨-, h⟩⟩⟩ <;> omega
    refine PR_tells H (.int (nI 0)) (nI s) (CR_st ?_) (fun K hK => MR_0 (a := nI 0) ?_)
    · rw [gX8_write N (d + 37), sX8_write_0 N (d + 37) _ hX]
      rw [e, cI_some, kX8_write_0 N (d + 37) _ hX, nc_ne (by omega) (by omega) (by omega)]
    · rw [gX9_write N (d + 37), sX9_write_0 N (d + 37)]
      rw [mm _ _ (hK 137 (by omega) (by omega)), cI_some, kX9_write_0 N (d + 37), nc_lt (by omega) (by omega)]
/-- a stretch of a row of longs is 0 -/
def zl (J : Nat → Nat → Int64) (a lo k : Nat) : Nat → Nat → Int64 := fun b => if b = a then (fun j => if lo ≤ j ∧ j < lo + k then lN 0 else J a j) else J b
theorem zl_0 (J : Nat → Nat → Int64) (a lo : Nat) : zl J a lo 0 = J := by
  funext b
  unfold zl
  by_cases q : b = a
  · subst q; rw [if_pos rfl]; funext j; rw [if_neg (by omega)]
  · rw [if_neg q]
theorem zl_s (J : Nat → Nat → Int64) (a lo k : Nat) : u2L (zl J a lo k) a (lo + k) (lN 0) = zl J a lo (k + 1) := by
  funext b j
  by_cases q : b = a
  · subst q
    by_cases r : j = lo + k
    · subst r; rw [u2L_at]; unfold zl; rw [if_pos rfl, if_pos (by omega)]
    · rw [u2L_nk _ _ _ _ _ r]
      unfold zl
      rw [if_pos rfl, if_pos rfl]
      have e : (lo ≤ j ∧ j < lo + k) ↔ (lo ≤ j ∧ j < lo + (k + 1)) := by omega
      simp only [e]
  · rw [u2L_na _ _ _ _ _ q]; unfold zl; rw [if_neg q, if_neg q]
theorem c7_lay {N d : Nat} {X : lt_X} {I : Nat → Nat → Int32} {J : Nat → Nat → Int64} {tr : Nat} (htr : isTr tr) (s m : Int32) (hN : 1000 ≤ N) : am_G am_prog (N + 30) (d + 1) 106 [.ref tr, .int s, .int m] (mkh X I J) = some (.null, mkh X (u2 (u2 (u2 I tr 1 (nI 1)) tr 2 s) tr 3 m) (zl J (tr + 1) 0 60)) := by
  rw [gX7_lay N d htr, sX7_lay_0 N d _ htr]
  have h := lqs (run := fun n i => RX7_lay_17 N d n X tr (nI i) (u2 (u2 (u2 I tr 1 (nI 1)) tr 2 s) tr 3 m) (zl J (tr + 1) 0 i)) (m := 60) (R := some (.null, mkh X (u2 (u2 (u2 I tr 1 (nI 1)) tr 2 s) tr 3 m) (zl J (tr + 1) 0 60))) (fun n i hi => by
    rw [sX7_lay_17 N d n htr, nc_lt hi (by omega), nc_in hi (by omega), nI_clamp (by omega), nI_add, ← zl_s, Nat.zero_add]) (fun n => by
    rw [sX7_lay_17 N d n htr, nc_nlt (Nat.le_refl _) (by omega)]) (N + 29) 0 (by omega) (by omega)
  rw [zl_0] at h
  exact h
theorem p_tray {xs : Nat → Int32} {N d : Nat} {X : lt_X} {I : Nat → Nat → Int32} {J : Nat → Nat → Int64} (H : INV xs X I J) (hN : 100000 ≤ N) (x y z : Int32) : PR xs N d X I J 113 193 [.int x, .int y, .int z] := by
  have hX := H.1
  have hR := H.2.2.2.2.1
  have bad : ∀ st : Nat, (am_G am_prog (N + 30) (d + 40) 113 [.ref 3, .int x, .int y, .int z] (mkh X I J) = some (.int (nI 0), mkh X (u2 I 3 15 (nI st)) J)) → (∀ K : Nat → Nat → Int32, am_G am_prog (N + 30) (d + 40) 193 [.ref 135, .int x, .int y, .int z] (mkh X K J) = some (.int (nI 0), mkh X (u2 (u2 (u2 K 135 1 (nI 0)) 135 0 (nI 0)) 135 0 (nI st)) J)) → PR xs N d X I J 113 193 [.int x, .int y, .int z] :=
    fun st h1 h2 => PR_tells H (.int (nI 0)) (nI st) (CR_st h1) (fun K _ => MR_2 (h2 K))
  have ec : am_G am_prog (N + 30) (d + 40) 113 [.ref 3, .int x, .int y, .int z] (mkh X I J) = (if inb x 4 = true then (if rng y 0 3 = true then (if nI 60 < z then some (.int (nI 0), mkh X (u2 I 3 15 (nI 5)) J) else if z < nI 0 then some (.int (nI 0), (mkh X (u2 I 3 15 (nI 6)) J)) else am_lR (mkh X I J) 13 4 x (fun y1 => am_cV (am_G am_prog (N + 30) (d + 38 + 1) 106 [.ref y1, .int y, .int z] (mkh X I J)) (KX8_tray_1 N (d + 38) (N + 29)))) else some (.int (nI 0), mkh X (u2 I 3 15 (nI 1)) J)) else some (.int (nI 0), mkh X (u2 I 3 15 (nI 1)) J)) := by
    rw [gX8_tray N (d + 38), sX8_tray_0 N (d + 38) _ hX]
    rw [c8_isTray hX, cI_some, kX8_tray_0 N (d + 38) _ hX, nc_10, rng_c (by omega) (by omega)]
  have em : ∀ K : Nat → Nat → Int32, ∀ L : Nat → Nat → Int64, am_G am_prog (N + 30) (d + 40) 193 [.ref 135, .int x, .int y, .int z] (mkh X K L) = (if inb x 4 = true then (if rng y 0 3 = true then (if nI 60 < z then some (.int (nI 0), (mkh X (u2 (u2 (u2 K 135 1 (nI 0)) 135 0 (nI 0)) 135 0 (nI 5)) L)) else if z < nI 0 then some (.int (nI 0), (mkh X (u2 (u2 (u2 K 135 1 (nI 0)) 135 0 (nI 0)) 135 0 (nI 6)) L)) else if am_in x 4 then if am_in x 4 then RX9_tray_74 N (d + 38) (N + 29) X x z (nI 0) (u2 (u2 (u2 (u2 K 135 1 (nI 0)) 135 0 (nI 0)) 136 x.toNatClampNeg y) 137 x.toNatClampNeg z) L else none else none) else some (.int (nI 0), (mkh X (u2 (u2 (u2 K 135 1 (nI 0)) 135 0 (nI 0)) 135 0 (nI 1)) L))) else some (.int (nI 0), (mkh X (u2 (u2 (u2 K 135 1 (nI 0)) 135 0 (nI 0)) 135 0 (nI 1)) L))) := by
    intro K L
    rw [gX9_tray N (d + 38), sX9_tray_0 N (d + 38)]
    rw [rng_c (a := 0) (b := 3) (by omega) (by omega), inb_c (by omega)]
  by_cases q : inb x 4 = true
  · obtain ⟨i, hi, rfl⟩ := inb_e q (by omega)
    by_cases q2 : rng y 0 3 = true
    · obtain ⟨s, -, hs, rfl⟩ := rng_e q2 (by omega)
      by_cases q3 : nI 60 < z
      · exact bad 5 (by rw [ec, if_pos q, if_pos q2, if_pos q3]) (fun K => by rw [em, if_pos q, if_pos q2, if_pos q3])
      · by_cases q4 : z < nI 0
        · exact bad 6 (by rw [ec, if_pos q, if_pos q2, if_neg q3, if_pos q4]) (fun K => by rw [em, if_pos q, if_pos q2, if_neg q3, if_pos q4])
        · obtain ⟨m, hm, rfl⟩ : ∃ m, m ≤ 60 ∧ z = nI m := by
            rw [nI_lt' (by omega)] at q3
            rw [lt_nI (by omega)] at q4
            obtain ⟨j, hj⟩ : ∃ j : Nat, z.toInt = j := ⟨z.toInt.toNat, by omega⟩
            refine ⟨j, by omega, Int32.toInt_inj.mp ?_⟩
            rw [hj, nI_toInt (by omega)]
          have htr := tr_is hi
          rw [if_pos q, if_pos q2, if_neg q3, if_neg q4, lR_tr hi, c7_lay htr _ _ (by omega), cV_some, kX8_tray_1 N (d + 38) _ hX, show 5 + 2 * i + 1 = 6 + 2 * i by omega] at ec
          have hz := lqs (run := fun n k => RX9_tray_74 N (d + 38) n X (nI i) (nI m) (nI k) (u2 (u2 (u2 (u2 (u2 (u2 (u2 (u2 I (5 + 2 * i) 1 (nI 1)) (5 + 2 * i) 2 (nI s)) (5 + 2 * i) 3 (nI m)) 3 15 (nI 0)) 135 1 (nI 0)) 135 0 (nI 0)) 136 i (nI s)) 137 i (nI m)) (zl (zl J (6 + 2 * i) 0 60) 138 (60 * i) k)) (m := m) (R := some (.int (nI 1), mkh X (u2 (u2 (u2 (u2 (u2 (u2 (u2 (u2 I (5 + 2 * i) 1 (nI 1)) (5 + 2 * i) 2 (nI s)) (5 + 2 * i) 3 (nI m)) 3 15 (nI 0)) 135 1 (nI 0)) 135 0 (nI 0)) 136 i (nI s)) 137 i (nI m)) (zl (zl J (6 + 2 * i) 0 60) 138 (60 * i) m))) (fun n k hk => by
            rw [sX9_tray_74 N (d + 38) n, nc_lt hk (by omega), pk_mul, nI_add, nc_in (by omega) (by omega), nI_clamp (by omega), nI_add, zl_s]) (fun n => by
            rw [sX9_tray_74 N (d + 38) n, nc_nlt (Nat.le_refl _) (by omega)]) (N + 29) 0 (by omega) (by omega)
          rw [zl_0] at hz
          have em2 := em (u2 (u2 (u2 (u2 I (5 + 2 * i) 1 (nI 1)) (5 + 2 * i) 2 (nI s)) (5 + 2 * i) 3 (nI m)) 3 15 (nI 0)) (zl J (6 + 2 * i) 0 60)
          rw [if_pos q, if_pos q2, if_neg q3, if_neg q4, nc_in hi (by omega), nc_in hi (by omega), nI_clamp (by omega)] at em2
          refine ⟨_, X, _, _, X, _, _, ec, em2.trans hz, INV_trays H (fun a b1 b2 b3 b4 b5 => ?_) (fun k hk => ?_) (fun k b1 b2 => ?_) (fun a b1 b2 => ?_) ?_ ?_, rfl⟩
          · rw [u2_na _ _ _ _ _ b4, u2_na _ _ _ _ _ b3, u2_na _ _ _ _ _ b2, u2_na _ _ _ _ _ b2, u2_na _ _ _ _ _ b1, u2_na _ _ _ _ _ (by omega), u2_na _ _ _ _ _ (by omega), u2_na _ _ _ _ _ (by omega)]
          · rw [u2_na _ _ _ _ _ (by omega), u2_na _ _ _ _ _ (by omega), u2_na _ _ _ _ _ (by omega), u2_na _ _ _ _ _ (by omega), u2_nk _ _ _ _ _ hk, u2_na _ _ _ _ _ (by omega), u2_na _ _ _ _ _ (by omega), u2_na _ _ _ _ _ (by omega)]
          · rw [u2_na _ _ _ _ _ (by omega), u2_na _ _ _ _ _ (by omega), u2_nk _ _ _ _ _ b1, u2_nk _ _ _ _ _ b2, u2_na _ _ _ _ _ (by omega), u2_na _ _ _ _ _ (by omega), u2_na _ _ _ _ _ (by omega), u2_na _ _ _ _ _ (by omega)]
          · unfold zl; rw [if_neg b1, if_neg (by omega)]
          · rw [u2_na _ _ _ _ _ (by omega), u2_na _ _ _ _ _ (by omega), u2_na _ _ _ _ _ (by omega), u2_na _ _ _ _ _ (by omega), u2_at, u2_na _ _ _ _ _ (by omega), u2_na _ _ _ _ _ (by omega), u2_at]
          · intro i2 hi2
            by_cases r : i2 = i
            · subst r
              refine Or.inr ⟨?_, m, s, hm, hs, ?_, ?_, ?_, ?_, fun k hk => ?_⟩
              · rw [u2_na _ _ _ _ _ (by omega), u2_na _ _ _ _ _ (by omega), u2_na _ _ _ _ _ (by omega), u2_na _ _ _ _ _ (by omega), u2_na _ _ _ _ _ (by omega), u2_nk _ _ _ _ _ (by omega), u2_nk _ _ _ _ _ (by omega), u2_at]
              · rw [u2_na _ _ _ _ _ (by omega), u2_na _ _ _ _ _ (by omega), u2_na _ _ _ _ _ (by omega), u2_na _ _ _ _ _ (by omega), u2_na _ _ _ _ _ (by omega), u2_nk _ _ _ _ _ (by omega), u2_at]
              · rw [u2_na _ _ _ _ _ (by omega), u2_at]
              · rw [u2_na _ _ _ _ _ (by omega), u2_na _ _ _ _ _ (by omega), u2_na _ _ _ _ _ (by omega), u2_na _ _ _ _ _ (by omega), u2_na _ _ _ _ _ (by omega), u2_at]
              · rw [u2_at]
              · unfold zl
                rw [if_neg (by omega), if_pos rfl, if_pos (by omega), if_pos rfl, if_pos (by omega)]
            · have h0 := hR i2 hi2
              rw [u2_na _ _ _ (5 + 2 * i2) _ (by omega), u2_na _ _ _ (5 + 2 * i2) _ (by omega), u2_na _ _ _ (5 + 2 * i2) _ (by omega), u2_na _ _ _ (5 + 2 * i2) _ (by omega), u2_na _ _ _ (5 + 2 * i2) _ (by omega), u2_na _ _ _ (5 + 2 * i2) _ (by omega), u2_na _ _ _ (5 + 2 * i2) _ (by omega), u2_na _ _ _ (5 + 2 * i2) _ (by omega)]
              have e7 : u2 (u2 (u2 (u2 (u2 (u2 (u2 (u2 I (5 + 2 * i) 1 (nI 1)) (5 + 2 * i) 2 (nI s)) (5 + 2 * i) 3 (nI m)) 3 15 (nI 0)) 135 1 (nI 0)) 135 0 (nI 0)) 136 i (nI s)) 137 i (nI m) 137 i2 = I 137 i2 := by
                rw [u2_nk _ _ _ _ _ r, u2_na _ _ _ _ _ (by omega), u2_na _ _ _ _ _ (by omega), u2_na _ _ _ _ _ (by omega), u2_na _ _ _ _ _ (by omega), u2_na _ _ _ _ _ (by omega), u2_na _ _ _ _ _ (by omega), u2_na _ _ _ _ _ (by omega)]
              have e6 : u2 (u2 (u2 (u2 (u2 (u2 (u2 (u2 I (5 + 2 * i) 1 (nI 1)) (5 + 2 * i) 2 (nI s)) (5 + 2 * i) 3 (nI m)) 3 15 (nI 0)) 135 1 (nI 0)) 135 0 (nI 0)) 136 i (nI s)) 137 i (nI m) 136 i2 = I 136 i2 := by
                rw [u2_na _ _ _ _ _ (by omega), u2_nk _ _ _ _ _ r, u2_na _ _ _ _ _ (by omega), u2_na _ _ _ _ _ (by omega), u2_na _ _ _ _ _ (by omega), u2_na _ _ _ _ _ (by omega), u2_na _ _ _ _ _ (by omega), u2_na _ _ _ _ _ (by omega)]
              rw [e7, e6]
              rcases h0 with h | ⟨h, m2, s2, g1, g2, g3, g4, g5, g6, g7⟩
              · exact Or.inl h
              · refine Or.inr ⟨h, m2, s2, g1, g2, g3, g4, g5, g6, fun k hk => ?_⟩
                have a1 : zl (zl J (6 + 2 * i) 0 60) 138 (60 * i) m (6 + 2 * i2) k = J (6 + 2 * i2) k := by
                  unfold zl; rw [if_neg (by omega), if_neg (by omega)]
                have a2 : zl (zl J (6 + 2 * i) 0 60) 138 (60 * i) m 138 (60 * i2 + k) = J 138 (60 * i2 + k) := by
                  unfold zl; rw [if_pos rfl, if_neg (by omega), if_neg (by omega)]
                rw [a1, a2]; exact g7 k hk
    · exact bad 1 (by rw [ec, if_pos q, if_neg q2]) (fun K => by rw [em, if_pos q, if_neg q2])
  · exact bad 1 (by rw [ec, if_neg q]) (fun K => by rw [em, if_neg q])
