/-! printed by wip/whole/pairs2.py: pairs of calls that change the town that is here -/
theorem cJ_bitCount {N d : Nat} {X : lt_X} {I : Nat → Nat → Int32} {J : Nat → Nat → Int64} {a : Nat} (ha : a < 64) : am_G am_prog (N + 30) (d + 1) 356 [.int (nI a)] (mkh X I J) = some (.int (nI (pcn a)), (mkh X I J)) := by
  rw [gJ6_bitCount_0f7a4 N d, sJ6_bitCount_0f7a4_0 N d]
  refine congrArg (fun x => some (Value.int x, mkh X I J)) ?_
  revert a
  decide +kernel
theorem p_give {xs : Nat → Int32} {N d : Nat} {X : lt_X} {I : Nat → Nat → Int32} {J : Nat → Nat → Int64} (H : INV xs X I J) (hN : 100000 ≤ N) (x y : Int32) : PR xs N d X I J 134 284 [.int x, .int y] := by
  obtain ⟨T, hB, hw, hT, hM, hX, ht⟩ := INV_B H
  obtain ⟨h0, h1, h2, h3, h4, h5, h6⟩ := hw.1
  by_cases qx : inb x (T 3) = true
  · obtain ⟨k, hk, rfl⟩ := inb_e qx (by omega)
    by_cases qy : inb y (T 2) = true
    · obtain ⟨p, hp, rfl⟩ := inb_e qy (by omega)
      have hb := (hw.2.2.2.2.2 k hk).2.2
      by_cases q : T (67 + k) = p
      · refine PR_v H hM (-1) (nI 9) ?_ ?_
        · rw [gX8_give N (d + 38), sX8_give_0 N (d + 38) _ hX]
          rw [c8_has hX hT hw (by omega), cI_some, kX8_give_0 N (d + 38) _ hX, nc_10, if_pos qx, c8_has hX hT hw (by omega), cI_some, kX8_give_1 N (d + 38) _ hX, nc_10, if_pos qy, c5_makesGift ht hT hw hk hp, if_pos q, cI_some, kX8_give_2 N (d + 38) _ hX, nc_eq rfl]
        · intro K hK
          rw [gX9_give N (d + 37), sX9_give_0 N (d + 37)]
          rw [c9_isSetAt (I := u2 (u2 K 135 1 (nI 0)) 135 0 (nI 0)) hK hw, cI_some, kX9_give_0 N (d + 37), nc_10, if_pos qx, c9_isPersonAt (I := u2 (u2 K 135 1 (nI 0)) 135 0 (nI 0)) hK hw, cI_some, kX9_give_1 N (d + 37), nc_10, if_pos qy, nI_add, c9_becomes (I := u2 (u2 K 135 1 (nI 0)) 135 0 (nI 0)) (k := 67 + k) (by omega) (x := T (67 + k)) (by omega) (by omega) (tmB hK k hk), if_pos q, cI_some, kX9_give_2 N (d + 37), nc_eq rfl]
      · have w1 := WF_owner hw hk (x := p) (Or.inl hp)
        have t1 := TC_owner hw hk (x := p) hT
        have hl := owned_lt w1 p
        refine PR_here (U := up1 T (67 + k) p) (K := u2 I (X.2.1 + 13) k (nI p)) H hB (up1_big (by omega) (by omega)) (w1) (GB_up (by omega) (by omega) (by omega) h2 hB.2.2.2.2.2.2) (.int (nI (pcn (owned (up1 T (67 + k) p) p)))) ?_ (FC_u (by omega) (by omega) (FC_0 _ _)) (t1) (fun L hL => ?_)
        · rw [gX8_give N (d + 38), sX8_give_0 N (d + 38) _ hX]
          rw [c8_has hX hT hw (by omega), cI_some, kX8_give_0 N (d + 38) _ hX, nc_10, if_pos qx, c8_has hX hT hw (by omega), cI_some, kX8_give_1 N (d + 38) _ hX, nc_10, if_pos qy, c5_makesGift ht hT hw hk hp, if_neg q, cI_some, kX8_give_2 N (d + 38) _ hX, nc_ne (by omega) (by omega) (by omega), c5_setsOf ht t1 w1 (by omega), cI_some, kX8_give_3 N (d + 38) _ hX, cJ_bitCount (by omega), cI_some, kX8_give_4 N (d + 38) _ hX]
        · have hK : TM (L 140) T := by rw [hL 140 (by omega)]; exact hM
          have t2 : TM (u2 (u2 (u2 L 135 1 (nI 0)) 135 0 (nI 0)) 140 (67 + k) (nI p) 140) (up1 T (67 + k) p) := TM_up hw (by omega) (by omega) hK
          refine ⟨u2 (u2 (u2 L 135 1 (nI 0)) 135 0 (nI 0)) 140 (67 + k) (nI p), ?_, FM_u (by omega) (FM_0 _), t2⟩
          rw [gX9_give N (d + 37), sX9_give_0 N (d + 37)]
          rw [c9_isSetAt (I := u2 (u2 L 135 1 (nI 0)) 135 0 (nI 0)) hK hw, cI_some, kX9_give_0 N (d + 37), nc_10, if_pos qx, c9_isPersonAt (I := u2 (u2 L 135 1 (nI 0)) 135 0 (nI 0)) hK hw, cI_some, kX9_give_1 N (d + 37), nc_10, if_pos qy, nI_add, c9_becomes (I := u2 (u2 L 135 1 (nI 0)) 135 0 (nI 0)) (k := 67 + k) (by omega) (x := T (67 + k)) (by omega) (by omega) (tmB hK k hk), if_neg q, cI_some, kX9_give_2 N (d + 37), nc_ne (by omega) (by omega) (by omega), c9_ownedBy (I := u2 (u2 (u2 L 135 1 (nI 0)) 135 0 (nI 0)) 140 (67 + k) (nI p)) t2 w1 (by omega), cI_some, kX9_give_3 N (d + 37), c9_sizeOf (by omega), cI_some, kX9_give_4 N (d + 37)]
    · refine PR_v H hM (-1) (nI 2) ?_ ?_
      · rw [gX8_give N (d + 38), sX8_give_0 N (d + 38) _ hX]
        rw [c8_has hX hT hw (by omega), cI_some, kX8_give_0 N (d + 38) _ hX, nc_10, if_pos qx, c8_has hX hT hw (by omega), cI_some, kX8_give_1 N (d + 38) _ hX, nc_10, if_neg qy]
      · intro K hK
        rw [gX9_give N (d + 37), sX9_give_0 N (d + 37)]
        rw [c9_isSetAt (I := u2 (u2 K 135 1 (nI 0)) 135 0 (nI 0)) hK hw, cI_some, kX9_give_0 N (d + 37), nc_10, if_pos qx, c9_isPersonAt (I := u2 (u2 K 135 1 (nI 0)) 135 0 (nI 0)) hK hw, cI_some, kX9_give_1 N (d + 37), nc_10, if_neg qy]
  · refine PR_v H hM (-1) (nI 2) ?_ ?_
    · rw [gX8_give N (d + 38), sX8_give_0 N (d + 38) _ hX]
      rw [c8_has hX hT hw (by omega), cI_some, kX8_give_0 N (d + 38) _ hX, nc_10, if_neg qx]
    · intro K hK
      rw [gX9_give N (d + 37), sX9_give_0 N (d + 37)]
      rw [c9_isSetAt (I := u2 (u2 K 135 1 (nI 0)) 135 0 (nI 0)) hK hw, cI_some, kX9_give_0 N (d + 37), nc_10, if_neg qx]
theorem p_dump {xs : Nat → Int32} {N d : Nat} {X : lt_X} {I : Nat → Nat → Int32} {J : Nat → Nat → Int64} (H : INV xs X I J) (hN : 100000 ≤ N) (x : Int32) : PR xs N d X I J 135 285 [.int x] := by
  obtain ⟨T, hB, hw, hT, hM, hX, ht⟩ := INV_B H
  obtain ⟨h0, h1, h2, h3, h4, h5, h6⟩ := hw.1
  by_cases qx : inb x (T 3) = true
  · obtain ⟨k, hk, rfl⟩ := inb_e qx (by omega)
    have hb := (hw.2.2.2.2.2 k hk).2.2
    have eb := tcB hT k hk
    by_cases q : T (67 + k) = 4294967295
    · have e1 : u2 I (X.2.1 + 13) k (-1) = I := u2_id (by rw [eb, q, no_m1])
      refine PR_v H hM (-1) (nI 8) ?_ ?_
      · rw [gX8_dump N (d + 37), sX8_dump_0 N (d + 37) _ hX]
        rw [c8_has hX hT hw (by omega), cI_some, kX8_dump_0 N (d + 37) _ hX, nc_10, if_pos qx, nc_in (by omega) (by omega), nc_in (by omega) (by omega), nI_clamp (by omega), eb, c8_answerIfAny hX, nc_m1 q, cI_some, kX8_dump_1 N (d + 37) _ hX, e1]
      · intro K hK
        rw [gX9_dump N (d + 37), sX9_dump_0 N (d + 37)]
        rw [c9_isSetAt (I := u2 (u2 K 135 1 (nI 0)) 135 0 (nI 0)) hK hw, cI_some, kX9_dump_0 N (d + 37), nc_10, if_pos qx, nI_add, nc_in (by omega) (by omega), nI_clamp (by omega), no_m1, c9_becomes (I := u2 (u2 K 135 1 (nI 0)) 135 0 (nI 0)) (k := 67 + k) (by omega) (x := T (67 + k)) (by omega) (by omega) (tmB hK k hk), if_pos q, cI_some, kX9_dump_1 N (d + 37), nc_eq rfl, no_m1]
    · have q2 : T (67 + k) < 2 ^ 31 := by omega
      have w1 := WF_owner hw hk (x := 4294967295) (Or.inr rfl)
      have t1 := TC_owner hw hk (x := 4294967295) hT
      refine PR_here (U := up1 T (67 + k) 4294967295) (K := u2 I (X.2.1 + 13) k (nI 4294967295)) H hB (up1_big (by omega) (by omega)) (w1) (GB_up (by omega) (by omega) (by omega) h2 hB.2.2.2.2.2.2) (.int (nI (T (67 + k)))) ?_ (FC_u (by omega) (by omega) (FC_0 _ _)) (t1) (fun L hL => ?_)
      · rw [gX8_dump N (d + 37), sX8_dump_0 N (d + 37) _ hX]
        rw [c8_has hX hT hw (by omega), cI_some, kX8_dump_0 N (d + 37) _ hX, nc_10, if_pos qx, nc_in (by omega) (by omega), nc_in (by omega) (by omega), nI_clamp (by omega), eb, c8_answerIfAny hX, nc_nm1 q2, cI_some, kX8_dump_1 N (d + 37) _ hX, no_m1]
      · have hK : TM (L 140) T := by rw [hL 140 (by omega)]; exact hM
        refine ⟨u2 (u2 (u2 L 135 1 (nI 0)) 135 0 (nI 0)) 140 (67 + k) (nI 4294967295), ?_, FM_u (by omega) (FM_0 _), TM_up hw (by omega) (by omega) hK⟩
        rw [gX9_dump N (d + 37), sX9_dump_0 N (d + 37)]
        rw [c9_isSetAt (I := u2 (u2 L 135 1 (nI 0)) 135 0 (nI 0)) hK hw, cI_some, kX9_dump_0 N (d + 37), nc_10, if_pos qx, nI_add, nc_in (by omega) (by omega), nI_clamp (by omega), no_m1, c9_becomes (I := u2 (u2 L 135 1 (nI 0)) 135 0 (nI 0)) (k := 67 + k) (by omega) (x := T (67 + k)) (by omega) (by omega) (tmB hK k hk), if_neg q, cI_some, kX9_dump_1 N (d + 37), nc_ne (by omega) (by omega) (by omega)]
        rw [show (u2 (u2 L 135 1 (nI 0)) 135 0 (nI 0)) 140 (67 + k) = nI (T (67 + k)) from tmB hK k hk]
  · refine PR_v H hM (-1) (nI 2) ?_ ?_
    · rw [gX8_dump N (d + 37), sX8_dump_0 N (d + 37) _ hX]
      rw [c8_has hX hT hw (by omega), cI_some, kX8_dump_0 N (d + 37) _ hX, nc_10, if_neg qx]
    · intro K hK
      rw [gX9_dump N (d + 37), sX9_dump_0 N (d + 37)]
      rw [c9_isSetAt (I := u2 (u2 K 135 1 (nI 0)) 135 0 (nI 0)) hK hw, cI_some, kX9_dump_0 N (d + 37), nc_10, if_neg qx]
theorem p_please {xs : Nat → Int32} {N d : Nat} {X : lt_X} {I : Nat → Nat → Int32} {J : Nat → Nat → Int64} (H : INV xs X I J) (hN : 100000 ≤ N) (x y z : Int32) : PR xs N d X I J 138 289 [.int x, .int y, .int z] := by
  obtain ⟨T, hB, hw, hT, hM, hX, ht⟩ := INV_B H
  obtain ⟨h0, h1, h2, h3, h4, h5, h6⟩ := hw.1
  by_cases qx : inb x (T 2) = true
  · obtain ⟨p, hp, rfl⟩ := inb_e qx (by omega)
    by_cases qy : inb y (T 0) = true
    · obtain ⟨s, hs, rfl⟩ := inb_e qy (by omega)
      by_cases qz : rng z 0 9 = true
      · obtain ⟨c, hca, hc, rfl⟩ := rng_e qz (by omega)
        have s6 : s < 6 := by omega
        have el := tcI hT p s hp s6
        have hl := hw.2.2.2.2.1 p s hp s6
        by_cases q : T (121 + 6 * p + s) = c
        · refine PR_v H hM (-1) (nI 9) ?_ ?_
          · rw [gX8_please N (d + 38), sX8_please_0 N (d + 38) _ hX]
            rw [c8_has hX hT hw (by omega), cI_some, kX8_please_0 N (d + 38) _ hX, nc_10, if_pos qx, c8_has hX hT hw (by omega), cI_some, kX8_please_1 N (d + 38) _ hX, nc_10, if_pos qy, rng_c (by omega) (by omega), if_pos qz]
            simp (disch := first | assumption | omega) only [nI_add, pk_mul, nI_clamp, nc_in, nc_lt, nc_nlt, cI_some, cV_some, el, nc_eq q]
          · intro K hK
            rw [gX9_please N (d + 37), sX9_please_0 N (d + 37)]
            rw [c9_isPersonAt (I := u2 (u2 K 135 1 (nI 0)) 135 0 (nI 0)) hK hw, cI_some, kX9_please_0 N (d + 37), nc_10, if_pos qx, c9_isSubjectAt (I := u2 (u2 K 135 1 (nI 0)) 135 0 (nI 0)) hK hw, cI_some, kX9_please_1 N (d + 37), nc_10, if_pos qy, c9_in (by omega) (by omega), cI_some, kX9_please_2 N (d + 37), nc_10, if_pos qz, c9_likeOf (I := u2 (u2 K 135 1 (nI 0)) 135 0 (nI 0)) hK hw hp s6, cI_some, kX9_please_3 N (d + 37), pk_mul, nI_add, nI_add, c9_becomes (I := u2 (u2 K 135 1 (nI 0)) 135 0 (nI 0)) (k := 121 + 6 * p + s) (by omega) (x := T (121 + 6 * p + s)) (by omega) (by omega) (tmI hK p s hp s6), if_pos q, cI_some, kX9_please_4 N (d + 37), nc_eq rfl]
        · have w1 := WF_like hw hp s6 (x := c) (by omega)
          have t1 := TC_like hw hp s6 (x := c) hT
          refine PR_here (U := up1 T (121 + 6 * p + s) c) (K := u2 I (X.2.1 + 10) (p * 6 + s) (nI c)) H hB (up1_big (by omega) (by omega)) (w1) (GB_up (by omega) (by omega) (by omega) h2 hB.2.2.2.2.2.2) (.int (nI (T (121 + 6 * p + s)))) ?_ (FC_u (by omega) (by omega) (FC_0 _ _)) (t1) (fun L hL => ?_)
          · rw [gX8_please N (d + 38), sX8_please_0 N (d + 38) _ hX]
            rw [c8_has hX hT hw (by omega), cI_some, kX8_please_0 N (d + 38) _ hX, nc_10, if_pos qx, c8_has hX hT hw (by omega), cI_some, kX8_please_1 N (d + 38) _ hX, nc_10, if_pos qy, rng_c (by omega) (by omega), if_pos qz]
            simp (disch := first | assumption | omega) only [nI_add, pk_mul, nI_clamp, nc_in, nc_lt, nc_nlt, cI_some, cV_some, el, nc_ne q]
          · have hK : TM (L 140) T := by rw [hL 140 (by omega)]; exact hM
            refine ⟨u2 (u2 (u2 L 135 1 (nI 0)) 135 0 (nI 0)) 140 (121 + 6 * p + s) (nI c), ?_, FM_u (by omega) (FM_0 _), TM_up hw (by omega) (by omega) hK⟩
            rw [gX9_please N (d + 37), sX9_please_0 N (d + 37)]
            rw [c9_isPersonAt (I := u2 (u2 L 135 1 (nI 0)) 135 0 (nI 0)) hK hw, cI_some, kX9_please_0 N (d + 37), nc_10, if_pos qx, c9_isSubjectAt (I := u2 (u2 L 135 1 (nI 0)) 135 0 (nI 0)) hK hw, cI_some, kX9_please_1 N (d + 37), nc_10, if_pos qy, c9_in (by omega) (by omega), cI_some, kX9_please_2 N (d + 37), nc_10, if_pos qz, c9_likeOf (I := u2 (u2 L 135 1 (nI 0)) 135 0 (nI 0)) hK hw hp s6, cI_some, kX9_please_3 N (d + 37), pk_mul, nI_add, nI_add, c9_becomes (I := u2 (u2 L 135 1 (nI 0)) 135 0 (nI 0)) (k := 121 + 6 * p + s) (by omega) (x := T (121 + 6 * p + s)) (by omega) (by omega) (tmI hK p s hp s6), if_neg q, cI_some, kX9_please_4 N (d + 37), nc_ne (by omega) (by omega) (by omega)]
      · refine PR_v H hM (-1) (nI 5) ?_ ?_
        · rw [gX8_please N (d + 38), sX8_please_0 N (d + 38) _ hX]
          rw [c8_has hX hT hw (by omega), cI_some, kX8_please_0 N (d + 38) _ hX, nc_10, if_pos qx, c8_has hX hT hw (by omega), cI_some, kX8_please_1 N (d + 38) _ hX, nc_10, if_pos qy, rng_c (by omega) (by omega), if_neg qz]
        · intro K hK
          rw [gX9_please N (d + 37), sX9_please_0 N (d + 37)]
          rw [c9_isPersonAt (I := u2 (u2 K 135 1 (nI 0)) 135 0 (nI 0)) hK hw, cI_some, kX9_please_0 N (d + 37), nc_10, if_pos qx, c9_isSubjectAt (I := u2 (u2 K 135 1 (nI 0)) 135 0 (nI 0)) hK hw, cI_some, kX9_please_1 N (d + 37), nc_10, if_pos qy, c9_in (by omega) (by omega), cI_some, kX9_please_2 N (d + 37), nc_10, if_neg qz]
    · refine PR_v H hM (-1) (nI 2) ?_ ?_
      · rw [gX8_please N (d + 38), sX8_please_0 N (d + 38) _ hX]
        rw [c8_has hX hT hw (by omega), cI_some, kX8_please_0 N (d + 38) _ hX, nc_10, if_pos qx, c8_has hX hT hw (by omega), cI_some, kX8_please_1 N (d + 38) _ hX, nc_10, if_neg qy]
      · intro K hK
        rw [gX9_please N (d + 37), sX9_please_0 N (d + 37)]
        rw [c9_isPersonAt (I := u2 (u2 K 135 1 (nI 0)) 135 0 (nI 0)) hK hw, cI_some, kX9_please_0 N (d + 37), nc_10, if_pos qx, c9_isSubjectAt (I := u2 (u2 K 135 1 (nI 0)) 135 0 (nI 0)) hK hw, cI_some, kX9_please_1 N (d + 37), nc_10, if_neg qy]
  · refine PR_v H hM (-1) (nI 2) ?_ ?_
    · rw [gX8_please N (d + 38), sX8_please_0 N (d + 38) _ hX]
      rw [c8_has hX hT hw (by omega), cI_some, kX8_please_0 N (d + 38) _ hX, nc_10, if_neg qx]
    · intro K hK
      rw [gX9_please N (d + 37), sX9_please_0 N (d + 37)]
      rw [c9_isPersonAt (I := u2 (u2 K 135 1 (nI 0)) 135 0 (nI 0)) hK hw, cI_some, kX9_please_0 N (d + 37), nc_10, if_neg qx]
theorem p_sell {xs : Nat → Int32} {N d : Nat} {X : lt_X} {I : Nat → Nat → Int32} {J : Nat → Nat → Int64} (H : INV xs X I J) (hN : 100000 ≤ N) (x y z : Int32) : PR xs N d X I J 133 282 [.int x, .int y, .int z] := by
  obtain ⟨T, hB, hw, hT, hM, hX, ht⟩ := INV_B H
  obtain ⟨h0, h1, h2, h3, h4, h5, h6⟩ := hw.1
  by_cases qx : inb x (T 3) = true
  · obtain ⟨k, hk, rfl⟩ := inb_e qx (by omega)
    by_cases qy : inb y (T 2) = true
    · obtain ⟨p, hp, rfl⟩ := inb_e qy (by omega)
      by_cases qz : rng z 0 999 = true
      · obtain ⟨c, hca, hc, rfl⟩ := rng_e qz (by omega)
        by_cases q : canS T k p c
        · obtain ⟨K1, e1, f1, g1⟩ := (c5_makesSale (N := N) (d := d + 38) (X := X) (J := J) ht hT hw hk hp hc).1 q
          have w1 := WF_sold hw hk hp q
          have hp2 : p < soldT T k p c 2 := by rw [soldT_big hw hk hp q 2 (by omega)]; exact hp
          refine PR_here (U := soldT T k p c) (K := K1) H hB (soldT_big hw hk hp q) (w1) (GB_sold hw hB.2.2.2.2.2.2 hk hp q) (.int (nI (soldT T k p c (37 + p)))) ?_ (f1) (g1) (fun L hL => ?_)
          · rw [gX8_sell N (d + 38), sX8_sell_0 N (d + 38) _ hX]
            rw [c8_has hX hT hw (by omega), cI_some, kX8_sell_0 N (d + 38) _ hX, nc_10, if_pos qx, c8_has hX hT hw (by omega), cI_some, kX8_sell_1 N (d + 38) _ hX, nc_10, if_pos qy, rng_c (by omega) (by omega), if_pos qz, e1, cI_some, kX8_sell_2 N (d + 38) _ hX, nc_ne (by omega) (by omega) (by omega), nc_in (by omega) (by omega), nI_clamp (by omega), tcM g1 p hp2]
          · have hK : TM (L 140) T := by rw [hL 140 (by omega)]; exact hM
            obtain ⟨M1, e2, f2, g2⟩ := (c9_sells (N := N) (d := d + 38) (X := X) (J := J) (I := u2 (u2 L 135 1 (nI 0)) 135 0 (nI 0)) hK hw hk hp hc).1 q
            refine ⟨M1, ?_, f2, g2⟩
            rw [gX9_sell N (d + 37), sX9_sell_0 N (d + 37)]
            rw [c9_isSetAt (I := u2 (u2 L 135 1 (nI 0)) 135 0 (nI 0)) hK hw, cI_some, kX9_sell_0 N (d + 37), nc_10, if_pos qx, c9_isPersonAt (I := u2 (u2 L 135 1 (nI 0)) 135 0 (nI 0)) hK hw, cI_some, kX9_sell_1 N (d + 37), nc_10, if_pos qy, c9_in (by omega) (by omega), cI_some, kX9_sell_2 N (d + 37), nc_10, if_pos qz, e2, cI_some, kX9_sell_3 N (d + 37), nc_ne (by omega) (by omega) (by omega), nI_add, nc_in (by omega) (by omega), nI_clamp (by omega), tmM g2 p hp2]
        · refine PR_v H hM (-1) (nI 9) ?_ ?_
          · rw [gX8_sell N (d + 38), sX8_sell_0 N (d + 38) _ hX]
            rw [c8_has hX hT hw (by omega), cI_some, kX8_sell_0 N (d + 38) _ hX, nc_10, if_pos qx, c8_has hX hT hw (by omega), cI_some, kX8_sell_1 N (d + 38) _ hX, nc_10, if_pos qy, rng_c (by omega) (by omega), if_pos qz, (c5_makesSale ht hT hw hk hp hc).2 q, cI_some, kX8_sell_2 N (d + 38) _ hX, nc_eq rfl]
          · intro K hK
            rw [gX9_sell N (d + 37), sX9_sell_0 N (d + 37)]
            rw [c9_isSetAt (I := u2 (u2 K 135 1 (nI 0)) 135 0 (nI 0)) hK hw, cI_some, kX9_sell_0 N (d + 37), nc_10, if_pos qx, c9_isPersonAt (I := u2 (u2 K 135 1 (nI 0)) 135 0 (nI 0)) hK hw, cI_some, kX9_sell_1 N (d + 37), nc_10, if_pos qy, c9_in (by omega) (by omega), cI_some, kX9_sell_2 N (d + 37), nc_10, if_pos qz, (c9_sells (I := u2 (u2 K 135 1 (nI 0)) 135 0 (nI 0)) hK hw hk hp hc).2 q, cI_some, kX9_sell_3 N (d + 37), nc_eq rfl]
      · refine PR_v H hM (-1) (nI 5) ?_ ?_
        · rw [gX8_sell N (d + 38), sX8_sell_0 N (d + 38) _ hX]
          rw [c8_has hX hT hw (by omega), cI_some, kX8_sell_0 N (d + 38) _ hX, nc_10, if_pos qx, c8_has hX hT hw (by omega), cI_some, kX8_sell_1 N (d + 38) _ hX, nc_10, if_pos qy, rng_c (by omega) (by omega), if_neg qz]
        · intro K hK
          rw [gX9_sell N (d + 37), sX9_sell_0 N (d + 37)]
          rw [c9_isSetAt (I := u2 (u2 K 135 1 (nI 0)) 135 0 (nI 0)) hK hw, cI_some, kX9_sell_0 N (d + 37), nc_10, if_pos qx, c9_isPersonAt (I := u2 (u2 K 135 1 (nI 0)) 135 0 (nI 0)) hK hw, cI_some, kX9_sell_1 N (d + 37), nc_10, if_pos qy, c9_in (by omega) (by omega), cI_some, kX9_sell_2 N (d + 37), nc_10, if_neg qz]
    · refine PR_v H hM (-1) (nI 2) ?_ ?_
      · rw [gX8_sell N (d + 38), sX8_sell_0 N (d + 38) _ hX]
        rw [c8_has hX hT hw (by omega), cI_some, kX8_sell_0 N (d + 38) _ hX, nc_10, if_pos qx, c8_has hX hT hw (by omega), cI_some, kX8_sell_1 N (d + 38) _ hX, nc_10, if_neg qy]
      · intro K hK
        rw [gX9_sell N (d + 37), sX9_sell_0 N (d + 37)]
        rw [c9_isSetAt (I := u2 (u2 K 135 1 (nI 0)) 135 0 (nI 0)) hK hw, cI_some, kX9_sell_0 N (d + 37), nc_10, if_pos qx, c9_isPersonAt (I := u2 (u2 K 135 1 (nI 0)) 135 0 (nI 0)) hK hw, cI_some, kX9_sell_1 N (d + 37), nc_10, if_neg qy]
  · refine PR_v H hM (-1) (nI 2) ?_ ?_
    · rw [gX8_sell N (d + 38), sX8_sell_0 N (d + 38) _ hX]
      rw [c8_has hX hT hw (by omega), cI_some, kX8_sell_0 N (d + 38) _ hX, nc_10, if_neg qx]
    · intro K hK
      rw [gX9_sell N (d + 37), sX9_sell_0 N (d + 37)]
      rw [c9_isSetAt (I := u2 (u2 K 135 1 (nI 0)) 135 0 (nI 0)) hK hw, cI_some, kX9_sell_0 N (d + 37), nc_10, if_neg qx]
theorem p_rule {xs : Nat → Int32} {N d : Nat} {X : lt_X} {I : Nat → Nat → Int32} {J : Nat → Nat → Int64} (H : INV xs X I J) (hN : 100000 ≤ N) (x : Int32) : PR xs N d X I J 140 291 [.int x] := by
  obtain ⟨T, hB, hw, hT, hM, hX, ht⟩ := INV_B H
  obtain ⟨h0, h1, h2, h3, h4, h5, h6⟩ := hw.1
  by_cases qx : rng x 0 16 = true
  · obtain ⟨o, hoa, ho, rfl⟩ := rng_e qx (by omega)
    have w1 := WF_odds hw (x := o) ho
    have t1 := TC_odds hw (x := o) hT
    refine PR_here (U := up1 T 4 o) (K := u2 I X.2.1 2 (nI o)) H hB (up1_big (by omega) (by omega)) (w1) (GB_up (by omega) (by omega) (by omega) h2 hB.2.2.2.2.2.2) (.int (nI 1)) ?_ (FC_u (by omega) (by omega) (FC_0 _ _)) (t1) (fun L hL => ?_)
    · rw [gX8_rule N (d + 38), sX8_rule_0 N (d + 38) _ hX]
      rw [rng_c (by omega) (by omega), if_pos qx]
    · have hK : TM (L 140) T := by rw [hL 140 (by omega)]; exact hM
      refine ⟨u2 (u2 (u2 L 135 1 (nI 0)) 135 0 (nI 0)) 140 4 (nI o), ?_, FM_u (by omega) (FM_0 _), TM_up hw (by omega) (by omega) hK⟩
      rw [gX9_rule N (d + 38), sX9_rule_0 N (d + 38)]
      rw [c9_in (by omega) (by omega), cI_some, kX9_rule_0 N (d + 38), nc_10, if_pos qx]
  · refine PR_v H hM (nI 0) (nI 5) ?_ ?_
    · rw [gX8_rule N (d + 38), sX8_rule_0 N (d + 38) _ hX]
      rw [rng_c (by omega) (by omega), if_neg qx]
    · intro K hK
      rw [gX9_rule N (d + 38), sX9_rule_0 N (d + 38)]
      rw [c9_in (by omega) (by omega), cI_some, kX9_rule_0 N (d + 38), nc_10, if_neg qx]
theorem p_cold {xs : Nat → Int32} {N d : Nat} {X : lt_X} {I : Nat → Nat → Int32} {J : Nat → Nat → Int64} (H : INV xs X I J) (hN : 100000 ≤ N) (x y : Int32) (hy : y = nI 0 ∨ y = nI 1) : PR xs N d X I J 136 287 [.int x, .int y] := by
  obtain ⟨T, hB, hw, hT, hM, hX, ht⟩ := INV_B H
  obtain ⟨h0, h1, h2, h3, h4, h5, h6⟩ := hw.1
  by_cases qx : inb x (T 1) = true
  · obtain ⟨v, hv, rfl⟩ := inb_e qx (by omega)
    have hr := hw.2.1 v hv
    have r38 : ∀ (K : Nat → Nat → Int32) (z : Int32), RX8_cold_38 N (d + 38) (N + 29) X z K J = if z = nI 0 then some (.int (nI 0), (mkh X (u2 K 3 15 (nI 9)) J)) else some (.int (nI 1), (mkh X (u2 K 3 15 (nI 0)) J)) := fun K z => sX8_cold_38 N (d + 38) (N + 28) hX z K J
    rcases hy with rfl | rfl
    · by_cases q : T (31 + v) = 1
      · have w1 := WF_cold hw hv (x := 0) (by omega)
        have t1 := TC_colds hw (j := v) (x := 0) hv rfl hT
        refine PR_here (U := up1 T (31 + v) 0) (K := u2 I X.2.1 6 (nI (bst (fun i => up1 T (31 + v) 0 (31 + i) == 1) (T 1)))) H hB (up1_big (by omega) (by omega)) (w1) (GB_up (by omega) (by omega) (by omega) h2 hB.2.2.2.2.2.2) (.int (nI 1)) ?_ (FC_u (by omega) (by omega) (FC_0 _ _)) (t1) (fun L hL => ?_)
        · rw [gX8_cold N (d + 38), sX8_cold_0 N (d + 38) _ hX]
          rw [c8_has hX hT hw (by omega), cI_some, kX8_cold_0 N (d + 38) _ hX, nc_10, if_pos qx, nc_eq rfl, c5_getsWell ht hT hw hv, if_pos q, cI_some, kX8_cold_1 N (d + 38) _ hX, r38, nc_ne (by omega) (by omega) (by omega)]
        · have hK : TM (L 140) T := by rw [hL 140 (by omega)]; exact hM
          refine ⟨u2 (u2 (u2 L 135 1 (nI 0)) 135 0 (nI 0)) 140 (31 + v) (nI 0), ?_, FM_u (by omega) (FM_0 _), TM_up hw (by omega) (by omega) hK⟩
          rw [gX9_cold N (d + 37), sX9_cold_0 N (d + 37)]
          rw [c9_isVoiceAt (I := u2 (u2 L 135 1 (nI 0)) 135 0 (nI 0)) hK hw, cI_some, kX9_cold_0 N (d + 37), nc_10, if_pos qx, c9_chills (I := u2 (u2 L 135 1 (nI 0)) 135 0 (nI 0)) hK hw hv 0 (by omega), if_pos (by omega), cI_some, kX9_cold_1 N (d + 37), nc_ne (by omega) (by omega) (by omega)]
      · refine PR_v H hM (nI 0) (nI 9) ?_ ?_
        · rw [gX8_cold N (d + 38), sX8_cold_0 N (d + 38) _ hX]
          rw [c8_has hX hT hw (by omega), cI_some, kX8_cold_0 N (d + 38) _ hX, nc_10, if_pos qx, nc_eq rfl, c5_getsWell ht hT hw hv, if_neg q, cI_some, kX8_cold_1 N (d + 38) _ hX, r38, nc_eq rfl]
        · intro K hK
          rw [gX9_cold N (d + 37), sX9_cold_0 N (d + 37)]
          rw [c9_isVoiceAt (I := u2 (u2 K 135 1 (nI 0)) 135 0 (nI 0)) hK hw, cI_some, kX9_cold_0 N (d + 37), nc_10, if_pos qx, c9_chills (I := u2 (u2 K 135 1 (nI 0)) 135 0 (nI 0)) hK hw hv 0 (by omega), if_neg (by omega), cI_some, kX9_cold_1 N (d + 37), nc_eq rfl]
    · by_cases q : T (25 + v) = 1 ∧ T (31 + v) = 0
      · have w1 := WF_cold hw hv (x := 1) (by omega)
        have t1 := TC_colds hw (j := v) (x := 1) hv rfl hT
        refine PR_here (U := up1 T (31 + v) 1) (K := u2 I X.2.1 6 (nI (bst (fun i => up1 T (31 + v) 1 (31 + i) == 1) (T 1)))) H hB (up1_big (by omega) (by omega)) (w1) (GB_up (by omega) (by omega) (by omega) h2 hB.2.2.2.2.2.2) (.int (nI 1)) ?_ (FC_u (by omega) (by omega) (FC_0 _ _)) (t1) (fun L hL => ?_)
        · rw [gX8_cold N (d + 38), sX8_cold_0 N (d + 38) _ hX]
          rw [c8_has hX hT hw (by omega), cI_some, kX8_cold_0 N (d + 38) _ hX, nc_10, if_pos qx, nc_ne (by omega) (by omega) (by omega), c5_catchesCold ht hT hw hv, if_pos q, cI_some, kX8_cold_2 N (d + 38) _ hX, r38, nc_ne (by omega) (by omega) (by omega)]
        · have hK : TM (L 140) T := by rw [hL 140 (by omega)]; exact hM
          refine ⟨u2 (u2 (u2 L 135 1 (nI 0)) 135 0 (nI 0)) 140 (31 + v) (nI 1), ?_, FM_u (by omega) (FM_0 _), TM_up hw (by omega) (by omega) hK⟩
          rw [gX9_cold N (d + 37), sX9_cold_0 N (d + 37)]
          rw [c9_isVoiceAt (I := u2 (u2 L 135 1 (nI 0)) 135 0 (nI 0)) hK hw, cI_some, kX9_cold_0 N (d + 37), nc_10, if_pos qx, c9_chills (I := u2 (u2 L 135 1 (nI 0)) 135 0 (nI 0)) hK hw hv 1 (by omega), if_pos (by omega), cI_some, kX9_cold_1 N (d + 37), nc_ne (by omega) (by omega) (by omega)]
      · refine PR_v H hM (nI 0) (nI 9) ?_ ?_
        · rw [gX8_cold N (d + 38), sX8_cold_0 N (d + 38) _ hX]
          rw [c8_has hX hT hw (by omega), cI_some, kX8_cold_0 N (d + 38) _ hX, nc_10, if_pos qx, nc_ne (by omega) (by omega) (by omega), c5_catchesCold ht hT hw hv, if_neg q, cI_some, kX8_cold_2 N (d + 38) _ hX, r38, nc_eq rfl]
        · intro K hK
          rw [gX9_cold N (d + 37), sX9_cold_0 N (d + 37)]
          rw [c9_isVoiceAt (I := u2 (u2 K 135 1 (nI 0)) 135 0 (nI 0)) hK hw, cI_some, kX9_cold_0 N (d + 37), nc_10, if_pos qx, c9_chills (I := u2 (u2 K 135 1 (nI 0)) 135 0 (nI 0)) hK hw hv 1 (by omega), if_neg (by omega), cI_some, kX9_cold_1 N (d + 37), nc_eq rfl]
  · refine PR_v H hM (nI 0) (nI 2) ?_ ?_
    · rw [gX8_cold N (d + 38), sX8_cold_0 N (d + 38) _ hX]
      rw [c8_has hX hT hw (by omega), cI_some, kX8_cold_0 N (d + 38) _ hX, nc_10, if_neg qx]
    · intro K hK
      rw [gX9_cold N (d + 37), sX9_cold_0 N (d + 37)]
      rw [c9_isVoiceAt (I := u2 (u2 K 135 1 (nI 0)) 135 0 (nI 0)) hK hw, cI_some, kX9_cold_0 N (d + 37), nc_10, if_neg qx]
