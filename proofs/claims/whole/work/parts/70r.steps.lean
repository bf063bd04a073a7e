/-! the single steps of the dials, class and reference side by side -/
theorem FCL_0 (t : Nat) (I : Nat → Nat → Int32) : FCL t I I := ⟨fun _ _ _ => rfl, rfl⟩
theorem FRL_0 (M : Nat → Nat → Int32) : FRL M M := ⟨fun _ _ _ => rfl, fun _ _ => rfl, fun _ _ => rfl⟩
/-- what a step of both does -/
def STP (T : Nat → Nat) (oc om : am_O) (X X2 : lt_X) (t : Nat) (I M : Nat → Nat → Int32) (J J2 : Nat → Nat → Int64) (dn ms : Nat) : Prop := ∃ (b : Nat) (U : Nat → Nat) (r hs gl dd : Nat) (K L : Nat → Nat → Int32), b ≤ 1 ∧ LFS T U r dn ms hs gl dd ∧ oc = some (.int (nI b), mkh X K J) ∧ FCL t I K ∧ CLV t K U r dn ms hs dd ∧ om = some (.int (nI b), mkh X2 L J2) ∧ FRL M L ∧ RLV L U r dn ms hs gl dd
theorem st_hour {N d d2 : Nat} {X X2 : lt_X} {I M : Nat → Nat → Int32} {J J2 : Nat → Nat → Int64} {t : Nat} {T T2 : Nat → Nat} {r dn ms hs gl dd p w : Nat} (ht : isT t) (hC : CLV t I T2 r dn ms hs dd) (hR : RLV M T2 r dn ms hs gl dd) (hS : LFS T T2 r dn ms hs gl dd) (h48 : hs + 48 ≤ 48 * dn) (hp : p < 60) (hw9 : w + 9 ≤ 429) (hN : 20000 ≤ N) {n : Nat} (a1 : I (t + 15) p = nI 113) (a2 : I (t + 18) p = nI n) (b1 : M 140 w = nI 0) (b2 : M 140 (w + 1) = nI n) (hn1 : 1 ≤ n) (hn : n ≤ 48) : STP T (am_G am_prog (N + 30) (d + 5) 39 [.ref 132, .ref t, .int (nI p)] (mkh X I J)) (am_G am_prog (N + 30) (d2 + 7) 345 [.ref 135, .int (nI w)] (mkh X2 M J2)) X X2 t I M J J2 dn ms := by
  obtain ⟨hw, hg, hag, hr, hdn, hms, hhs, hgl, hdd⟩ := id hS
  obtain ⟨cT, c1, c2, c3, c4, c5⟩ := id hC
  obtain ⟨rT, r1, r2, r3, r4, r5, r6⟩ := id hR
  obtain ⟨h0, h1, h2, h3, h4, h5, h6⟩ := hw.1
  have htt := ht
  unfold isT at htt
  have hh : am_G am_prog (N + 30) (d + 3) 78 [.ref t, .int (nI n)] (mkh X I J) = if 9999 < T2 5 + n then some (.int (nI 0), mkh X I J) else some (.int (nI 1), mkh X I J) := by
    rw [gX5_hasHours N (d + 2) ht, sX5_hasHours_0 N (d + 2) _ ht, tcH cT, nI_add]
    by_cases r : 9999 < T2 5 + n
    · rw [nc_lt r (by omega), if_pos r]
    · rw [nc_nlt (by omega) (by omega), if_neg r]
  by_cases q : 9999 < T2 5 + n
  · refine ⟨0, T2, r, hs, gl, dd, I, M, by omega, hS, ?_, FCL_0 _ _, hC, ?_, FRL_0 _, hR⟩
    · rw [gX3_does N (d + 4) ht, sX3_does_0 N (d + 4) _ ht, nc_in (by omega) (by omega), nc_in (by omega) (by omega), nc_in (by omega) (by omega), nc_in (by omega) (by omega), nI_clamp (by omega), a1, nc_eq rfl, a2, gX3_doesHours N (d + 2) ht, sX3_doesHours_0 N (d + 2) _ ht, hh, if_pos q, cI_some, kX3_doesHours_0 N (d + 2) _ ht, nc_eq rfl, cI_some, kX3_does_0 N (d + 4), nb_ok (by omega)]
    · rw [gX9_does N (d2 + 6), sX9_does_0 N (d2 + 6), nc_in (by omega) (by omega), nI_clamp (by omega), b1, nc_eq rfl, nI_add, nc_in (by omega) (by omega), nI_clamp (by omega), b2, gX9_anyHours N (d2 + 5), sX9_anyHours_0 N (d2 + 5), tm5 rT, nI_add, nc_lt q (by omega), cI_some, kX9_does_0 N (d2 + 6), nb_ok (by omega)]
  · obtain ⟨K1, e1, f1, g1⟩ := c5_passHours (N := N) (d := d) (X := X) (J := J) ht cT hw hg (n := n) (by omega) (by omega) (by omega)
    have main : ∀ k m, m + k = n → ∀ K, (∀ a, a ≠ 140 → a ≠ 135 → K a = M a) → (∀ j, 157 ≤ j → K 140 j = M 140 j) → (∀ j, j ≠ 39 → K 135 j = M 135 j) → K 135 39 = nI (gl + sm (gsum T2) m) → TM (K 140) (hrT T2 m) → ∃ L, (∀ a, a ≠ 140 → a ≠ 135 → L a = M a) ∧ (∀ j, 157 ≤ j → L 140 j = M 140 j) ∧ (∀ j, j ≠ 38 → j ≠ 39 → L 135 j = M 135 j) ∧ L 135 39 = nI (gl + sm (gsum T2) n) ∧ L 135 38 = nI (hs + n) ∧ TM (L 140) (hrT T2 n) ∧ ev (fun z => RX9_anyHours_18 N (d2 + 5) z X2 (nI n) (nI m) K J2) (1 + k) (some (.int (nI 1), mkh X2 L J2)) := by
      intro k
      induction k with
      | zero =>
        intro m hm K x1 x2 x3 x4 x5
        have e : m = n := by omega
        subst e
        refine ⟨u2 K 135 38 (nI (hs + m)), fun a y1 y2 => by rw [u2_na _ _ _ _ _ y2, x1 a y1 y2], fun j hj => by rw [u2_na _ _ _ _ _ (by omega), x2 j hj], fun j y1 y2 => by rw [u2_nk _ _ _ _ _ y1, x3 j y2], by rw [u2_nk _ _ _ _ _ (by omega)]; exact x4, u2_at _ _ _ _, by rw [u2_na _ _ _ _ _ (by omega)]; exact x5, ev_0 (fun z => ?_)⟩
        rw [sX9_anyHours_18 N (d2 + 5) z, nc_nlt (by omega) (by omega), x3 38 (by omega), r4, nI_add]
      | succ k ih =>
        intro m hm K x1 x2 x3 x4 x5
        have wm := WF_hr hw hg (n := m) (by omega)
        have e5 : hrT T2 m 5 = T2 5 + m := by rw [hrT_at hw, if_pos rfl]
        obtain ⟨L, e2, f3, c3⟩ := c9_goesHour (N := N) (d := d2) (X := X2) (J := J2) (I := K) x5 wm (GB_hr hw hg m) (by rw [e5]; omega) (by omega)
        rw [hrT_succ hw hg (by omega)] at c3
        rw [gsum_eq hw hg (by omega)] at e2
        obtain ⟨Z, z1, z2, z3, z4, z5, z6, z7⟩ := ih (m + 1) (by omega) (u2 L 135 39 (nI (gl + sm (gsum T2) (m + 1)))) (fun a y1 y2 => by rw [u2_na _ _ _ _ _ y2, f3.1 a y1, x1 a y1 y2]) (fun j hj => by rw [u2_na _ _ _ _ _ (by omega), f3.2 j hj, x2 j hj]) (fun j hj => by rw [u2_nk _ _ _ _ _ hj, f3.1 135 (by omega), x3 j hj]) (u2_at _ _ _ _) (by rw [u2_na _ _ _ _ _ (by omega)]; exact c3)
        refine ⟨Z, z1, z2, z3, z4, z5, z6, ev_le (ev_s (fun z => ?_) z7) (by omega)⟩
        rw [sX9_anyHours_18 N (d2 + 5) z, nc_lt (by omega) (by omega), x4, e2, cI_some, kX9_anyHours_0 N (d2 + 5) z, nI_add, nI_add, Nat.add_assoc]
        rfl
    obtain ⟨L, z1, z2, z3, z4, z5, z6, z7⟩ := main n 0 (by omega) M (fun _ _ _ => rfl) (fun _ _ => rfl) (fun _ _ => rfl) (by rw [r5]; rfl) (by rw [hrT_0 hw]; exact rT)
    have z8 : RX9_anyHours_18 N (d2 + 5) (N + 29) X2 (nI n) (nI 0) M J2 = some (.int (nI 1), mkh X2 L J2) := z7 (N + 29) (by omega)
    have big := hrT_big hw n
    have sg := smT_hr hw n
    rw [← gsum_all] at sg
    refine ⟨1, hrT T2 n, r, hs + n, gl + sm (gsum T2) n, dd, u2 K1 132 4 (nI (hs + n)), L, by omega, ⟨WF_hr hw hg (by omega), GB_hr hw hg n, fun j hj => by rw [big j hj, hag j hj], hr, hdn, hms, by omega, by omega, ?_⟩, ?_, ⟨fun a y1 y2 => by rw [u2_na _ _ _ _ _ y2]; exact f1 a y1, by rw [u2_nk _ _ _ _ _ (by omega), FC_at ht f1]⟩, ⟨TC_frame (fun a y1 y2 => by rw [u2_na _ _ _ _ _ (by omega)]) g1, by rw [u2_nk _ _ _ _ _ (by omega), FC_at ht f1]; exact c1, by rw [u2_nk _ _ _ _ _ (by omega), FC_at ht f1]; exact c2, by rw [u2_nk _ _ _ _ _ (by omega), FC_at ht f1]; exact c3, u2_at _ _ _ _, by rw [u2_nk _ _ _ _ _ (by omega), FC_at ht f1]; exact c5⟩, ?_, ⟨z1, z2, fun j hj => z3 j (by omega) (by omega)⟩, ⟨z6, by rw [z3 35 (by omega) (by omega)]; exact r1, by rw [z3 36 (by omega) (by omega)]; exact r2, by rw [z3 37 (by omega) (by omega)]; exact r3, z5, z4, by rw [z3 40 (by omega) (by omega)]; exact r6⟩⟩
    · rw [hdd, alc_cg (T := T2) (U := hrT T2 n) (big 1 (by omega)) (fun v hv => hrT_ag hw n _ (by omega) (by omega) (by omega))]
    · rw [gX3_does N (d + 4) ht, sX3_does_0 N (d + 4) _ ht, nc_in (by omega) (by omega), nc_in (by omega) (by omega), nc_in (by omega) (by omega), nc_in (by omega) (by omega), nI_clamp (by omega), a1, nc_eq rfl, a2, gX3_doesHours N (d + 2) ht, sX3_doesHours_0 N (d + 2) _ ht, hh, if_neg q, cI_some, kX3_doesHours_0 N (d + 2) _ ht, nc_ne (by omega) (by omega) (by omega), e1, cI_some, kX3_doesHours_1 N (d + 2), FC_at ht f1, c4, nI_add, cI_some, kX3_does_0 N (d + 4), nb_ok (by omega)]
    · rw [gX9_does N (d2 + 6), sX9_does_0 N (d2 + 6), nc_in (by omega) (by omega), nI_clamp (by omega), b1, nc_eq rfl, nI_add, nc_in (by omega) (by omega), nI_clamp (by omega), b2, gX9_anyHours N (d2 + 5), sX9_anyHours_0 N (d2 + 5), tm5 rT, nI_add, nc_nlt (by omega) (by omega), z8, cI_some, kX9_does_0 N (d2 + 6), nb_ok (by omega)]
theorem st_year {N d d2 : Nat} {X X2 : lt_X} {I M : Nat → Nat → Int32} {J J2 : Nat → Nat → Int64} {t : Nat} {T T2 : Nat → Nat} {r dn ms hs gl dd p w : Nat} (ht : isT t) (hC : CLV t I T2 r dn ms hs dd) (hR : RLV M T2 r dn ms hs gl dd) (hS : LFS T T2 r dn ms hs gl dd) (h48 : hs + 48 ≤ 48 * dn) (hp : p < 60) (hw9 : w + 9 ≤ 429) (hN : 20000 ≤ N) {n : Nat} (a1 : I (t + 15) p = nI 114) (a2 : I (t + 18) p = nI n) (b1 : M 140 w = nI 1) (b2 : M 140 (w + 1) = nI n) (hn1 : 1 ≤ n) (hn : n ≤ 20) : STP T (am_G am_prog (N + 30) (d + 5) 39 [.ref 132, .ref t, .int (nI p)] (mkh X I J)) (am_G am_prog (N + 30) (d2 + 7) 345 [.ref 135, .int (nI w)] (mkh X2 M J2)) X X2 t I M J J2 dn ms := by
  obtain ⟨hw, hg, hag, hr, hdn, hms, hhs, hgl, hdd⟩ := id hS
  obtain ⟨cT, c1, c2, c3, c4, c5⟩ := id hC
  obtain ⟨rT, r1, r2, r3, r4, r5, r6⟩ := id hR
  obtain ⟨h0, h1, h2, h3, h4, h5, h6⟩ := hw.1
  have htt := ht
  unfold isT at htt
  have hh : am_G am_prog (N + 30) (d + 3) 79 [.ref t, .int (nI n)] (mkh X I J) = if 999 < T2 6 + n then some (.int (nI 0), mkh X I J) else some (.int (nI 1), mkh X I J) := by
    rw [gX5_hasYears N (d + 2) ht, sX5_hasYears_0 N (d + 2) _ ht, tcY cT, nI_add]
    by_cases r : 999 < T2 6 + n
    · rw [nc_lt r (by omega), if_pos r]
    · rw [nc_nlt (by omega) (by omega), if_neg r]
  by_cases q : 999 < T2 6 + n
  · refine ⟨0, T2, r, hs, gl, dd, I, M, by omega, hS, ?_, FCL_0 _ _, hC, ?_, FRL_0 _, hR⟩
    · rw [gX3_does N (d + 4) ht, sX3_does_0 N (d + 4) _ ht, nc_in (by omega) (by omega), nc_in (by omega) (by omega), nc_in (by omega) (by omega), nc_in (by omega) (by omega), nI_clamp (by omega), a1, nc_ne (by omega) (by omega) (by omega), nc_eq rfl, a2, gX3_doesYears N (d + 2) ht, sX3_doesYears_0 N (d + 2) _ ht, hh, if_pos q, cI_some, kX3_doesYears_0 N (d + 2) _ ht, nc_eq rfl, cI_some, kX3_does_1 N (d + 4), nb_ok (by omega)]
    · rw [gX9_does N (d2 + 6), sX9_does_0 N (d2 + 6), nc_in (by omega) (by omega), nI_clamp (by omega), b1, nc_ne (by omega) (by omega) (by omega), nc_eq rfl, nI_add, nc_in (by omega) (by omega), nI_clamp (by omega), b2, gX9_anyYears N (d2 + 5), sX9_anyYears_0 N (d2 + 5), tm6 rT, nI_add, nc_lt q (by omega), cI_some, kX9_does_1 N (d2 + 6), nb_ok (by omega)]
  · obtain ⟨K1, e1, f1, g1⟩ := c5_passYears (N := N) (d := d + 1) (X := X) (J := J) ht cT hw (n := n) (by omega) (by omega) (by omega)
    have dc := died_cnt hw
    have db := died_bc hw n
    have al := alc_le hw
    have main : ∀ k m, m + k = n → ∀ K, (∀ a, a ≠ 140 → a ≠ 135 → K a = M a) → (∀ j, 157 ≤ j → K 140 j = M 140 j) → (∀ j, j ≠ 40 → K 135 j = M 135 j) → K 135 40 = nI (dd + sm (fun m => pcn (dyS (yrI T2 m))) m) → TM (K 140) (yrT T2 m) → ∃ L, (∀ a, a ≠ 140 → a ≠ 135 → L a = M a) ∧ (∀ j, 157 ≤ j → L 140 j = M 140 j) ∧ (∀ j, j ≠ 40 → L 135 j = M 135 j) ∧ L 135 40 = nI (dd + sm (fun m => pcn (dyS (yrI T2 m))) n) ∧ TM (L 140) (yrT T2 n) ∧ ev (fun z => RX9_anyYears_19 N (d2 + 5) z X2 (nI n) (nI m) K J2) (1 + k) (some (.int (nI 1), mkh X2 L J2)) := by
      intro k
      induction k with
      | zero =>
        intro m hm K x1 x2 x3 x4 x5
        have e : m = n := by omega
        subst e
        refine ⟨K, x1, x2, x3, x4, x5, ev_0 (fun z => ?_)⟩
        rw [sX9_anyYears_19 N (d2 + 5) z, nc_nlt (by omega) (by omega)]
      | succ k ih =>
        intro m hm K x1 x2 x3 x4 x5
        have wm := WF_yr hw (n := m) (by omega)
        obtain ⟨L, e2, f3, c3⟩ := c9_goesYear (N := N) (d := d2 + 4) (X := X2) (J := J2) (I := K) x5 wm (by omega)
        rw [yrT_succ hw] at c3
        rw [show dyS (yrT T2 m) = dyS (yrI T2 m) from dyS_6 _ _] at e2
        have hd : dyS (yrI T2 m) < 2 ^ 6 := orf_lt _ (fun v hv => by
          have := (yrI_wf hw m).1.1.2.1
          unfold dyg
          split
          · exact pw6 (by omega)
          · exact Nat.two_pow_pos 6)
        obtain ⟨Z, z1, z2, z3, z4, z5, z6⟩ := ih (m + 1) (by omega) (u2 L 135 40 (nI (dd + sm (fun m => pcn (dyS (yrI T2 m))) (m + 1)))) (fun a y1 y2 => by rw [u2_na _ _ _ _ _ y2, f3.1 a y1, x1 a y1 y2]) (fun j hj => by rw [u2_na _ _ _ _ _ (by omega), f3.2 j hj, x2 j hj]) (fun j hj => by rw [u2_nk _ _ _ _ _ hj, f3.1 135 (by omega), x3 j hj]) (u2_at _ _ _ _) (by rw [u2_na _ _ _ _ _ (by omega)]; exact c3)
        refine ⟨Z, z1, z2, z3, z4, z5, ev_le (ev_s (fun z => ?_) z6) (by omega)⟩
        rw [sX9_anyYears_19 N (d2 + 5) z, nc_lt (by omega) (by omega), x4, e2, cI_some, kX9_anyYears_0 N (d2 + 5) z, c9_sizeOf (d := d2 + 3) (by omega), cI_some, kX9_anyYears_1 N (d2 + 5) z, nI_add, nI_add, Nat.add_assoc]
        rfl
    have e0 : yrT T2 0 = T2 := by
      funext j
      show up1 T2 6 (T2 6 + 0) j = T2 j
      by_cases r : j = 6
      · rw [r, up1_at]; rfl
      · rw [up1_ne r]
    obtain ⟨L, z1, z2, z3, z4, z5, z6⟩ := main n 0 (by omega) M (fun _ _ _ => rfl) (fun _ _ => rfl) (fun _ _ => rfl) (by rw [r6]; rfl) (by rw [e0]; exact rT)
    have z8 : RX9_anyYears_19 N (d2 + 5) (N + 29) X2 (nI n) (nI 0) M J2 = some (.int (nI 1), mkh X2 L J2) := z6 (N + 29) (by omega)
    have hA : alv T2 &&& nnot (alv (yrI T2 n)) < 64 := Nat.lt_of_le_of_lt Nat.and_le_left (show alv T2 < 2 ^ 6 from bst_lt h1)
    have es : sm (fun m => pcn (dyS (yrI T2 m))) n = pcn (alv T2 &&& nnot (alv (yrI T2 n))) := by have := dc n; omega
    refine ⟨1, yrT T2 n, r, hs, gl, dd + pcn (alv T2 &&& nnot (alv (yrI T2 n))), u2 K1 132 5 (nI (dd + pcn (alv T2 &&& nnot (alv (yrI T2 n))))), L, by omega, ⟨WF_yr hw (by omega), GB_yr hw hg n, fun j hj => by rw [yrT_ag hw n j (by omega) (by omega), hag j hj], hr, hdn, hms, by omega, ?_, ?_⟩, ?_, ⟨fun a y1 y2 => by rw [u2_na _ _ _ _ _ y2]; exact f1 a y1, by rw [u2_nk _ _ _ _ _ (by omega), FC_at ht f1]⟩, ⟨TC_frame (fun a y1 y2 => by rw [u2_na _ _ _ _ _ (by omega)]) g1, by rw [u2_nk _ _ _ _ _ (by omega), FC_at ht f1]; exact c1, by rw [u2_nk _ _ _ _ _ (by omega), FC_at ht f1]; exact c2, by rw [u2_nk _ _ _ _ _ (by omega), FC_at ht f1]; exact c3, by rw [u2_nk _ _ _ _ _ (by omega), FC_at ht f1]; exact c4, u2_at _ _ _ _⟩, ?_, ⟨z1, z2, fun j hj => z3 j (by omega)⟩, ⟨z5, by rw [z3 35 (by omega)]; exact r1, by rw [z3 36 (by omega)]; exact r2, by rw [z3 37 (by omega)]; exact r3, by rw [z3 38 (by omega)]; exact r4, by rw [z3 39 (by omega)]; exact r5, by rw [z4, es]⟩⟩
    · rw [smT_cg (T := T2) (U := yrT T2 n) (yrT_ag hw n 2 (by omega) (by omega)) (fun v hv => yrT_ag hw n _ (by omega) (by omega))]; exact hgl
    · have := alc_6 (yrI T2 n) (T2 6 + n)
      have e6 : alc (yrT T2 n) = alc (yrI T2 n) := this
      omega
    · rw [gX3_does N (d + 4) ht, sX3_does_0 N (d + 4) _ ht, nc_in (by omega) (by omega), nc_in (by omega) (by omega), nc_in (by omega) (by omega), nc_in (by omega) (by omega), nI_clamp (by omega), a1, nc_ne (by omega) (by omega) (by omega), nc_eq rfl, a2, gX3_doesYears N (d + 2) ht, sX3_doesYears_0 N (d + 2) _ ht, hh, if_neg q, cI_some, kX3_doesYears_0 N (d + 2) _ ht, nc_ne (by omega) (by omega) (by omega), c5, e1, cI_some, kX3_doesYears_1 N (d + 2), cJ_bitCount (d := d + 2) hA, cI_some, kX3_doesYears_2 N (d + 2), nI_add, cI_some, kX3_does_1 N (d + 4), nb_ok (by omega)]
    · rw [gX9_does N (d2 + 6), sX9_does_0 N (d2 + 6), nc_in (by omega) (by omega), nI_clamp (by omega), b1, nc_ne (by omega) (by omega) (by omega), nc_eq rfl, nI_add, nc_in (by omega) (by omega), nI_clamp (by omega), b2, gX9_anyYears N (d2 + 5), sX9_anyYears_0 N (d2 + 5), tm6 rT, nI_add, nc_nlt (by omega) (by omega), z8, cI_some, kX9_does_1 N (d2 + 6), nb_ok (by omega)]
