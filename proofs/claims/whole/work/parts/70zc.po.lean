/-! texts: what a PART's reading comes to; odds -/
theorem nbz {z : Int32} (h : z = nI 0 ∨ z = nI 1) (o : am_O) : am_nb z o = o := by
  rcases h with rfl | rfl <;> exact nb_ok (by omega)
/-- a PART up to its sign: A the class's (with the sign), B the reference's -/
def PO (f : Nat → Int32) (n : Nat) (X X2 : lt_X) (q : Nat) (I : Nat → Nat → Int32) (J : Nat → Nat → Int64) (M : Nat → Nat → Int32) (L : Nat → Nat → Int64) (A B : am_O) : Prop :=
  (∃ r T o K Y V P, q ≤ r ∧ JS f n X.2.2.1 r T o K Y V P ∧ GI X.2.2.1 I K ∧ GJ X.2.2.1 J Y ∧ GM M V ∧ GL L P ∧ B = some (.null, mkh X2 V P) ∧ (tkK f n r = 59 → ∃ K' Y', A = some (.int (nI 1), mkh X K' Y') ∧ CT f n (tkE f n r) K' Y' ∧ FTI K K' ∧ FTJ Y Y' ∧ KWS Y') ∧ (tkK f n r ≠ 59 → A = some (.int (nI 0), mkh X (u2 (u2 K 115 10 (nI (fkd f n r))) 115 11 (nI (tkS f n r))) Y))) ∨
  (∃ K Y V P, A = some (.int (nI 0), mkh X K Y) ∧ B = some (.null, mkh X2 V P) ∧ FLD f n X.2.2.1 I J M L K Y V P)
theorem u2_up {M : Nat → Nat → Int32} {k : Nat} {v : Int32} : (fun j => u2 M 140 (1716 + k) v 140 (1716 + j)) = upd (fun j => M 140 (1716 + j)) k v := funext (fun j => by
  by_cases q : j = k
  · subst q; rw [u2_at]; exact (if_pos rfl).symm
  · rw [u2_nk _ _ _ _ _ (by omega)]; exact (if_neg q).symm)
theorem NM_add {J L : Nat → Nat → Int64} {T U : Nat → Nat} {s k : Nat} {w : Int64} (hk : k < 4) (h6 : T k < 6) (hT : ∀ j, j < 4 → T j ≤ 6) (h : NM (J s) (fun j => L 142 (96 + j)) T) (hU : ∀ j, j < 4 → U j = if j = k then T k + 1 else T j) : NM (u2L J s (6 * k + T k) w s) (fun j => u2L L 142 (96 + (6 * k + T k)) w 142 (96 + j)) U := by
  intro j i hj hi
  rw [hU j hj] at hi
  have h6' := hT j hj
  by_cases q : j = k
  · subst q
    rw [if_pos rfl] at hi
    by_cases g : i = T j
    · subst g; show _ = u2L L 142 (96 + (6 * j + T j)) w 142 (96 + (6 * j + T j)); rw [u2L_at, u2L_at]
    · show _ = u2L L 142 (96 + (6 * j + T j)) w 142 (96 + (6 * j + i))
      rw [u2L_nk _ _ _ _ _ (by omega), u2L_nk _ _ _ _ _ (by omega)]; exact h j i hj (by omega)
  · rw [if_neg q] at hi
    show _ = u2L L 142 (96 + (6 * k + T k)) w 142 (96 + (6 * j + i))
    rw [u2L_nk _ _ _ _ _ (by omega), u2L_nk _ _ _ _ _ (by omega)]; exact h j i hj hi
/-- cells beyond the counts stay -/
theorem ZB_up {c e : Nat → Int32} {T U : Nat → Nat} (hw : WF T) (hU : T 1 ≤ U 1 ∧ T 2 ≤ U 2) (h : ∀ k, (1747 + T 1 ≤ k ∧ k < 1753 ∨ 1759 + T 2 ≤ k ∧ k < 1765 ∨ 1765 + T 2 ≤ k ∧ k < 1771 ∨ 1837 + 6 * T 2 ≤ k ∧ k < 1875) → e k = c k) (H : ZB c T) : ZB e U := by
  have h1 := hw.1.2.1
  have h2 := hw.1.2.2.1
  obtain ⟨a, b, g1, g2⟩ := H
  refine ⟨fun v hv h6 => ?_, fun p hp h6 => ?_, ?_, ?_⟩
  · rw [h _ (by omega)]; exact a v (by omega) h6
  · obtain ⟨b1, b2, b3⟩ := b p (by omega) h6
    refine ⟨by rw [h _ (by omega)]; exact b1, by rw [h _ (by omega)]; exact b2, fun s hs => ?_⟩
    rw [h _ (by omega)]; exact b3 s hs
  · rw [h _ (by omega)]; exact g1
  · rw [h _ (by omega)]; exact g2
section
variable {N d e : Nat} {X X2 : lt_X} {f : Nat → Int32} {n q r : Nat} {I M K V Z V0 : Nat → Nat → Int32} {J L Y P Y0 P0 : Nat → Nat → Int64} {T : Nat → Nat} {o : Nat}
theorem PO_z (hn : n ≤ 900) (hB : ∀ k, k < n → isB (f k)) (hN : 10000 ≤ N) (hX : hsX X) (hW : X.2.2.2.1 = some X.2.2.1) {U : Nat → Nat} (ho : o ≤ 1) (hw : WF U) (hf : frsh U) (hTC : TC Z X.2.2.1 U) (hO : Z 117 2 = nI o) (hTM : TM (fun k => V0 140 (1716 + k)) U) (hO2 : V0 135 24 = nI o) (hZ : ZB (V0 140) U) (hNM : NM (Y0 (X.2.2.1 + 1)) (fun k => P0 142 (96 + k)) U) (gI : GI X.2.2.1 I Z) (gJ : GJ X.2.2.1 J Y0) (gM : GM M V0) (gL : GL L P0) (m : MS f n q r Z Y0 K Y) (v : VS f n r V0 P0 V P) {A B : am_O} {k : Int32 → am_H → am_O} (hA : A = am_cI (am_G am_prog (N + 30) (d + 3) 51 [.ref 115, .int (nI 59)] (mkh X K Y)) k) (hk : ∀ z K Y, (z = nI 0 ∨ z = nI 1) → k z (mkh X K Y) = some (.int z, mkh X K Y)) (hB2 : B = some (.null, mkh X2 V P)) : PO f n X X2 q I J M L A B := by
  obtain ⟨ht, htt⟩ := hX_T hX
  refine Or.inl ⟨r, U, o, K, Y, V, P, m.1, ⟨m.2.1, ho, hw, hf, m.2.2.1, m.2.2.2.1, TC_frame (fun a h1 h2 => m.2.2.2.2.1 a (by omega)) hTC, by rw [m.2.2.2.2.1 117 (by omega)]; exact hO, v.1, v.2.1, ?_, by rw [v.2.2.1.2 24 (by omega)]; exact hO2, ?_, ?_, m.2.2.2.2.2.2⟩, fun a h1 h2 h3 => by rw [m.2.2.2.2.1 a h1]; exact gI a h1 h2 h3, fun a h1 h2 => by rw [m.2.2.2.2.2.1 a h1]; exact gJ a h1 h2, GM_t gM (GM_F v.2.2.1), GL_t gL (GL_F v.2.2.2), hB2, fun h => ?_, fun h => ?_⟩
  · rw [v.2.2.1.1 140 (by omega)]; exact hTM
  · rw [v.2.2.1.1 140 (by omega)]; exact hZ
  · rw [m.2.2.2.2.2.1 _ (by omega), v.2.2.2.1 142 (by omega)]; exact hNM
  · obtain ⟨K', Y', a1, a2, a3, a4, a5⟩ := c4_takes1 (N := N) (d := d) (X := X) hn hB hN m.2.2.2.1 m.2.1 m.2.2.1 h
    refine ⟨K', Y', ?_, a2, a3, a4, a5⟩
    rw [hA, a1, cI_some, hk _ _ _ (Or.inr rfl)]
  · rw [hA, c4_takes0 m.2.2.1 (by omega) h, cI_some, hk _ _ _ (Or.inl rfl)]
theorem PO_c {A B : am_O} {k : Int32 → am_H → am_O} (hk : ∀ z K Y, (z = nI 0 ∨ z = nI 1) → k z (mkh X K Y) = some (.int z, mkh X K Y)) (H : PO f n X X2 q I J M L A B) : PO f n X X2 q I J M L (am_cI A k) B := by
  rcases H with ⟨r, T, o, K, Y, V, P, h1, h2, h3, h4, h5, h6, h7, h8, h9⟩ | ⟨K, Y, V, P, h1, h2, h3⟩
  · refine Or.inl ⟨r, T, o, K, Y, V, P, h1, h2, h3, h4, h5, h6, h7, fun h => ?_, fun h => ?_⟩
    · obtain ⟨K', Y', a1, a2⟩ := h8 h
      exact ⟨K', Y', by rw [a1, cI_some, hk _ _ _ (Or.inr rfl)], a2⟩
    · rw [h9 h, cI_some, hk _ _ _ (Or.inl rfl)]
  · exact Or.inr ⟨K, Y, V, P, by rw [h1, cI_some, hk _ _ _ (Or.inl rfl)], h2, h3⟩
theorem MS_0 (hq : q ≤ n) (hC : CT f n q I J) (hK : KWS J) (hOK : OK5 I) : MS f n q q I J I J := ⟨Nat.le_refl q, hq, hC, hK, fun _ _ => rfl, fun _ _ => rfl, hOK⟩
theorem VS_0 (hR : RT f n q M L) (h12 : M 135 12 = nI 0) : VS f n q M L M L := ⟨hR, h12, FTM_0 M, FTL_0 L⟩
theorem GI_u {sp a k : Nat} {v : Int32} (h : a = 117 ∨ sp ≤ a ∧ a < sp + 14) (H : GI sp I K) : GI sp I (u2 K a k v) := fun b h1 h2 h3 => by rw [u2_na _ _ _ _ _ (by omega)]; exact H b h1 h2 h3
theorem GM_u {k : Nat} {v : Int32} (h : 1716 ≤ k) (H : GM M V) : GM M (u2 V 140 k v) := ⟨fun b h1 h2 => by rw [u2_na _ _ _ _ _ h2]; exact H.1 b h1 h2, fun j hj => by rw [u2_nk _ _ _ _ _ (by omega)]; exact H.2.1 j hj, fun j h1 h2 => by rw [u2_na _ _ _ _ _ (by omega)]; exact H.2.2 j h1 h2⟩
theorem GM_24 {v : Int32} (H : GM M V) : GM M (u2 V 135 24 v) := ⟨fun b h1 h2 => by rw [u2_na _ _ _ _ _ h1]; exact H.1 b h1 h2, fun j hj => by rw [u2_na _ _ _ _ _ (by omega)]; exact H.2.1 j hj, fun j h1 h2 => by rw [u2_nk _ _ _ _ _ h2]; exact H.2.2 j h1 h2⟩
theorem GM_0 (M : Nat → Nat → Int32) : GM M M := GM_F (FTM_0 M)
theorem GL_0 (L : Nat → Nat → Int64) : GL L L := GL_F (FTL_0 L)
theorem GI_0 (sp : Nat) (I : Nat → Nat → Int32) : GI sp I I := fun _ _ _ _ => rfl
theorem GJ_0 (sp : Nat) (J : Nat → Nat → Int64) : GJ sp J J := fun _ _ _ => rfl
theorem j_odds (hn : n ≤ 900) (hB : ∀ k, k < n → isB (f k)) (hN : 10000 ≤ N) (hX : hsX X) (hW : X.2.2.2.1 = some X.2.2.1) (H : JS f n X.2.2.1 q T o I J M L) : PO f n X X2 q I J M L (am_G am_prog (N + 30) (d + 7) 98 [.ref 117] (mkh X I J)) (am_G am_prog (N + 30) (e + 9) 246 [.ref 135] (mkh X2 M L)) := by
  obtain ⟨hq, ho, hw, hf, hC, hK, hTC, hO, hR, h12, hTM, hO2, hZ, hNM, hOK⟩ := H
  obtain ⟨ht, htt⟩ := hX_T hX
  have cl := gX6_readsOdds N (d + 6) (X := X) I J
  rw [sX6_readsOdds_0 N (d + 6) _ hX hW, hO] at cl
  have rf := gX9_readOdds N (e + 8) (X := X2) M L
  rw [sX9_readOdds_0 N (e + 8), hO2] at rf
  rcases Nat.le_one_iff_eq_zero_or_eq_one.mp ho with h0 | h0
  · rw [nc_eq h0] at cl rf
    have m0 : MS f n q q (u2 I 117 2 (nI 1)) J (u2 I 117 2 (nI 1)) J := ms_u (MS_0 hq hC hK hOK) (by omega) (by omega)
    have v0 : VS f n q (u2 M 135 24 (nI 1)) L (u2 M 135 24 (nI 1)) L := VS_0 (RT_o (by omega) (by omega) hR) (by rw [u2_nk _ _ _ _ _ (by omega)]; exact h12)
    obtain ⟨K, Y, a, m1⟩ := zs_next (N := N) (d := d + 4) (X := X) hn hB hN m0
    obtain ⟨V, P, b, v1⟩ := vs_next (N := N) (d := e + 6) (X := X2) hn hB hN hq v0
    rw [a, cV_some, kX6_readsOdds_0 N (d + 6) _ hX hW] at cl
    rw [sX9_readOdds_16 N (e + 8), h12, nc_nlt (by omega) (by omega), b, cV_some, kX9_readOdds_1 N (e + 8)] at rf
    rcases j_num (N := N) (d := d + 3) (e := e + 5) (X := X) (X2 := X2) hn hB hN (lo := 0) (hi := 16) (by omega) (by omega) m1 v1 with ⟨b, s, b0, b8, c1, c2⟩ | ⟨x, K2, Y2, V2, P2, x1, x2, c1, c3, c2, m2, v2⟩
    · rw [c1, cI_some, kX6_readsOdds_2 N (d + 6) _ hX hW, nc_eq rfl] at cl
      rw [c2, cI_some, kX9_readOdds_2 N (e + 8)] at rf
      exact Or.inr ⟨_, _, _, _, cl, rf, FLD_u (by omega) (FLD_z b0 b8 m1 v1 (GI_u (by omega) (GI_0 _ _)) (GJ_0 _ _) (GM_24 (GM_0 _)) (GL_0 _))⟩
    · rw [c1, cI_some, kX6_readsOdds_2 N (d + 6) _ hX hW, nc_ne (by omega) (by omega) (by omega), c3] at cl
      rw [c2, cI_some, kX9_readOdds_2 N (e + 8)] at rf
      refine PO_z (d := d + 3) (o := 1) (U := up1 T 4 x) hn hB hN hX hW (by omega) (WF_odds hw x2) (frsh_up hw (by omega) hf) (TC_odds hw (TC_frame (I := I) (fun a h1 h2 => u2_na _ _ _ _ _ (by omega)) hTC)) ?_ ?_ ?_ ?_ ?_ (GI_u (by omega) (GI_u (by omega) (GI_0 _ _))) (GJ_0 _ _) (GM_u (k := 1720) (v := nI x) (by omega) (GM_24 (GM_0 _))) (GL_0 _) (ms_u m2 (by omega) (by omega)) (vs_u v2) cl (fun z K Y hz => by rw [kX6_readsOdds_3 N (d + 6) _ hX hW, nbz hz]) rf
      · rw [u2_na _ _ _ _ _ (by omega), u2_at]
      · have e := TM_up hw (k := 4) (x := x) (by omega) (by omega) hTM
        rw [← u2_up] at e
        refine TM_congr (WF_odds hw x2) (fun k hk => ?_) e
        exact congrFun (u2_fb (by rw [u2_na _ _ _ _ _ (by omega)])) _
      · rw [u2_na _ _ _ _ _ (by omega), u2_at]
      · refine ZB_up hw ⟨by rw [up1_ne (by omega)]; omega, by rw [up1_ne (by omega)]; omega⟩ ?_ hZ
        intro k hk
        rw [u2_nk _ _ _ _ _ (by omega), u2_na _ _ _ _ _ (by omega)]
      · exact NM_congrT (fun k hk => up1_ne (by omega)) hNM
  · rw [nc_ne (by omega) (by omega) (by omega), c4_fail (d := d + 5) hC, cI_some, kX6_readsOdds_1 N (d + 6) _ hX hW, nb_ok (by omega)] at cl
    rw [nc_ne (by omega) (by omega) (by omega), hR.2.2.2.1, c9_fail0 (d := e + 7) h12, cV_some, kX9_readOdds_0 N (e + 8), sX9_readOdds_16 N (e + 8), flt_12, nc_lt (by omega) (by omega)] at rf
    exact Or.inr ⟨_, _, _, _, cl, rf, FLD_mk (by omega) (by omega) hR (GI_0 _ _) (GJ_0 _ _) (GM_0 _) (GL_0 _)⟩
end
