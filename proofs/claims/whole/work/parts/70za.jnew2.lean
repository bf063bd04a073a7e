/-! texts: readsNew and readNew -/
theorem tkn_congr {nm mm : Nat → Int64} {T : Nat → Nat} (h : NM nm mm T) (w : Int64) : tkn nm T w ↔ tkn mm T w := by
  unfold tkn
  rw [fdN_congr (fun i hi => h 0 i (by omega) hi) w, fdN_congr (fun i hi => h 1 i (by omega) hi) w, fdN_congr (fun i hi => h 2 i (by omega) hi) w, fdN_congr (fun i hi => h 3 i (by omega) hi) w]
theorem WF_6 {T : Nat → Nat} (hw : WF T) : ∀ k, k < 4 → T k ≤ 6 := fun k hk => by
  obtain ⟨h0, h1, h2, h3, -⟩ := hw.1
  match k, hk with
  | 0, _ => exact h0
  | 1, _ => exact h1
  | 2, _ => exact h2
  | 3, _ => exact h3
theorem u2_fr {I K : Nat → Nat → Int32} {a k : Nat} {v : Int32} (h : K a = I a) : u2 K a k v a = u2 I a k v a := by
  funext j
  by_cases q : j = k
  · subst q; rw [u2_at, u2_at]
  · rw [u2_nk _ _ _ _ _ q, u2_nk _ _ _ _ _ q, h]
theorem u2_fb {I K : Nat → Nat → Int32} {a b k : Nat} {v : Int32} (h : K b = I b) : u2 K a k v b = u2 I a k v b := by
  by_cases q : b = a
  · subst q; exact u2_fr h
  · rw [u2_na _ _ _ _ _ q, u2_na _ _ _ _ _ q]; exact h
theorem u2L_fr {I K : Nat → Nat → Int64} {a k : Nat} {v : Int64} (h : K a = I a) : u2L K a k v a = u2L I a k v a := by
  funext j
  by_cases q : j = k
  · subst q; rw [u2L_at, u2L_at]
  · rw [u2L_nk _ _ _ _ _ q, u2L_nk _ _ _ _ _ q, h]
theorem zlk_fb {I K : Nat → Nat → Int32} {t c b : Nat} (h : K b = I b) : ∀ s, zlk K t c s b = zlk I t c s b := by
  intro s
  induction s with
  | zero => exact h
  | succ s ih => exact u2_fb ih
theorem adH_fr {I K : Nat → Nat → Int32} {t c : Nat} (h : ∀ b, b ≠ 115 → K b = I b) {a : Nat} (ha : a ≠ 115) (k : Nat) (h5 : K t = I t) : adH K t c k a = adH I t c k a := by
  match k with
  | 0 => exact u2_fb (h a ha)
  | 1 => rw [adH1, adH1, h5]; exact u2_fb (u2_fb (u2_fb (h a ha)))
  | 2 => rw [adH2, adH2]; exact zlk_fb (u2_fb (u2_fb (u2_fb (u2_fb (h a ha))))) 6
  | k + 3 => rw [adH3, adH3]; exact u2_fb (u2_fb (u2_fb (h a ha)))
section
variable {N d e : Nat} {X X2 : lt_X} {f : Nat → Int32} {n q : Nat} {I M : Nat → Nat → Int32} {J L : Nat → Nat → Int64}
theorem new_51 (hn : n ≤ 900) (hB : ∀ k, k < n → isB (f k)) (hN : 10000 ≤ N) (hq : q ≤ n) {k : Nat} (hk : k < 4) {T : Nat → Nat} (hT : ∀ k, k < 4 → T k ≤ 6) (h2 : ∀ k, k < 4 → M 140 (1716 + k) = nI (T k)) (hcc : T k < 6) (H : RT f n q M L) (h : M 135 12 = nI 0) (h19 : L 135 19 = lN (tkW f n q)) (z : Nat) :
    (tkn (fun j => L 142 (96 + j)) T (lN (tkW f n q)) → RX9_readNew_51 N (d + 4) (z + 2) X (nI k) (nI (T k)) M L = some (.int (nI 0), mkh X (flt M 3 (tkS f n q)) L)) ∧
    (¬ tkn (fun j => L 142 (96 + j)) T (lN (tkW f n q)) → ∃ K P, RX9_readNew_51 N (d + 4) (z + 2) X (nI k) (nI (T k)) M L = some (.int (nI (T k)), mkh X K P) ∧ RT f n (tkE f n q) K P ∧ FTM M K ∧ FTL (u2L L 142 (96 + (6 * k + T k)) (lN (tkW f n q))) P) := by
  have t := c9_isTaken (N := N) (d := d + 2) (X := X) (M := M) (L := L) hT h2 (by omega)
  rw [h19] at t
  refine ⟨fun g => ?_, fun g => ?_⟩
  · rw [sX9_readNew_51 N (d + 4) (z + 1), h, nc_eq rfl, t.1 g, cI_some, kX9_readNew_2 N (d + 4), nc_ne (by omega) (by omega) (by omega), H.2.2.2.1, c9_fail0 (d := d + 3) h, cV_some, kX9_readNew_5 N (d + 4), sX9_readNew_74 N (d + 4) z, flt_12, nc_lt (by omega) (by omega)]
  · have := hT k hk
    have H1 : RT f n q M (u2L L 142 (96 + (6 * k + T k)) (lN (tkW f n q))) := RT_a rfl (fun _ _ => rfl) (by rw [u2L_na _ _ _ _ _ (by omega)]) H
    obtain ⟨K, P, a, b⟩ := c9_next (N := N) (d := d + 2) (X := X) hn hB hN hq H1
    refine ⟨K, P, ?_, b⟩
    rw [sX9_readNew_51 N (d + 4) (z + 1), h, nc_eq rfl, t.2 g, cI_some, kX9_readNew_2 N (d + 4), nc_eq rfl, sX9_readNew_74 N (d + 4) z, h, nc_nlt (by omega) (by omega), pk_mul 6 k, nI_add 96 (6 * k), nI_add (96 + 6 * k) (T k), nc_in (by omega) (by omega), nI_clamp (by omega), Nat.add_assoc 96 (6 * k) (T k), h19, a, cV_some, kX9_readNew_3 N (d + 4)]
theorem j_new (hn : n ≤ 900) (hB : ∀ k, k < n → isB (f k)) (hN : 10000 ≤ N) (hX : hsX X) (hW : X.2.2.2.1 = some X.2.2.1) {T : Nat → Nat} {o k : Nat} (hk : k < 4) (H : JS f n X.2.2.1 q T o I J M L) :
    (∃ K Y V P, am_G am_prog (N + 30) (d + 4) 97 [.ref 117, .int (nI k)] (mkh X I J) = some (.int (nI 0), mkh X K Y) ∧ am_G am_prog (N + 30) (e + 5) 243 [.ref 135, .int (nI k)] (mkh X2 M L) = some (.int (nI 0), mkh X2 V P) ∧ FLD f n X.2.2.1 I J M L K Y V P) ∨
    (∃ r w K Y V P, T k < 6 ∧ q ≤ r ∧ r ≤ n ∧ am_G am_prog (N + 30) (d + 4) 97 [.ref 117, .int (nI k)] (mkh X I J) = some (.int (nI 1), mkh X K Y) ∧ am_G am_prog (N + 30) (e + 5) 243 [.ref 135, .int (nI k)] (mkh X2 M L) = some (.int (nI (T k)), mkh X2 V P) ∧ CT f n r K Y ∧ KWS Y ∧ K 115 9 = nI (T k) ∧ (∀ a, a ≠ 115 → K a = adH I X.2.2.1 (T k) k a) ∧ (∀ a, a ≠ 115 → Y a = u2L J (X.2.2.1 + 1) (6 * k + T k) w a) ∧ RT f n r V P ∧ V 135 12 = nI 0 ∧ FTM M V ∧ FTL (u2L L 142 (96 + (6 * k + T k)) w) P ∧ OK5 K) := by
  obtain ⟨hq, ho, hw, hf, hC, hK, hTC, hO, hR, h12, hTM, hO2, hZ, hNM, hOK⟩ := H
  obtain ⟨ht, htt⟩ := hX_T hX
  have h6 := WF_6 hw
  have h6k := h6 k hk
  have c2 : ∀ j, j < 4 → I (X.2.2.1 + 2) j = nI (T j) := hTC.1
  have m2 : ∀ j, j < 4 → M 140 (1716 + j) = nI (T j) := fun j hj => hTM.1 j (by omega)
  have cl : am_G am_prog (N + 30) (d + 4) 97 [.ref 117, .int (nI k)] (mkh X I J) = if T k < 6 then am_cV (am_G am_prog (N + 30) (d + 3) 46 [.ref 115] (mkh X I J)) (KX6_readsNew_1 N (d + 2) (N + 29) (nI k)) else some (.int (nI 0), mkh X (u2 (u2 I 115 10 (nI 6)) 115 11 (nI (tkS f n q))) J) := by
    rw [gX6_readsNew N (d + 2), sX6_readsNew_0 N (d + 2) _ hX hW, c5_isFull (d := d + 2) ht hk h6k (c2 k hk), cI_some, kX6_readsNew_0 N (d + 2) _ hX hW]
    by_cases g : T k < 6
    · rw [if_pos g, nc_eq rfl, if_pos g]
    · rw [if_neg g, nc_ne (by omega) (by omega) (by omega), c4_fail (d := d + 2) hC, cI_some, kX6_readsNew_2 N (d + 2) _ hX hW, nb_ok (by omega), if_neg g]
  by_cases g : T k < 6
  · rw [if_pos g] at cl
    obtain ⟨K, Y, a1, a2, a3, a4, a5⟩ := c4_next (N := N) (d := d + 1) (X := X) hn hB hN hK hq hC
    obtain ⟨V, P, b1, b2, b3, b4, b5⟩ := new_27 (N := N) (d := e) (X := X2) hn hB hN hq hk g hR h12 (m2 k hk)
    rw [a1, cV_some, kX6_readsNew_1 N (d + 2) _ hX hW] at cl
    obtain ⟨r1, r2, r3⟩ := tkE_b f hq
    have rS := (tkS_b f hq).1
    generalize hr : tkE f n q = r at *
    by_cases g2 : tkK f n r = 2
    · rw [if_pos g2] at b5
      have kC : ∀ j, j < 4 → K (X.2.2.1 + 2) j = nI (T j) := fun j hj => by rw [a3.1 _ (by omega)]; exact c2 j hj
      have vC : ∀ j, j < 4 → V 140 (1716 + j) = nI (T j) := fun j hj => by rw [b2.1 _ (by omega)]; exact m2 j hj
      have w19 : P 135 19 = lN (tkW f n r) := (b1.2.2.2.2.2.2.2.2 (Or.inl g2)).2
      have nm : NM (Y (X.2.2.1 + 1)) (fun k => P 142 (96 + k)) T := by
        rw [a4 _ (by omega), b3.1 142 (by omega)]; exact hNM
      obtain ⟨n3, n1⟩ := new_51 (N := N) (d := e) (X := X2) (q := r) hn hB hN r2 hk h6 vC g b1 b4 w19 (N + 26)
      by_cases g3 : tkn (Y (X.2.2.1 + 1)) T (lN (tkW f n r))
      · left
        have cn := c4_newName3 (N := N) (d := d) (X := X) ht a2 h6 kC (by omega) (nI k) g2 g3
        rw [cn, cI_some, kX6_readsNew_3 N (d + 2) _ hX hW, nb_ok (by omega)] at cl
        rw [n3 ((tkn_congr nm _).mp g3)] at b5
        exact ⟨_, _, _, _, cl, b5, FLD_mk (by omega) (by omega) b1 (fun a h1 _ _ => a3.1 a h1) (fun a h1 _ => a4 a h1) (GM_F b2) (GL_F b3)⟩
      · right
        obtain ⟨K2, Y2, e1, e2, e3, e4, e5, e6, e7, e8⟩ := c4_newName1 (N := N) (d := d) (X := X) hn hB a5 r2 ht a2 h6 kC hN hk g g2 g3
        rw [e1, cI_some, kX6_readsNew_3 N (d + 2) _ hX hW, nb_ok (by omega)] at cl
        obtain ⟨V2, P2, f1, f2, f3, f4⟩ := n1 (fun u => g3 ((tkn_congr nm _).mpr u))
        rw [f1] at b5
        obtain ⟨s1, s2, s3⟩ := tkE_b f r2
        have sS := (tkS_b f r2).1
        refine ⟨tkE f n r, lN (tkW f n r), K2, Y2, V2, P2, g, by omega, s2, cl, b5, e2, e3, e4, fun a ha => ?_, fun a ha => ?_, f2, by rw [f3.2 12 (by omega)]; exact b4, FTM_t b2 f3, ?_, by rw [e7, a3.2 10 (by omega)]; exact hOK.1, by rw [e8, a3.2 11 (by omega)]; exact hOK.2⟩
        · rw [e5 a ha]
          exact adH_fr (fun b hb => a3.1 b hb) ha k (a3.1 _ (by omega))
        · rw [e6 a ha]
          by_cases u : a = X.2.2.1 + 1
          · subst u; exact u2L_fr (a4 _ (by omega))
          · rw [u2L_na _ _ _ _ _ u, u2L_na _ _ _ _ _ u]; exact a4 a ha
        · refine FTL_t ⟨fun a ha => ?_, fun j hj => ?_⟩ f4
          · by_cases u : a = 142
            · subst u; exact u2L_fr (b3.1 142 (by omega))
            · rw [u2L_na _ _ _ _ _ u, u2L_na _ _ _ _ _ u]; exact b3.1 a ha
          · rw [u2L_na _ _ _ _ _ (by omega), u2L_na _ _ _ _ _ (by omega)]; exact b3.2 j hj
    · left
      rw [if_neg g2] at b5
      have fb := fkd_b f n r
      rw [c4_newName0 (N := N) (d := d) (X := X) ht a2 (nI k) g2, cI_some, kX6_readsNew_3 N (d + 2) _ hX hW, nb_ok (by omega)] at cl
      exact ⟨_, _, _, _, cl, b5, FLD_mk fb.1 (by omega) b1 (fun a h1 _ _ => a3.1 a h1) (fun a h1 _ => a4 a h1) (GM_F b2) (GL_F b3)⟩
  · left
    rw [if_neg g] at cl
    have c6 : T k = 6 := by omega
    refine ⟨_, _, _, _, cl, c9_new6 (N := N) (d := e) (X := X2) hk hR h12 (by rw [m2 k hk, c6]), FLD_mk (by omega) (by omega) hR (fun _ _ _ _ => rfl) (fun _ _ _ => rfl) (GM_F (FTM_0 _)) (GL_F (FTL_0 _))⟩
end
