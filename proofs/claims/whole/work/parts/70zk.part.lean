/-! texts: a PART, the loop of parts -/
section
variable {N d e : Nat} {X X2 : lt_X} {f : Nat → Int32} {n q r : Nat} {I M K V Z V0 : Nat → Nat → Int32} {J L Y P Y0 P0 : Nat → Nat → Int64} {T : Nat → Nat} {o b : Nat}
theorem PO_v {A B : am_O} {k : am_H → am_O} (hk : ∀ V P, k (mkh X2 V P) = some (.null, mkh X2 V P)) (H : PO f n X X2 q I J M L A B) : PO f n X X2 q I J M L A (am_cV B k) := by
  rcases H with ⟨r, T, o, K, Y, V, P, h1, h2, h3, h4, h5, h6, h7, h8⟩ | ⟨K, Y, V, P, h1, h2, h3⟩
  · exact Or.inl ⟨r, T, o, K, Y, V, P, h1, h2, h3, h4, h5, h6, by rw [h7, cV_some, hk], h8⟩
  · exact Or.inr ⟨K, Y, V, P, h1, by rw [h2, cV_some, hk], h3⟩
theorem j_part (hn : n ≤ 900) (hB : ∀ k, k < n → isB (f k)) (hN : 10000 ≤ N) (hX : hsX X) (hW : X.2.2.2.1 = some X.2.2.1) (H : JS f n X.2.2.1 q T o I J M L) : PO f n X X2 q I J M L (am_G am_prog (N + 30) (d + 8) 96 [.ref 117] (mkh X I J)) (am_G am_prog (N + 30) (e + 10) 252 [.ref 135] (mkh X2 M L)) := by
  have hC := H.2.2.2.2.1
  have hR := H.2.2.2.2.2.2.2.2.1
  have h12 := H.2.2.2.2.2.2.2.2.2.1
  have hlt := tkK_lt f n q
  have fb := fkd_b f n q
  rw [gX6_readsPart N (d + 7), sX6_readsPart_0 N (d + 7) _ hX hW, hC.2.2.2.1, gX9_readPart N (e + 9), sX9_readPart_0 N (e + 9), c9_isOdds (d := e + 7) hR, cI_some, kX9_readPart_0 N (e + 9), nc_10]
  by_cases k0 : tkK f n q = 100
  · rw [nc_eq k0, if_pos k0]
    exact PO_v (fun V P => by rw [kX9_readPart_2 N (e + 9)]) (PO_c (fun z K Y hz => by rw [kX6_readsPart_0 N (d + 7) _ hX hW, nbz hz]) (j_odds hn hB hN hX hW H))
  rw [nc_ne k0 hlt (by omega), if_neg k0, c9_isSubject (d := e + 7) hR, cI_some, kX9_readPart_1 N (e + 9), nc_10]
  by_cases k1 : tkK f n q = 101
  · rw [nc_eq k1, if_pos k1]
    exact PO_v (fun V P => by rw [kX9_readPart_4 N (e + 9)]) (j_subj hn hB hN hX hW H _)
  rw [nc_ne k1 hlt (by omega), if_neg k1, c9_isVoice (d := e + 7) hR, cI_some, kX9_readPart_3 N (e + 9), nc_10]
  by_cases k2 : tkK f n q = 102
  · rw [nc_eq k2, if_pos k2]
    exact PO_v (fun V P => by rw [kX9_readPart_6 N (e + 9)]) (j_voice hn hB hN hX hW H _)
  rw [nc_ne k2 hlt (by omega), if_neg k2, c9_isPerson (d := e + 7) hR, cI_some, kX9_readPart_5 N (e + 9), nc_10]
  have bad : ∀ {A B : am_O}, A = am_cI (am_G am_prog (N + 30) (d + 7) 50 [.ref 115] (mkh X I J)) (KX6_readsPart_3 N (d + 7) (N + 29)) → B = am_cV (am_G am_prog (N + 30) (e + 9) 230 [.ref 135] (mkh X2 M L)) (KX9_readPart_11 N (e + 9) (N + 29)) → PO f n X X2 q I J M L A B := by
    intro A B hA hB2
    rw [c4_refuses (d := d + 6) hC, cI_some, kX6_readsPart_3 N (d + 7) _ hX hW, nb_ok (by omega)] at hA
    rw [c9_amiss0 (d := e + 7) hR h12, cV_some, kX9_readPart_11 N (e + 9)] at hB2
    exact Or.inr ⟨_, _, _, _, hA, hB2, FLD_mk fb.1 (by omega) hR (GI_0 _ _) (GJ_0 _ _) (GM_0 _) (GL_0 _)⟩
  by_cases k6 : tkK f n q = 106
  · rw [nc_ne (by omega) hlt (by omega), nc_ne (by omega) hlt (by omega), nc_ne (by omega) hlt (by omega), nc_eq k6, if_pos k6]
    exact PO_v (fun V P => by rw [kX9_readPart_8 N (e + 9)]) (j_pers hn hB hN hX hW H _)
  rw [if_neg k6, c9_isLikes (d := e + 7) hR, cI_some, kX9_readPart_7 N (e + 9), nc_10]
  by_cases k8 : tkK f n q = 108
  · rw [nc_ne (by omega) hlt (by omega), nc_ne (by omega) hlt (by omega), nc_ne (by omega) hlt (by omega), nc_ne (by omega) hlt (by omega), nc_ne (by omega) hlt (by omega), nc_eq k8, if_pos k8]
    exact PO_v (fun V P => by rw [kX9_readPart_10 N (e + 9)]) (PO_c (fun z K Y hz => by rw [kX6_readsPart_5 N (d + 7) _ hX hW, nbz hz]) (j_likes hn hB hN hX hW H))
  rw [if_neg k8, c9_isSet (d := e + 7) hR, cI_some, kX9_readPart_9 N (e + 9), nc_10]
  by_cases k9 : tkK f n q = 109
  · rw [nc_ne (by omega) hlt (by omega), nc_ne (by omega) hlt (by omega), nc_ne (by omega) hlt (by omega), nc_ne (by omega) hlt (by omega), nc_ne (by omega) hlt (by omega), nc_ne (by omega) hlt (by omega), nc_eq k9, if_pos k9]
    exact PO_v (fun V P => by rw [kX9_readPart_12 N (e + 9)]) (j_set hn hB hN hX hW H _)
  rw [if_neg k9]
  refine bad ?_ rfl
  rw [nc_ne k6 hlt (by omega), nc_ne k8 hlt (by omega), nc_ne k9 hlt (by omega), ite_self, ite_self, ite_self, ite_self]
/-- behind the loop of parts -/
def LO (f : Nat → Int32) (n : Nat) (N D : Nat) (X X2 : lt_X) (I : Nat → Nat → Int32) (J : Nat → Nat → Int64) (M : Nat → Nat → Int32) (L : Nat → Nat → Int64) (A B : am_O) : Prop :=
  (∃ r T o K Y V P z, JS f n X.2.2.1 r T o K Y V P ∧ GI X.2.2.1 I K ∧ GJ X.2.2.1 J Y ∧ GM M V ∧ GL L P ∧ A = some (.int (nI 1), mkh X K Y) ∧ B = RX9_town_64 N D (z + 1) X2 V P) ∨
  (∃ K Y V P z, A = some (.int (nI 0), mkh X K Y) ∧ B = RX9_town_64 N D (z + 1) X2 V P ∧ FLD f n X.2.2.1 I J M L K Y V P)
theorem FLD_t {sp : Nat} {K0 M0 V : Nat → Nat → Int32} {Y0 L0 P : Nat → Nat → Int64} (gI : GI sp I K0) (gJ : GJ sp J Y0) (gM : GM M M0) (gL : GL L L0) (H : FLD f n sp K0 Y0 M0 L0 K Y V P) : FLD f n sp I J M L K Y V P := by
  obtain ⟨b, s, r, h1, h2, h3, h4, h5, h6, h7, h8, h9, h10, h11⟩ := H
  exact ⟨b, s, r, h1, h2, h3, h4, h5, h6, h7, GI_t gI h8, GJ_t gJ h9, GM_t gM h10, GL_t gL h11⟩
theorem rk_0 (f : Nat → Int32) (n q : Nat) : rk (tkK f n q) = 0 ↔ tkK f n q = 0 := by
  rcases rk_or f n q with ⟨r, c⟩ | ⟨r, c⟩ | ⟨r, c⟩ | ⟨r, c⟩ | ⟨r, c⟩ <;> omega
theorem tkE_s {p : Nat} (hp : p ≤ n) (h : tkK f n p ≠ 0) : p < tkE f n p := by
  have a := tkE_b f hp
  have b := (tkS_b f hp).1
  have c := tkK_or f n p
  by_cases g : tkS f n p < n
  · have := a.2.2 g; omega
  · exfalso; omega
theorem j_parts (hn : n ≤ 900) (hB : ∀ k, k < n → isB (f k)) (hN : 10000 ≤ N) (hX : hsX X) (hW : X.2.2.2.1 = some X.2.2.1) : ∀ m q, q ≤ n → n - q ≤ m → ∀ {T : Nat → Nat} {o : Nat} {I M : Nat → Nat → Int32} {J L : Nat → Nat → Int64} i, i ≤ q → JS f n X.2.2.1 q T o I J M L → ∀ z z2, LO f n N (e + 10) X X2 I J M L (RX6_readsInto_19 N (d + 8) (z + m + 1) X (nI i) I J) (RX9_town_33 N (e + 10) (z2 + m + 3) X2 M L) := by
  obtain ⟨ht, htt⟩ := hX_T hX
  intro m
  induction m with
  | zero =>
    intro q hq hm T o I M J L i hi H z z2
    have hC := H.2.2.2.2.1
    have hR := H.2.2.2.2.2.2.2.2.1
    have h12 := H.2.2.2.2.2.2.2.2.2.1
    have k0 : tkK f n q = 0 := by
      by_cases g : tkK f n q = 0
      · exact g
      · have := tkE_s hq g
        have := (tkE_b f hq).2.1
        omega
    left
    refine ⟨q, T, o, I, J, M, L, z2 + 1, H, GI_0 _ _, GJ_0 _ _, GM_0 _, GL_0 _, ?_, ?_⟩
    · rw [sX6_readsInto_19 N (d + 8) (z + 0) hX, nc_nlt (by omega) (by omega), hC.2.2.2.1, nc_eq k0]
    · rw [sX9_town_33 N (e + 10) (z2 + 0 + 2), h12, nc_eq rfl, hR.2.2.2.2.1, nc_eq ((rk_0 f n q).mpr k0)]
  | succ m ih =>
    intro q hq hm T o I M J L i hi H z z2
    have hC := H.2.2.2.2.1
    have hR := H.2.2.2.2.2.2.2.2.1
    have h12 := H.2.2.2.2.2.2.2.2.2.1
    have cl := sX6_readsInto_19 N (d + 8) (z + (m + 1)) hX (nI i) I J
    have rf := sX9_town_33 N (e + 10) (z2 + (m + 1) + 2) (X := X2) M L
    rw [nc_nlt (by omega) (by omega), hC.2.2.2.1] at cl
    rw [h12, nc_eq rfl, hR.2.2.2.2.1] at rf
    by_cases k0 : tkK f n q = 0
    · rw [nc_eq k0] at cl
      rw [nc_eq ((rk_0 f n q).mpr k0)] at rf
      exact Or.inl ⟨q, T, o, I, J, M, L, z2 + (m + 1) + 1, H, GI_0 _ _, GJ_0 _ _, GM_0 _, GL_0 _, cl, rf⟩
    · have rk0 : rk (tkK f n q) ≠ 0 := fun h => k0 ((rk_0 f n q).mp h)
      have rk4 : rk (tkK f n q) < 5 := by rcases rk_or f n q with ⟨r, c⟩ | ⟨r, c⟩ | ⟨r, c⟩ | ⟨r, c⟩ | ⟨r, c⟩ <;> omega
      rw [nc_ne k0 (tkK_lt f n q) (by omega)] at cl
      rw [nc_ne rk0 (by omega) (by omega)] at rf
      rcases j_part (N := N) (d := d) (e := e) (X2 := X2) hn hB hN hX hW H with ⟨r, U, p, K, Y, V, P, g1, S, gI, gJ, gM, gL, b1, a1, a2⟩ | ⟨K, Y, V, P, a1, b1, F⟩
      · have sR := S.2.2.2.2.2.2.2.2.1
        have s12 := S.2.2.2.2.2.2.2.2.2.1
        have fb := fkd_b f n r
        rw [b1, cV_some, kX9_town_1 N (e + 10), c9_isSign (d := e + 9) sR (by omega) (by omega), cI_some, kX9_town_4 N (e + 10)] at rf
        by_cases h59 : tkK f n r = 59
        · obtain ⟨K', Y', c1, c2, c3, c4, c5⟩ := a1 h59
          obtain ⟨V', P', d1, d2, d3, d4⟩ := c9_must1 (N := N) (d := e + 7) (X := X2) hn hB hN S.1 sR s12 (x := nI (if tkK f n r = 59 then 1 else 0)) (by rw [if_pos h59])
          have hr := tkE_s (f := f) S.1 (by omega)
          have hr2 := (tkE_b f S.1).2.1
          obtain ⟨S1, S2, S3, S4, S5, S6, S7, S8, S9, S10, S11, S12, S13, S14, S15⟩ := S
          have S' : JS f n X.2.2.1 (tkE f n r) U p K' Y' V' P' := by
            refine ⟨hr2, S2, S3, S4, c2, c5, TC_frame (fun a h1 h2 => c3.1 a (by omega)) S7, by rw [c3.1 117 (by omega)]; exact S8, d2, by rw [d3.2 12 (by omega)]; exact S10, by rw [d3.1 140 (by omega)]; exact S11, by rw [d3.2 24 (by omega)]; exact S12, by rw [d3.1 140 (by omega)]; exact S13, ?_, by rw [c3.2 10 (by omega)]; exact S15.1, by rw [c3.2 11 (by omega)]; exact S15.2⟩
            rw [c4 _ (by omega), d4.1 142 (by omega)]; exact S14
          rw [c1, cI_some, kX6_readsInto_1 N (d + 8) _ hX, nc_ne (by omega) (by omega) (by omega), nI_add i 1] at cl
          rw [d1, cV_some, kX9_town_6 N (e + 10)] at rf
          have gI' : GI X.2.2.1 I K' := fun a h1 h2 h3 => by rw [c3.1 a h1]; exact gI a h1 h2 h3
          have gJ' : GJ X.2.2.1 J Y' := fun a h1 h2 => by rw [c4 a h1]; exact gJ a h1 h2
          have gM' := GM_t gM (GM_F d3)
          have gL' := GL_t gL (GL_F d4)
          have R := ih (tkE f n r) hr2 (by omega) (i + 1) (by omega) S' z z2
          rw [show z + (m + 1) = z + m + 1 by omega] at cl
          rw [show z2 + (m + 1) + 2 = z2 + m + 3 by omega] at rf
          rw [show z + (m + 1) + 1 = z + m + 1 + 1 by omega, show z2 + (m + 1) + 3 = z2 + m + 3 + 1 by omega, cl, rf]
          rcases R with ⟨r', T', o', K2, Y2, V2, P2, z3, e1, e2, e3, e4, e5, e6⟩ | ⟨K2, Y2, V2, P2, z3, e1, e2, e3⟩
          · exact Or.inl ⟨r', T', o', K2, Y2, V2, P2, z3, e1, GI_t gI' e2, GJ_t gJ' e3, GM_t gM' e4, GL_t gL' e5, e6⟩
          · exact Or.inr ⟨K2, Y2, V2, P2, z3, e1, e2, FLD_t gI' gJ' gM' gL' e3⟩
        · right
          have f12 := flt_12 V (fkd f n r) (tkS f n r)
          rw [a2 h59, cI_some, kX6_readsInto_1 N (d + 8) _ hX, nc_eq rfl] at cl
          rw [c9_must0 (d := e + 7) sR s12 (by rw [if_neg h59]), cV_some, kX9_town_6 N (e + 10), show z2 + (m + 1) + 2 = z2 + m + 2 + 1 by omega, sX9_town_33 N (e + 10) (z2 + m + 2), f12, nc_ne (by omega) (by omega) (by omega)] at rf
          refine ⟨_, _, _, _, z2 + m + 1, cl, ?_, FLD_mk fb.1 (by omega) sR gI gJ gM gL⟩
          rw [show z2 + (m + 1) + 3 = z2 + m + 2 + 1 + 1 by omega]
          exact rf
      · right
        obtain ⟨b, p, b0, b8, b2, b3⟩ := FLD_b F
        rw [a1, cI_some, kX6_readsInto_1 N (d + 8) _ hX, nc_eq rfl] at cl
        rw [b1, cV_some, kX9_town_1 N (e + 10), c9_isSign (d := e + 9) b3 (by omega) (by omega), cI_some, kX9_town_4 N (e + 10), c9_mustb (d := e + 9) b2 b0 b8, cV_some, kX9_town_6 N (e + 10), show z2 + (m + 1) + 2 = z2 + m + 2 + 1 by omega, sX9_town_33 N (e + 10) (z2 + m + 2), b2, nc_ne (by omega) (by omega) (by omega)] at rf
        refine ⟨_, _, _, _, z2 + m + 1, cl, ?_, F⟩
        rw [show z2 + (m + 1) + 3 = z2 + m + 2 + 1 + 1 by omega]
        exact rf
end
