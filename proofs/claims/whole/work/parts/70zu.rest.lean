/-! texts: dials; a step's rest, all words -/
section
variable {N d e : Nat} {X X2 : lt_X} {f : Nat → Int32} {n q r p s b c : Nat} {I M K V Z V0 V1 Z1 W : Nat → Nat → Int32} {J L Y P Y0 P0 : Nat → Nat → Int64} {T : Nat → Nat}
abbrev isSt (k : Nat) : Prop := k = 113 ∨ k = 114 ∨ k = 115 ∨ k = 116 ∨ k = 117 ∨ k = 118 ∨ k = 119 ∨ k = 120 ∨ k = 124 ∨ k = 126
/-- what a step's rest comes to, up to its sign -/
def RO (f : Nat → Int32) (n q : Nat) (X X2 : lt_X) (N d s p : Nat) (Z : Nat → Nat → Int32) (Y0 : Nat → Nat → Int64) (V0 : Nat → Nat → Int32) (P0 : Nat → Nat → Int64) (Q : (Nat → Nat → Int32) → (Nat → Nat → Int32) → Int32 → Prop) (A B : am_O) : Prop :=
  (∃ Zf K Y W P b c r, 0 < b ∧ b < 8 ∧ A = some (.int (nI 0), mkh X (u2 (u2 K 115 10 (nI b)) 115 11 (nI c)) Y) ∧ B = some (.null, mkh X2 W P) ∧ MS f n q r Zf Y0 K Y ∧ DI p 3 Z Zf ∧ FW f n b c s W P V0 P0) ∨
  (∃ Zf Vf K Y V P r z, A = am_cI (am_G am_prog (N + 30) (d + 5) 51 [.ref 115, .int (nI 59)] (mkh X K Y)) (KX2_readsNext_8 N (d + 5) z) ∧ B = some (.null, mkh X2 V P) ∧ MS f n q r Zf Y0 K Y ∧ VS f n r Vf P0 V P ∧ (∀ a, a ≠ 120 → a ≠ 121 → a ≠ 122 → a ≠ 123 → Zf a = Z a) ∧ (∀ a i, i ≠ p → Zf a i = Z a i) ∧ (∀ a, a ≠ 140 → Vf a = V0 a) ∧ DV s V0 Vf ∧ Q Zf Vf (Zf 123 p))
theorem RO_RR (hn : n ≤ 900) (hB : ∀ k, k < n → isB (f k)) (hN : 10000 ≤ N) (hX : hsX X) (hD : X.2.2.2.2 = some X.2.1) {Q : (Nat → Nat → Int32) → (Nat → Nat → Int32) → Int32 → Prop} {A B : am_O} (hp : p < 60) (z : Nat) (hz : ∀ a i, ¬ (a = 120 ∧ i = p) → Z1 a i = Z a i) (hv : (∀ a, a ≠ 140 → V1 a = V0 a) ∧ ∀ k, k < 1875 + 9 * s → V1 140 k = V0 140 k) (hQ : ∀ Zf Vf num, Q Zf Vf num → Q (u2 Zf 123 p num) Vf num) (hA : A = RX2_readsNext_134 N (d + 5) (z + 1) X (nI p) I J) (H : RR f n q X X2 s p Z1 Y0 V1 P0 Q (am_G am_prog (N + 30) (d + 5) 30 [.ref 118, .int (nI p)] (mkh X I J)) B) : RO f n q X X2 N d s p Z Y0 V0 P0 Q A B := by
  have za : ∀ a, a ≠ 120 → Z1 a = Z a := fun a ha => funext (fun i => hz a i (fun h => ha h.1))
  rw [sX2_readsNext_134 N (d + 5) z hX hD] at hA
  rcases H with ⟨Zf, K, Y, W, P, b, c, r, b0, b8, h1, h2, h3, h4, h5⟩ | ⟨Zf, Vf, K, Y, V, P, r, h1, h2, h3, h4, h5, h6, h7, h8, h9⟩
  · left
    rw [h1, cI_some, kX2_readsNext_3 N (d + 5) _ hX hD, nc_eq rfl] at hA
    refine ⟨Zf, K, Y, W, P, b, c, r, b0, b8, hA, h2, h3, ⟨fun a g1 g2 => by rw [h4.1 a g1 g2, za a (by omega)], fun a i g1 g2 g3 => by rw [h4.2.1 a i g1 g2 g3, hz a i (by omega)], fun i hi => by rw [h4.2.2 i hi, za 125 (by omega)]⟩, h5.1, h5.2.1, h5.2.2.1, ?_, h5.2.2.2.2⟩
    have g := h5.2.2.2.1
    exact ⟨fun a g1 g2 => by rw [g.1 a g1 g2, hv.1 a g2], fun k hk => by rw [g.2.1 k hk, hv.2 k hk], fun k g1 g2 => by rw [g.2.2 k g1 g2, hv.1 135 (by omega)]⟩
  · right
    rw [h1, cI_some, kX2_readsNext_3 N (d + 5) _ hX hD, nc_ne (by omega) (by omega) (by omega), nc_in (by omega) (by omega), nI_clamp (by omega)] at hA
    refine ⟨u2 Zf 123 p (K 115 8), Vf, _, Y, V, P, r, _, hA, h2, ms_u h3 (by omega) (by omega), h4, fun a g1 g2 g3 g4 => by rw [u2_na _ _ _ _ _ g4, h5 a g2 g3, za a g1], fun a i hi => ?_, fun a ha => by rw [h7 a ha, hv.1 a ha], ?_, ?_⟩
    · by_cases g : a = 123
      · subst g; rw [u2_nk _ _ _ _ _ hi, h6 _ i hi, hz _ i (by omega)]
      · rw [u2_na _ _ _ _ _ g, h6 a i hi, hz a i (fun h => hi h.2)]
    · exact ⟨fun a _ g2 => by rw [h7 a g2, hv.1 a g2], fun k hk => by rw [h8 k (by omega), hv.2 k hk], fun k _ _ => by rw [h7 135 (by omega), hv.1 135 (by omega)]⟩
    · rw [u2_at]; exact hQ _ _ _ h9
theorem QS_u (Zf Vf : Nat → Nat → Int32) (num : Int32) (h : QS T s p Zf Vf num) : QS T s p (u2 Zf 123 p num) Vf num := by
  unfold QS at h ⊢
  rw [u2_na _ _ _ _ _ (by omega), u2_na _ _ _ _ _ (by omega), u2_na _ _ _ _ _ (by omega)]; exact h
theorem QB_u (Zf Vf : Nat → Nat → Int32) (num : Int32) (h : QB T s p Zf Vf num) : QB T s p (u2 Zf 123 p num) Vf num := by
  unfold QB at h ⊢
  rw [u2_na _ _ _ _ _ (by omega), u2_na _ _ _ _ _ (by omega), u2_na _ _ _ _ _ (by omega)]; exact h
theorem NZ_t (hX : hsX X) (hz : ∀ a, ¬ (118 ≤ a ∧ a ≤ 125) → Z1 a = Z a) (hv : ∀ k, k < 1875 → V1 140 k = V0 140 k) (H : NZ T X Z V0 Y0 P0) : NZ T X Z1 V1 Y0 P0 := by
  obtain ⟨ht, htt⟩ := hX_H hX
  obtain ⟨z1, z2, z3, z4⟩ := H
  exact ⟨z1, fun k hk => by rw [hz _ (by omega)]; exact z2 k hk, fun k hk => by rw [hv _ (by omega)]; exact z3 k hk, z4⟩
theorem ro_plain (hn : n ≤ 900) (hB : ∀ k, k < n → isB (f k)) (hN : 10000 ≤ N) (hX : hsX X) (hD : X.2.2.2.2 = some X.2.1) {tk : Nat} (hst : isSt tk) (h120 : tk ≠ 120) (h124 : tk ≠ 124) (hp : p < 60) (hs : s < 30) (hI : Z 120 p = nI tk) (hM : V0 140 (1875 + 9 * s) = nI (swK tk)) (hZ : NZ T X Z V0 Y0 P0) (m : MS f n q r Z Y0 I J) (v : VS f n r V0 P0 M L) (z : Nat) : RO f n q X X2 N d s p Z Y0 V0 P0 (QS T s p) (KX2_readsNext_7 N (d + 5) (z + 1) (nI p) (nI tk) (mkh X I J)) (am_G am_prog (N + 30) (e + 8) 255 [.ref 135, .int (nI (1875 + 9 * s))] (mkh X2 M L)) := by
  have hlt : tk < 2 ^ 32 := by unfold isSt at hst; omega
  have hA : KX2_readsNext_7 N (d + 5) (z + 1) (nI p) (nI tk) (mkh X I J) = RX2_readsNext_134 N (d + 5) (z + 1) X (nI p) I J := by rw [kX2_readsNext_7 N (d + 5) _ hX hD, nc_ne h120 hlt (by omega)]
  refine RO_RR (V1 := V0) (Z1 := Z) hn hB hN hX hD hp z (fun _ _ _ => rfl) ⟨fun _ _ => rfl, fun _ _ => rfl⟩ QS_u hA ?_
  unfold isSt at hst
  rcases hst with h | h | h | h | h | h | h | h | h | h
  · rw [h] at hI hM; exact rr_hour hn hB hN hX hD hp hs hI hM m v
  · rw [h] at hI hM; exact rr_year hn hB hN hX hD hp hs hI hM m v
  · rw [h] at hI hM; exact rr_sell hn hB hN hX hD hp hs hI hM hZ m v
  · rw [h] at hI hM; exact rr_give hn hB hN hX hD hp hs hI hM hZ m v
  · rw [h] at hI hM; exact rr_cold hn hB hN hX hD hp hs hI hM hZ m v
  · rw [h] at hI hM; exact rr_well hn hB hN hX hD hp hs hI hM hZ m v
  · rw [h] at hI hM; exact rr_any hn hB hN hX hD hp hs hI hM m v
  · exact absurd h h120
  · exact absurd h h124
  · rw [h] at hI hM; exact rr_stop hn hB hN hX hD hp hs hI hM m v
theorem ro_loop (hn : n ≤ 900) (hB : ∀ k, k < n → isB (f k)) (hN : 10000 ≤ N) (hX : hsX X) (hD : X.2.2.2.2 = some X.2.1) (hp : p < 60) (hs : s < 30) (hI : Z 120 p = nI 124) (hM : V0 140 (1875 + 9 * s) = nI 8) (m : MS f n q r Z Y0 I J) (v : VS f n r V0 P0 M L) (z : Nat) : RO f n q X X2 N d s p Z Y0 V0 P0 (QB T s p) (KX2_readsNext_7 N (d + 5) (z + 1) (nI p) (nI 124) (mkh X I J)) (am_G am_prog (N + 30) (e + 8) 255 [.ref 135, .int (nI (1875 + 9 * s))] (mkh X2 M L)) := by
  have hA : KX2_readsNext_7 N (d + 5) (z + 1) (nI p) (nI 124) (mkh X I J) = RX2_readsNext_134 N (d + 5) (z + 1) X (nI p) I J := by rw [kX2_readsNext_7 N (d + 5) _ hX hD, nc_ne (by omega) (by omega) (by omega)]
  exact RO_RR (V1 := V0) (Z1 := Z) hn hB hN hX hD hp z (fun _ _ _ => rfl) ⟨fun _ _ => rfl, fun _ _ => rfl⟩ QB_u hA (rr_loop hn hB hN hX hD hp hs hI hM m v)
theorem RX9_55 (N d n : Nat) (X : lt_X) (w : Int32) {t : Nat} (ht : t < 3) (I : Nat → Nat → Int32) (J : Nat → Nat → Int64) (hs : s < 30) (h12 : I 135 12 = nI 0) : KX9_readTest_1 N d n (nI (1875 + 9 * s)) (nI t) (mkh X I J) = RX9_readTest_55 N d n X (nI (1875 + 9 * s)) (nI t) (nI (if t = 1 then 1 else 2)) (nI 0) 135 (nI (1876 + 9 * s)) 140 (u2 I 140 (1881 + 9 * s) (nI t)) J := by
  rw [kX9_readTest_1 N d n, w_6, nc_in (by omega) (by omega), h12, nc_nlt (by omega) (by omega), nI_clamp (by omega), w_1]
  by_cases h : t = 1
  · rw [nc_eq h, if_pos h]; rfl
  · rw [nc_ne h (by omega) (by omega), if_neg h]; rfl
theorem ro_when (hn : n ≤ 900) (hB : ∀ k, k < n → isB (f k)) (hN : 10000 ≤ N) (hX : hsX X) (hD : X.2.2.2.2 = some X.2.1) (hp : p < 60) (hs : s < 30) (hM : V0 140 (1875 + 9 * s) = nI 7) (hZ : NZ T X Z V0 Y0 P0) (m : MS f n q r Z Y0 I J) (v : VS f n r V0 P0 M L) (z : Nat) : RO f n q X X2 N d s p Z Y0 V0 P0 (QB T s p) (KX2_readsNext_7 N (d + 5) (z + 1) (nI p) (nI 120) (mkh X I J)) (am_G am_prog (N + 30) (e + 8) 255 [.ref 135, .int (nI (1875 + 9 * s))] (mkh X2 M L)) := by
  have fb := fkd_b f n r
  have hlt := tkK_lt f n r
  obtain ⟨b1, b2⟩ := rest_m (N := N) (e := e) (X2 := X2) (L := L) (kd := 7) hs (show M 140 (1875 + 9 * s) = nI 7 by rw [v.2.2.1.1 140 (by omega)]; exact hM)
  rw [sX9_readRest_0 N (e + 7), nc_in (by omega) (by omega), b2, nc_ne (by omega) (by omega) (by omega), nc_ne (by omega) (by omega) (by omega), nc_ne (by omega) (by omega) (by omega), nc_eq rfl, gX9_readTest N (e + 6), sX9_readTest_0 N (e + 6), c9_testWord (d := e + 4) v.1, cI_some, kX9_readTest_0 N (e + 6)] at b1
  have cl := kX2_readsNext_7 N (d + 5) (z + 1) hX hD (nI p) (nI 120) I J
  rw [nc_eq rfl, gX2_readsTestWord N (d + 4), sX2_readsTestWord_0 N (d + 4) _ hX hD, m.2.2.1.2.2.2.1] at cl
  by_cases k : tkK f n r = 121 ∨ tkK f n r = 122 ∨ tkK f n r = 123
  · have t3 : twK (tkK f n r) < 3 := by
      unfold twK
      rcases k with k | k | k <;> rw [k] <;> decide
    rw [nc_nlt (by omega) (by omega)] at b1
    have m2 := ms_u (a := 120) (k := p) (v := nI (tkK f n r)) m (by omega) (by omega)
    obtain ⟨K, Y, a1, m3⟩ := zs_next (N := N) (d := d + 2) (X := X) hn hB hN m2
    obtain ⟨V, P, c1, c2, c3, c4⟩ := c9_must1 (N := N) (d := e + 3) (X := X2) hn hB hN m.2.1 v.1 v.2.1 (x := nI 1) rfl
    have v3 := vs_t v c2 c3 c4
    have b1' : am_G am_prog (N + 30) (e + 8) 255 [.ref 135, .int (nI (1875 + 9 * s))] (mkh X2 M L) = am_cV (RX9_readTest_15 N (e + 6) (N + 29) X2 (nI (1875 + 9 * s)) (nI (twK (tkK f n r))) (nI 1) 135 M L) (KX9_readRest_3 N (e + 7) (N + 29)) := b1
    rw [sX9_readTest_15 N (e + 6) (N + 28), c1, cV_some, RX9_55 (s := s) N (e + 6) _ X2 (nI 0) t3 V P hs v3.2.1] at b1'
    have v4 := vs_u (k := 1881 + 9 * s) (v := nI (twK (tkK f n r))) v3
    have cl2 : KX2_readsNext_7 N (d + 5) (z + 1) (nI p) (nI 120) (mkh X I J) = am_cI (RX2_readsTestWord_34 N (d + 4) (N + 29) X (nI p) (nI (tkK f n r)) I J) (KX2_readsNext_9 N (d + 5) (z + 1) (nI p)) := by
      rcases k with k | k | k
      · rw [nc_eq k] at cl; exact cl
      · rw [nc_ne (by omega) hlt (by omega), nc_eq k] at cl; exact cl
      · rw [nc_ne (by omega) hlt (by omega), nc_ne (by omega) hlt (by omega), nc_eq k] at cl; exact cl
    rw [sX2_readsTestWord_34 N (d + 4) _ hX hD, nc_in (by omega) (by omega), nI_clamp (by omega), a1, cV_some, kX2_readsTestWord_1 N (d + 4) _ hX hD, cI_some, kX2_readsNext_9 N (d + 5) _ hX hD, nc_ne (by omega) (by omega) (by omega)] at cl2
    rw [b1']
    refine RO_RR (V1 := u2 V0 140 (1881 + 9 * s) (nI (twK (tkK f n r)))) (Z1 := u2 Z 120 p (nI (tkK f n r))) hn hB hN hX hD hp z (fun a i h => ?_) ⟨fun a ha => u2_na _ _ _ _ _ ha, fun j hj => u2_nk _ _ _ _ _ (by omega)⟩ QB_u cl2 (RR_v (fun V P => by rw [kX9_readRest_3 N (e + 7)]) ?_)
    · by_cases g : a = 120
      · subst g; exact u2_nk _ _ _ _ _ (fun h2 => h ⟨rfl, h2⟩)
      · rw [u2_na _ _ _ _ _ g]
    · have hZ2 : NZ T X (u2 Z 120 p (nI (tkK f n r))) (u2 V0 140 (1881 + 9 * s) (nI (twK (tkK f n r)))) Y0 P0 := NZ_t hX (fun a ha => u2_na _ _ _ _ _ (by omega)) (fun j hj => u2_nk _ _ _ _ _ (by omega)) hZ
      have hI2 : u2 Z 120 p (nI (tkK f n r)) 120 p = nI (tkK f n r) := u2_at _ _ _ _
      have hM2 : u2 V0 140 (1881 + 9 * s) (nI (twK (tkK f n r))) 140 (1875 + 9 * s) = nI 7 := by rw [u2_nk _ _ _ _ _ (by omega)]; exact hM
      have hM6 : u2 V0 140 (1881 + 9 * s) (nI (twK (tkK f n r))) 140 (1881 + 9 * s) = nI (twK (tkK f n r)) := u2_at _ _ _ _
      generalize u2 Z 120 p (nI (tkK f n r)) = Z2 at *
      generalize u2 V0 140 (1881 + 9 * s) (nI (twK (tkK f n r))) = V2 at *
      rcases k with k | k | k
      · have e0 : twK (tkK f n r) = 0 := by rw [k]; rfl
        rw [e0] at hM6 v4 ⊢
        rw [k] at hI2
        exact rr_glad hn hB hN hX hD hp hs hI2 hM2 hM6 hZ2 m3 v4 (N + 23)
      · have e0 : twK (tkK f n r) = 1 := by rw [k]; rfl
        rw [e0] at hM6 v4 ⊢
        rw [k] at hI2
        exact rr_lives hn hB hN hX hD hp hs hI2 hM2 hM6 hZ2 m3 v4 (N + 23)
      · have e0 : twK (tkK f n r) = 2 := by rw [k]; rfl
        rw [e0] at hM6 v4 ⊢
        rw [k] at hI2
        exact rr_owns hn hB hN hX hD hp hs hI2 hM2 hM6 hZ2 m3 v4 (N + 23)
  · have tN : twK (tkK f n r) = 4294967295 := by
      unfold twK
      rw [if_neg (by omega), if_neg (by omega), if_neg (by omega)]
    rw [tN, nc_neg rfl] at b1
    have b1' : am_G am_prog (N + 30) (e + 8) 255 [.ref 135, .int (nI (1875 + 9 * s))] (mkh X2 M L) = am_cV (RX9_readTest_15 N (e + 6) (N + 29) X2 (nI (1875 + 9 * s)) (nI 4294967295) (nI 0) 135 M L) (KX9_readRest_3 N (e + 7) (N + 29)) := b1
    have F := FW_v (b := fkd f n r) (c := tkS f n r) v (DV_0 s V0)
    rw [sX9_readTest_15 N (e + 6) (N + 28), c9_must0 (d := e + 3) v.1 v.2.1 rfl, cV_some, kX9_readTest_1 N (e + 6), w_6, nc_in (by omega) (by omega), F.1, nc_lt fb.1 (by omega), nI_clamp (by omega), cV_some, kX9_readRest_3 N (e + 7)] at b1'
    rw [nc_ne (by omega) hlt (by omega), nc_ne (by omega) hlt (by omega), nc_ne (by omega) hlt (by omega), c4_refuses (d := d + 3) m.2.2.1, cI_some, kX2_readsTestWord_0 N (d + 4) _ hX hD, nb_ok (by omega), cI_some, kX2_readsNext_9 N (d + 5) _ hX hD, nc_eq rfl] at cl
    exact Or.inl ⟨_, _, _, _, _, _, _, r, fb.1, by omega, cl, b1', m, DI_0 _ _ _, FW_u (by omega) F⟩
end
