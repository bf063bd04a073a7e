/-! texts: a subject, a person, likes -/
section
variable {N d e : Nat} {X X2 : lt_X} {f : Nat → Int32} {n q r : Nat} {I M K V Z V0 : Nat → Nat → Int32} {J L Y P Y0 P0 : Nat → Nat → Int64} {T : Nat → Nat} {o : Nat}
theorem FLD_b {sp : Nat} (H : FLD f n sp I J M L K Y V P) : ∃ b r, 0 < b ∧ b < 100 ∧ V 135 12 = nI b ∧ RT f n r V P := by
  obtain ⟨b, s, p, h1, h2, h3, h4, h5, h6, h7, -⟩ := H
  exact ⟨b, p, h1, by omega, h5, h7⟩
theorem GJ_u {sp k : Nat} {v : Int64} (H : GJ sp J Y) : GJ sp J (u2L Y (sp + 1) k v) := fun b h1 h2 => by rw [u2L_na _ _ _ _ _ h2]; exact H b h1 h2
theorem GL_u {k : Nat} {v : Int64} (h : 96 ≤ k) (H : GL L P) : GL L (u2L P 142 k v) := ⟨fun b h1 h2 => by rw [u2L_na _ _ _ _ _ h2]; exact H.1 b h1 h2, fun j hj => by rw [u2L_nk _ _ _ _ _ (by omega)]; exact H.2.1 j hj, fun j h1 => by rw [u2L_na _ _ _ _ _ (by omega)]; exact H.2.2 j h1⟩
theorem GI_adH {sp c : Nat} (k : Nat) : GI sp I (adH I sp c k) := fun a _ _ h3 => by rw [adH_na h3]
theorem j_subj (hn : n ≤ 900) (hB : ∀ k, k < n → isB (f k)) (hN : 10000 ≤ N) (hX : hsX X) (hW : X.2.2.2.1 = some X.2.2.1) (H : JS f n X.2.2.1 q T o I J M L) (z : Nat) : PO f n X X2 q I J M L (am_cI (am_G am_prog (N + 30) (d + 7) 97 [.ref 117, .int (nI 0)] (mkh X I J)) (KX6_readsPart_1 N (d + 7) z)) (am_G am_prog (N + 30) (e + 9) 247 [.ref 135] (mkh X2 M L)) := by
  have H0 := H
  obtain ⟨hq, ho, hw, hf, hC, hK, hTC, hO, hR, h12, hTM, hO2, hZ, hNM, hOK⟩ := H
  obtain ⟨ht, htt⟩ := hX_T hX
  have rf := gX9_readSubject N (e + 8) (X := X2) M L
  rw [sX9_readSubject_0 N (e + 8)] at rf
  rcases j_new (N := N) (d := d + 3) (e := e + 3) (X2 := X2) hn hB hN hX hW (k := 0) (by omega) H0 with ⟨K, Y, V, P, c1, c2, F⟩ | ⟨r, w, K, Y, V, P, g, q1, q2, c1, c2, m1, m2, m3, m4, m5, v1, v2, v3, v4, ok5⟩
  · obtain ⟨b, p, b0, b1, b2, -⟩ := FLD_b F
    rw [c2, cI_some, kX9_readSubject_0 N (e + 8), b2, nc_ne (by omega) (by omega) (by omega)] at rf
    refine Or.inr ⟨_, _, _, _, ?_, rf, F⟩
    rw [c1, cI_some, kX6_readsPart_1 N (d + 7) _ hX hW, nc_eq rfl]
  · have e0 : V 140 1716 = nI (T 0) := by rw [v3.1 140 (by omega)]; exact hTM.1 0 (by omega)
    rw [c2, cI_some, kX9_readSubject_0 N (e + 8), v2, nc_eq rfl, e0, nI_add] at rf
    have hw2 := WF_sub hw g
    refine PO_z (d := d + 4) (o := o) (U := up1 T 0 (T 0 + 1)) hn hB hN hX hW ho hw2 (frsh_up hw (by omega) hf) (TC_sub hTC hw (fun k hk => ?_) (fun a h1 h2 h3 => u2_na _ _ _ _ _ h1)) ?_ ?_ ?_ ?_ ?_ (GI_adH (c := T 0) 0) (GJ_u (GJ_0 _ _)) (GM_u (k := 1716) (v := nI (T 0 + 1)) (by omega) (GM_0 _)) (GL_u (by omega) (GL_0 _)) ⟨q1, q2, m1, m2, m4, m5, ok5⟩ (vs_u ⟨v1, v2, v3, v4⟩) (by rw [c1, cI_some, kX6_readsPart_1 N (d + 7) _ hX hW, nc_ne (by omega) (by omega) (by omega)]) (fun z K Y hz => ?_) rf
    · show u2 I (X.2.2.1 + 2) 0 (nI (T 0 + 1)) (X.2.2.1 + 2) k = _
      by_cases h : k = 0
      · subst h; rw [u2_at, if_pos rfl]
      · rw [u2_nk _ _ _ _ _ h, if_neg h]
    · show u2 I (X.2.2.1 + 2) 0 (nI (T 0 + 1)) 117 2 = nI o
      rw [u2_na _ _ _ _ _ (by omega)]; exact hO
    · refine TM_mk hTM (fun k hk hc => ?_) (fun k hk => ?_) (fun v a b => absurd (by rw [up1_ne (by omega)] at a; exact a) b) (fun v a b => by rw [up1_ne (by omega)]; omega) (fun p a b => absurd (by rw [up1_ne (by omega)] at a; exact a) b) (fun p a b => absurd (by rw [up1_ne (by omega)] at a; exact a) b) hw2 hw
      · by_cases h : k = 0
        · subst h; rw [up1_at]; exact u2_at _ _ _ _
        · rw [up1_ne h]; show u2 M 140 1716 _ 140 (1716 + k) = _
          rw [u2_nk _ _ _ _ _ (by omega)]; exact hc
      · by_cases h : k = 0
        · subst h; rw [up1_at]; exact u2_at _ _ _ _
        · rw [up1_ne h]; show u2 M 140 1716 _ 140 (1716 + k) = _
          rw [u2_nk _ _ _ _ _ (by omega)]; exact hTM.1 k hk
    · rw [u2_na _ _ _ _ _ (by omega)]; exact hO2
    · refine ZB_up hw ⟨by rw [up1_ne (by omega)]; omega, by rw [up1_ne (by omega)]; omega⟩ ?_ hZ
      intro k hk
      rw [u2_nk _ _ _ _ _ (by omega)]
    · refine NM_add (by omega) g (WF_6 hw) hNM (fun j hj => ?_)
      by_cases h : j = 0
      · subst h; rw [up1_at, if_pos rfl]
      · rw [up1_ne h, if_neg h]
    · rw [kX6_readsPart_7 N (d + 7) _ hX hW]
      rcases hz with rfl | rfl
      · rw [nc_eq rfl]
      · rw [nc_ne (by omega) (by omega) (by omega)]
/-- a person more, with c coins: the cells of both -/
theorem P_facts (htt : X.2.2.1 = 14 ∨ X.2.2.1 = 34) {c : Nat} {w : Int64} (hc : c ≤ 9999) (g : T 2 < 6) (hw : WF T) (hTC : TC I X.2.2.1 T) (hTM : TM (fun k => M 140 (1716 + k)) T) (hZ : ZB (M 140) T) (hNM : NM (J (X.2.2.1 + 1)) (fun k => L 142 (96 + k)) T) :
    TC (u2 (adH I X.2.2.1 (T 2) 2) (X.2.2.1 + 7) (T 2) (nI c)) X.2.2.1 (addP T c) ∧ TM (fun k => u2 (u2 M 140 (1753 + T 2) (nI c)) 140 1718 (nI (T 2 + 1)) 140 (1716 + k)) (addP T c) ∧ ZB (u2 (u2 M 140 (1753 + T 2) (nI c)) 140 1718 (nI (T 2 + 1)) 140) (addP T c) ∧ NM (u2L J (X.2.2.1 + 1) (6 * 2 + T 2) w (X.2.2.1 + 1)) (fun j => u2L L 142 (96 + (6 * 2 + T 2)) w 142 (96 + j)) (addP T c) := by
  have hw2 := WF_addP hw g hc
  generalize X.2.2.1 = t at *
  have e2 : ∀ j, (j ≠ 1718 ∧ j ≠ 1753 + T 2) → u2 (u2 M 140 (1753 + T 2) (nI c)) 140 1718 (nI (T 2 + 1)) 140 j = M 140 j := fun j hj => by rw [u2_nk _ _ _ _ _ hj.1, u2_nk _ _ _ _ _ hj.2]
  have e18 : u2 (u2 M 140 (1753 + T 2) (nI c)) 140 1718 (nI (T 2 + 1)) 140 1718 = nI (T 2 + 1) := u2_at _ _ _ _
  have e53 : u2 (u2 M 140 (1753 + T 2) (nI c)) 140 1718 (nI (T 2 + 1)) 140 (1753 + T 2) = nI c := by rw [u2_nk _ _ _ _ _ (by omega), u2_at]
  generalize u2 (u2 M 140 (1753 + T 2) (nI c)) 140 1718 (nI (T 2 + 1)) = V at *
  obtain ⟨z1, z2, z3⟩ := hZ.2.1 (T 2) (Nat.le_refl _) g
  have tm : ∀ k, k < 157 → (k = 2 ∨ k = 37 + T 2 ∨ k = 43 + T 2 ∨ k = 49 + T 2 ∨ (121 + 6 * T 2 ≤ k ∧ k < 127 + 6 * T 2) ∨ M 140 (1716 + k) = nI (T k)) → V 140 (1716 + k) = nI (addP T c k) := by
    intro k hk h
    by_cases h2 : k = 2
    · subst h2; rw [addP_2]; exact e18
    · by_cases h37 : k = 37 + T 2
      · subst h37; rw [addP_37, show 1716 + (37 + T 2) = 1753 + T 2 by omega]; exact e53
      · rw [e2 _ (by omega)]
        by_cases h43 : k = 43 + T 2 ∨ k = 49 + T 2 ∨ (121 + 6 * T 2 ≤ k ∧ k < 127 + 6 * T 2)
        · rw [addP_43 g h43]
          rcases h43 with h43 | h43 | h43
          · rw [h43, show 1716 + (43 + T 2) = 1759 + T 2 by omega]; exact z1
          · rw [h43, show 1716 + (49 + T 2) = 1765 + T 2 by omega]; exact z2
          · have := z3 (k - (121 + 6 * T 2)) (by omega)
            rw [show 1716 + k = 1837 + 6 * T 2 + (k - (121 + 6 * T 2)) by omega]; exact this
        · rw [addP_ne (by omega) (by omega) (by omega) (by omega) (by omega)]
          rcases h with h | h | h | h | h | h
          · omega
          · omega
          · omega
          · omega
          · omega
          · exact h
  have a1 : ∀ j, j < 37 → j ≠ 2 → addP T c j = T j := fun j a b => addP_ne b (by omega) (by omega) (by omega) (by omega)
  refine ⟨?_, ?_, ?_, ?_⟩
  · have kz : ∀ a, a ≠ t + 2 → a ≠ t + 7 → a ≠ t + 8 → a ≠ t + 9 → a ≠ t + 10 → u2 (adH I t (T 2) 2) (t + 7) (T 2) (nI c) a = I a := fun a h2 h7 h8 h9 h10 => by
      rw [u2_na _ _ _ _ _ h7, adH2, zlk_na h10, u2_na _ _ _ _ _ h9, u2_na _ _ _ _ _ h8, u2_na _ _ _ _ _ h7, u2_na _ _ _ _ _ h2]
    have k2 : u2 (adH I t (T 2) 2) (t + 7) (T 2) (nI c) (t + 2) = u2 I (t + 2) 2 (nI (T 2 + 1)) (t + 2) := by
      rw [u2_na _ _ _ _ _ (by omega), adH2, zlk_na (by omega), u2_na _ _ _ _ _ (by omega), u2_na _ _ _ _ _ (by omega), u2_na _ _ _ _ _ (by omega)]
    have k8 : u2 (adH I t (T 2) 2) (t + 7) (T 2) (nI c) (t + 8) = u2 I (t + 8) (T 2) (nI 0) (t + 8) := by
      rw [u2_na _ _ _ _ _ (by omega), adH2, zlk_na (by omega), u2_na _ _ _ _ _ (by omega)]
      exact u2_fr (by rw [u2_na _ _ _ _ _ (by omega), u2_na _ _ _ _ _ (by omega)])
    have k9 : u2 (adH I t (T 2) 2) (t + 7) (T 2) (nI c) (t + 9) = u2 I (t + 9) (T 2) (nI 0) (t + 9) := by
      rw [u2_na _ _ _ _ _ (by omega), adH2, zlk_na (by omega)]
      exact u2_fr (by rw [u2_na _ _ _ _ _ (by omega), u2_na _ _ _ _ _ (by omega), u2_na _ _ _ _ _ (by omega)])
    have k10 : ∀ j, u2 (adH I t (T 2) 2) (t + 7) (T 2) (nI c) (t + 10) j = if T 2 * 6 ≤ j ∧ j < T 2 * 6 + 6 then nI 0 else I (t + 10) j := fun j => by
      rw [u2_na _ _ _ _ _ (by omega), adH2, zlk_at, u2_na _ _ _ _ _ (by omega), u2_na _ _ _ _ _ (by omega), u2_na _ _ _ _ _ (by omega), u2_na _ _ _ _ _ (by omega)]
    have k7 : ∀ j, j ≠ T 2 → u2 (adH I t (T 2) 2) (t + 7) (T 2) (nI c) (t + 7) j = I (t + 7) j := fun j hj => by
      rw [u2_nk _ _ _ _ _ hj, adH2, zlk_na (by omega), u2_na _ _ _ _ _ (by omega), u2_na _ _ _ _ _ (by omega), u2_nk _ _ _ _ _ hj, u2_na _ _ _ _ _ (by omega)]
    have k77 : u2 (adH I t (T 2) 2) (t + 7) (T 2) (nI c) (t + 7) (T 2) = nI c := u2_at _ _ _ _
    generalize u2 (adH I t (T 2) 2) (t + 7) (T 2) (nI c) = W at *
    refine TC_addP hTC hw g (fun k hk => ?_) k77 (by rw [k8, u2_at]) (by rw [k9, u2_at]) (fun s hs => by rw [k10, if_pos (by omega)]) (fun a h2 h7 h8 h9 h10 _ _ => kz a h2 h7 h8 h9 h10) (fun a p h1 h2 hp => ?_) (fun j hj => by rw [k10, if_neg (by omega)])
    · rw [k2]
      by_cases h : k = 2
      · subst h; rw [u2_at, if_pos rfl]
      · rw [u2_nk _ _ _ _ _ h, if_neg h]
    · have : a = t + 7 ∨ a = t + 8 ∨ a = t + 9 := by omega
      rcases this with h | h | h
      · rw [h]; exact k7 p (by omega)
      · rw [h, k8, u2_nk _ _ _ _ _ (by omega)]
      · rw [h, k9, u2_nk _ _ _ _ _ (by omega)]
  · refine TM_mk hTM (fun k hk h => tm k hk (by simp only [h, or_true])) (fun k hk => tm k (by omega) ?_) (fun v a b => absurd (by rw [a1 1 (by omega) (by omega)] at a; exact a) b) (fun v a b => ?_) (fun p a b => ?_) (fun p a b => absurd (by rw [a1 3 (by omega) (by omega)] at a; exact a) b) hw2 hw
    · have := hTM.1 k hk
      simp only [this, or_true]
    · have h1 := hw.1.2.1
      rw [a1 _ (by omega) (by omega)]; exact Nat.le_refl _
    · rw [addP_2] at a
      have hp : p = T 2 := by omega
      subst hp
      exact ⟨tm _ (by omega) (by omega), tm _ (by omega) (by omega), tm _ (by omega) (by omega), fun s hs => tm _ (by omega) (by omega)⟩
  · refine ZB_up hw ⟨by rw [a1 1 (by omega) (by omega)]; omega, by rw [addP_2]; omega⟩ (fun k hk => e2 k (by omega)) hZ
  · refine NM_add (by omega) g (WF_6 hw) hNM (fun j hj => ?_)
    by_cases h : j = 2
    · subst h; rw [addP_2, if_pos rfl]
    · rw [a1 j (by omega) h, if_neg h]
end
