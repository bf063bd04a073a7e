/-! texts: a set -/
section
variable {N d e : Nat} {X X2 : lt_X} {f : Nat → Int32} {n q r : Nat} {I M K V Z V0 : Nat → Nat → Int32} {J L Y P Y0 P0 : Nat → Nat → Int64} {T : Nat → Nat} {o : Nat}
/-- a set more, as the class has it -/
def zSet (I : Nat → Nat → Int32) (t c v fl : Nat) : Nat → Nat → Int32 := u2 (u2 (adH I t c 3) (t + 11) c (nI v)) (t + 12) c (nI fl)
def vSet (M : Nat → Nat → Int32) (c v fl ow : Nat) : Nat → Nat → Int32 := u2 (u2 (u2 (u2 M 140 (1771 + c) (nI v)) 140 (1777 + c) (nI fl)) 140 (1783 + c) (nI ow)) 140 1719 (nI (c + 1))
theorem zSet_na {t c v fl a : Nat} (h2 : a ≠ t + 2) (h11 : a ≠ t + 11) (h12 : a ≠ t + 12) (h13 : a ≠ t + 13) : zSet I t c v fl a = I a := by
  unfold zSet
  rw [u2_na _ _ _ _ _ h12, u2_na _ _ _ _ _ h11, adH3 I t c 0, u2_na _ _ _ _ _ h13, u2_na _ _ _ _ _ h12, u2_na _ _ _ _ _ h2]
theorem zSet_at {t c v fl : Nat} : zSet I t c v fl (t + 2) = u2 I (t + 2) 3 (nI (c + 1)) (t + 2) ∧ zSet I t c v fl (t + 11) = u2 I (t + 11) c (nI v) (t + 11) ∧ (∀ j, j ≠ c → zSet I t c v fl (t + 12) j = I (t + 12) j) ∧ zSet I t c v fl (t + 12) c = nI fl ∧ zSet I t c v fl (t + 13) = u2 I (t + 13) c (-1) (t + 13) := by
  unfold zSet
  refine ⟨?_, ?_, fun j hj => ?_, u2_at _ _ _ _, ?_⟩
  · rw [u2_na _ _ _ _ _ (by omega), u2_na _ _ _ _ _ (by omega), adH3 I t c 0, u2_na _ _ _ _ _ (by omega), u2_na _ _ _ _ _ (by omega)]
  · rw [u2_na _ _ _ _ _ (by omega)]
    exact u2_fr (by rw [adH3 I t c 0, u2_na _ _ _ _ _ (by omega), u2_na _ _ _ _ _ (by omega), u2_na _ _ _ _ _ (by omega)])
  · rw [u2_nk _ _ _ _ _ hj, u2_na _ _ _ _ _ (by omega), adH3 I t c 0, u2_na _ _ _ _ _ (by omega), u2_nk _ _ _ _ _ hj, u2_na _ _ _ _ _ (by omega)]
  · rw [u2_na _ _ _ _ _ (by omega), u2_na _ _ _ _ _ (by omega), adH3 I t c 0]
    exact u2_fr (by rw [u2_na _ _ _ _ _ (by omega), u2_na _ _ _ _ _ (by omega)])
theorem S_facts {t : Nat} {v fl ow : Nat} {w : Int64} (hv : v < T 1) (hfl : fl < T 1 ∨ fl = 4294967295) (how : ow < T 2 ∨ ow = 4294967295) (g : T 3 < 6) (hw : WF T) (hTC : TC I t T) (hTM : TM (fun k => M 140 (1716 + k)) T) (hZ : ZB (M 140) T) (hNM : NM (J (t + 1)) (fun k => L 142 (96 + k)) T) :
    TC (u2 (zSet I t (T 3) v fl) (t + 13) (T 3) (nI ow)) t (addS T v fl ow) ∧ TM (fun k => vSet M (T 3) v fl ow 140 (1716 + k)) (addS T v fl ow) ∧ ZB (vSet M (T 3) v fl ow 140) (addS T v fl ow) ∧ NM (u2L J (t + 1) (6 * 3 + T 3) w (t + 1)) (fun j => u2L L 142 (96 + (6 * 3 + T 3)) w 142 (96 + j)) (addS T v fl ow) := by
  have hw2 := WF_addS hw g hv hfl how
  obtain ⟨s3, s55, s61, s67⟩ := addS_at g v fl ow
  have a1 : ∀ j, (j < 55 ∨ 73 ≤ j) → j ≠ 3 → addS T v fl ow j = T j := fun j x y => addS_ne y (by omega) (by omega) (by omega)
  obtain ⟨z2, z11, z12, z12c, z13⟩ := zSet_at (I := I) (t := t) (c := T 3) (v := v) (fl := fl)
  have zna := fun a h2 h11 h12 h13 => zSet_na (I := I) (t := t) (c := T 3) (v := v) (fl := fl) (a := a) h2 h11 h12 h13
  have e2 : ∀ j, (j ≠ 1719 ∧ j ≠ 1771 + T 3 ∧ j ≠ 1777 + T 3 ∧ j ≠ 1783 + T 3) → vSet M (T 3) v fl ow 140 j = M 140 j := fun j hj => by
    unfold vSet
    rw [u2_nk _ _ _ _ _ hj.1, u2_nk _ _ _ _ _ hj.2.2.2, u2_nk _ _ _ _ _ hj.2.2.1, u2_nk _ _ _ _ _ hj.2.1]
  have e3 : vSet M (T 3) v fl ow 140 1719 = nI (T 3 + 1) := u2_at _ _ _ _
  have e4 : vSet M (T 3) v fl ow 140 (1771 + T 3) = nI v ∧ vSet M (T 3) v fl ow 140 (1777 + T 3) = nI fl ∧ vSet M (T 3) v fl ow 140 (1783 + T 3) = nI ow := by
    unfold vSet
    refine ⟨?_, ?_, ?_⟩
    · rw [u2_nk _ _ _ _ _ (by omega), u2_nk _ _ _ _ _ (by omega), u2_nk _ _ _ _ _ (by omega), u2_at]
    · rw [u2_nk _ _ _ _ _ (by omega), u2_nk _ _ _ _ _ (by omega), u2_at]
    · rw [u2_nk _ _ _ _ _ (by omega), u2_at]
  obtain ⟨e5, e6, e7⟩ := e4
  generalize vSet M (T 3) v fl ow = V at *
  generalize zSet I t (T 3) v fl = W at *
  have tm : ∀ k, k < 157 → (k = 3 ∨ k = 55 + T 3 ∨ k = 61 + T 3 ∨ k = 67 + T 3 ∨ M 140 (1716 + k) = nI (T k)) → V 140 (1716 + k) = nI (addS T v fl ow k) := by
    intro k hk h
    by_cases h3 : k = 3
    · subst h3; rw [s3]; exact e3
    · by_cases h55 : k = 55 + T 3
      · rw [h55, s55, show 1716 + (55 + T 3) = 1771 + T 3 by omega]; exact e5
      · by_cases h61 : k = 61 + T 3
        · rw [h61, s61, show 1716 + (61 + T 3) = 1777 + T 3 by omega]; exact e6
        · by_cases h67 : k = 67 + T 3
          · rw [h67, s67, show 1716 + (67 + T 3) = 1783 + T 3 by omega]; exact e7
          · rw [e2 _ (by omega), addS_ne h3 h55 h61 h67]
            rcases h with h | h | h | h | h
            · exact absurd h h3
            · exact absurd h h55
            · exact absurd h h61
            · exact absurd h h67
            · exact h
  refine ⟨?_, ?_, ?_, ?_⟩
  · refine TC_addS hTC hw g (fun k hk => ?_) ?_ ?_ (u2_at _ _ _ _) (fun a h2 h3 h4 => ?_) (fun a p h1 h2 hp => ?_)
    · rw [u2_na _ _ _ _ _ (by omega), z2]
      by_cases h : k = 3
      · subst h; rw [u2_at, if_pos rfl]
      · rw [u2_nk _ _ _ _ _ h, if_neg h]
    · rw [u2_na _ _ _ _ _ (by omega), z11, u2_at]
    · rw [u2_na _ _ _ _ _ (by omega), z12c]
    · rw [u2_na _ _ _ _ _ (by omega)]; exact zna a h2 (by omega) (by omega) (by omega)
    · have : a = t + 11 ∨ a = t + 12 ∨ a = t + 13 := by omega
      rcases this with h | h | h
      · rw [h, u2_na _ _ _ _ _ (by omega), z11, u2_nk _ _ _ _ _ (by omega)]
      · rw [h, u2_na _ _ _ _ _ (by omega), z12 _ (by omega)]
      · rw [h, u2_nk _ _ _ _ _ (by omega), z13, u2_nk _ _ _ _ _ (by omega)]
  · refine TM_mk hTM (fun k hk h => tm k hk (by simp only [h, or_true])) (fun k hk => tm k (by omega) ?_) (fun v a b => absurd (by rw [a1 1 (by omega) (by omega)] at a; exact a) b) (fun v a b => ?_) (fun p a b => absurd (by rw [a1 2 (by omega) (by omega)] at a; exact a) b) (fun p a b => ?_) hw2 hw
    · have := hTM.1 k hk
      simp only [this, or_true]
    · have h1 := hw.1.2.1
      rw [a1 _ (by omega) (by omega)]; exact Nat.le_refl _
    · rw [s3] at a
      have hp : p = T 3 := by omega
      subst hp
      exact ⟨tm _ (by omega) (by omega), tm _ (by omega) (by omega), tm _ (by omega) (by omega)⟩
  · refine ZB_up hw ⟨by rw [a1 1 (by omega) (by omega)]; omega, by rw [a1 2 (by omega) (by omega)]; omega⟩ (fun k hk => e2 k (by omega)) hZ
  · refine NM_add (by omega) g (WF_6 hw) hNM (fun j hj => ?_)
    by_cases h : j = 3
    · subst h; rw [s3, if_pos rfl]
    · rw [a1 j (by omega) h, if_neg h]
theorem j_set67 (hn : n ≤ 900) (hB : ∀ k, k < n → isB (f k)) (hN : 10000 ≤ N) (hX : hsX X) (hW : X.2.2.2.1 = some X.2.2.1) (H : JS f n X.2.2.1 q T o I J M L) (g : T 3 < 6) {v fl : Nat} {w : Int64} (hv : v < T 1) (hfl : fl < T 1 ∨ fl = 4294967295) (ms : MS f n q r (zSet I X.2.2.1 (T 3) v fl) (u2L J (X.2.2.1 + 1) (6 * 3 + T 3) w) K Y) (vs : VS f n r M (u2L L 142 (96 + (6 * 3 + T 3)) w) V P) (z z2 : Nat) : PO f n X X2 q I J M L (RX6_readsSet_67 N (d + 6) (z + 1) X (nI (T 3)) K Y) (RX9_readSet_67 N (e + 8) (z2 + 2) X2 (nI (T 3)) (nI v) (nI fl) V P) := by
  obtain ⟨hq, ho, hw, hf, hC, hK, hTC, hO, hR, h12, hTM, hO2, hZ, hNM, hOK⟩ := H
  obtain ⟨ht, htt⟩ := hX_T hX
  obtain ⟨w0, w1, w2, w3, -⟩ := hw.1
  have cl := sX6_readsSet_67 N (d + 6) z hX hW (nI (T 3)) K Y
  rw [ms.2.2.1.2.2.2.1] at cl
  have rf := sX9_readSet_67 N (e + 8) (z2 + 1) (X := X2) (nI (T 3)) (nI v) (nI fl) V P
  rw [c9_isFor (d := e + 6) vs.1, cI_some, kX9_readSet_1 N (e + 8)] at rf
  have gI : GI X.2.2.1 I (zSet I X.2.2.1 (T 3) v fl) := GI_u (by omega) (GI_u (by omega) (GI_adH 3))
  have gL : GL L (u2L L 142 (96 + (6 * 3 + T 3)) w) := GL_u (by omega) (GL_0 _)
  have fin : ∀ {ow : Nat} {Z2 : Nat → Nat → Int32}, (ow < T 2 ∨ ow = 4294967295) → Z2 = u2 (zSet I X.2.2.1 (T 3) v fl) (X.2.2.1 + 13) (T 3) (nI ow) → ∀ {p : Nat} {K2 V2 : Nat → Nat → Int32} {Y2 P2 : Nat → Nat → Int64} {A B : am_O}, MS f n q p Z2 (u2L J (X.2.2.1 + 1) (6 * 3 + T 3) w) K2 Y2 → VS f n p M (u2L L 142 (96 + (6 * 3 + T 3)) w) V2 P2 → A = am_cI (am_G am_prog (N + 30) (d + 6) 51 [.ref 115, .int (nI 59)] (mkh X K2 Y2)) (KX6_readsSet_2 N (d + 6) z) → B = RX9_readSet_88 N (e + 8) (z2 + 1) X2 (nI (T 3)) (nI v) (nI fl) (nI ow) V2 P2 → PO f n X X2 q I J M L A B := by
    intro ow Z2 how hZ2 p K2 V2 Y2 P2 A B ms2 vs2 hA hB2
    obtain ⟨f1, f2, f3, f4⟩ := S_facts (w := w) hv hfl how g hw hTC hTM hZ hNM
    have e0 : u2 (u2 (u2 V2 140 (1771 + T 3) (nI v)) 140 (1777 + T 3) (nI fl)) 140 (1783 + T 3) (nI ow) 140 1719 = nI (T 3) := by rw [u2_nk _ _ _ _ _ (by omega), u2_nk _ _ _ _ _ (by omega), u2_nk _ _ _ _ _ (by omega), vs2.2.2.1.1 140 (by omega)]; exact hTM.1 3 (by omega)
    rw [sX9_readSet_88 N (e + 8) z2, vs2.2.1, nc_nlt (by omega) (by omega), nI_add, nI_add, nI_add, nc_in (by omega) (by omega), nc_in (by omega) (by omega), nc_in (by omega) (by omega), nI_clamp (by omega), nI_clamp (by omega), nI_clamp (by omega), e0, nI_add] at hB2
    subst hZ2
    refine PO_z (d := d + 3) (o := o) (U := addS T v fl ow) hn hB hN hX hW ho (WF_addS hw g hv hfl how) (frsh_S hw g hf) f1 ?_ f2 ?_ f3 f4 (GI_u (by omega) gI) (GJ_u (GJ_0 _ _)) (GM_u (k := 1719) (by omega) (GM_u (k := 1783 + T 3) (by omega) (GM_u (k := 1777 + T 3) (by omega) (GM_u (k := 1771 + T 3) (by omega) (GM_0 _))))) gL ms2 (vs_u (vs_u (vs_u (vs_u vs2)))) hA (fun z K Y hz => by rw [kX6_readsSet_2 N (d + 6) _ hX hW, nbz hz]) hB2
    · rw [u2_na _ _ _ _ _ (by omega), zSet_na (by omega) (by omega) (by omega) (by omega)]; exact hO
    · unfold vSet
      rw [u2_na _ _ _ _ _ (by omega), u2_na _ _ _ _ _ (by omega), u2_na _ _ _ _ _ (by omega), u2_na _ _ _ _ _ (by omega)]; exact hO2
  obtain ⟨s2, -, -, -, s13⟩ := zSet_at (I := I) (t := X.2.2.1) (c := T 3) (v := v) (fl := fl)
  by_cases k7 : tkK f n r = 112
  · rw [nc_eq k7] at cl
    obtain ⟨K2, Y2, a1, ms2⟩ := zs_next (N := N) (d := d + 4) (X := X) hn hB hN ms
    obtain ⟨V2, P2, b1, b2, b3, b4⟩ := c9_perhaps1 (N := N) (d := e + 5) (X := X2) hn hB hN ms.2.1 vs.1 vs.2.1 (x := nI (if tkK f n r = 112 then 1 else 0)) (by rw [if_pos k7])
    have vs2 := vs_t vs b2 b3 b4
    rw [a1, cV_some, kX6_readsSet_1 N (d + 6) _ hX hW] at cl
    rw [b1, cI_some, kX9_readSet_3 N (e + 8), nc_ne (by omega) (by omega) (by omega)] at rf
    rcases j_told (N := N) (d := d + 2) (e := e + 2) (X := X) (X2 := X2) hn hB hN ht (bl := 4) (k := 2) (c := T 2) (by omega) (by omega) w2 (by rw [s2, u2_nk _ _ _ _ _ (by omega)]; exact hTC.1 2 (by omega)) (hTM.1 2 (by omega)) (fun i hi => by rw [u2L_nk _ _ _ _ _ (by omega), u2L_nk _ _ _ _ _ (by omega)]; exact hNM 2 i (by omega) hi) ms2 vs2 with ⟨K', b, s, b0, b8, m3, c1, c2⟩ | ⟨x, K3, Y3, V3, P3, x1, c1, c3, c2, m3, v3⟩
    · rw [c1, cI_some, kX6_readsSet_4 N (d + 6) _ hX hW, nc_eq rfl] at cl
      rw [c2, cI_some, kX9_readSet_5 N (e + 8), sX9_readSet_88 N (e + 8) z2, flt_12, nc_lt b0 (by omega)] at rf
      exact Or.inr ⟨_, _, _, _, cl, rf, FLD_z b0 b8 m3 vs2 gI (GJ_u (GJ_0 _ _)) (GM_0 _) gL⟩
    · rw [c1, cI_some, kX6_readsSet_4 N (d + 6) _ hX hW, nc_ne (by omega) (by omega) (by omega), nc_in (by omega) (by omega), nI_clamp (by omega), c3] at cl
      rw [c2, cI_some, kX9_readSet_5 N (e + 8)] at rf
      exact fin (Or.inl x1) rfl (ms_u m3 (by omega) (by omega)) v3 cl rf
  · rw [nc_ne k7 (tkK_lt f n r) (by omega)] at cl
    rw [c9_perhaps0 (d := e + 7) vs.2.1 (by rw [if_neg k7]), cI_some, kX9_readSet_3 N (e + 8), nc_eq rfl, no_m1] at rf
    refine fin (Or.inr rfl) (u2_id ?_).symm ms vs cl rf
    rw [s13, u2_at, no_m1]
end
