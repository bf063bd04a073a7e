/-! texts: a voice's row -/
section
variable {N d e : Nat} {X X2 : lt_X} {f : Nat → Int32} {n q r : Nat} {I M K V Z V0 : Nat → Nat → Int32} {J L Y P Y0 P0 : Nat → Nat → Int64} {T : Nat → Nat} {o b : Nat}
def RC (t v k : Nat) (ρ : Nat → Nat) (Z0 Zk : Nat → Nat → Int32) : Prop := Zk (t + 5) v = nI k ∧ (∀ i, i < k → Zk (t + 6) (v * 8 + i) = nI (ρ i)) ∧ (∀ a, a ≠ t + 5 → a ≠ t + 6 → Zk a = Z0 a) ∧ (∀ j, j ≠ v → Zk (t + 5) j = Z0 (t + 5) j) ∧ (∀ j, ¬ (v * 8 ≤ j ∧ j < v * 8 + 8) → Zk (t + 6) j = Z0 (t + 6) j)
def RM (v k : Nat) (ρ : Nat → Nat) (V0 Vk : Nat → Nat → Int32) : Prop := (∀ i, i < k → Vk 140 (1789 + 8 * v + i) = nI (ρ i)) ∧ (∀ a, a ≠ 140 → Vk a = V0 a) ∧ (∀ j, ¬ (1789 + 8 * v ≤ j ∧ j < 1789 + 8 * v + k) → Vk 140 j = V0 140 j)
def vVo (V : Nat → Nat → Int32) (v a l m : Nat) : Nat → Nat → Int32 := u2 (u2 (u2 (u2 (u2 V 140 (1723 + v) (nI a)) 140 (1729 + v) (nI l)) 140 (1735 + v) (nI m)) 140 (1741 + v) (nI 1)) 140 1717 (nI (v + 1))
theorem RC_s {t v k s : Nat} {ρ : Nat → Nat} {Z0 Zk : Nat → Nat → Int32} (hk : k < 8) (H : RC t v k ρ Z0 Zk) : RC t v (k + 1) (fun i => if i = k then s else ρ i) Z0 (u2 (u2 Zk (t + 6) (v * 8 + k) (nI s)) (t + 5) v (nI (k + 1))) := by
  obtain ⟨h1, h2, h3, h4, h5⟩ := H
  refine ⟨u2_at _ _ _ _, fun i hi => ?_, fun a ha hb => ?_, fun j hj => ?_, fun j hj => ?_⟩
  · rw [u2_na _ _ _ _ _ (by omega)]
    by_cases q : i = k
    · subst q; rw [u2_at]; show _ = nI (if i = i then s else ρ i); rw [if_pos rfl]
    · rw [u2_nk _ _ _ _ _ (by omega)]; show _ = nI (if i = k then s else ρ i); rw [if_neg q]; exact h2 i (by omega)
  · rw [u2_na _ _ _ _ _ ha, u2_na _ _ _ _ _ hb]; exact h3 a ha hb
  · rw [u2_nk _ _ _ _ _ hj, u2_na _ _ _ _ _ (by omega)]; exact h4 j hj
  · rw [u2_na _ _ _ _ _ (by omega), u2_nk _ _ _ _ _ (by omega)]; exact h5 j hj
theorem RM_s {v k s : Nat} {ρ : Nat → Nat} {V0 Vk : Nat → Nat → Int32} (hk : k < 8) (H : RM v k ρ V0 Vk) : RM v (k + 1) (fun i => if i = k then s else ρ i) V0 (u2 Vk 140 (1789 + 8 * v + k) (nI s)) := by
  obtain ⟨h1, h2, h3⟩ := H
  refine ⟨fun i hi => ?_, fun a ha => ?_, fun j hj => ?_⟩
  · by_cases q : i = k
    · subst q; rw [u2_at]; show _ = nI (if i = i then s else ρ i); rw [if_pos rfl]
    · rw [u2_nk _ _ _ _ _ (by omega)]; show _ = nI (if i = k then s else ρ i); rw [if_neg q]; exact h1 i (by omega)
  · rw [u2_na _ _ _ _ _ ha]; exact h2 a ha
  · rw [u2_nk _ _ _ _ _ (by omega)]; exact h3 j (by omega)
def ROUT (f : Nat → Int32) (n q t v a l T0 : Nat) (X X2 : lt_X) (Z0 V0 : Nat → Nat → Int32) (Y0 P0 : Nat → Nat → Int64) (A B : am_O) : Prop :=
  (∃ K Y V P Zk Vk k ρ r b s, 0 < b ∧ b < 8 ∧ A = some (.int (nI 0), mkh X (u2 (u2 K 115 10 (nI b)) 115 11 (nI s)) Y) ∧ B = some (.null, mkh X2 (flt V b s) P) ∧ RC t v k ρ Z0 Zk ∧ RM v k ρ V0 Vk ∧ MS f n q r Zk Y0 K Y ∧ VS f n r Vk P0 V P) ∨
  (∃ K Y V P Zk Vk k ρ r, 1 ≤ k ∧ k ≤ 8 ∧ (∀ i, i < k → ρ i < T0) ∧ B = some (.null, mkh X2 (vVo V v a l k) P) ∧ (tkK f n r = 59 → A = some (.int (nI 1), mkh X K Y)) ∧ (tkK f n r ≠ 59 → A = some (.int (nI 0), mkh X (u2 (u2 K 115 10 (nI (fkd f n r))) 115 11 (nI (tkS f n r))) Y)) ∧ RC t v k ρ Z0 Zk ∧ RM v k ρ V0 Vk ∧ MS f n q r Zk Y0 K Y ∧ VS f n r Vk P0 V P)
theorem vo73_b (h : V 135 12 = nI b) (h0 : 0 < b) (hb : b < 100) (z : Nat) (x1 x2 x3 x4 x5 : Int32) : RX9_readVoice_73 N (e + 8) (z + 1) X2 x1 x2 x3 x4 x5 V P = some (.null, mkh X2 V P) := by
  rw [sX9_readVoice_73 N (e + 8) z, c9_mustb (d := e + 7) h h0 hb, cV_some, kX9_readVoice_2 N (e + 8), h, nc_lt h0 (by omega)]
theorem c5_addToRow {t v k s : Nat} (ht : isT t) (hv : v < 6) (hk : k < 8) (h5 : I (t + 5) v = nI k) : am_G am_prog (N + 30) (d + 1) 63 [.ref t, .int (nI v), .int (nI s)] (mkh X I J) = some (.null, mkh X (u2 (u2 I (t + 6) (v * 8 + k) (nI s)) (t + 5) v (nI (k + 1))) J) := by
  have h5' : I (t + 5) (nI v).toNatClampNeg = nI k := by rw [nI_clamp (by omega)]; exact h5
  rw [gX5_addToRow N d ht, sX5_addToRow_0 N d _ ht]
  simp only [h5', pk_mul, nI_add]
  rw [nc_in (by omega) (by omega), nc_lt hk (by omega), nc_in (by omega) (by omega), nc_in (by omega) (by omega), nI_clamp (by omega), nI_clamp (by omega)]
theorem j_rows (hn : n ≤ 900) (hB : ∀ k, k < n → isB (f k)) (hN : 10000 ≤ N) (hX : hsX X) (hW : X.2.2.2.1 = some X.2.2.1) {v a l T0 : Nat} (hv : v < 6) (hT0 : T0 ≤ 6) {Z0 V0 : Nat → Nat → Int32} (c2 : Z0 (X.2.2.1 + 2) 0 = nI T0) (c3 : V0 140 1716 = nI T0) (c17 : V0 140 1717 = nI v) (nm : ∀ i, i < T0 → Y0 (X.2.2.1 + 1) (6 * 0 + i) = P0 142 (24 * 4 + (6 * 0 + i))) : ∀ j k, k + j = 8 → ∀ {ρ : Nat → Nat} {r : Nat} {K V Zk Vk : Nat → Nat → Int32} {Y P : Nat → Nat → Int64}, (∀ i, i < k → ρ i < T0) → RC X.2.2.1 v k ρ Z0 Zk → RM v k ρ V0 Vk → MS f n q r Zk Y0 K Y → VS f n r Vk P0 V P → ∀ z z2, ROUT f n q X.2.2.1 v a l T0 X X2 Z0 V0 Y0 P0 (RX6_readsRow_26 N (d + 5) (z + 2 * j + 4) X (nI v) (nI k) K Y) (RX9_readVoice_41 N (e + 8) (z2 + 2 * j + 4) X2 (nI v) (nI a) (nI l) (nI k) V P) := by
  obtain ⟨ht, htt⟩ := hX_T hX
  intro j
  induction j with
  | zero =>
    intro k hk ρ r K V Zk Vk Y P hρ hC hM ms vs z z2
    have h8 : k = 8 := by omega
    have cl := sX6_readsRow_26 N (d + 5) (z + 2 * 0 + 3) hX hW (nI v) (nI k) K Y
    have rf := sX9_readVoice_41 N (e + 8) (z2 + 2 * 0 + 3) (X := X2) (nI v) (nI a) (nI l) (nI k) V P
    rcases j_is (N := N) (d := d + 2) (e := e + 3) (X := X) (X2 := X2) hN ht (bl := 4) (k := 0) (c := T0) (by omega) (by omega) hT0 (by rw [hC.2.2.1 _ (by omega) (by omega)]; exact c2) (by rw [hM.2.2 _ (by omega)]; exact c3) nm ms vs with ⟨K', b, s, b0, b8, m3, c1, c2⟩ | ⟨y, y1, c1, c2, ms6⟩
    · have f12 := flt_12 V b s
      rw [c1, cI_some, kX6_readsRow_0 N (d + 5) _ hX hW, nc_eq rfl] at cl
      rw [c2, cI_some, kX9_readVoice_1 N (e + 8), f12, nc_ne (by omega) (by omega) (by omega), vo73_b (z := z2 + 2) f12 b0 (by omega)] at rf
      exact Or.inl ⟨_, _, _, _, _, _, _, _, _, _, _, b0, b8, cl, rf, hC, hM, m3, vs⟩
    · rw [c1, cI_some, kX6_readsRow_0 N (d + 5) _ hX hW, nc_ne (by omega) (by omega) (by omega), nc_eq h8, c4_fail (d := d + 4) ms6.2.2.1, cI_some, kX6_readsRow_1 N (d + 5) _ hX hW, nb_ok (by omega)] at cl
      have f12 := flt_12 V 6 (tkS f n r)
      rw [c2, cI_some, kX9_readVoice_1 N (e + 8), vs.2.1, nc_eq rfl, nc_eq h8, vs.1.2.2.2.1, c9_fail0 (d := e + 7) vs.2.1, cV_some, kX9_readVoice_4 N (e + 8), vo73_b (z := z2 + 2) f12 (by omega) (by omega)] at rf
      exact Or.inl ⟨_, _, _, _, _, _, _, _, _, _, _, by omega, by omega, cl, rf, hC, hM, ms6, vs⟩
  | succ j ih =>
    intro k hk ρ r K V Zk Vk Y P hρ hC hM ms vs z z2
    have cl := sX6_readsRow_26 N (d + 5) (z + 2 * (j + 1) + 3) hX hW (nI v) (nI k) K Y
    have rf := sX9_readVoice_41 N (e + 8) (z2 + 2 * (j + 1) + 3) (X := X2) (nI v) (nI a) (nI l) (nI k) V P
    rcases j_is (N := N) (d := d + 2) (e := e + 3) (X := X) (X2 := X2) hN ht (bl := 4) (k := 0) (c := T0) (by omega) (by omega) hT0 (by rw [hC.2.2.1 _ (by omega) (by omega)]; exact c2) (by rw [hM.2.2 _ (by omega)]; exact c3) nm ms vs with ⟨K', b, s, b0, b8, m3, c1, c2⟩ | ⟨y, y1, c1, c2, ms6⟩
    · have f12 := flt_12 V b s
      rw [c1, cI_some, kX6_readsRow_0 N (d + 5) _ hX hW, nc_eq rfl] at cl
      rw [c2, cI_some, kX9_readVoice_1 N (e + 8), f12, nc_ne (by omega) (by omega) (by omega), vo73_b (z := z2 + 2 * (j + 1) + 2) f12 b0 (by omega)] at rf
      exact Or.inl ⟨_, _, _, _, _, _, _, _, _, _, _, b0, b8, cl, rf, hC, hM, m3, vs⟩
    · have e5 : u2 K 115 9 (nI y) (X.2.2.1 + 5) v = nI k := by rw [ms6.2.2.2.2.1 _ (by omega)]; exact hC.1
      have e9 : u2 K 115 9 (nI y) 115 9 = nI y := u2_at _ _ _ _
      have ms7 := ms_u (a := X.2.2.1 + 5) (k := v) (v := nI (k + 1)) (ms_u (a := X.2.2.1 + 6) (k := v * 8 + k) (v := nI y) ms6 (by omega) (by omega)) (by omega) (by omega)
      obtain ⟨K8, Y8, g1, ms8⟩ := zs_next (N := N) (d := d + 3) (X := X) hn hB hN ms7
      obtain ⟨V8, P8, h1, h2, h3, h4⟩ := c9_must1 (N := N) (d := e + 5) (X := X2) hn hB hN ms7.2.1 vs.1 vs.2.1 (x := nI 1) rfl
      have vs8 := vs_t vs h2 h3 h4
      have vs9 := vs_u (k := 1789 + 8 * v + k) (v := nI y) vs8
      have hC8 := RC_s (s := y) (by omega) hC
      have hM8 := RM_s (s := y) (by omega) hM
      have hρ8 : ∀ i, i < k + 1 → (if i = k then y else ρ i) < T0 := fun i hi => by
        by_cases u : i = k
        · rw [if_pos u]; exact y1
        · rw [if_neg u]; exact hρ i (by omega)
      rw [c1, cI_some, kX6_readsRow_0 N (d + 5) _ hX hW, nc_ne (by omega) (by omega) (by omega), nc_ne (by omega) (by omega) (by omega), e9, c5_addToRow (d := d + 4) ht hv (by omega) e5, cV_some, kX6_readsRow_2 N (d + 5) _ hX hW, g1, cV_some, kX6_readsRow_3 N (d + 5) _ hX hW, nI_add k 1, show z + 2 * (j + 1) + 3 = (z + 2 * j + 4) + 1 by omega, sX6_readsRow_2 N (d + 5) _ hX hW, nc_nlt (by omega) (by omega), nc_lt (by omega) (by omega), ms8.2.2.1.2.2.2.1] at cl
      have vb : vVo (u2 V8 140 (1789 + 8 * v + k) (nI y)) v a l (k + 1) = u2 (u2 (u2 (u2 (u2 (u2 V8 140 (1789 + 8 * v + k) (nI y)) 140 (1723 + v) (nI a)) 140 (1729 + v) (nI l)) 140 (1735 + v) (nI (k + 1))) 140 (1741 + v) (nI 1)) 140 1717 ((u2 (u2 (u2 (u2 (u2 V8 140 (1789 + 8 * v + k) (nI y)) 140 (1723 + v) (nI a)) 140 (1729 + v) (nI l)) 140 (1735 + v) (nI (k + 1))) 140 (1741 + v) (nI 1)) 140 1717 + nI 1) := by
        have e17 : V8 140 1717 = nI v := by rw [vs8.2.2.1.1 140 (by omega), hM.2.2 _ (by omega)]; exact c17
        unfold vVo
        rw [u2_nk _ _ _ 1717 _ (by omega), u2_nk _ _ _ 1717 _ (by omega), u2_nk _ _ _ 1717 _ (by omega), u2_nk _ _ _ 1717 _ (by omega), u2_nk _ _ _ 1717 _ (by omega), e17, nI_add]
      rw [c2, cI_some, kX9_readVoice_1 N (e + 8), vs.2.1, nc_eq rfl, nc_ne (by omega) (by omega) (by omega), show z2 + 2 * (j + 1) + 3 = (z2 + 2 * j + 4) + 1 by omega, sX9_readVoice_73 N (e + 8), h1, cV_some, kX9_readVoice_2 N (e + 8), vs8.2.1, nc_nlt (by omega) (by omega), pk_mul, nI_add, nI_add, nI_add, nI_add, nI_add, nI_add, nI_add, nc_in (by omega) (by omega), nc_in (by omega) (by omega), nc_in (by omega) (by omega), nc_in (by omega) (by omega), nc_in (by omega) (by omega), nI_clamp (by omega), nI_clamp (by omega), nI_clamp (by omega), nI_clamp (by omega), nI_clamp (by omega), ← vb, vs8.1.2.2.2.2.1] at rf
      rw [show z + 2 * (j + 1) + 4 = z + 2 * j + 4 + 1 + 1 by omega, show z2 + 2 * (j + 1) + 4 = z2 + 2 * j + 4 + 1 + 1 by omega]
      generalize hp : tkE f n r = p at *
      rcases rk_or f n p with ⟨k1, k2⟩ | ⟨k1, k2⟩ | ⟨k1, k2⟩ | ⟨k1, k2⟩ | ⟨k1, k2⟩
      · rw [nc_ne (by omega) (tkK_lt f n p) (by omega)] at cl
        rw [nc_eq k1] at rf
        rw [cl, rf]
        exact ih (k + 1) (by omega) hρ8 hC8 hM8 ms8 vs9 z z2
      all_goals
        right
        rw [nc_ne (by omega) (by omega) (by omega)] at rf
        refine ⟨_, _, _, _, _, _, k + 1, _, p, by omega, by omega, hρ8, rf, fun h => ?_, fun h => ?_, hC8, hM8, ms8, vs9⟩
        · rw [cl, nc_eq h]
        · rw [cl, nc_ne h (tkK_lt f n p) (by omega), show z + 2 * j + 4 = (z + 2 * j + 3) + 1 by omega, sX6_readsRow_26 N (d + 5) _ hX hW, c4_isNameOf0 (d := d + 2) ht ms8.2.2.1 (nI 0) (by omega), cI_some, kX6_readsRow_0 N (d + 5) _ hX hW, nc_eq rfl]
end
