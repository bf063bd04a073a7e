/-! texts: a voice -/
section
variable {N d e : Nat} {X X2 : lt_X} {f : Nat → Int32} {n q r : Nat} {I M K V Z V0 : Nat → Nat → Int32} {J L Y P Y0 P0 : Nat → Nat → Int64} {T : Nat → Nat} {o b : Nat}
/-- a voice more, as the class has it before its row -/
def zVo (I : Nat → Nat → Int32) (t v a l : Nat) : Nat → Nat → Int32 := u2 (u2 (adH I t v 1) (t + 3) v (nI a)) (t + 4) v (nI l)
theorem zVo_at {t v a l : Nat} : zVo I t v a l (t + 2) = u2 I (t + 2) 1 (nI (v + 1)) (t + 2) ∧ zVo I t v a l t = u2 I t 5 (I t 5 ||| (nI 1 <<< (nI v &&& 31))) t ∧ zVo I t v a l (t + 3) = u2 I (t + 3) v (nI a) (t + 3) ∧ zVo I t v a l (t + 4) = u2 I (t + 4) v (nI l) (t + 4) ∧ zVo I t v a l (t + 5) = u2 I (t + 5) v (nI 0) (t + 5) ∧ ∀ a', a' ≠ t → a' ≠ t + 2 → a' ≠ t + 3 → a' ≠ t + 4 → a' ≠ t + 5 → zVo I t v a l a' = I a' := by
  unfold zVo
  rw [adH1]
  refine ⟨?_, ?_, ?_, ?_, ?_, fun a' h0 h2 h3 h4 h5 => ?_⟩
  · rw [u2_na _ _ _ _ _ (by omega), u2_na _ _ _ _ _ (by omega), u2_na _ _ _ _ _ (by omega), u2_na _ _ _ _ _ (by omega)]
  · rw [u2_na _ _ _ _ _ (by omega), u2_na _ _ _ _ _ (by omega), u2_na _ _ _ _ _ (by omega)]
    exact u2_fr (by rw [u2_na _ _ _ _ _ (by omega)])
  · rw [u2_na _ _ _ _ _ (by omega)]
    exact u2_fr (by rw [u2_na _ _ _ _ _ (by omega), u2_na _ _ _ _ _ (by omega), u2_na _ _ _ _ _ (by omega)])
  · exact u2_fr (by rw [u2_na _ _ _ _ _ (by omega), u2_na _ _ _ _ _ (by omega), u2_na _ _ _ _ _ (by omega), u2_na _ _ _ _ _ (by omega)])
  · rw [u2_na _ _ _ _ _ (by omega), u2_na _ _ _ _ _ (by omega)]
    exact u2_fr (by rw [u2_na _ _ _ _ _ (by omega), u2_na _ _ _ _ _ (by omega)])
  · rw [u2_na _ _ _ _ _ h4, u2_na _ _ _ _ _ h3, u2_na _ _ _ _ _ h5, u2_na _ _ _ _ _ h0, u2_na _ _ _ _ _ h2]
theorem V_facts {t a l m : Nat} {ρ : Nat → Nat} {Zk Vk : Nat → Nat → Int32} {w : Int64} (ha : a ≤ 119) (hl : l ≤ 120) (hm1 : 1 ≤ m) (hm : m ≤ 8) (hρ : ∀ i, i < m → ρ i < T 0) (g : T 1 < 6) (hw : WF T) (hTC : TC I t T) (hTM : TM (fun k => M 140 (1716 + k)) T) (hZ : ZB (M 140) T) (hNM : NM (J (t + 1)) (fun k => L 142 (96 + k)) T) (hC : RC t (T 1) m ρ (zVo I t (T 1) a l) Zk) (hM : RM (T 1) m ρ M Vk) :
    ∃ U, WF U ∧ (frsh T → frsh U) ∧ TC Zk t U ∧ TM (fun k => vVo Vk (T 1) a l m 140 (1716 + k)) U ∧ ZB (vVo Vk (T 1) a l m 140) U ∧ NM (u2L J (t + 1) (6 * 1 + T 1) w (t + 1)) (fun j => u2L L 142 (96 + (6 * 1 + T 1)) w 142 (96 + j)) U := by
  have hw2 : WF (addV T a l m (fun i => if i < m then ρ i else T (73 + 8 * T 1 + i))) := WF_addV hw g ha hl hm1 hm (fun k hk => by show (if k < m then ρ k else _) < _; rw [if_pos hk]; exact hρ k hk)
  obtain ⟨z2, z0, z3, z4, z5, zn⟩ := zVo_at (I := I) (t := t) (v := T 1) (a := a) (l := l)
  obtain ⟨c1, c2, c3, c4, c5⟩ := hC
  obtain ⟨p1, p2, p3⟩ := hM
  have e2 : ∀ j, (j ≠ 1717 ∧ j ≠ 1723 + T 1 ∧ j ≠ 1729 + T 1 ∧ j ≠ 1735 + T 1 ∧ j ≠ 1741 + T 1) → vVo Vk (T 1) a l m 140 j = Vk 140 j := fun j hj => by
    unfold vVo
    rw [u2_nk _ _ _ _ _ hj.1, u2_nk _ _ _ _ _ hj.2.2.2.2, u2_nk _ _ _ _ _ hj.2.2.2.1, u2_nk _ _ _ _ _ hj.2.2.1, u2_nk _ _ _ _ _ hj.2.1]
  have e3 : vVo Vk (T 1) a l m 140 1717 = nI (T 1 + 1) := u2_at _ _ _ _
  have e4 : vVo Vk (T 1) a l m 140 (1723 + T 1) = nI a ∧ vVo Vk (T 1) a l m 140 (1729 + T 1) = nI l ∧ vVo Vk (T 1) a l m 140 (1735 + T 1) = nI m ∧ vVo Vk (T 1) a l m 140 (1741 + T 1) = nI 1 := by
    unfold vVo
    refine ⟨?_, ?_, ?_, ?_⟩
    · rw [u2_nk _ _ _ _ _ (by omega), u2_nk _ _ _ _ _ (by omega), u2_nk _ _ _ _ _ (by omega), u2_nk _ _ _ _ _ (by omega), u2_at]
    · rw [u2_nk _ _ _ _ _ (by omega), u2_nk _ _ _ _ _ (by omega), u2_nk _ _ _ _ _ (by omega), u2_at]
    · rw [u2_nk _ _ _ _ _ (by omega), u2_nk _ _ _ _ _ (by omega), u2_at]
    · rw [u2_nk _ _ _ _ _ (by omega), u2_at]
  obtain ⟨e5, e6, e7, e8⟩ := e4
  have b31 : M 140 (1747 + T 1) = nI 0 := hZ.1 (T 1) (Nat.le_refl _) g
  generalize vVo Vk (T 1) a l m = W at *
  have rr : ∀ i, i < m → (fun i => if i < m then ρ i else T (73 + 8 * T 1 + i)) i = ρ i := fun i hi => if_pos hi
  have rq : ∀ i, ¬ i < m → (fun i => if i < m then ρ i else T (73 + 8 * T 1 + i)) i = T (73 + 8 * T 1 + i) := fun i hi => if_neg hi
  generalize (fun i => if i < m then ρ i else T (73 + 8 * T 1 + i)) = R at *
  obtain ⟨u7, u13, u19, u25, u31, u73⟩ := addV_at g a l m R
  have u1 := addV_1 (T := T) a l m R
  have a1 : ∀ j, (j < 7 ∨ 37 ≤ j ∧ j < 73 ∨ 121 ≤ j) → j ≠ 1 → addV T a l m R j = T j := fun j x y => addV_ne y (by omega) (by omega) (by omega) (by omega) (by omega) (by omega)
  have tm : ∀ k, k < 157 → (k = 1 ∨ k = 7 + T 1 ∨ k = 13 + T 1 ∨ k = 19 + T 1 ∨ k = 25 + T 1 ∨ k = 31 + T 1 ∨ (73 + 8 * T 1 ≤ k ∧ k < 73 + 8 * T 1 + m) ∨ M 140 (1716 + k) = nI (T k)) → W 140 (1716 + k) = nI (addV T a l m R k) := by
    intro k hk h
    by_cases h1 : k = 1
    · subst h1; rw [u1]; exact e3
    by_cases h7 : k = 7 + T 1
    · rw [h7, u7, show 1716 + (7 + T 1) = 1723 + T 1 by omega]; exact e5
    by_cases h13 : k = 13 + T 1
    · rw [h13, u13, show 1716 + (13 + T 1) = 1729 + T 1 by omega]; exact e6
    by_cases h19 : k = 19 + T 1
    · rw [h19, u19, show 1716 + (19 + T 1) = 1735 + T 1 by omega]; exact e7
    by_cases h25 : k = 25 + T 1
    · rw [h25, u25, show 1716 + (25 + T 1) = 1741 + T 1 by omega]; exact e8
    rw [e2 _ (by omega)]
    by_cases h31 : k = 31 + T 1
    · rw [h31, u31, p3 _ (by omega), show 1716 + (31 + T 1) = 1747 + T 1 by omega]; exact b31
    by_cases hr : 73 + 8 * T 1 ≤ k ∧ k < 73 + 8 * T 1 + m
    · obtain ⟨i, rfl⟩ : ∃ i, k = 73 + 8 * T 1 + i := ⟨k - (73 + 8 * T 1), by omega⟩
      rw [u73 i (by omega), rr i (by omega), ← p1 i (by omega)]
      congr 1; omega
    · have hc : M 140 (1716 + k) = nI (T k) := by
        rcases h with h | h | h | h | h | h | h | h
        · exact absurd h h1
        · exact absurd h h7
        · exact absurd h h13
        · exact absurd h h19
        · exact absurd h h25
        · exact absurd h h31
        · exact absurd h hr
        · exact h
      rw [p3 _ (by omega), hc]
      by_cases hr8 : 73 + 8 * T 1 ≤ k ∧ k < 81 + 8 * T 1
      · obtain ⟨i, rfl⟩ : ∃ i, k = 73 + 8 * T 1 + i := ⟨k - (73 + 8 * T 1), by omega⟩
        rw [u73 i (by omega), rq i (by omega)]
      · rw [addV_ne h1 h7 h13 h19 h25 h31 (by omega)]
  refine ⟨addV T a l m R, hw2, fun hf => frsh_V hw g hf, ?_, ?_, ?_, ?_⟩
  · refine TC_addV hTC hw g hm (fun k hk => ?_) (fun k hk => ?_) ?_ ?_ ?_ c1 (fun k hk => by rw [c2 k hk, rr k hk]) (fun b h1 h2 => ?_) (fun b v h1 h2 hv => ?_) (fun j hj => ?_)
    · rw [c3 _ (by omega) (by omega), z2]
      by_cases h : k = 1
      · subst h; rw [u2_at, if_pos rfl]
      · rw [u2_nk _ _ _ _ _ h, if_neg h]
    · rw [c3 _ (by omega) (by omega), z0, u2_nk _ _ _ _ _ hk]
    · rw [c3 _ (by omega) (by omega), z0, u2_at, tcV hTC, no_shl (by omega), no_or]
    · rw [c3 _ (by omega) (by omega), z3, u2_at]
    · rw [c3 _ (by omega) (by omega), z4, u2_at]
    · rw [c3 _ (by omega) (by omega)]; exact zn b (by omega) (by omega) (by omega) (by omega) (by omega)
    · have : b = t + 3 ∨ b = t + 4 ∨ b = t + 5 := by omega
      rcases this with h | h | h
      · rw [h, c3 _ (by omega) (by omega), z3, u2_nk _ _ _ _ _ (by omega)]
      · rw [h, c3 _ (by omega) (by omega), z4, u2_nk _ _ _ _ _ (by omega)]
      · rw [h, c4 _ (by omega), z5, u2_nk _ _ _ _ _ (by omega)]
    · rw [c5 j (by omega)]; exact congrFun (zn (t + 6) (by omega) (by omega) (by omega) (by omega) (by omega)) j
  · refine TM_mk hTM (fun k hk h => tm k hk (by simp only [h, or_true])) (fun k hk => tm k (by omega) ?_) (fun v x y => ?_) (fun v x y => ?_) (fun p x y => absurd (by rw [a1 2 (by omega) (by omega)] at x; exact x) y) (fun p x y => absurd (by rw [a1 3 (by omega) (by omega)] at x; exact x) y) hw2 hw
    · have := hTM.1 k hk
      simp only [this, or_true]
    · rw [u1] at x
      have hv : v = T 1 := by omega
      subst hv
      exact ⟨tm _ (by omega) (by omega), tm _ (by omega) (by omega), tm _ (by omega) (by omega), tm _ (by omega) (by omega), tm _ (by omega) (by omega), fun k hk => tm _ (by omega) (by omega)⟩
    · have h1 := hw.1.2.1
      rw [addV_ne (by omega) (by omega) (by omega) (by omega) (by omega) (by omega) (by omega)]; exact Nat.le_refl _
  · refine ZB_up hw ⟨by rw [u1]; omega, by rw [a1 2 (by omega) (by omega)]; omega⟩ (fun k hk => ?_) hZ
    rw [e2 k (by omega), p3 k (by omega)]
  · refine NM_add (by omega) g (WF_6 hw) hNM (fun j hj => ?_)
    by_cases h : j = 1
    · subst h; rw [u1, if_pos rfl]
    · rw [a1 j (by omega) h, if_neg h]
end
