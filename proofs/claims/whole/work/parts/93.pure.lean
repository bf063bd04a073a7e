/-! The invariant at the start; the whole run -/
def stI0 (xs : Nat → Int32) : Nat → Nat → Int32 := fun a => if a = 1 then xs else if a = 2 then am_SC else fun _ => 0
def stI (xs : Nat → Int32) : Nat → Nat → Int32 := w2 (stI2 (stI1 (stI0 xs))) 140 (upd (zf0 (stI2 (stI1 (stI0 xs)) 140) 429) 4 (nI 1))
def stJ : Nat → Nat → Int64 := stJ2 (stJ1 (fun _ _ => 0))
theorem st_140 (xs : Nat → Int32) (k : Nat) (hk : k < 429) : stI xs 140 k = nI (emT k) := by
  unfold stI
  rw [w2_at]
  unfold upd zf0
  by_cases q : k = 4
  · subst q; rfl
  · rw [if_neg q, if_pos hk, emT_ne q]
theorem st_TB (xs : Nat → Int32) : TB (stI xs) stJ 14 0 emT := by
  refine ⟨emT_WF, ⟨fun k hk => ?_, ⟨?_, ?_, ?_⟩, ⟨?_, ?_⟩, fun v hv => ?_, fun v k hv => ?_, fun v hv => ?_, fun v k hv => ?_, fun v hv => ?_⟩, ⟨fun k hk => ?_, fun v hv => ?_, fun v k hv => ?_, fun v hv => ?_, fun v k hv => ?_, fun v hv => ?_⟩, ⟨rfl, by decide, rfl, by decide, 0, by omega, rfl, fun h => absurd h (by decide)⟩, ⟨?_, ?_, fun k hk => ?_⟩, fun k i hk hi => ?_, frsh_GB emT_frsh⟩
  · rw [emT_ne (by omega)]; rfl
  · rfl
  · rfl
  · rfl
  · rfl
  · rfl
  · rw [emT_ne (by omega)] at hv; omega
  · rw [emT_ne (by omega)] at hv; omega
  · rw [emT_ne (by omega)] at hv; omega
  · rw [emT_ne (by omega)] at hv; omega
  · rw [emT_ne (by omega)] at hv; omega
  · show stI xs 140 (429 * 0 + k) = _
    rw [show 429 * 0 + k = k by omega]; exact st_140 xs k (by omega)
  · rw [emT_ne (by omega)] at hv; omega
  · rw [emT_ne (by omega)] at hv; omega
  · rw [emT_ne (by omega)] at hv; omega
  · rw [emT_ne (by omega)] at hv; omega
  · rw [emT_ne (by omega)] at hv; omega
  · exact st_140 xs 157 (by omega)
  · exact st_140 xs 158 (by omega)
  · rw [emT_ne (by omega)] at hk; omega
  · rw [emT_ne (by omega)] at hi; omega
theorem st_INV (xs : Nat → Int32) (L : Nat) : INV xs (L, 14, 34, none, none) (stI xs) stJ := by
  refine ⟨Or.inl ⟨rfl, rfl⟩, rfl, ⟨emT, st_TB xs⟩, ⟨0, by omega, rfl, rfl, fun j hj => absurd hj (by omega)⟩, fun i hi => ?_, ⟨0, by omega, rfl, rfl, fun k hk => absurd hk (by omega)⟩, Or.inl ⟨rfl, rfl, rfl⟩, Or.inl ⟨rfl, rfl⟩, ⟨rfl, rfl⟩, fun k hk => ?_, rfl⟩
  · match i, hi with
    | 0, _ => exact Or.inl ⟨rfl, rfl⟩
    | 1, _ => exact Or.inl ⟨rfl, rfl⟩
    | 2, _ => exact Or.inl ⟨rfl, rfl⟩
    | 3, _ => exact Or.inl ⟨rfl, rfl⟩
  · have e : stJ 116 = (tws 139).2 := by
      unfold stJ stJ2 stJ1
      rw [u2L_na _ _ _ _ _ (by omega), u2L_na _ _ _ _ _ (by omega), w2L_at]
    rw [e]; exact tws_w k hk
theorem st_b1 : ∀ e ∈ stR1, e.1 < 135 := by decide +kernel
theorem st_w1 (xs : Nat → Int32) : WZ 135 stR1 (stI1 (stI0 xs)) (stJ1 (fun _ _ => 0)) := fun a ha => by
  refine ⟨fun k => rl_no (fun e he h => by have := st_b1 e he; omega), ?_, ?_⟩
  · unfold stI1
    rw [u2_na _ _ _ _ _ (by omega), u2_na _ _ _ _ _ (by omega), u2_na _ _ _ _ _ (by omega), u2_na _ _ _ _ _ (by omega), u2_na _ _ _ _ _ (by omega), u2_na _ _ _ _ _ (by omega)]
    unfold stI0
    rw [if_neg (by omega), if_neg (by omega)]
  · unfold stJ1
    rw [u2L_na _ _ _ _ _ (by omega), w2L_na (by omega)]
theorem st_w0 (xs : Nat → Int32) : WZ 3 [] (stI0 xs) (fun _ _ => 0) := fun a ha => by
  refine ⟨fun k => rfl, ?_, rfl⟩
  unfold stI0
  rw [if_neg (by omega), if_neg (by omega)]
theorem st_h0 (L : Nat) (xs : Nat → Int32) : am_h0 L xs = hp L 3 0 [] (stI0 xs) (fun _ _ => 0) := by
  have e : (fun a => if a = 1 then (21, L) else if a = 2 then (20, am_SL) else (99, 0)) = kc L 3 := by
    funext a
    unfold kc
    by_cases q : a < 3
    · rw [if_pos q]
      match a, q with
      | 0, _ => rfl
      | 1, _ => rfl
      | 2, _ => rfl
    · rw [if_neg q, if_neg (by omega), if_neg (by omega)]
  unfold am_h0
  rw [e]
  rfl
set_option maxRecDepth 100000 in
theorem am_pure : am_Pure := by
  intro L xs hL
  obtain ⟨X2, I2, J2, e⟩ := law_loop (N := 100000) (d := 0) (Nat.le_refl _) 512 (L, 14, 34, none, none) (stI xs) stJ 0 97464 (st_INV xs L) hL (by omega) (by show L < _; omega)
  refine ⟨100000 + 30, 0 + 40 + 40, mkh X2 I2 J2, by omega, ?_, by show 147 ≤ 600003; omega, by show 8248 ≤ 7302250; omega⟩
  rw [st_h0]
  refine (rL_law_0 _ (100000 + 29) 1 _).trans ?_
  unfold BL_law_0
  refine (nw_hp (st_w0 xs) rfl).trans ?_
  refine (cV_call (s_109 (N := 100000) (d := 77) (by omega) (w_mk (st_w0 xs)) rfl)).trans ?_
  refine (nw_hp (st_w1 xs) rfl).trans ?_
  refine (cV_call (s_184 (N := 100000) (d := 77) (by omega) (w_mk (st_w1 xs)))).trans ?_
  exact e
