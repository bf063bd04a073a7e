/-! texts: how a reading starts -/
section
variable {N d e : Nat} {X X2 : lt_X} {f : Nat → Int32} {n m : Nat} {I M : Nat → Nat → Int32} {J L : Nat → Nat → Int64}
theorem c4_open (hn : n ≤ 900) (hB : ∀ k, k < n → isB (I 13 k)) (hN : 10000 ≤ N) (hK : KWS J) : ∃ K Y, am_G am_prog (N + 30) (d + 3) 45 [.ref 115, .int (nI n)] (mkh X I J) = some (.null, mkh X K Y) ∧ CT (I 13) n 0 K Y ∧ KWS Y ∧ OK5 K ∧ (∀ a, a ≠ 115 → K a = I a) ∧ (∀ a, a ≠ 115 → Y a = J a) := by
  have e1 : (if (nI 900) < nI n then (nI 900) else nI n) = nI n := nc_nlt (by omega) (by omega)
  have na : ∀ (I : Nat → Nat → Int32) a, a ≠ 115 → u2 (u2 (u2 (u2 I 115 2 (nI n)) 115 3 (nI 0)) 115 10 (nI 0)) 115 11 (-1) a = I a := fun I a ha => by rw [u2_na _ _ _ _ _ ha, u2_na _ _ _ _ _ ha, u2_na _ _ _ _ _ ha, u2_na _ _ _ _ _ ha]
  have a3 : u2 (u2 (u2 (u2 I 115 2 (nI n)) 115 3 (nI 0)) 115 10 (nI 0)) 115 11 (-1) 115 3 = nI 0 := by rw [u2_nk _ _ _ _ _ (by omega), u2_nk _ _ _ _ _ (by omega), u2_at]
  have a2 : u2 (u2 (u2 (u2 I 115 2 (nI n)) 115 3 (nI 0)) 115 10 (nI 0)) 115 11 (-1) 115 2 = nI n := by rw [u2_nk _ _ _ _ _ (by omega), u2_nk _ _ _ _ _ (by omega), u2_nk _ _ _ _ _ (by omega), u2_at]
  have a10 : u2 (u2 (u2 (u2 I 115 2 (nI n)) 115 3 (nI 0)) 115 10 (nI 0)) 115 11 (-1) 115 10 = nI 0 := by rw [u2_nk _ _ _ _ _ (by omega), u2_at]
  have a11 : u2 (u2 (u2 (u2 I 115 2 (nI n)) 115 3 (nI 0)) 115 10 (nI 0)) 115 11 (-1) 115 11 = -1 := u2_at _ _ _ _
  have cl := gX4_open N (d + 2) (X := X) (nI n) I J
  rw [sX4_open_0 N (d + 2), e1] at cl
  have z := na I
  generalize u2 (u2 (u2 (u2 I 115 2 (nI n)) 115 3 (nI 0)) 115 10 (nI 0)) 115 11 (-1) = Z at *
  obtain ⟨K, Y, b1, b2, b3, b4⟩ := c4_advance (N := N) (d := d) (X := X) (f := I 13) (I := Z) (J := J) hn hB hK hN (fun k _ => by rw [z 13 (by omega)]) a2 (q := 0) (by omega) a3
  rw [b1, cV_some, kX4_open_0 N (d + 2)] at cl
  exact ⟨K, Y, cl, b2, KWS_f hK b4, ⟨by rw [b3.2 10 (by omega)]; exact a10, by rw [b3.2 11 (by omega)]; exact a11⟩, fun a ha => by rw [b3.1 a ha, z a ha], b4⟩
theorem c9_starts1 (hn : n ≤ 900) (hB : ∀ k, k < n → isB (f k)) (hN : 10000 ≤ N) {t mx : Nat} (ht : t ≤ 900) (h8 : M 135 8 = nI t) (hnt : n ≤ t) (hmx : n ≤ mx) (hmx2 : mx ≤ 900) (h139 : ∀ k, k < n → M 139 k = f k) : ∃ V P, am_G am_prog (N + 30) (e + 4) 237 [.ref 135, .int (nI n), .int (nI mx)] (mkh X M L) = some (.int (nI 1), mkh X V P) ∧ RT f n 0 V P ∧ V 135 12 = nI 0 ∧ V 135 8 = nI 0 ∧ (∀ a, a ≠ 135 → V a = M a) ∧ (∀ k, k ≠ 8 → k ≠ 9 → k ≠ 12 → ¬ (14 ≤ k ∧ k ≤ 18) → V 135 k = M 135 k) ∧ FTL L P := by
  have na : ∀ a, a ≠ 135 → u2 (u2 (u2 (u2 M 135 9 (nI n)) 135 8 (nI 0)) 135 16 (nI 0)) 135 12 (nI 0) a = M a := fun a ha => by rw [u2_na _ _ _ _ _ ha, u2_na _ _ _ _ _ ha, u2_na _ _ _ _ _ ha, u2_na _ _ _ _ _ ha]
  have nk : ∀ k, k ≠ 8 → k ≠ 9 → k ≠ 12 → k ≠ 16 → u2 (u2 (u2 (u2 M 135 9 (nI n)) 135 8 (nI 0)) 135 16 (nI 0)) 135 12 (nI 0) 135 k = M 135 k := fun k h8 h9 h12 h16 => by rw [u2_nk _ _ _ _ _ h12, u2_nk _ _ _ _ _ h16, u2_nk _ _ _ _ _ h8, u2_nk _ _ _ _ _ h9]
  have a9 : u2 (u2 (u2 (u2 M 135 9 (nI n)) 135 8 (nI 0)) 135 16 (nI 0)) 135 12 (nI 0) 135 9 = nI n := by rw [u2_nk _ _ _ _ _ (by omega), u2_nk _ _ _ _ _ (by omega), u2_nk _ _ _ _ _ (by omega), u2_at]
  have a8 : u2 (u2 (u2 (u2 M 135 9 (nI n)) 135 8 (nI 0)) 135 16 (nI 0)) 135 12 (nI 0) 135 8 = nI 0 := by rw [u2_nk _ _ _ _ _ (by omega), u2_nk _ _ _ _ _ (by omega), u2_at]
  have a16 : u2 (u2 (u2 (u2 M 135 9 (nI n)) 135 8 (nI 0)) 135 16 (nI 0)) 135 12 (nI 0) 135 16 = nI 0 := by rw [u2_nk _ _ _ _ _ (by omega), u2_at]
  have a12 : u2 (u2 (u2 (u2 M 135 9 (nI n)) 135 8 (nI 0)) 135 16 (nI 0)) 135 12 (nI 0) 135 12 = nI 0 := u2_at _ _ _ _
  have rf := gX9_starts N (e + 2) (X := X) (nI n) (nI mx) M L
  rw [sX9_starts_0 N (e + 2), nc_nlt (by omega) (by omega), h8, nc_nlt (by omega) (by omega), nc_nlt (by omega) (by omega)] at rf
  generalize u2 (u2 (u2 (u2 M 135 9 (nI n)) 135 8 (nI 0)) 135 16 (nI 0)) 135 12 (nI 0) = Z at *
  obtain ⟨V, P, b1, b2, b3, b4⟩ := c9_advance (N := N) (d := e + 1) (X := X) (M := Z) (L := L) (f := f) hn hB hN (fun k hk => by rw [na 139 (by omega)]; exact h139 k hk) a9 (q := 0) (by omega) a16
  rw [b1, cV_some, kX9_starts_0 N (e + 2)] at rf
  exact ⟨V, P, rf, b2, by rw [b3.2 12 (by omega)]; exact a12, by rw [b3.2 8 (by omega)]; exact a8, fun a ha => by rw [b3.1 a ha, na a ha], fun k h8 h9 h12 h14 => by rw [b3.2 k (by omega), nk k h8 h9 h12 (by omega)], b4⟩
/-- an empty town -/
def emT : Nat → Nat := fun k => if k = 4 then 1 else 0
theorem emT_ne {k : Nat} (h : k ≠ 4) : emT k = 0 := if_neg h
theorem emT_WF : WF emT := by
  refine ⟨⟨by rw [emT_ne (by omega)]; omega, by rw [emT_ne (by omega)]; omega, by rw [emT_ne (by omega)]; omega, by rw [emT_ne (by omega)]; omega, by show 1 ≤ 16; omega, by rw [emT_ne (by omega)]; omega, by rw [emT_ne (by omega)]; omega⟩, fun v hv => ?_, fun v k hv => ?_, fun v hv => ?_, fun v k hv => ?_, fun v hv => ?_⟩ <;> (rw [emT_ne (by omega)] at hv; omega)
theorem emT_frsh : frsh emT := ⟨emT_ne (by omega), emT_ne (by omega), fun v hv => by rw [emT_ne (by omega)] at hv; omega, fun v hv => by rw [emT_ne (by omega)] at hv; omega, emT_ne (by omega), emT_ne (by omega)⟩
theorem c5_clear {t : Nat} (ht : isT t) : ∃ K, am_G am_prog (N + 30) (d + 2) 57 [.ref t] (mkh X I J) = some (.null, mkh X K J) ∧ TC K t emT ∧ (∀ a, a ≠ t → a ≠ t + 2 → a ≠ t + 14 → K a = I a) ∧ K (t + 14) 5 = nI 0 ∧ K (t + 14) 6 = nI 0 ∧ K (t + 14) 7 = nI 0 := by
  have htt := ht
  unfold isT at htt
  have st : ∀ s z Z Y, s < 4 → RX5_clear_2 N d (z + 1) X t (nI s) Z Y = RX5_clear_2 N d z X t (nI (s + 1)) (u2 Z (t + 2) s (nI 0)) Y := by
    intro s z Z Y hs
    rw [sX5_clear_2 N d z ht, nc_lt hs (by omega), nc_in (by omega) (by omega), nI_clamp (by omega), nI_add s 1]
  have cl := gX5_clear N d ht (X := X) I J
  rw [sX5_clear_0 N d _ ht, st 0 (N + 28) _ _ (by omega), st 1 (N + 27) _ _ (by omega), st 2 (N + 26) _ _ (by omega), st 3 (N + 25) _ _ (by omega), sX5_clear_2 N d (N + 24) ht, nc_nlt (by omega) (by omega)] at cl
  refine ⟨_, cl, ?_, ?_, ?_⟩
  · refine ⟨fun k hk => ?_, ⟨?_, ?_, ?_⟩, ⟨?_, ?_⟩, fun v hv => ?_, fun v k hv => ?_, fun v hv => ?_, fun v k hv => ?_, fun v hv => ?_⟩
    · rw [emT_ne (by omega)]
      rw [u2_na _ _ _ _ _ (by omega), u2_na _ _ _ _ _ (by omega), u2_na _ _ _ _ _ (by omega), u2_na _ _ _ _ _ (by omega), u2_na _ _ _ _ _ (by omega), u2_na _ _ _ _ _ (by omega), u2_na _ _ _ _ _ (by omega), u2_na _ _ _ _ _ (by omega)]
      match k, hk with
      | 0, _ => rw [u2_nk _ _ _ _ _ (by omega), u2_nk _ _ _ _ _ (by omega), u2_nk _ _ _ _ _ (by omega), u2_at]
      | 1, _ => rw [u2_nk _ _ _ _ _ (by omega), u2_nk _ _ _ _ _ (by omega), u2_at]
      | 2, _ => rw [u2_nk _ _ _ _ _ (by omega), u2_at]
      | 3, _ => rw [u2_at]
    · rw [u2_na _ _ _ _ _ (by omega), u2_na _ _ _ _ _ (by omega), u2_na _ _ _ _ _ (by omega), u2_nk _ _ _ _ _ (by omega), u2_nk _ _ _ _ _ (by omega), u2_nk _ _ _ _ _ (by omega), u2_nk _ _ _ _ _ (by omega), u2_at]; rfl
    · rw [u2_na _ _ _ _ _ (by omega), u2_na _ _ _ _ _ (by omega), u2_na _ _ _ _ _ (by omega), u2_nk _ _ _ _ _ (by omega), u2_nk _ _ _ _ _ (by omega), u2_nk _ _ _ _ _ (by omega), u2_at]; rfl
    · rw [u2_na _ _ _ _ _ (by omega), u2_na _ _ _ _ _ (by omega), u2_na _ _ _ _ _ (by omega), u2_nk _ _ _ _ _ (by omega), u2_nk _ _ _ _ _ (by omega), u2_at]; rfl
    · rw [u2_na _ _ _ _ _ (by omega), u2_na _ _ _ _ _ (by omega), u2_na _ _ _ _ _ (by omega), u2_nk _ _ _ _ _ (by omega), u2_at]; rfl
    · rw [u2_na _ _ _ _ _ (by omega), u2_na _ _ _ _ _ (by omega), u2_na _ _ _ _ _ (by omega), u2_at]; rfl
    all_goals (rw [emT_ne (by omega)] at hv; omega)
  · intro a h0 h2 h14
    rw [u2_na _ _ _ _ _ h14, u2_na _ _ _ _ _ h14, u2_na _ _ _ _ _ h14, u2_na _ _ _ _ _ h0, u2_na _ _ _ _ _ h0, u2_na _ _ _ _ _ h0, u2_na _ _ _ _ _ h0, u2_na _ _ _ _ _ h0, u2_na _ _ _ _ _ h2, u2_na _ _ _ _ _ h2, u2_na _ _ _ _ _ h2, u2_na _ _ _ _ _ h2]
  · refine ⟨?_, ?_, u2_at _ _ _ _⟩
    · rw [u2_nk _ _ _ _ _ (by omega), u2_nk _ _ _ _ _ (by omega), u2_at]
    · rw [u2_nk _ _ _ _ _ (by omega), u2_at]
def zf (c : Nat → Int32) (k : Nat) : Nat → Int32 := fun j => if 1716 ≤ j ∧ j < 1716 + k then nI 0 else c j
theorem zf_up (c : Nat → Int32) (k : Nat) : upd (zf c k) (1716 + k) (nI 0) = zf c (k + 1) := by
  funext j
  unfold zf upd
  by_cases q : j = 1716 + k
  · rw [if_pos q, if_pos (by omega)]
  · rw [if_neg q]
    show (if 1716 ≤ j ∧ j < 1716 + k then nI 0 else c j) = _
    by_cases g : 1716 ≤ j ∧ j < 1716 + k
    · rw [if_pos g, if_pos (by omega)]
    · rw [if_neg g, if_neg (by omega)]
theorem c9_empties4 (hN : 10000 ≤ N) : ∃ V, am_G am_prog (N + 30) (e + 1) 240 [.ref 135, .int (nI 4)] (mkh X M L) = some (.null, mkh X V L) ∧ TM (fun k => V 140 (1716 + k)) emT ∧ ZB (V 140) emT ∧ (∀ a, a ≠ 140 → V a = M a) ∧ (∀ k, k < 1716 → V 140 k = M 140 k) ∧ ∀ k, 1716 ≤ k → k < 2145 → V 140 k = if k = 1720 then nI 1 else nI 0 := by
  have lp := lqs (run := fun z i => RX9_empties_8 N e z X (nI 1716) (nI i) (w2 M 140 (zf (M 140) i)) L) (m := 429) (R := some (.null, mkh X (w2 M 140 (upd (zf (M 140) 429) 1720 (nI 1))) L)) (fun z i hi => by
    show RX9_empties_8 N e (z + 1) X (nI 1716) (nI i) (w2 M 140 (zf (M 140) i)) L = RX9_empties_8 N e z X (nI 1716) (nI (i + 1)) (w2 M 140 (zf (M 140) (i + 1))) L
    rw [sX9_empties_8 N e z, nc_lt hi (by omega), nI_add 1716 i, nc_in (by omega) (by omega), nI_clamp (by omega), nI_add i 1, u2_w, zf_up]) (fun z => by
    show RX9_empties_8 N e (z + 1) X (nI 1716) (nI 429) (w2 M 140 (zf (M 140) 429)) L = _
    rw [sX9_empties_8 N e z, nc_nlt (by omega) (by omega), nI_add 1716 4, nc_in (by omega) (by omega), nI_clamp (by omega), u2_w]) (N + 29) 0 (by omega) (by omega)
  have e0 : w2 M 140 (zf (M 140) 0) = M := by
    have : zf (M 140) 0 = M 140 := by funext j; unfold zf; rw [if_neg (by omega)]
    rw [this, w2_id]
  rw [e0] at lp
  have at4 : ∀ k, 1716 ≤ k → k < 2145 → w2 M 140 (upd (zf (M 140) 429) 1720 (nI 1)) 140 k = if k = 1720 then nI 1 else nI 0 := fun k h1 h2 => by
    rw [w2_at]
    unfold upd zf
    by_cases q : k = 1720
    · rw [if_pos q, if_pos q]
    · rw [if_neg q, if_neg q, if_pos (by omega)]
  have cell : ∀ k, k < 429 → w2 M 140 (upd (zf (M 140) 429) 1720 (nI 1)) 140 (1716 + k) = nI (emT k) := fun k hk => by
    rw [at4 _ (by omega) (by omega)]
    by_cases q : k = 4
    · subst q; rfl
    · rw [if_neg (by omega), emT_ne q]
  have cl := gX9_empties N e (X := X) (nI 4) M L
  rw [sX9_empties_0 N e, pk_mul 429 4] at cl
  have cl2 := cl.trans lp
  refine ⟨_, cl2, ⟨fun k hk => cell k (by omega), fun v hv => ?_, fun v k hv => ?_, fun v hv => ?_, fun v k hv => ?_, fun v hv => ?_⟩, ⟨fun v _ h => ?_, fun p _ h => ⟨?_, ?_, fun s hs => ?_⟩, ?_, ?_⟩, fun a ha => w2_na ha, fun k hk => ?_, at4⟩
  · rw [emT_ne (by omega)] at hv; omega
  · rw [emT_ne (by omega)] at hv; omega
  · rw [emT_ne (by omega)] at hv; omega
  · rw [emT_ne (by omega)] at hv; omega
  · rw [emT_ne (by omega)] at hv; omega
  · rw [at4 _ (by omega) (by omega), if_neg (by omega)]
  · rw [at4 _ (by omega) (by omega), if_neg (by omega)]
  · rw [at4 _ (by omega) (by omega), if_neg (by omega)]
  · rw [at4 _ (by omega) (by omega), if_neg (by omega)]
  · rw [at4 _ (by omega) (by omega), if_neg (by omega)]
  · rw [at4 _ (by omega) (by omega), if_neg (by omega)]
  · rw [w2_at]
    unfold upd zf
    rw [if_neg (by omega), if_neg (by omega)]
end
