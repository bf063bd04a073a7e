/-! trades: the class's rounds -/
def fL (W : Nat → Nat → Nat) (c : Nat → Nat) (P L q : Nat) : Nat := ptf W c L q P
def lvT (W : Nat → Nat → Nat) (c : Nat → Nat) (P L : Nat) : Nat := L &&& nnot (rgS (fL W c P L) L P)
def gtT (W : Nat → Nat → Nat) (c : Nat → Nat) (P L : Nat) (g : Nat → Nat) (q : Nat) : Nat := if (L.testBit q && onb (fL W c P L) q) = true then c (fL W c P L q) else g q
def trs (W : Nat → Nat → Nat) (c : Nat → Nat) (P : Nat) : Nat → Nat → (Nat → Nat) → Nat → Nat
  | 0, _, g => g
  | k + 1, L, g => trs W c P k (lvT W c P L) (gtT W c P L g)
theorem trs_0 (W : Nat → Nat → Nat) (c : Nat → Nat) (P : Nat) : ∀ k g, trs W c P k 0 g = g := by
  intro k
  induction k with
  | zero => intro g; rfl
  | succ k ih =>
    intro g
    show trs W c P k (lvT W c P 0) (gtT W c P 0 g) = g
    have e1 : lvT W c P 0 = 0 := Nat.zero_and _
    have e2 : gtT W c P 0 g = g := funext (fun q => by
      unfold gtT
      rw [Nat.zero_testBit, Bool.false_and]
      rfl)
    rw [e1, e2, ih]
theorem lvT_ok {W : Nat → Nat → Nat} {c : Nat → Nat} {P L S : Nat} (h : cOK c L P S) : cOK c (lvT W c P L) P S := by
  refine ⟨and_nn_lt h.1, fun i hi => h.2 i ?_⟩
  unfold lvT at hi
  rw [Nat.testBit_and, Bool.and_eq_true] at hi
  exact hi.1
theorem c0_rounds {N d : Nat} {X : lt_X} {I : Nat → Nat → Int32} {J : Nat → Nat → Int64} {W : Nat → Nat → Nat} {c : Nat → Nat} {S P : Nat} {K0 : Nat → Nat → Int32} (hS : S ≤ 6) (hP : P ≤ 6) (hC : ∀ i, i < P → K0 129 i = nI (c i)) (hW : ∀ p k, p < P → k < S → K0 127 (6 * p + k) = nI (W p k)) (hl : ∀ p s, p < P → W p s ≤ 648) (hN : 1000 ≤ N) : ∀ k r, r + k = 6 → ∀ L g K, cOK c L P S → (∀ a, a ≠ 130 → a ≠ 131 → K a = K0 a) → (∀ p, p < P → K 130 p = nI (g p)) → ∃ M, (∀ a, a ≠ 130 → a ≠ 131 → M a = K0 a) ∧ (∀ p, p < P → M 130 p = nI (trs W c P k L g p)) ∧ ev (fun n => RX0_makeTrades_77 N (d + 2) n X (nI P) (nI L) (nI r) K J) (1 + k * 10) (some (.null, mkh X M J)) := by
  intro k
  induction k with
  | zero =>
    intro r hr L g K hc f b
    refine ⟨K, f, b, ev_le (ev_0 (fun n => ?_)) (by omega)⟩
    rw [sX0_makeTrades_77 N (d + 2) n, nc_nlt (by omega) (by omega)]
  | succ k ih =>
    intro r hr L g K hc f b
    have h64 : 2 ^ P ≤ 2 ^ 6 := Nat.pow_le_pow_right (by omega) hP
    have hL := hc.1
    by_cases c0 : L = 0
    · subst c0
      refine ⟨K, f, fun p hp => by rw [trs_0]; exact b p hp, ev_le (ev_0 (fun n => ?_)) (by omega)⟩
      rw [sX0_makeTrades_77 N (d + 2) n, nc_lt (by omega) (by omega), nc_eq rfl]
    · have pts : ∀ m i, i + m = P → ∀ K1, (∀ a, a ≠ 131 → K1 a = K a) → (∀ p, p < i → L.testBit p = true → K1 131 p = nI (fL W c P L p)) → ∃ M, (∀ a, a ≠ 131 → M a = K a) ∧ (∀ p, L.testBit p = true → M 131 p = nI (fL W c P L p)) ∧ ∀ B R, ev (fun n => am_cI (am_G am_prog (N + 30) (d + 2) 11 [.ref 126, .int (nI P), .int (nI L)] (mkh X M J)) (KX0_makeTrades_3 N (d + 2) n (nI P) (nI r) (nI L))) B R → ev (fun n => RX0_makeTrades_91 N (d + 2) n X (nI P) (nI L) (nI r) (nI i) K1 J) (B + 1 + m) R := by
        intro m
        induction m with
        | zero =>
          intro i hi K1 f1 b1
          refine ⟨K1, f1, fun p hp => b1 p (by have := tb_lt hL hp; omega) hp, fun B R e => ev_s (fun n => ?_) e⟩
          rw [sX0_makeTrades_91 N (d + 2) n, nc_nlt (by omega) (by omega)]
        | succ m ih2 =>
          intro i hi K1 f1 b1
          by_cases q : L.testBit i = true
          · obtain ⟨M, m1, m2, m3⟩ := ih2 (i + 1) (by omega) (u2 K1 131 i (nI (fL W c P L i))) (fun a ha => by rw [u2_na _ _ _ _ _ ha, f1 a ha]) (fun p hp hb => by
              by_cases q2 : p = i
              · subst q2; rw [u2_at]
              · rw [u2_nk _ _ _ _ _ q2]; exact b1 p (by omega) hb)
            refine ⟨M, m1, m2, fun B R e => ev_le (ev_s (fun n => ?_) (m3 B R e)) (by omega)⟩
            rw [sX0_makeTrades_91 N (d + 2) n, nc_lt (by omega) (by omega), nc_b1 q (by omega) (by omega), c0_pointsTo (d := d) hS hP hc q (fun j hj => by rw [f1 129 (by omega), f 129 (by omega) (by omega)]; exact hC j hj) (fun p k a b => by rw [f1 127 (by omega), f 127 (by omega) (by omega)]; exact hW p k a b) (fun s => hl i s (by omega)) hN, cI_some, kX0_makeTrades_2 N (d + 2) n, nc_in (by omega) (by omega), nI_clamp (by omega), nI_add]
            rfl
          · obtain ⟨M, m1, m2, m3⟩ := ih2 (i + 1) (by omega) K1 f1 (fun p hp hb => b1 p (by
              have : p ≠ i := fun e => q (by rw [← e]; exact hb)
              omega) hb)
            refine ⟨M, m1, m2, fun B R e => ev_le (ev_s (fun n => ?_) (m3 B R e)) (by omega)⟩
            rw [sX0_makeTrades_91 N (d + 2) n, nc_lt (by omega) (by omega), nc_b0 (by simpa using q) (by omega) (by omega), nI_add]
      obtain ⟨M, m1, m2, m3⟩ := pts P 0 (by omega) K (fun _ _ => rfl) (fun p hp => absurd hp (by omega))
      obtain ⟨Y, y1, y2, y3⟩ := c0_leaveInRings (N := N) (d := d) (X := X) (I := M) (J := J) (f := fL W c P L) (c := c) hP hL (fun i hi => (ptf_in hi P).1) m2 (fun i hi => by rw [m1 129 (by omega), f 129 (by omega) (by omega)]; exact hC i hi) hN
      obtain ⟨Z, z1, z2, z3⟩ := ih (r + 1) (by omega) (lvT W c P L) (gtT W c P L g) Y (lvT_ok hc) (fun a b1 b2 => by rw [y2 a b1, m1 a b2, f a b1 b2]) (fun p hp => by
        rw [y3 p hp, m1 130 (by omega), b p hp]
        unfold gtT
        split <;> rfl)
      have hg : rgS (fL W c P L) L P < 2 ^ 32 := Nat.lt_of_lt_of_le (bst_lt (Nat.le_refl P)) (Nat.pow_le_pow_right (by omega) (by omega))
      have e2 : ev (fun n => am_cI (am_G am_prog (N + 30) (d + 2) 11 [.ref 126, .int (nI P), .int (nI L)] (mkh X M J)) (KX0_makeTrades_3 N (d + 2) n (nI P) (nI r) (nI L))) (1 + k * 10) (some (.null, mkh X Z J)) := by
        intro n hn
        show am_cI _ _ = _
        rw [y1, cI_some, kX0_makeTrades_3 N (d + 2) n, no_not hg, no_and, nI_add]
        exact z3 n hn
      refine ⟨Z, z1, z2, ev_le (ev_s (fun n => ?_) (m3 _ _ e2)) (by omega)⟩
      rw [sX0_makeTrades_77 N (d + 2) n, nc_lt (by omega) (by omega), nc_ne c0 (by omega) (by omega)]
