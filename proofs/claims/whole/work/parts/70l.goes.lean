/-! trades: the reference goes round a ring -/
theorem c9_goesRing {N d : Nat} {X : lt_X} {I : Nat → Nat → Int32} {J : Nat → Nat → Int64} {T : Nat → Nat} (hT : TM (I 140) T) (hw : WF T) {c : Nat → Nat} {p L : Nat} (hc : cOK c L (T 2) (T 3)) (hp : L.testBit p = true) (ho : ong (fL (wth T) c (T 2) L) p) (hI : I 135 30 = nI L) (hC : ∀ i, i < T 2 → I 144 i = nI (c i)) (hW : ∀ p k, p < T 2 → k < T 3 → I 143 (6 * p + k) = nI (wth T p k)) (hN : 1000 ≤ N) : ∃ K, am_G am_prog (N + 30) (d + 3) 311 [.ref 135, .int (nI p)] (mkh X I J) = some (.null, mkh X K J) ∧ (∀ a, a ≠ 145 → K a = I a) ∧ (∀ q, (∃ m, itr (fL (wth T) c (T 2) L) m p = q) → K 145 q = nI (c (fL (wth T) c (T 2) L q))) ∧ (∀ q, ¬ (∃ m, itr (fL (wth T) c (T 2) L) m p = q) → K 145 q = I 145 q) := by
  obtain ⟨h0, h1, h2, h3, h4, h5, h6⟩ := hw.1
  have hL6 : ∀ i, L.testBit i = true → i < 6 := fun i hi => by have := tb_lt hc.1 hi; omega
  have hf : ∀ i, L.testBit i = true → L.testBit (fL (wth T) c (T 2) L i) = true := fun i hi => (ptf_in hi (T 2)).1
  generalize hF : fL (wth T) c (T 2) L = f at *
  have inn : ∀ n, L.testBit (itr f n p) = true := itr_in (s := fun i => L.testBit i = true) hf hp
  obtain ⟨m, m1, m2, m3⟩ := ong_le (s := fun i => L.testBit i = true) hL6 hf hp ho
  -- the first place where it comes back
  have least : ∃ m, 1 ≤ m ∧ m ≤ 6 ∧ itr f m p = p ∧ ∀ j, 1 ≤ j → j < m → itr f j p ≠ p := by
    obtain ⟨f1, f2, f3, f4⟩ := fnd_spec (fun j => itr f (j + 1) p == p) 6 0
    have lt : fnd (fun j => itr f (j + 1) p == p) 0 6 < 6 := by
      by_cases q : fnd (fun j => itr f (j + 1) p == p) 0 6 < 6
      · exact q
      · have := f3 (m - 1) (by omega) (by omega)
        rw [show m - 1 + 1 = m by omega, m3] at this
        simp at this
    refine ⟨fnd (fun j => itr f (j + 1) p == p) 0 6 + 1, by omega, by omega, by simpa using f4 (by omega), fun j j1 j2 e => ?_⟩
    have := f3 (j - 1) (by omega) (by omega)
    rw [show j - 1 + 1 = j by omega, e] at this
    simp at this
  obtain ⟨r, r1, r2, r3, r4⟩ := least
  have per : ∀ n, ∃ j, j < r ∧ itr f n p = itr f j p := fun n => ⟨n % r, Nat.mod_lt _ (by omega), by
    have := Nat.div_add_mod n r
    have e : itr f (n % r + r * (n / r)) p = itr f (n % r) p := by rw [itr_add, itr_mul r3]
    rw [← e, Nat.add_comm, this]⟩
  have main : ∀ k i, i + k = r → 1 ≤ k → ∀ K, (∀ a, a ≠ 145 → K a = I a) → (∀ j, j < i → K 145 (itr f j p) = nI (c (f (itr f j p)))) → (∀ q, ¬ (∃ m, itr f m p = q) → K 145 q = I 145 q) → ∃ M, (∀ a, a ≠ 145 → M a = I a) ∧ (∀ j, j < r → M 145 (itr f j p) = nI (c (f (itr f j p)))) ∧ (∀ q, ¬ (∃ m, itr f m p = q) → M 145 q = I 145 q) ∧ ∀ n, k < n → RX9_goesRing_2 N (d + 2) n X (nI p) (nI (itr f i p)) K J = some (.null, mkh X M J) := by
    intro k
    induction k with
    | zero => intro i _ hk; exact absurd hk (by omega)
    | succ k ih =>
      intro i hi _ K a b z
      have h6i := hL6 _ (inn i)
      have h6s := tb_lt hc.1 (inn (i + 1))
      have pt : am_G am_prog (N + 30) (d + 2) 310 [.ref 135, .int (nI (itr f i p))] (mkh X K J) = some (.int (nI (itr f (i + 1) p)), mkh X K J) := by
        have := c9_pointsTo (N := N) (d := d) (X := X) (I := K) (J := J) (T := T) (by rw [a 140 (by omega)]; exact hT) hw hc (inn i) (by rw [a 135 (by omega)]; exact hI) (fun j hj => by rw [a 144 (by omega)]; exact hC j hj) (fun p k x y => by rw [a 143 (by omega)]; exact hW p k x y) hN
        rw [this]
        show some (Value.int (nI (ptf (wth T) c L (itr f i p) (T 2))), _) = some (Value.int (nI (f (itr f i p))), _)
        rw [← hF]; rfl
      have hv : K 144 (itr f (i + 1) p) = nI (c (f (itr f i p))) := by rw [a 144 (by omega), hC _ h6s]; rfl
      have set1 : ∀ j, j < i + 1 → u2 K 145 (itr f i p) (nI (c (f (itr f i p)))) 145 (itr f j p) = nI (c (f (itr f j p))) := fun j hj => by
        by_cases q : itr f j p = itr f i p
        · rw [q, u2_at]
        · rw [u2_nk _ _ _ _ _ q]
          exact b j (by
            have : j ≠ i := fun e => q (by rw [e])
            omega)
      have oth : ∀ q, ¬ (∃ m, itr f m p = q) → u2 K 145 (itr f i p) (nI (c (f (itr f i p)))) 145 q = I 145 q := fun q hq => by
        rw [u2_nk _ _ _ _ _ (fun e => hq ⟨i, e.symm⟩)]; exact z q hq
      have fr : ∀ x, x ≠ 145 → u2 K 145 (itr f i p) (nI (c (f (itr f i p)))) x = I x := fun x hx => by rw [u2_na _ _ _ _ _ hx, a x hx]
      by_cases q : k = 0
      · subst q
        have e : i + 1 = r := by omega
        refine ⟨_, fr, fun j hj => set1 j (by omega), oth, fun n hn => ?_⟩
        obtain ⟨n, rfl⟩ : ∃ y, n = y + 1 := ⟨n - 1, by omega⟩
        rw [sX9_goesRing_2 N (d + 2) n, pt, cI_some, kX9_goesRing_0 N (d + 2) n, nc_in (by omega) (by omega), nc_in (by omega) (by omega), nI_clamp (by omega), nI_clamp (by omega), hv, nc_eq (by rw [e]; exact r3)]
      · obtain ⟨M, x1, x2, x3, x4⟩ := ih (i + 1) (by omega) (by omega) _ fr set1 oth
        refine ⟨M, x1, x2, x3, fun n hn => ?_⟩
        obtain ⟨n, rfl⟩ : ∃ y, n = y + 1 := ⟨n - 1, by omega⟩
        have hp6 := hL6 p hp
        rw [sX9_goesRing_2 N (d + 2) n, pt, cI_some, kX9_goesRing_0 N (d + 2) n, nc_in (by omega) (by omega), nc_in (by omega) (by omega), nI_clamp (by omega), nI_clamp (by omega), hv, nc_ne (r4 (i + 1) (by omega) (by omega)) (by omega) (by omega)]
        exact x4 n (by omega)
  obtain ⟨M, x1, x2, x3, x4⟩ := main r 0 (by omega) r1 I (fun _ _ => rfl) (fun j hj => absurd hj (by omega)) (fun _ _ => rfl)
  refine ⟨M, ?_, x1, fun q hq => ?_, x3⟩
  · rw [gX9_goesRing N (d + 2), sX9_goesRing_0 N (d + 2)]
    exact x4 (N + 29) (by omega)
  · obtain ⟨n, hn⟩ := hq
    obtain ⟨j, j1, j2⟩ := per n
    rw [← hn, j2]; exact x2 j j1
