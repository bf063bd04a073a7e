/-! rings -/
theorem php : ∀ n (g : Nat → Nat), (∀ i, i ≤ n → g i < n) → ∃ i j, i < j ∧ j ≤ n ∧ g i = g j := by
  intro n
  induction n with
  | zero => intro g h; exact absurd (h 0 (by omega)) (by omega)
  | succ n ih =>
    intro g h
    by_cases c : ∃ i, i ≤ n ∧ g i = g (n + 1)
    · obtain ⟨i, h1, h2⟩ := c
      exact ⟨i, n + 1, by omega, by omega, h2⟩
    · have c' : ∀ i, i ≤ n → g i ≠ g (n + 1) := fun i hi e => c ⟨i, hi, e⟩
      have hv := h (n + 1) (by omega)
      obtain ⟨i, j, h1, h2, h3⟩ := ih (fun i => if g i = n then g (n + 1) else g i) (fun i hi => by
        show (if g i = n then g (n + 1) else g i) < n
        have a := c' i hi
        have b := h i (by omega)
        split <;> omega)
      have ci := c' i (by omega)
      have cj := c' j (by omega)
      have h3 : (if g i = n then g (n + 1) else g i) = (if g j = n then g (n + 1) else g j) := h3
      refine ⟨i, j, h1, by omega, ?_⟩
      split at h3 <;> split at h3 <;> omega
def itr (f : Nat → Nat) : Nat → Nat → Nat
  | 0, p => p
  | n + 1, p => f (itr f n p)
theorem itr_add (f : Nat → Nat) (p : Nat) (b : Nat) : ∀ a, itr f (a + b) p = itr f a (itr f b p) := by
  intro a
  induction a with
  | zero => rw [Nat.zero_add]; rfl
  | succ a ih => rw [show a + 1 + b = a + b + 1 by omega]; show f (itr f (a + b) p) = f (itr f a (itr f b p)); rw [ih]
theorem itr_mul {f : Nat → Nat} {p n : Nat} (h : itr f n p = p) : ∀ k, itr f (n * k) p = p := by
  intro k
  induction k with
  | zero => rfl
  | succ k ih => rw [Nat.mul_succ, itr_add, h, ih]
theorem itr_in {f : Nat → Nat} {s : Nat → Prop} (hf : ∀ p, s p → s (f p)) {p : Nat} (hp : s p) : ∀ n, s (itr f n p) := by
  intro n
  induction n with
  | zero => exact hp
  | succ n ih => exact hf _ ih
/-- p comes back to itself -/
def ong (f : Nat → Nat) (p : Nat) : Prop := ∃ n, 1 ≤ n ∧ itr f n p = p
theorem ong_6 {f : Nat → Nat} {s : Nat → Prop} (h6 : ∀ p, s p → p < 6) (hf : ∀ p, s p → s (f p)) {p : Nat} (hp : s p) : ong f (itr f 6 p) := by
  obtain ⟨i, j, h1, h2, h3⟩ := php 6 (fun n => itr f n p) (fun i _ => h6 _ (itr_in hf hp i))
  have h3 : itr f i p = itr f j p := h3
  refine ⟨j - i, by omega, ?_⟩
  rw [← itr_add, show j - i + 6 = (6 - i) + j by omega, itr_add, ← h3, ← itr_add, show 6 - i + i = 6 by omega]
theorem ong_le {f : Nat → Nat} {s : Nat → Prop} (h6 : ∀ p, s p → p < 6) (hf : ∀ p, s p → s (f p)) {p : Nat} (hp : s p) (ho : ong f p) : ∃ m, 1 ≤ m ∧ m ≤ 6 ∧ itr f m p = p := by
  obtain ⟨i, j, h1, h2, h3⟩ := php 6 (fun n => itr f n p) (fun i _ => h6 _ (itr_in hf hp i))
  have h3 : itr f i p = itr f j p := h3
  obtain ⟨n, hn, e⟩ := ho
  have em := itr_mul e i
  have hni : i ≤ n * i := Nat.le_mul_of_pos_left i hn
  refine ⟨j - i, by omega, by omega, ?_⟩
  have a : itr f (n * i) p = itr f (n * i - i) (itr f i p) := by rw [← itr_add, show n * i - i + i = n * i by omega]
  have b : itr f (n * i - i) (itr f j p) = itr f (j - i) p := by rw [← itr_add, show n * i - i + j = (j - i) + n * i by omega, itr_add, em]
  rw [em, h3, b] at a
  exact a.symm
theorem ong_f {f : Nat → Nat} {p : Nat} (h : ong f p) : ong f (f p) := by
  obtain ⟨n, hn, e⟩ := h
  refine ⟨n, hn, ?_⟩
  have : itr f (n + 1) p = f p := by show f (itr f n p) = f p; rw [e]
  rw [show n + 1 = n + 1 from rfl, itr_add] at this
  exact this
/-- the one whom p comes to in six steps leads back to p, if p is in a ring -/
theorem ong_back {f : Nat → Nat} {p : Nat} (h : ong f p) (k : Nat) : ∃ m, itr f m (itr f k p) = p := by
  obtain ⟨n, hn, e⟩ := h
  have hk : k ≤ n * k := Nat.le_mul_of_pos_left k hn
  exact ⟨n * k - k, by rw [← itr_add, show n * k - k + k = n * k by omega]; exact itr_mul e k⟩
/-- in a ring, or not: the class's look, at most seven steps -/
theorem c0_isInRing {N d : Nat} {X : lt_X} {I : Nat → Nat → Int32} {J : Nat → Nat → Int64} {f : Nat → Nat} {L p : Nat} (hL : ∀ i, L.testBit i = true → i < 6) (hf : ∀ i, L.testBit i = true → L.testBit (f i) = true) (hp : L.testBit p = true) (hI : ∀ i, L.testBit i = true → I 131 i = nI (f i)) (hN : 1000 ≤ N) : ∃ b : Nat, am_G am_prog (N + 30) (d + 1) 12 [.ref 126, .int (nI p)] (mkh X I J) = some (.int (nI b), (mkh X I J)) ∧ ((b = 1 ∧ ong f p) ∨ (b = 0 ∧ ¬ ong f p)) := by
  have hp6 := hL p hp
  have inn : ∀ n, L.testBit (itr f n p) = true := itr_in (s := fun i => L.testBit i = true) hf hp
  rw [gX0_isInRing N d, sX0_isInRing_0 N d, nc_in (by omega) (by omega), nI_clamp (by omega), hI p hp]
  have main : ∀ k i, i + k = 6 → (∀ m, 1 ≤ m → m ≤ i → itr f m p ≠ p) → ∀ n, k < n → ∃ b : Nat, RX0_isInRing_9 N d n X (nI p) (nI (itr f (i + 1) p)) (nI i) I J = some (.int (nI b), (mkh X I J)) ∧ ((b = 1 ∧ ong f p) ∨ (b = 0 ∧ ¬ ong f p)) := by
    intro k
    induction k with
    | zero =>
      intro i hi hno n hn
      obtain ⟨n, rfl⟩ : ∃ y, n = y + 1 := ⟨n - 1, by omega⟩
      have h6 := hL _ (inn (i + 1))
      rw [sX0_isInRing_9 N d n, nc_nlt (by omega) (by omega)]
      by_cases c : itr f (i + 1) p = p
      · exact ⟨1, by rw [nc_eq c], Or.inl ⟨rfl, i + 1, by omega, c⟩⟩
      · refine ⟨0, by rw [nc_ne c (by omega) (by omega)], Or.inr ⟨rfl, fun ho => ?_⟩⟩
        obtain ⟨m, m1, m2, m3⟩ := ong_le (s := fun i => L.testBit i = true) hL hf hp ho
        exact hno m m1 (by omega) m3
    | succ k ih =>
      intro i hi hno n hn
      obtain ⟨n, rfl⟩ : ∃ y, n = y + 1 := ⟨n - 1, by omega⟩
      have h6 := hL _ (inn (i + 1))
      rw [sX0_isInRing_9 N d n, nc_lt (by omega) (by omega)]
      by_cases c : itr f (i + 1) p = p
      · exact ⟨1, by rw [nc_eq c, nc_eq c], Or.inl ⟨rfl, i + 1, by omega, c⟩⟩
      · rw [nc_ne c (by omega) (by omega), nc_in (by omega) (by omega), nI_clamp (by omega), hI _ (inn (i + 1)), nI_add]
        exact ih (i + 1) (by omega) (fun m m1 m2 => by
          by_cases q : m = i + 1
          · rw [q]; exact c
          · exact hno m m1 (by omega)) n (by omega)
  exact main 6 0 (by omega) (fun m m1 m2 => absurd m2 (by omega)) (N + 29) (by omega)
theorem c9_ringFrom {N d : Nat} {X : lt_X} {I : Nat → Nat → Int32} {J : Nat → Nat → Int64} {T : Nat → Nat} (hT : TM (I 140) T) (hw : WF T) {c : Nat → Nat} {p L : Nat} (hc : cOK c L (T 2) (T 3)) (hp : L.testBit p = true) (hI : I 135 30 = nI L) (hC : ∀ i, i < T 2 → I 144 i = nI (c i)) (hW : ∀ p k, p < T 2 → k < T 3 → I 143 (6 * p + k) = nI (wth T p k)) (hN : 1000 ≤ N) : am_G am_prog (N + 30) (d + 3) 312 [.ref 135, .int (nI p)] (mkh X I J) = some (.int (nI (itr (fun q => ptf (wth T) c L q (T 2)) 6 p)), (mkh X I J)) := by
  have inn : ∀ n, L.testBit (itr (fun q => ptf (wth T) c L q (T 2)) n p) = true := itr_in (s := fun i => L.testBit i = true) (fun q hq => (ptf_in hq (T 2)).1) hp
  rw [gX9_ringFrom N (d + 2), sX9_ringFrom_0 N (d + 2)]
  refine lqs (run := fun n i => RX9_ringFrom_4 N (d + 2) n X (nI (itr (fun q => ptf (wth T) c L q (T 2)) i p)) (nI i) I J) (m := 6) ?_ ?_ (N + 29) 0 (by omega) (by omega)
  · intro n i hi
    rw [sX9_ringFrom_4 N (d + 2) n, nc_lt hi (by omega), c9_pointsTo hT hw hc (inn i) hI hC hW hN, cI_some, kX9_ringFrom_0 N (d + 2) n, nI_add]
    rfl
  · intro n
    rw [sX9_ringFrom_4 N (d + 2) n, nc_nlt (by omega) (by omega)]
