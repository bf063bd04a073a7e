/-! numbers as nI of a Nat, conditions by facts on Nat, loops (by hand) -/
theorem no_or (a b : Nat) : nI a ||| nI b = nI (a ||| b) := by
  apply Int32.toBitVec_inj.1
  show BitVec.ofNat 32 a ||| BitVec.ofNat 32 b = BitVec.ofNat 32 (a ||| b)
  apply BitVec.eq_of_getLsbD_eq
  intro i hi
  simp [hi]
theorem no_and (a b : Nat) : nI a &&& nI b = nI (a &&& b) := by
  apply Int32.toBitVec_inj.1
  show BitVec.ofNat 32 a &&& BitVec.ofNat 32 b = BitVec.ofNat 32 (a &&& b)
  apply BitVec.eq_of_getLsbD_eq
  intro i hi
  simp [hi]
theorem no_xor (a b : Nat) : nI a ^^^ nI b = nI (a ^^^ b) := by
  apply Int32.toBitVec_inj.1
  show BitVec.ofNat 32 a ^^^ BitVec.ofNat 32 b = BitVec.ofNat 32 (a ^^^ b)
  apply BitVec.eq_of_getLsbD_eq
  intro i hi
  simp [hi]
theorem no_sl : ∀ n, n < 32 → ((nI n &&& 31).toBitVec.smod 32).toNat = n := by decide +kernel
theorem no_shl {v : Nat} (h : v < 32) : nI 1 <<< (nI v &&& 31) = nI (2 ^ v) := by
  rw [pk_shlN (n := 1) (nI v &&& 31) v (no_sl v h) (by rw [Nat.one_mul]; exact Nat.pow_lt_pow_right (by omega) h), Nat.one_mul]
theorem no_shlN {a v : Nat} (h : v < 32) (ha : a * 2 ^ v < 2 ^ 32) : nI a <<< (nI v &&& 31) = nI (a * 2 ^ v) := pk_shlN (nI v &&& 31) v (no_sl v h) ha
theorem no_shr {a v : Nat} (ha : a < 2 ^ 31) (h : v < 32) : nI a >>> (nI v &&& 31) = nI (a / 2 ^ v) := pk_shrN ha _ v (no_sl v h)
theorem no_bit {a v : Nat} (ha : a < 2 ^ 31) (h : v < 32) : (nI a >>> (nI v &&& 31)) &&& nI 1 = nI (if a.testBit v then 1 else 0) := by
  rw [no_shr ha h, no_and, Nat.and_one_is_mod, Nat.testBit_eq_decide_div_mod_eq]
  generalize a / 2 ^ v = z
  rcases Nat.mod_two_eq_zero_or_one z with q | q <;> simp [q]
def nnot (b : Nat) : Nat := 2 ^ 32 - (b + 1)
theorem nnot_bit {b : Nat} (hb : b < 2 ^ 32) (i : Nat) : (nnot b).testBit i = (decide (i < 32) && !b.testBit i) := Nat.testBit_two_pow_sub_succ hb i
theorem no_m1 : (-1 : Int32) = nI 4294967295 := by decide +kernel
theorem no_not {b : Nat} (hb : b < 2 ^ 32) : nI b ^^^ (-1) = nI (nnot b) := by
  rw [no_m1, no_xor]
  congr 1
  apply Nat.eq_of_testBit_eq
  intro i
  rw [Nat.testBit_xor, nnot_bit hb, show 4294967295 = 2 ^ 32 - 1 from rfl, Nat.testBit_two_pow_sub_one]
  by_cases q : i < 32
  · simp [q]
  · have e : b.testBit i = false := Nat.testBit_lt_two_pow (Nat.lt_of_lt_of_le hb (Nat.pow_le_pow_right (by omega) (by omega)))
    simp [q, e]
theorem no_inj {a b : Nat} (ha : a < 2 ^ 32) (hb : b < 2 ^ 32) : nI a = nI b ↔ a = b := by
  constructor
  · intro h
    have e := congrArg (fun x : Int32 => x.toBitVec.toNat) h
    simp only [pk_tn ha, pk_tn hb] at e
    exact e
  · intro h; rw [h]
theorem nc_lt {α : Type} {a b : Nat} {x y : α} (h : a < b) (hb : b < 2 ^ 31) : (if nI a < nI b then x else y) = x := if_pos (nI_lt h hb)
theorem nc_nlt {α : Type} {a b : Nat} {x y : α} (h : b ≤ a) (ha : a < 2 ^ 31) : (if nI a < nI b then x else y) = y := if_neg (nI_nlt h ha)
theorem nc_eq {α : Type} {a b : Nat} {x y : α} (h : a = b) : (if nI a = nI b then x else y) = x := if_pos (by rw [h])
theorem nc_ne {α : Type} {a b : Nat} {x y : α} (h : a ≠ b) (ha : a < 2 ^ 32) (hb : b < 2 ^ 32) : (if nI a = nI b then x else y) = y := if_neg (fun q => h ((no_inj ha hb).mp q))
theorem nc_in {α : Type} {j n : Nat} {x y : α} (h : j < n) (hn : n < 2 ^ 31) : (if am_in (nI j) n then x else y) = x := if_pos (in_nI h hn)
theorem nc_b1 {α : Type} {a v : Nat} {x y : α} (h : a.testBit v = true) (ha : a < 2 ^ 31) (hv : v < 32) : (if ((nI a >>> (nI v &&& 31)) &&& nI 1) = nI 0 then x else y) = y := by
  rw [no_bit ha hv, h]; exact if_neg (by decide)
theorem nc_b0 {α : Type} {a v : Nat} {x y : α} (h : a.testBit v = false) (ha : a < 2 ^ 31) (hv : v < 32) : (if ((nI a >>> (nI v &&& 31)) &&& nI 1) = nI 0 then x else y) = x := by
  rw [no_bit ha hv, h]; exact if_pos rfl
theorem nc_c1 {α : Type} {a v : Nat} {x y : α} (h : a.testBit v = true) (ha : a < 2 ^ 31) (hv : v < 32) : (if ((nI a >>> (nI v &&& 31)) &&& nI 1) = nI 1 then x else y) = x := by
  rw [no_bit ha hv, h]; exact if_pos rfl
theorem nc_c0 {α : Type} {a v : Nat} {x y : α} (h : a.testBit v = false) (ha : a < 2 ^ 31) (hv : v < 32) : (if ((nI a >>> (nI v &&& 31)) &&& nI 1) = nI 1 then x else y) = y := by
  rw [no_bit ha hv, h]; exact if_neg (by decide)
theorem nc_m1 {α : Type} {a : Nat} {x y : α} (h : a = 4294967295) : (if nI a = (-1) then x else y) = x := if_pos (by rw [h, no_m1])
theorem nc_nm1 {α : Type} {a : Nat} {x y : α} (h : a < 2 ^ 31) : (if nI a = (-1) then x else y) = y := if_neg (fun q => by
  rw [no_m1, no_inj (by omega) (by omega)] at q
  omega)
theorem nc_neg {α : Type} {a : Nat} {x y : α} (h : a = 4294967295) : (if nI a < nI 0 then x else y) = x := if_pos (by rw [h]; decide +kernel)
theorem nz_ok {y : Nat} {o : am_O} (h : 0 < y) (hy : y < 2 ^ 31) : am_nz (nI y) o = o := if_neg (nI_ne0 h hy)
theorem nb_ok {y : Nat} {o : am_O} (hy : y ≤ 1) : am_nb (nI y) o = o := if_pos (by
  rcases Nat.le_one_iff_eq_zero_or_eq_one.mp hy with h | h <;> rw [h]
  · exact Or.inl rfl
  · exact Or.inr rfl)
theorem no_max {a b : Nat} (ha : a < 2 ^ 31) (hb : b < 2 ^ 31) : (if nI a < nI b then nI b else nI a) = nI (max a b) := by
  by_cases q : a < b
  · rw [nc_lt q hb, Nat.max_eq_right (by omega)]
  · rw [nc_nlt (by omega) ha, Nat.max_eq_left (by omega)]
theorem no_min {a b : Nat} (ha : a < 2 ^ 31) (hb : b < 2 ^ 31) : (if nI b < nI a then nI b else nI a) = nI (min a b) := by
  by_cases q : b < a
  · rw [nc_lt q ha, Nat.min_eq_right (by omega)]
  · rw [nc_nlt (by omega) hb, Nat.min_eq_left (by omega)]
theorem cI_some (x : Int32) (h : am_H) (f : Int32 → am_H → am_O) : am_cI (some (.int x, h)) f = f x h := rfl
theorem cL_some (x : Int64) (h : am_H) (f : Int64 → am_H → am_O) : am_cL (some (.long x, h)) f = f x h := rfl
theorem cV_some (h : am_H) (f : am_H → am_O) : am_cV (some (.null, h)) f = f h := rfl
theorem cI_ite {c : Prop} [Decidable c] (a b : am_O) (f : Int32 → am_H → am_O) : am_cI (if c then a else b) f = if c then am_cI a f else am_cI b f := by split <;> rfl
theorem cV_ite {c : Prop} [Decidable c] (a b : am_O) (f : am_H → am_O) : am_cV (if c then a else b) f = if c then am_cV a f else am_cV b f := by split <;> rfl
/-! loops -/
theorem lqs {run : Nat → Nat → am_O} {m : Nat} {R : am_O} (hs : ∀ n i, i < m → run (n + 1) i = run n (i + 1)) (hx : ∀ n, run (n + 1) m = R) : ∀ n i, i ≤ m → m < n + i → run n i = R := by
  intro n
  induction n with
  | zero => intro i h1 h2; omega
  | succ n ih =>
    intro i h1 h2
    by_cases q : i = m
    · rw [q]; exact hx n
    · rw [hs n i (by omega)]; exact ih (i + 1) (by omega) (by omega)
def ev (f : Nat → am_O) (B : Nat) (R : am_O) : Prop := ∀ n, B ≤ n → f n = R
theorem ev_s {f g : Nat → am_O} {B : Nat} {R : am_O} (h : ∀ n, f (n + 1) = g n) (e : ev g B R) : ev f (B + 1) R := by
  intro n hn
  obtain ⟨n, rfl⟩ : ∃ z, n = z + 1 := ⟨n - 1, by omega⟩
  rw [h n]; exact e n (by omega)
theorem ev_0 {f : Nat → am_O} {R : am_O} (h : ∀ n, f (n + 1) = R) : ev f 1 R := by
  intro n hn
  obtain ⟨n, rfl⟩ : ∃ z, n = z + 1 := ⟨n - 1, by omega⟩
  exact h n
theorem ev_le {f : Nat → am_O} {A B : Nat} {R : am_O} (e : ev f A R) (h : A ≤ B) : ev f B R := fun n hn => e n (by omega)
theorem lqc {run : Nat → Nat → am_O} {m c B : Nat} {R : am_O} (hs : ∀ i B, i < m → ev (fun n => run n (i + 1)) B R → ev (fun n => run n i) (B + c) R) (hx : ev (fun n => run n m) B R) : ∀ k i, i + k = m → ev (fun n => run n i) (B + k * c) R := by
  intro k
  induction k with
  | zero => intro i h; have e : i = m := by omega
            rw [e, Nat.zero_mul, Nat.add_zero]; exact hx
  | succ k ih =>
    intro i h
    have e := hs i (B + k * c) (by omega) (ih (i + 1) (by omega))
    rw [Nat.succ_mul, ← Nat.add_assoc]; exact e
/-- the first place from i on, at most k further, where p holds (else i + k) -/
def fnd (p : Nat → Bool) : Nat → Nat → Nat
  | i, 0 => i
  | i, k + 1 => if p i then i else fnd p (i + 1) k
theorem lqf {run : Nat → Nat → am_O} {m : Nat} {p : Nat → Bool} {A : Nat → am_O} {Z : am_O} (h1 : ∀ n i, i < m → p i = true → run (n + 1) i = A i) (h0 : ∀ n i, i < m → p i = false → run (n + 1) i = run n (i + 1)) (hx : ∀ n, run (n + 1) m = Z) : ∀ k i n, i + k = m → k < n → run n i = if fnd p i k < m then A (fnd p i k) else Z := by
  intro k
  induction k with
  | zero =>
    intro i n h1 h2
    obtain ⟨n, rfl⟩ : ∃ z, n = z + 1 := ⟨n - 1, by omega⟩
    have e : i = m := by omega
    rw [e, hx n, if_neg (by simp [fnd])]
  | succ k ih =>
    intro i n h2 h3
    obtain ⟨n, rfl⟩ : ∃ z, n = z + 1 := ⟨n - 1, by omega⟩
    by_cases q : p i = true
    · rw [h1 n i (by omega) q, show fnd p i (k + 1) = i by simp [fnd, q], if_pos (by omega)]
    · rw [h0 n i (by omega) (by simpa using q), show fnd p i (k + 1) = fnd p (i + 1) k by simp [fnd, q]]
      exact ih (i + 1) n (by omega) (by omega)
theorem fnd_spec (p : Nat → Bool) : ∀ k i, i ≤ fnd p i k ∧ fnd p i k ≤ i + k ∧ (∀ j, i ≤ j → j < fnd p i k → p j = false) ∧ (fnd p i k < i + k → p (fnd p i k) = true) := by
  intro k
  induction k with
  | zero => intro i; simp [fnd]; intro j h1 h2; omega
  | succ k ih =>
    intro i
    by_cases q : p i = true
    · rw [show fnd p i (k + 1) = i by simp [fnd, q]]
      exact ⟨by omega, by omega, fun j h1 h2 => by omega, fun _ => q⟩
    · rw [show fnd p i (k + 1) = fnd p (i + 1) k by simp [fnd, q]]
      obtain ⟨a1, a2, a3, a4⟩ := ih (i + 1)
      refine ⟨by omega, by omega, fun j h1 h2 => ?_, fun h => a4 (by omega)⟩
      by_cases e : j = i
      · rw [e]; simpa using q
      · exact a3 j (by omega) h2
theorem fnd_congr {p q : Nat → Bool} : ∀ k i, (∀ j, i ≤ j → j < i + k → p j = q j) → fnd p i k = fnd q i k := by
  intro k
  induction k with
  | zero => intro i h; rfl
  | succ k ih =>
    intro i h
    simp only [fnd]
    rw [h i (by omega) (by omega), ih (i + 1) (fun j h1 h2 => h j (by omega) (by omega))]
/-! sums, unions -/
def sm (g : Nat → Nat) : Nat → Nat
  | 0 => 0
  | k + 1 => sm g k + g k
def orf (g : Nat → Nat) : Nat → Nat
  | 0 => 0
  | k + 1 => orf g k ||| g k
theorem sm_congr {g h : Nat → Nat} : ∀ k, (∀ i, i < k → g i = h i) → sm g k = sm h k := by
  intro k
  induction k with
  | zero => intro _; rfl
  | succ k ih => intro e; simp only [sm]; rw [ih (fun i hi => e i (by omega)), e k (by omega)]
theorem sm_le {g : Nat → Nat} {b : Nat} : ∀ k, (∀ i, i < k → g i ≤ b) → sm g k ≤ b * k := by
  intro k
  induction k with
  | zero => intro _; simp [sm]
  | succ k ih =>
    intro e
    have h1 := ih (fun i hi => e i (by omega))
    have h2 := e k (by omega)
    simp only [sm]
    rw [Nat.mul_succ]; omega
theorem sm_add (g h : Nat → Nat) : ∀ k, sm (fun i => g i + h i) k = sm g k + sm h k := by
  intro k
  induction k with
  | zero => rfl
  | succ k ih => simp only [sm]; rw [ih]; omega
theorem sm_zero : ∀ k, sm (fun _ => 0) k = 0 := by
  intro k
  induction k with
  | zero => rfl
  | succ k ih => simp only [sm]; rw [ih]
/-- the order of two sums does not matter -/
theorem sm_comm (g : Nat → Nat → Nat) (m : Nat) : ∀ k, sm (fun i => sm (fun j => g i j) m) k = sm (fun j => sm (fun i => g i j) k) m := by
  intro k
  induction k with
  | zero => simp only [sm]; exact (sm_zero m).symm
  | succ k ih => simp only [sm]; rw [ih, ← sm_add]
theorem orf_congr {g h : Nat → Nat} : ∀ k, (∀ i, i < k → g i = h i) → orf g k = orf h k := by
  intro k
  induction k with
  | zero => intro _; rfl
  | succ k ih => intro e; simp only [orf]; rw [ih (fun i hi => e i (by omega)), e k (by omega)]
theorem orf_lt {g : Nat → Nat} {w : Nat} : ∀ k, (∀ i, i < k → g i < 2 ^ w) → orf g k < 2 ^ w := by
  intro k
  induction k with
  | zero => intro _; exact Nat.two_pow_pos w
  | succ k ih => intro e; exact Nat.or_lt_two_pow (ih (fun i hi => e i (by omega))) (e k (by omega))
theorem orf_bit {g : Nat → Nat} {s : Nat} : ∀ k, (orf g k).testBit s = true ↔ ∃ i, i < k ∧ (g i).testBit s = true := by
  intro k
  induction k with
  | zero => simp [orf]
  | succ k ih =>
    simp only [orf, Nat.testBit_or, Bool.or_eq_true]
    rw [ih]
    constructor
    · rintro (⟨i, h1, h2⟩ | h)
      · exact ⟨i, by omega, h2⟩
      · exact ⟨k, by omega, h⟩
    · rintro ⟨i, h1, h2⟩
      by_cases q : i = k
      · rw [q] at h2; exact Or.inr h2
      · exact Or.inl ⟨i, by omega, h2⟩
theorem bit_ext {a b : Nat} (h : ∀ s, a.testBit s = true ↔ b.testBit s = true) : a = b := Nat.eq_of_testBit_eq (fun s => by
  have := h s
  cases e1 : a.testBit s <;> cases e2 : b.testBit s <;> simp_all)
theorem pow_bit (i s : Nat) : (2 ^ i).testBit s = true ↔ i = s := by
  rw [Nat.testBit_two_pow]; simp
theorem if_bit {c : Prop} [Decidable c] (a s : Nat) : (if c then a else 0).testBit s = true ↔ c ∧ a.testBit s = true := by
  by_cases q : c <;> simp [q]
/-- the set of those below m for which c holds -/
def bst (c : Nat → Bool) (m : Nat) : Nat := orf (fun i => if c i then 2 ^ i else 0) m
theorem bst_bit (c : Nat → Bool) (m s : Nat) : (bst c m).testBit s = true ↔ s < m ∧ c s = true := by
  unfold bst
  rw [orf_bit]
  constructor
  · rintro ⟨i, h1, h2⟩
    rw [if_bit, pow_bit] at h2
    obtain ⟨h2, rfl⟩ := h2
    exact ⟨h1, h2⟩
  · rintro ⟨h1, h2⟩
    exact ⟨s, h1, (if_bit _ _).mpr ⟨h2, (pow_bit _ _).mpr rfl⟩⟩
theorem bst_bit' (c : Nat → Bool) (m s : Nat) : (bst c m).testBit s = (decide (s < m) && c s) := by
  have := bst_bit c m s
  cases e : (bst c m).testBit s <;> cases e2 : c s <;> simp_all
theorem bst_lt {c : Nat → Bool} {m w : Nat} (h : m ≤ w) : bst c m < 2 ^ w := orf_lt m (fun i hi => by
  show (if c i then 2 ^ i else 0) < 2 ^ w
  split
  · exact Nat.pow_lt_pow_right (by omega) (by omega)
  · exact Nat.two_pow_pos w)
theorem bst_congr {c e : Nat → Bool} (m : Nat) (h : ∀ i, i < m → c i = e i) : bst c m = bst e m := orf_congr m (fun i hi => by show (if c i then 2 ^ i else 0) = _; rw [h i hi])
theorem no_or0 (x : Int32) : x ||| nI 0 = x := Int32.or_zero
theorem no_add0 (x : Int32) : x + nI 0 = x := Int32.add_zero x
theorem no_0or (x : Nat) : nI 0 ||| nI x = nI x := by rw [no_or, Nat.zero_or]
