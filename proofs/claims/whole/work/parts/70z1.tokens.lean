/-! texts: bytes, tokens (no machine) -/
def cb (x : Int32) : Nat := (x &&& nI 255).toNatClampNeg
theorem cb_neg : ∀ j, j < 128 → Int32.ofInt (-((j : Nat) + 1 : Int)) &&& nI 255 = nI (255 - j) := by decide +kernel
theorem cb_pos : ∀ j, j < 128 → nI j &&& nI 255 = nI j := by decide +kernel
theorem cb_spec {x : Int32} (h : isB x) : cb x < 256 ∧ x &&& nI 255 = nI (cb x) ∧ (cb x < 128 → x = nI (cb x)) ∧ (128 ≤ cb x → x.toInt < 0) := by
  obtain ⟨h1, h2⟩ := h
  by_cases q : 0 ≤ x.toInt
  · obtain ⟨j, hj⟩ : ∃ j : Nat, x.toInt = j := ⟨x.toInt.toNat, by omega⟩
    have e : x = nI j := Int32.toInt_inj.mp (by rw [hj, nI_toInt (by omega)])
    have c : cb x = j := by unfold cb; rw [e, cb_pos j (by omega), nI_clamp (by omega)]
    rw [c, e, cb_pos j (by omega)]
    exact ⟨by omega, rfl, fun _ => rfl, fun _ => by omega⟩
  · obtain ⟨j, hj⟩ : ∃ j : Nat, x.toInt = -((j : Int) + 1) := ⟨(-x.toInt - 1).toNat, by omega⟩
    have e : x = Int32.ofInt (-((j : Nat) + 1 : Int)) := by rw [← hj, Int32.ofInt_toInt]
    have c : cb x = 255 - j := by unfold cb; rw [e, cb_neg j (by omega), nI_clamp (by omega)]
    refine ⟨by omega, ?_, fun _ => by omega, fun _ => by omega⟩
    rw [c, e, cb_neg j (by omega)]
theorem cc_eq {x : Int32} (h : isB x) {c : Nat} (hc : c < 128) : x = nI c ↔ cb x = c := by
  obtain ⟨b1, b2, b3, b4⟩ := cb_spec h
  by_cases q : cb x < 128
  · have e := b3 q
    constructor
    · intro h2
      exact (no_inj (by omega) (by omega)).mp (e.symm.trans h2)
    · intro h2
      rw [e, h2]
  · have := b4 (by omega)
    constructor
    · intro e; rw [e, nI_toInt (by omega)] at this; omega
    · intro e; omega
theorem cc_lt {x : Int32} (h : isB x) {c : Nat} (hc : c ≤ 128) : x < nI c ↔ (cb x < c ∨ 128 ≤ cb x) := by
  obtain ⟨b1, b2, b3, b4⟩ := cb_spec h
  rw [lt_nI (by omega)]
  by_cases q : cb x < 128
  · have e := congrArg Int32.toInt (b3 q)
    rw [nI_toInt (by omega)] at e
    omega
  · have := b4 (by omega)
    omega
theorem cc_gt {x : Int32} (h : isB x) {c : Nat} (hc : c ≤ 128) : nI c < x ↔ (c < cb x ∧ cb x < 128) := by
  obtain ⟨b1, b2, b3, b4⟩ := cb_spec h
  rw [nI_lt' (by omega)]
  by_cases q : cb x < 128
  · have e := congrArg Int32.toInt (b3 q)
    rw [nI_toInt (by omega)] at e
    omega
  · have := b4 (by omega)
    omega
def isLt (c : Nat) : Bool := decide (97 ≤ c) && decide (c ≤ 122)
def isDg (c : Nat) : Bool := decide (48 ≤ c) && decide (c ≤ 57)
def isBl (c : Nat) : Bool := decide (c = 10) || decide (c = 32)
def isSg (c : Nat) : Bool := decide (c = 59) || (decide (c = 60) || (decide (c = 62) || decide (c = 61)))
theorem isLt_iff (c : Nat) : isLt c = true ↔ 97 ≤ c ∧ c ≤ 122 := by unfold isLt; simp
theorem isDg_iff (c : Nat) : isDg c = true ↔ 48 ≤ c ∧ c ≤ 57 := by unfold isDg; simp
theorem isBl_iff (c : Nat) : isBl c = true ↔ c = 10 ∨ c = 32 := by unfold isBl; simp
theorem isSg_iff (c : Nat) : isSg c = true ↔ c = 59 ∨ c = 60 ∨ c = 62 ∨ c = 61 := by unfold isSg; simp
/-- blanks, letters, digits from q on -/
def bC (f : Nat → Int32) (n q : Nat) : Nat := fnd (fun k => !isBl (cb (f (q + k)))) 0 (n - q)
def wC (f : Nat → Int32) (n s : Nat) : Nat := fnd (fun k => !isLt (cb (f (s + k)))) 0 (n - s)
def dC (f : Nat → Int32) (n s : Nat) : Nat := fnd (fun k => !isDg (cb (f (s + k)))) 0 (n - s)
/-- where the token behind q starts -/
def tkS (f : Nat → Int32) (n q : Nat) : Nat := q + bC f n q
def wv (f : Nat → Int32) (s : Nat) : Nat → Nat
  | 0 => 0
  | k + 1 => wv f s k * 32 + (cb (f (s + k)) - 96)
def nv (f : Nat → Int32) (s : Nat) : Nat → Nat
  | 0 => 0
  | k + 1 => nv f s k * 10 + (cb (f (s + k)) - 48)
def kwk (w : Nat) : Nat := if fnd (fun i => kwl.getD i 0 == w) 0 27 < 27 then 100 + fnd (fun i => kwl.getD i 0 == w) 0 27 else 2
def tkW (f : Nat → Int32) (n q : Nat) : Nat := wv f (tkS f n q) (wC f n (tkS f n q))
def tkV (f : Nat → Int32) (n q : Nat) : Nat := nv f (tkS f n q) (dC f n (tkS f n q))
/-- its kind, as the class has it; its end -/
def tkK (f : Nat → Int32) (n q : Nat) : Nat := if tkS f n q < n then (if isLt (cb (f (tkS f n q))) = true then (if 8 < wC f n (tkS f n q) then 3 else kwk (tkW f n q)) else if isDg (cb (f (tkS f n q))) = true then (if 4 < dC f n (tkS f n q) then 4294967295 else 1) else if isSg (cb (f (tkS f n q))) = true then cb (f (tkS f n q)) else 4294967295) else 0
def tkE (f : Nat → Int32) (n q : Nat) : Nat := if tkS f n q < n then (if isLt (cb (f (tkS f n q))) = true then tkS f n q + wC f n (tkS f n q) else if isDg (cb (f (tkS f n q))) = true then tkS f n q + dC f n (tkS f n q) else tkS f n q + 1) else tkS f n q
theorem bC_b (f : Nat → Int32) (n q : Nat) : bC f n q ≤ n - q ∧ (∀ k, k < bC f n q → isBl (cb (f (q + k))) = true) ∧ (bC f n q < n - q → isBl (cb (f (q + bC f n q))) = false) := by
  obtain ⟨a, b, c, d⟩ := fnd_spec (fun k => !isBl (cb (f (q + k)))) (n - q) 0
  unfold bC
  exact ⟨by omega, fun k hk => by have := c k (by omega) hk; simpa using this, fun h => by have := d (by omega); simpa using this⟩
theorem wC_b (f : Nat → Int32) (n s : Nat) : wC f n s ≤ n - s ∧ (∀ k, k < wC f n s → isLt (cb (f (s + k))) = true) ∧ (wC f n s < n - s → isLt (cb (f (s + wC f n s))) = false) := by
  obtain ⟨a, b, c, d⟩ := fnd_spec (fun k => !isLt (cb (f (s + k)))) (n - s) 0
  unfold wC
  exact ⟨by omega, fun k hk => by have := c k (by omega) hk; simpa using this, fun h => by have := d (by omega); simpa using this⟩
theorem dC_b (f : Nat → Int32) (n s : Nat) : dC f n s ≤ n - s ∧ (∀ k, k < dC f n s → isDg (cb (f (s + k))) = true) ∧ (dC f n s < n - s → isDg (cb (f (s + dC f n s))) = false) := by
  obtain ⟨a, b, c, d⟩ := fnd_spec (fun k => !isDg (cb (f (s + k)))) (n - s) 0
  unfold dC
  exact ⟨by omega, fun k hk => by have := c k (by omega) hk; simpa using this, fun h => by have := d (by omega); simpa using this⟩
theorem tkS_b (f : Nat → Int32) {n q : Nat} (hq : q ≤ n) : q ≤ tkS f n q ∧ tkS f n q ≤ n := by
  obtain ⟨a, -⟩ := bC_b f n q
  unfold tkS; omega
theorem fnd_pos {p : Nat → Bool} {k i : Nat} (hk : 0 < k) (h : p i = false) : i < fnd p i k := by
  obtain ⟨k, rfl⟩ : ∃ z, k = z + 1 := ⟨k - 1, by omega⟩
  have e : fnd p i (k + 1) = fnd p (i + 1) k := by simp [fnd, h]
  have := (fnd_spec p k (i + 1)).1
  omega
theorem wC_pos {f : Nat → Int32} {n s : Nat} (hs : s < n) (h : isLt (cb (f s)) = true) : 0 < wC f n s := fnd_pos (by omega) (by simpa using h)
theorem dC_pos {f : Nat → Int32} {n s : Nat} (hs : s < n) (h : isDg (cb (f s)) = true) : 0 < dC f n s := fnd_pos (by omega) (by simpa using h)
theorem tkE_b (f : Nat → Int32) {n q : Nat} (hq : q ≤ n) : tkS f n q ≤ tkE f n q ∧ tkE f n q ≤ n ∧ (tkS f n q < n → tkS f n q < tkE f n q) := by
  obtain ⟨a, b⟩ := tkS_b f hq
  unfold tkE
  by_cases c : tkS f n q < n
  · rw [if_pos c]
    by_cases d : isLt (cb (f (tkS f n q))) = true
    · rw [if_pos d]
      have e1 := (wC_b f n (tkS f n q)).1
      have e2 := wC_pos c d
      omega
    · rw [if_neg d]
      by_cases e : isDg (cb (f (tkS f n q))) = true
      · rw [if_pos e]
        have e1 := (dC_b f n (tkS f n q)).1
        have e2 := dC_pos c e
        omega
      · rw [if_neg e]; omega
  · rw [if_neg c]; omega
theorem kwk_or (w : Nat) : kwk w = 2 ∨ (100 ≤ kwk w ∧ kwk w < 127) := by
  unfold kwk
  split
  · exact Or.inr (by omega)
  · exact Or.inl rfl
theorem kwl_inj : ∀ i, i < 27 → ∀ j, j < 27 → kwl.getD i 0 = kwl.getD j 0 → i = j := by decide +kernel
theorem kwk_iff {w i : Nat} (hi : i < 27) : kwk w = 100 + i ↔ kwl.getD i 0 = w := by
  obtain ⟨a, b, c, d⟩ := fnd_spec (fun i => kwl.getD i 0 == w) 27 0
  unfold kwk
  constructor
  · intro h
    split at h
    · rename_i q
      have := d (by omega)
      rw [show fnd (fun i => kwl.getD i 0 == w) 0 27 = i by omega] at this
      simpa using this
    · omega
  · intro h
    have lt : fnd (fun i => kwl.getD i 0 == w) 0 27 < 27 := by
      by_cases q : fnd (fun i => kwl.getD i 0 == w) 0 27 < 27
      · exact q
      · have := c i (by omega) (by omega)
        rw [h] at this; simp at this
    have e := d (by omega)
    have e2 : kwl.getD (fnd (fun i => kwl.getD i 0 == w) 0 27) 0 = w := by simpa using e
    rw [if_pos lt, kwl_inj _ lt i hi (by rw [e2, h])]
theorem wv_lt {f : Nat → Int32} {s : Nat} : ∀ k, (∀ i, i < k → isLt (cb (f (s + i))) = true) → wv f s k < 32 ^ k := by
  intro k
  induction k with
  | zero => intro _; show 0 < 1; omega
  | succ k ih =>
    intro h
    have a := ih (fun i hi => h i (by omega))
    have b := (isLt_iff _).mp (h k (by omega))
    show wv f s k * 32 + (cb (f (s + k)) - 96) < 32 ^ (k + 1)
    rw [Nat.pow_succ]
    omega
theorem nv_lt {f : Nat → Int32} {s : Nat} : ∀ k, (∀ i, i < k → isDg (cb (f (s + i))) = true) → nv f s k < 10 ^ k := by
  intro k
  induction k with
  | zero => intro _; show 0 < 1; omega
  | succ k ih =>
    intro h
    have a := ih (fun i hi => h i (by omega))
    have b := (isDg_iff _).mp (h k (by omega))
    show nv f s k * 10 + (cb (f (s + k)) - 48) < 10 ^ (k + 1)
    rw [Nat.pow_succ]
    omega
/-- what a kind says of the token -/
theorem tkK_0 {f : Nat → Int32} {n q : Nat} : tkK f n q = 0 → tkS f n q = n ∨ n ≤ tkS f n q := by
  intro h
  by_cases c : tkS f n q < n
  · exfalso
    unfold tkK at h
    rw [if_pos c] at h
    by_cases d : isLt (cb (f (tkS f n q))) = true
    · rw [if_pos d] at h
      split at h
      · omega
      · rcases kwk_or (tkW f n q) with k | k <;> omega
    · rw [if_neg d] at h
      split at h
      · split at h <;> omega
      · split at h
        · rename_i e
          rw [isSg_iff] at e; omega
        · omega
  · exact Or.inr (by omega)
/-- the kinds there are -/
theorem tkK_or (f : Nat → Int32) (n q : Nat) : (tkS f n q < n ∧ isLt (cb (f (tkS f n q))) = true ∧ 8 < wC f n (tkS f n q) ∧ tkK f n q = 3 ∧ tkE f n q = tkS f n q + wC f n (tkS f n q)) ∨
    (tkS f n q < n ∧ isLt (cb (f (tkS f n q))) = true ∧ ¬ 8 < wC f n (tkS f n q) ∧ tkK f n q = kwk (tkW f n q) ∧ tkE f n q = tkS f n q + wC f n (tkS f n q)) ∨
    (tkS f n q < n ∧ ¬ isLt (cb (f (tkS f n q))) = true ∧ isDg (cb (f (tkS f n q))) = true ∧ 4 < dC f n (tkS f n q) ∧ tkK f n q = 4294967295 ∧ tkE f n q = tkS f n q + dC f n (tkS f n q)) ∨
    (tkS f n q < n ∧ ¬ isLt (cb (f (tkS f n q))) = true ∧ isDg (cb (f (tkS f n q))) = true ∧ ¬ 4 < dC f n (tkS f n q) ∧ tkK f n q = 1 ∧ tkE f n q = tkS f n q + dC f n (tkS f n q)) ∨
    (tkS f n q < n ∧ ¬ isLt (cb (f (tkS f n q))) = true ∧ ¬ isDg (cb (f (tkS f n q))) = true ∧ isSg (cb (f (tkS f n q))) = true ∧ tkK f n q = cb (f (tkS f n q)) ∧ tkE f n q = tkS f n q + 1) ∨
    (tkS f n q < n ∧ ¬ isLt (cb (f (tkS f n q))) = true ∧ ¬ isDg (cb (f (tkS f n q))) = true ∧ ¬ isSg (cb (f (tkS f n q))) = true ∧ tkK f n q = 4294967295 ∧ tkE f n q = tkS f n q + 1) ∨
    (¬ tkS f n q < n ∧ tkK f n q = 0 ∧ tkE f n q = tkS f n q) := by
  unfold tkK tkE
  by_cases c : tkS f n q < n
  · by_cases d : isLt (cb (f (tkS f n q))) = true
    · by_cases e : 8 < wC f n (tkS f n q)
      · exact Or.inl ⟨c, d, e, by rw [if_pos c, if_pos d, if_pos e], by rw [if_pos c, if_pos d]⟩
      · exact Or.inr (Or.inl ⟨c, d, e, by rw [if_pos c, if_pos d, if_neg e], by rw [if_pos c, if_pos d]⟩)
    · by_cases e : isDg (cb (f (tkS f n q))) = true
      · by_cases g : 4 < dC f n (tkS f n q)
        · exact Or.inr (Or.inr (Or.inl ⟨c, d, e, g, by rw [if_pos c, if_neg d, if_pos e, if_pos g], by rw [if_pos c, if_neg d, if_pos e]⟩))
        · exact Or.inr (Or.inr (Or.inr (Or.inl ⟨c, d, e, g, by rw [if_pos c, if_neg d, if_pos e, if_neg g], by rw [if_pos c, if_neg d, if_pos e]⟩)))
      · by_cases g : isSg (cb (f (tkS f n q))) = true
        · exact Or.inr (Or.inr (Or.inr (Or.inr (Or.inl ⟨c, d, e, g, by rw [if_pos c, if_neg d, if_neg e, if_pos g], by rw [if_pos c, if_neg d, if_neg e]⟩))))
        · exact Or.inr (Or.inr (Or.inr (Or.inr (Or.inr (Or.inl ⟨c, d, e, g, by rw [if_pos c, if_neg d, if_neg e, if_neg g], by rw [if_pos c, if_neg d, if_neg e]⟩)))))
  · exact Or.inr (Or.inr (Or.inr (Or.inr (Or.inr (Or.inr ⟨c, by rw [if_neg c], by rw [if_neg c]⟩)))))
/-- loops with exits, by fuel -/
theorem lqe {run : Nat → Nat → am_O} {m c e : Nat} {p : Nat → Bool} {A : Nat → am_O} (h1 : ∀ i, i < m → p i = true → ev (fun n => run n i) c (A i)) (h0 : ∀ i B R, i < m → p i = false → ev (fun n => run n (i + 1)) B R → ev (fun n => run n i) (B + e) R) (hx : ev (fun n => run n m) c (A m)) : ∀ k i, i + k = m → ev (fun n => run n i) (c + k * e) (A (fnd p i k)) := by
  intro k
  induction k with
  | zero =>
    intro i hi
    have e1 : i = m := by omega
    subst e1
    exact ev_le hx (by omega)
  | succ k ih =>
    intro i hi
    by_cases q : p i = true
    · rw [show fnd p i (k + 1) = i by simp [fnd, q]]
      exact ev_le (h1 i (by omega) q) (by omega)
    · have q' : p i = false := by simpa using q
      rw [show fnd p i (k + 1) = fnd p (i + 1) k by simp [fnd, q']]
      refine ev_le (h0 i _ _ (by omega) q' (ih (i + 1) (by omega))) ?_
      rw [Nat.succ_mul]; omega
