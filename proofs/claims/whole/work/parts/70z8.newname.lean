/-! texts: a new name, in the class's town and in the reference's block -/
def adC (I : Nat → Nat → Int32) (t k c : Nat) : Nat → Nat → Int32 := u2 I (t + 2) k (nI (c + 1))
def zlk (I : Nat → Nat → Int32) (t c : Nat) : Nat → (Nat → Nat → Int32)
  | 0 => I
  | s + 1 => u2 (zlk I t c s) (t + 10) (c * 6 + s) (nI 0)
def adH (I : Nat → Nat → Int32) (t c : Nat) : Nat → (Nat → Nat → Int32)
  | 0 => adC I t 0 c
  | 1 => u2 (u2 (adC I t 1 c) t 5 (I t 5 ||| (nI 1 <<< (nI c &&& 31)))) (t + 5) c (nI 0)
  | 2 => zlk (u2 (u2 (u2 (adC I t 2 c) (t + 7) c (nI 10)) (t + 8) c (nI 0)) (t + 9) c (nI 0)) t c 6
  | _ => u2 (u2 (adC I t 3 c) (t + 12) c (-1)) (t + 13) c (-1)
theorem zlk_na {I : Nat → Nat → Int32} {t c a : Nat} (h : a ≠ t + 10) : ∀ s, zlk I t c s a = I a := by
  intro s
  induction s with
  | zero => rfl
  | succ s ih => rw [show zlk I t c (s + 1) = u2 (zlk I t c s) (t + 10) (c * 6 + s) (nI 0) from rfl, u2_na _ _ _ _ _ h, ih]
theorem zlk_at {I : Nat → Nat → Int32} {t c : Nat} : ∀ s j, zlk I t c s (t + 10) j = if c * 6 ≤ j ∧ j < c * 6 + s then nI 0 else I (t + 10) j := by
  intro s
  induction s with
  | zero => intro j; rw [if_neg (by omega)]; rfl
  | succ s ih =>
    intro j
    rw [show zlk I t c (s + 1) = u2 (zlk I t c s) (t + 10) (c * 6 + s) (nI 0) from rfl]
    by_cases q : j = c * 6 + s
    · subst q; rw [u2_at, if_pos (by omega)]
    · rw [u2_nk _ _ _ _ _ q, ih]
      by_cases g : c * 6 ≤ j ∧ j < c * 6 + s
      · rw [if_pos g, if_pos (by omega)]
      · rw [if_neg g, if_neg (by omega)]
theorem adH1 (I : Nat → Nat → Int32) (t c : Nat) : adH I t c 1 = u2 (u2 (u2 I (t + 2) 1 (nI (c + 1))) t 5 (I t 5 ||| (nI 1 <<< (nI c &&& 31)))) (t + 5) c (nI 0) := rfl
theorem adH2 (I : Nat → Nat → Int32) (t c : Nat) : adH I t c 2 = zlk (u2 (u2 (u2 (u2 I (t + 2) 2 (nI (c + 1))) (t + 7) c (nI 10)) (t + 8) c (nI 0)) (t + 9) c (nI 0)) t c 6 := rfl
theorem adH3 (I : Nat → Nat → Int32) (t c k : Nat) : adH I t c (k + 3) = u2 (u2 (u2 I (t + 2) 3 (nI (c + 1))) (t + 12) c (-1)) (t + 13) c (-1) := rfl
theorem adH_na {I : Nat → Nat → Int32} {t c a : Nat} (h : ¬ (t ≤ a ∧ a < t + 14)) : ∀ k, adH I t c k a = I a := by
  intro k
  match k with
  | 0 => exact u2_na _ _ _ _ _ (by omega)
  | 1 => rw [adH1, u2_na _ _ _ _ _ (by omega), u2_na _ _ _ _ _ (by omega), u2_na _ _ _ _ _ (by omega)]
  | 2 => rw [adH2, zlk_na (by omega), u2_na _ _ _ _ _ (by omega), u2_na _ _ _ _ _ (by omega), u2_na _ _ _ _ _ (by omega), u2_na _ _ _ _ _ (by omega)]
  | k + 3 => rw [adH3, u2_na _ _ _ _ _ (by omega), u2_na _ _ _ _ _ (by omega), u2_na _ _ _ _ _ (by omega)]
section
variable {N d : Nat} {X : lt_X} {I : Nat → Nat → Int32} {J : Nat → Nat → Int64}
theorem c5_add {t : Nat} (ht : isT t) {k c : Nat} (hk : k < 4) (hc : c < 6) (h2 : I (t + 2) k = nI c) (hN : 1000 ≤ N) (w : Int64) : am_G am_prog (N + 30) (d + 1) 62 [.ref t, .int (nI k), .long w] (mkh X I J) = some (.int (nI c), mkh X (adH I t c k) (u2L J (t + 1) (6 * k + c) w)) := by
  have e : (nI k * nI 6) + nI c = nI (6 * k + c) := by rw [pk_mul, nI_add, Nat.mul_comm]
  have h2' : I (t + 2) (nI k).toNatClampNeg = nI c := by rw [nI_clamp (by omega)]; exact h2
  rw [gX5_add N d ht, sX5_add_0 N d _ ht]
  simp only [h2', e, nI_add c 1]
  rw [nc_in (by omega) (by omega), nc_in (by omega) (by omega), nc_in (by omega) (by omega), nc_in (by omega) (by omega)]
  have q1 : (nI c).toNatClampNeg = c := nI_clamp (by omega)
  have q2 : (nI k).toNatClampNeg = k := nI_clamp (by omega)
  have q3 : (nI (6 * k + c)).toNatClampNeg = 6 * k + c := nI_clamp (by omega)
  match k, hk with
  | 0, _ => rw [nc_ne (by omega) (by omega) (by omega), nc_ne (by omega) (by omega) (by omega), nc_ne (by omega) (by omega) (by omega), q2, q3]; rfl
  | 1, _ => rw [nc_eq rfl, nc_in (by omega) (by omega), q1, q2, q3]; rfl
  | 3, _ => rw [nc_ne (by omega) (by omega) (by omega), nc_ne (by omega) (by omega) (by omega), nc_eq rfl, nc_in (by omega) (by omega), nc_in (by omega) (by omega), q1, q2, q3]; rfl
  | 2, _ =>
    rw [nc_ne (by omega) (by omega) (by omega), nc_eq rfl, nc_in (by omega) (by omega), nc_in (by omega) (by omega), nc_in (by omega) (by omega), q1, q2, q3]
    have st : ∀ s z Z Y, s < 6 → RX5_add_93 N d (z + 1) X t (nI c) (nI s) Z Y = RX5_add_93 N d z X t (nI c) (nI (s + 1)) (u2 Z (t + 10) (c * 6 + s) (nI 0)) Y := by
      intro s z Z Y hs
      rw [sX5_add_93 N d z ht, nc_lt hs (by omega), pk_mul, nI_add, nc_in (by omega) (by omega), nI_clamp (by omega), nI_add s 1]
    rw [st 0 (N + 28) _ _ (by omega), st 1 (N + 27) _ _ (by omega), st 2 (N + 26) _ _ (by omega), st 3 (N + 25) _ _ (by omega), st 4 (N + 24) _ _ (by omega), st 5 (N + 23) _ _ (by omega), sX5_add_93 N d (N + 22) ht, nc_nlt (by omega) (by omega)]
    rfl
end
section
variable {N d e : Nat} {X X2 : lt_X} {f : Nat → Int32} {n q : Nat} {I M : Nat → Nat → Int32} {J L : Nat → Nat → Int64}
theorem c4_newName0 {t : Nat} (ht : isT t) (H : CT f n q I J) (x : Int32) (h : tkK f n q ≠ 2) : am_G am_prog (N + 30) (d + 3) 55 [.ref 115, .ref t, .int x] (mkh X I J) = some (.int (nI 0), mkh X (u2 (u2 I 115 10 (nI (fkd f n q))) 115 11 (nI (tkS f n q))) J) := by
  rw [gX4_takesNewName N (d + 2) ht, sX4_takesNewName_0 N (d + 2) _ ht, H.2.2.2.1, nc_ne h (tkK_lt f n q) (by omega), c4_refuses (d := d + 1) H, cI_some, kX4_takesNewName_1 N (d + 2), nb_ok (by omega)]
theorem c4_newName3 {t : Nat} (ht : isT t) (H : CT f n q I J) {T : Nat → Nat} (hT : ∀ k, k < 4 → T k ≤ 6) (h2 : ∀ k, k < 4 → I (t + 2) k = nI (T k)) (hN : 1000 ≤ N) (x : Int32) (h : tkK f n q = 2) (ht3 : tkn (J (t + 1)) T (lN (tkW f n q))) : am_G am_prog (N + 30) (d + 3) 55 [.ref 115, .ref t, .int x] (mkh X I J) = some (.int (nI 0), mkh X (u2 (u2 I 115 10 (nI 3)) 115 11 (nI (tkS f n q))) J) := by
  rw [gX4_takesNewName N (d + 2) ht, sX4_takesNewName_0 N (d + 2) _ ht, H.2.2.2.1, nc_eq h, H.2.2.2.2.2.2 h, (c5_isTaken ht hT h2 hN _).1 ht3, cI_some, kX4_takesNewName_0 N (d + 2) _ ht, nc_ne (by omega) (by omega) (by omega), c4_fail (d := d + 1) H, cI_some, kX4_takesNewName_3 N (d + 2), nb_ok (by omega)]
theorem c4_newName1 (hn : n ≤ 900) (hB : ∀ k, k < n → isB (f k)) (hkw : KWS J) (hq : q ≤ n) {t : Nat} (ht : isT t) (H : CT f n q I J) {T : Nat → Nat} (hT : ∀ k, k < 4 → T k ≤ 6) (h2 : ∀ k, k < 4 → I (t + 2) k = nI (T k)) (hN : 10000 ≤ N) {k : Nat} (hk : k < 4) (hc : T k < 6) (h : tkK f n q = 2) (ht3 : ¬ tkn (J (t + 1)) T (lN (tkW f n q))) : ∃ K Y, am_G am_prog (N + 30) (d + 3) 55 [.ref 115, .ref t, .int (nI k)] (mkh X I J) = some (.int (nI 1), mkh X K Y) ∧ CT f n (tkE f n q) K Y ∧ KWS Y ∧ K 115 9 = nI (T k) ∧ (∀ a, a ≠ 115 → K a = adH I t (T k) k a) ∧ (∀ a, a ≠ 115 → Y a = u2L J (t + 1) (6 * k + T k) (lN (tkW f n q)) a) ∧ K 115 10 = I 115 10 ∧ K 115 11 = I 115 11 := by
  have htt := ht
  unfold isT at htt
  have a7 := H.2.2.2.2.2.2 h
  have H1 : CT f n q (adH I t (T k) k) (u2L J (t + 1) (6 * k + T k) (lN (tkW f n q))) := CT_a (adH_na (by omega) k) (adH_na (by omega) k) (u2L_na _ _ _ _ _ (by omega)) H
  have hkw1 : KWS (u2L J (t + 1) (6 * k + T k) (lN (tkW f n q))) := fun j hj => by rw [u2L_na _ _ _ _ _ (by omega)]; exact hkw j hj
  obtain ⟨K, Y, a, b, c, g, g2⟩ := c4_next (N := N) (d := d) (X := X) hn hB hN hkw1 hq (CT_o (k := 9) (v := nI (T k)) (by omega) H1)
  refine ⟨K, Y, ?_, b, g2, by rw [c.2 9 (by omega), u2_at], fun j hj => by rw [c.1 j hj, u2_na _ _ _ _ _ hj], g, by rw [c.2 10 (by omega), u2_nk _ _ _ _ _ (by omega), adH_na (by omega)], by rw [c.2 11 (by omega), u2_nk _ _ _ _ _ (by omega), adH_na (by omega)]⟩
  rw [gX4_takesNewName N (d + 2) ht, sX4_takesNewName_0 N (d + 2) _ ht, H.2.2.2.1, nc_eq h, a7, (c5_isTaken ht hT h2 (by omega) _).2 ht3, cI_some, kX4_takesNewName_0 N (d + 2) _ ht, nc_eq rfl, a7, c5_add (d := d + 1) ht hk hc (h2 k hk) (by omega), cI_some, kX4_takesNewName_2 N (d + 2), a, cV_some, kX4_takesNewName_4 N (d + 2)]
end
