/-! A heap that grows: c cells made, of the lay-out's kinds; references by a list -/
def kc (L c : Nat) : Nat → Nat × Nat := fun a => if a < c then lk L a else (99, 0)
def rl : List (Nat × Nat × Nat) → Nat → Nat → Option Nat
  | [], _, _ => none
  | (x, y, v) :: t, a, k => if a = x ∧ k = y then some v else rl t a k
def hp (L c s : Nat) (r : List (Nat × Nat × Nat)) (I : Nat → Nat → Int32) (J : Nat → Nat → Int64) : am_H := (c, s, kc L c, I, J, rl r)
/-- nothing lies beyond c -/
def WZ (c : Nat) (r : List (Nat × Nat × Nat)) (I : Nat → Nat → Int32) (J : Nat → Nat → Int64) : Prop := ∀ a, c ≤ a → (∀ k, rl r a k = none) ∧ (I a = fun _ => 0) ∧ (J a = fun _ => 0)
section
variable {L c s a k v t n ci j : Nat} {r : List (Nat × Nat × Nat)} {I : Nat → Nat → Int32} {J : Nat → Nat → Int64} {x : Int32} {y : Int64}
theorem cV_call {o : am_O} {h : am_H} {f : am_H → am_O} (e : o = some (.null, h)) : am_cV o f = f h := by rw [e]; rfl
theorem kc_lt (h : a < c) : kc L c a = lk L a := if_pos h
theorem w_mk (w : WZ c r I J) : WZ (c + 1) r I J := fun a h => w a (by omega)
theorem w_r (w : WZ c r I J) (h : a < c) : WZ c ((a, k, v) :: r) I J := fun b hb => ⟨fun i => by
  show (if b = a ∧ i = k then some v else rl r b i) = none
  rw [if_neg (by omega)]; exact (w b hb).1 i, (w b hb).2⟩
theorem w_u (w : WZ c r I J) (h : a < c) : WZ c r (u2 I a k x) J := fun b hb => ⟨(w b hb).1, by rw [u2_na _ _ _ _ _ (by omega)]; exact (w b hb).2.1, (w b hb).2.2⟩
theorem w_uL (w : WZ c r I J) (h : a < c) : WZ c r I (u2L J a k y) := fun b hb => ⟨(w b hb).1, (w b hb).2.1, by rw [u2L_na _ _ _ _ _ (by omega)]; exact (w b hb).2.2⟩
theorem w_wL {f : Nat → Int64} (w : WZ c r I J) (h : a < c) : WZ c r I (w2L J a f) := fun b hb => ⟨(w b hb).1, (w b hb).2.1, by rw [w2L_na (by omega)]; exact (w b hb).2.2⟩
theorem mk_hp (w : WZ c r I J) {kd : Nat × Nat} (hk : lk L c = kd) (n : Nat) : am_mk (hp L c s r I J) kd n = hp L (c + 1) (s + n) r I J := by
  obtain ⟨w1, w2, w3⟩ := w c (Nat.le_refl c)
  have e1 : (fun b => if b = c then kd else kc L c b) = kc L (c + 1) := by
    funext b
    unfold kc
    by_cases q : b = c
    · rw [if_pos q, if_pos (by omega), q, hk]
    · rw [if_neg q]
      by_cases g : b < c
      · rw [if_pos g, if_pos (by omega)]
      · rw [if_neg g, if_neg (by omega)]
  have e2 : (fun b => if b = c then (fun _ => 0) else I b) = I := by
    funext b
    by_cases q : b = c
    · rw [if_pos q, q, w2]
    · rw [if_neg q]
  have e3 : (fun b => if b = c then (fun _ => 0) else J b) = J := by
    funext b
    by_cases q : b = c
    · rw [if_pos q, q, w3]
    · rw [if_neg q]
  have e4 : (fun b => if b = c then (fun _ => none) else rl r b) = rl r := by
    funext b
    by_cases q : b = c
    · rw [if_pos q, q]; funext i; exact (w1 i).symm
    · rw [if_neg q]
  show (c + 1, s + n, (fun b => if b = c then kd else kc L c b), (fun b => if b = c then (fun _ => 0) else I b), (fun b => if b = c then (fun _ => 0) else J b), (fun b => if b = c then (fun _ => none) else rl r b)) = (c + 1, s + n, kc L (c + 1), I, J, rl r)
  rw [e1, e2, e3, e4]
theorem nw_hp {f : Nat → am_H → am_O} (w : WZ c r I J) (hk : lk L c = (ci, 0)) : am_nw (hp L c s r I J) ci n f = f c (hp L (c + 1) (s + n) r I J) := by
  show f c (am_mk (hp L c s r I J) (ci, 0) n) = _
  rw [mk_hp w hk]
theorem na_hp {f : Nat → am_H → am_O} (w : WZ c r I J) (n : Nat) (hx : x = nI n) (hn : n ≤ 100000) (hk : lk L c = (t, n)) : am_na (hp L c s r I J) t x f = f c (hp L (c + 1) (s + n) r I J) := by
  subst hx
  unfold am_na
  rw [nI_clamp (by omega), if_pos ⟨show ¬ nI n < nI 0 from nI_nlt (by omega) (by omega), hn⟩]
  show f c (am_mk (hp L c s r I J) (t, n) n) = _
  rw [mk_hp w hk]
theorem sR_hp : am_sR (hp L c s r I J) a k (some v) = hp L c s ((a, k, v) :: r) I J := by
  have e : (fun b => if b = a then va_up (rl r b) k (some v) else rl r b) = rl ((a, k, v) :: r) := by
    funext b i
    show (if b = a then va_up (rl r b) k (some v) else rl r b) i = if b = a ∧ i = k then some v else rl r b i
    by_cases q : b = a
    · rw [if_pos q]
      by_cases g : i = k
      · rw [if_pos ⟨q, g⟩]; simp [va_up, g]
      · rw [if_neg (fun h => g h.2)]; simp [va_up, g]
    · rw [if_neg q, if_neg (fun h => q h.1)]
  show (c, s, kc L c, I, J, (fun b => if b = a then va_up (rl r b) k (some v) else rl r b)) = (c, s, kc L c, I, J, rl ((a, k, v) :: r))
  rw [e]
theorem pR_hp {f : am_H → am_O} (hk : kc L c a = (ci, 0)) : am_pR (hp L c s r I J) ci a k v f = f (hp L c s ((a, k, v) :: r) I J) := by
  unfold am_pR
  rw [show am_K (hp L c s r I J) a = (ci, 0) from hk, if_pos rfl, sR_hp]
theorem pI_hp {f : am_H → am_O} (hk : kc L c a = (ci, 0)) : am_pI (hp L c s r I J) ci a k x f = f (hp L c s r (u2 I a k x) J) := by
  unfold am_pI
  rw [show am_K (hp L c s r I J) a = (ci, 0) from hk, if_pos rfl]
  rfl
theorem pL_hp {f : am_H → am_O} (hk : kc L c a = (ci, 0)) : am_pL (hp L c s r I J) ci a k y f = f (hp L c s r I (u2L J a k y)) := by
  unfold am_pL
  rw [show am_K (hp L c s r I J) a = (ci, 0) from hk, if_pos rfl]
  rfl
theorem gR_hp {f : Nat → am_O} (b : Nat) (hk : kc L c a = (ci, 0)) (hr : rl r a k = some b) : am_gR (hp L c s r I J) ci a k f = f b := by
  unfold am_gR
  rw [show am_K (hp L c s r I J) a = (ci, 0) from hk, if_pos rfl, show am_R (hp L c s r I J) a k = some b from hr]
  rfl
theorem tR_hp {f : am_H → am_O} (j : Nat) (hx : x = nI j) (hk : kc L c a = (t, n)) (hj : j < n) (hn : n < 2 ^ 31) (hv : kc L c v = (ci, 0)) : am_tR (hp L c s r I J) t ci a x v f = f (hp L c s ((a, j, v) :: r) I J) := by
  subst hx
  unfold am_tR
  rw [show am_K (hp L c s r I J) a = (t, n) from hk, if_pos rfl, if_pos (in_nI hj hn), show am_K (hp L c s r I J) v = (ci, 0) from hv, if_pos rfl, nI_clamp (by omega), sR_hp]
theorem tI_hp {f : am_H → am_O} (j : Nat) {z : Int32} (hx : x = nI j) (hk : kc L c a = (10, n)) (hj : j < n) (hn : n < 2 ^ 31) : am_tI (hp L c s r I J) a x z f = f (hp L c s r (u2 I a j z) J) := by
  subst hx
  unfold am_tI
  rw [show am_K (hp L c s r I J) a = (10, n) from hk, if_pos rfl, if_pos (in_nI hj hn), nI_clamp (by omega)]
  rfl
end
theorem o0 {N d q : Nat} {h : am_H} (hk : am_K h q = (0, 0)) : am_G am_prog N (d + 1) 0 [.ref q] h = am_run (am_G am_prog N d) eX0_init uX0_init N 0 [(0, .ref q)] [] h := (am_G_at N d 0 mX0_init _ _ rfl).trans (if_pos hk)
theorem o20 {N d q : Nat} {h : am_H} (hk : am_K h q = (1, 0)) : am_G am_prog N (d + 1) 20 [.ref q] h = am_run (am_G am_prog N d) eX1_init uX1_init N 0 [(0, .ref q)] [] h := (am_G_at N d 20 mX1_init _ _ rfl).trans (if_pos hk)
theorem o23 {N d q y : Nat} {h : am_H} (hk : am_K h q = (2, 0)) : am_G am_prog N (d + 1) 23 [.ref q, .ref y] h = am_run (am_G am_prog N d) eX2_init uX2_init N 0 [(0, .ref q), (1, .ref y)] [] h := (am_G_at N d 23 mX2_init _ _ rfl).trans (if_pos hk)
theorem o34 {N d q : Nat} {h : am_H} (hk : am_K h q = (3, 0)) : am_G am_prog N (d + 1) 34 [.ref q] h = am_run (am_G am_prog N d) eX3_init uX3_init N 0 [(0, .ref q)] [] h := (am_G_at N d 34 mX3_init _ _ rfl).trans (if_pos hk)
theorem o44 {N d q y : Nat} {h : am_H} (hk : am_K h q = (4, 0)) : am_G am_prog N (d + 1) 44 [.ref q, .ref y] h = am_run (am_G am_prog N d) eX4_init uX4_init N 0 [(0, .ref q), (1, .ref y)] [] h := (am_G_at N d 44 mX4_init _ _ rfl).trans (if_pos hk)
theorem o56 {N d q : Nat} {h : am_H} (hk : am_K h q = (5, 0)) : am_G am_prog N (d + 1) 56 [.ref q] h = am_run (am_G am_prog N d) eX5_init uX5_init N 0 [(0, .ref q)] [] h := (am_G_at N d 56 mX5_init _ _ rfl).trans (if_pos hk)
theorem o94 {N d q y : Nat} {h : am_H} (hk : am_K h q = (6, 0)) : am_G am_prog N (d + 1) 94 [.ref q, .ref y] h = am_run (am_G am_prog N d) eX6_init uX6_init N 0 [(0, .ref q), (1, .ref y)] [] h := (am_G_at N d 94 mX6_init _ _ rfl).trans (if_pos hk)
theorem o105 {N d q : Nat} {h : am_H} (hk : am_K h q = (7, 0)) : am_G am_prog N (d + 1) 105 [.ref q] h = am_run (am_G am_prog N d) eX7_init uX7_init N 0 [(0, .ref q)] [] h := (am_G_at N d 105 mX7_init _ _ rfl).trans (if_pos hk)
theorem o109 {N d q : Nat} {h : am_H} (hk : am_K h q = (8, 0)) : am_G am_prog N (d + 1) 109 [.ref q] h = am_run (am_G am_prog N d) eX8_init uX8_init N 0 [(0, .ref q)] [] h := (am_G_at N d 109 mX8_init _ _ rfl).trans (if_pos hk)
theorem o184 {N d q : Nat} {h : am_H} (hk : am_K h q = (9, 0)) : am_G am_prog N (d + 1) 184 [.ref q] h = am_run (am_G am_prog N d) eX9_init uX9_init N 0 [(0, .ref q)] [] h := (am_G_at N d 184 mX9_init _ _ rfl).trans (if_pos hk)
