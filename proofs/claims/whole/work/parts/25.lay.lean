/-! printed by wip/whole/lay.py: the lay-out of all cells once both objects are made; heaps of that lay-out -/
def lk_l : List (Nat × Nat) := [(99, 0), (99, 0), (20, am_SL), (8, 0), (13, 4), (7, 0), (12, 60), (7, 0), (12, 60), (7, 0), (12, 60), (7, 0), (12, 60), (11, 900), (5, 0), (12, 24), (10, 4), (10, 6), (10, 6), (10, 6), (10, 48), (10, 6), (10, 6), (10, 6), (10, 36), (10, 6), (10, 6), (10, 6), (1, 0), (10, 60), (10, 60), (10, 60), (10, 60), (10, 60), (5, 0), (12, 24), (10, 4), (10, 6), (10, 6), (10, 6), (10, 48), (10, 6), (10, 6), (10, 6), (10, 36), (10, 6), (10, 6), (10, 6), (1, 0), (10, 60), (10, 60), (10, 60), (10, 60), (10, 60), (14, 3), (5, 0), (12, 24), (10, 4), (10, 6), (10, 6), (10, 6), (10, 48), (10, 6), (10, 6), (10, 6), (10, 36), (10, 6), (10, 6), (10, 6), (1, 0), (10, 60), (10, 60), (10, 60), (10, 60), (10, 60), (5, 0), (12, 24), (10, 4), (10, 6), (10, 6), (10, 6), (10, 48), (10, 6), (10, 6), (10, 6), (10, 36), (10, 6), (10, 6), (10, 6), (1, 0), (10, 60), (10, 60), (10, 60), (10, 60), (10, 60), (5, 0), (12, 24), (10, 4), (10, 6), (10, 6), (10, 6), (10, 48), (10, 6), (10, 6), (10, 6), (10, 36), (10, 6), (10, 6), (10, 6), (1, 0), (10, 60), (10, 60), (10, 60), (10, 60), (10, 60), (4, 0), (12, 27), (6, 0), (2, 0), (1, 0), (10, 60), (10, 60), (10, 60), (10, 60), (10, 60), (10, 3), (0, 0), (10, 36), (10, 448), (10, 6), (10, 6), (10, 6), (3, 0), (10, 60), (10, 5), (9, 0), (10, 4), (10, 4), (12, 240), (11, 900), (10, 2145), (10, 157), (12, 120), (10, 36), (10, 6), (10, 6), (10, 5)]
def lk (L : Nat) (a : Nat) : Nat × Nat := if a = 1 then (21, L) else lk_l.getD a (99, 0)
def lr_l : List (List (Option Nat)) := [[], [], [], [some 4, some 13, none, none, none, some 54, none, some 115, some 117, some 118, some 126, some 132, some 134], [some 5, some 7, some 9, some 11], [some 6], [], [some 8], [], [some 10], [], [some 12], [], [], [some 15, some 16, none, none, none, none, none, some 17, some 18, some 19, some 20, some 21, some 22, some 23, some 24, some 25, some 26, some 27, some 28], [], [], [], [], [], [], [], [], [], [], [], [], [], [some 29, some 30, some 31, some 32, some 33], [], [], [], [], [], [some 35, some 36, none, none, none, none, none, some 37, some 38, some 39, some 40, some 41, some 42, some 43, some 44, some 45, some 46, some 47, some 48], [], [], [], [], [], [], [], [], [], [], [], [], [], [some 49, some 50, some 51, some 52, some 53], [], [], [], [], [], [some 55, some 75, some 95], [some 56, some 57, none, none, none, none, none, some 58, some 59, some 60, some 61, some 62, some 63, some 64, some 65, some 66, some 67, some 68, some 69], [], [], [], [], [], [], [], [], [], [], [], [], [], [some 70, some 71, some 72, some 73, some 74], [], [], [], [], [], [some 76, some 77, none, none, none, none, none, some 78, some 79, some 80, some 81, some 82, some 83, some 84, some 85, some 86, some 87, some 88, some 89], [], [], [], [], [], [], [], [], [], [], [], [], [], [some 90, some 91, some 92, some 93, some 94], [], [], [], [], [], [some 96, some 97, none, none, none, none, none, some 98, some 99, some 100, some 101, some 102, some 103, some 104, some 105, some 106, some 107, some 108, some 109], [], [], [], [], [], [], [], [], [], [], [], [], [], [some 110, some 111, some 112, some 113, some 114], [], [], [], [], [], [some 13, some 116], [], [some 115], [some 115, some 119, some 125], [some 120, some 121, some 122, some 123, some 124], [], [], [], [], [], [], [some 127, some 128, some 129, some 130, some 131], [], [], [], [], [], [some 133], [], [], [none, none, none, none, some 136, some 137, some 138, some 139, none, none, none, none, none, none, none, none, none, none, none, none, some 140, some 141, some 142, none, none, none, some 143, some 144, some 145, none, none, none, some 146], [], [], [], [], [], [], [], [], [], [], []]
/-- references: all are fixed but four: here, spare, the two readers' towns -/
def lr (he sp : Nat) (t1 t2 : Option Nat) (a k : Nat) : Option Nat := if a = 3 ∧ k = 3 then some he else if a = 3 ∧ k = 4 then some sp else if a = 117 ∧ k = 1 then t1 else if a = 118 ∧ k = 4 then t2 else (lr_l.getD a []).getD k none
abbrev lt_X : Type := Nat × Nat × Nat × Option Nat × Option Nat
/-- a heap of the lay-out: X = (script's length, here, spare, the readers' towns), its ints, its longs -/
def mkh (X : lt_X) (I : Nat → Nat → Int32) (J : Nat → Nat → Int64) : am_H := (147, 8248, lk X.1, I, J, lr X.2.1 X.2.2.1 X.2.2.2.1 X.2.2.2.2)
def u2 (I : Nat → Nat → Int32) (a k : Nat) (v : Int32) : Nat → Nat → Int32 := fun b => if b = a then upd (I b) k v else I b
def u2L (J : Nat → Nat → Int64) (a k : Nat) (v : Int64) : Nat → Nat → Int64 := fun b => if b = a then vp_updL (J b) k v else J b
def w2 (I : Nat → Nat → Int32) (a : Nat) (f : Nat → Int32) : Nat → Nat → Int32 := fun b => if b = a then f else I b
def w2L (J : Nat → Nat → Int64) (a : Nat) (f : Nat → Int64) : Nat → Nat → Int64 := fun b => if b = a then f else J b
theorem mkh_sI (X : lt_X) (I : Nat → Nat → Int32) (J : Nat → Nat → Int64) (a k : Nat) (v : Int32) : am_sI (mkh X I J) a k v = mkh X (u2 I a k v) J := rfl
theorem mkh_sL (X : lt_X) (I : Nat → Nat → Int32) (J : Nat → Nat → Int64) (a k : Nat) (v : Int64) : am_sL (mkh X I J) a k v = mkh X I (u2L J a k v) := rfl
theorem mkh_K (X : lt_X) (I : Nat → Nat → Int32) (J : Nat → Nat → Int64) : am_K (mkh X I J) = lk X.1 := rfl
theorem mkh_I (X : lt_X) (I : Nat → Nat → Int32) (J : Nat → Nat → Int64) : am_I (mkh X I J) = I := rfl
theorem mkh_L (X : lt_X) (I : Nat → Nat → Int32) (J : Nat → Nat → Int64) : am_L (mkh X I J) = J := rfl
theorem mkh_R (X : lt_X) (I : Nat → Nat → Int32) (J : Nat → Nat → Int64) : am_R (mkh X I J) = lr X.2.1 X.2.2.1 X.2.2.2.1 X.2.2.2.2 := rfl
theorem u2_at (I : Nat → Nat → Int32) (a k : Nat) (v : Int32) : u2 I a k v a k = v := by simp [u2, upd]
theorem u2_nk (I : Nat → Nat → Int32) (a k j : Nat) (v : Int32) (h : j ≠ k) : u2 I a k v a j = I a j := by simp [u2, upd, h]
theorem u2_na (I : Nat → Nat → Int32) (a k b : Nat) (v : Int32) (h : b ≠ a) : u2 I a k v b = I b := by simp [u2, h]
theorem u2L_at (J : Nat → Nat → Int64) (a k : Nat) (v : Int64) : u2L J a k v a k = v := by simp [u2L, vp_updL]
theorem u2L_nk (J : Nat → Nat → Int64) (a k j : Nat) (v : Int64) (h : j ≠ k) : u2L J a k v a j = J a j := by simp [u2L, vp_updL, h]
theorem u2L_na (J : Nat → Nat → Int64) (a k b : Nat) (v : Int64) (h : b ≠ a) : u2L J a k v b = J b := by simp [u2L, h]
/-- the towns: here and spare are 14 and 34, one way or the other; the marks' are 55, 75, 95 -/
def isT (t : Nat) : Prop := t = 14 ∨ t = 34 ∨ t = 55 ∨ t = 75 ∨ t = 95
theorem tK {t : Nat} (h : isT t) (L : Nat) : lk L t = (5, 0) := by rcases h with h | h | h | h | h <;> subst h <;> rfl
theorem tK14 {t : Nat} (h : isT t) (L : Nat) : lk L (t + 14) = (1, 0) := by rcases h with h | h | h | h | h <;> subst h <;> rfl
theorem tK1 {t : Nat} (h : isT t) (L : Nat) : lk L (t + 1) = (12, 24) := by rcases h with h | h | h | h | h <;> subst h <;> rfl
theorem tK2 {t : Nat} (h : isT t) (L : Nat) : lk L (t + 2) = (10, 4) := by rcases h with h | h | h | h | h <;> subst h <;> rfl
theorem tK3 {t : Nat} (h : isT t) (L : Nat) : lk L (t + 3) = (10, 6) := by rcases h with h | h | h | h | h <;> subst h <;> rfl
theorem tK4 {t : Nat} (h : isT t) (L : Nat) : lk L (t + 4) = (10, 6) := by rcases h with h | h | h | h | h <;> subst h <;> rfl
theorem tK5 {t : Nat} (h : isT t) (L : Nat) : lk L (t + 5) = (10, 6) := by rcases h with h | h | h | h | h <;> subst h <;> rfl
theorem tK6 {t : Nat} (h : isT t) (L : Nat) : lk L (t + 6) = (10, 48) := by rcases h with h | h | h | h | h <;> subst h <;> rfl
theorem tK7 {t : Nat} (h : isT t) (L : Nat) : lk L (t + 7) = (10, 6) := by rcases h with h | h | h | h | h <;> subst h <;> rfl
theorem tK8 {t : Nat} (h : isT t) (L : Nat) : lk L (t + 8) = (10, 6) := by rcases h with h | h | h | h | h <;> subst h <;> rfl
theorem tK9 {t : Nat} (h : isT t) (L : Nat) : lk L (t + 9) = (10, 6) := by rcases h with h | h | h | h | h <;> subst h <;> rfl
theorem tK10 {t : Nat} (h : isT t) (L : Nat) : lk L (t + 10) = (10, 36) := by rcases h with h | h | h | h | h <;> subst h <;> rfl
theorem tK11 {t : Nat} (h : isT t) (L : Nat) : lk L (t + 11) = (10, 6) := by rcases h with h | h | h | h | h <;> subst h <;> rfl
theorem tK12 {t : Nat} (h : isT t) (L : Nat) : lk L (t + 12) = (10, 6) := by rcases h with h | h | h | h | h <;> subst h <;> rfl
theorem tK13 {t : Nat} (h : isT t) (L : Nat) : lk L (t + 13) = (10, 6) := by rcases h with h | h | h | h | h <;> subst h <;> rfl
theorem tK15 {t : Nat} (h : isT t) (L : Nat) : lk L (t + 15) = (10, 60) := by rcases h with h | h | h | h | h <;> subst h <;> rfl
theorem tK16 {t : Nat} (h : isT t) (L : Nat) : lk L (t + 16) = (10, 60) := by rcases h with h | h | h | h | h <;> subst h <;> rfl
theorem tK17 {t : Nat} (h : isT t) (L : Nat) : lk L (t + 17) = (10, 60) := by rcases h with h | h | h | h | h <;> subst h <;> rfl
theorem tK18 {t : Nat} (h : isT t) (L : Nat) : lk L (t + 18) = (10, 60) := by rcases h with h | h | h | h | h <;> subst h <;> rfl
theorem tK19 {t : Nat} (h : isT t) (L : Nat) : lk L (t + 19) = (10, 60) := by rcases h with h | h | h | h | h <;> subst h <;> rfl
theorem tR0 {t : Nat} (h : isT t) (he sp : Nat) (t1 t2 : Option Nat) : lr he sp t1 t2 t 0 = some (t + 1) := by rcases h with h | h | h | h | h <;> subst h <;> rfl
theorem tR1 {t : Nat} (h : isT t) (he sp : Nat) (t1 t2 : Option Nat) : lr he sp t1 t2 t 1 = some (t + 2) := by rcases h with h | h | h | h | h <;> subst h <;> rfl
theorem tR7 {t : Nat} (h : isT t) (he sp : Nat) (t1 t2 : Option Nat) : lr he sp t1 t2 t 7 = some (t + 3) := by rcases h with h | h | h | h | h <;> subst h <;> rfl
theorem tR8 {t : Nat} (h : isT t) (he sp : Nat) (t1 t2 : Option Nat) : lr he sp t1 t2 t 8 = some (t + 4) := by rcases h with h | h | h | h | h <;> subst h <;> rfl
theorem tR9 {t : Nat} (h : isT t) (he sp : Nat) (t1 t2 : Option Nat) : lr he sp t1 t2 t 9 = some (t + 5) := by rcases h with h | h | h | h | h <;> subst h <;> rfl
theorem tR10 {t : Nat} (h : isT t) (he sp : Nat) (t1 t2 : Option Nat) : lr he sp t1 t2 t 10 = some (t + 6) := by rcases h with h | h | h | h | h <;> subst h <;> rfl
theorem tR11 {t : Nat} (h : isT t) (he sp : Nat) (t1 t2 : Option Nat) : lr he sp t1 t2 t 11 = some (t + 7) := by rcases h with h | h | h | h | h <;> subst h <;> rfl
theorem tR12 {t : Nat} (h : isT t) (he sp : Nat) (t1 t2 : Option Nat) : lr he sp t1 t2 t 12 = some (t + 8) := by rcases h with h | h | h | h | h <;> subst h <;> rfl
theorem tR13 {t : Nat} (h : isT t) (he sp : Nat) (t1 t2 : Option Nat) : lr he sp t1 t2 t 13 = some (t + 9) := by rcases h with h | h | h | h | h <;> subst h <;> rfl
theorem tR14 {t : Nat} (h : isT t) (he sp : Nat) (t1 t2 : Option Nat) : lr he sp t1 t2 t 14 = some (t + 10) := by rcases h with h | h | h | h | h <;> subst h <;> rfl
theorem tR15 {t : Nat} (h : isT t) (he sp : Nat) (t1 t2 : Option Nat) : lr he sp t1 t2 t 15 = some (t + 11) := by rcases h with h | h | h | h | h <;> subst h <;> rfl
theorem tR16 {t : Nat} (h : isT t) (he sp : Nat) (t1 t2 : Option Nat) : lr he sp t1 t2 t 16 = some (t + 12) := by rcases h with h | h | h | h | h <;> subst h <;> rfl
theorem tR17 {t : Nat} (h : isT t) (he sp : Nat) (t1 t2 : Option Nat) : lr he sp t1 t2 t 17 = some (t + 13) := by rcases h with h | h | h | h | h <;> subst h <;> rfl
theorem tR18 {t : Nat} (h : isT t) (he sp : Nat) (t1 t2 : Option Nat) : lr he sp t1 t2 t 18 = some (t + 14) := by rcases h with h | h | h | h | h <;> subst h <;> rfl
theorem tD0 {t : Nat} (h : isT t) (he sp : Nat) (t1 t2 : Option Nat) : lr he sp t1 t2 (t + 14) 0 = some (t + 15) := by rcases h with h | h | h | h | h <;> subst h <;> rfl
theorem tD1 {t : Nat} (h : isT t) (he sp : Nat) (t1 t2 : Option Nat) : lr he sp t1 t2 (t + 14) 1 = some (t + 16) := by rcases h with h | h | h | h | h <;> subst h <;> rfl
theorem tD2 {t : Nat} (h : isT t) (he sp : Nat) (t1 t2 : Option Nat) : lr he sp t1 t2 (t + 14) 2 = some (t + 17) := by rcases h with h | h | h | h | h <;> subst h <;> rfl
theorem tD3 {t : Nat} (h : isT t) (he sp : Nat) (t1 t2 : Option Nat) : lr he sp t1 t2 (t + 14) 3 = some (t + 18) := by rcases h with h | h | h | h | h <;> subst h <;> rfl
theorem tD4 {t : Nat} (h : isT t) (he sp : Nat) (t1 t2 : Option Nat) : lr he sp t1 t2 (t + 14) 4 = some (t + 19) := by rcases h with h | h | h | h | h <;> subst h <;> rfl
theorem in_nI {j n : Nat} (h : j < n) (hn : n < 2 ^ 31) : am_in (nI j) n := vp_in_nI h hn
theorem lI_mk {X : lt_X} {I : Nat → Nat → Int32} {J : Nat → Nat → Int64} {t a n j : Nat} {f : Int32 → am_O} (hk : lk X.1 a = (t, n)) (hj : j < n) (hn : n < 2 ^ 31) : am_lI (mkh X I J) t a (nI j) f = f (I a j) := by
  unfold am_lI
  rw [mkh_K, hk, if_pos rfl, if_pos (in_nI hj hn), mkh_I, nI_clamp (by omega)]
theorem gR_mk {X : lt_X} {I : Nat → Nat → Int32} {J : Nat → Nat → Int64} {ci a k b : Nat} {f : Nat → am_O} (hk : lk X.1 a = (ci, 0)) (hr : lr X.2.1 X.2.2.1 X.2.2.2.1 X.2.2.2.2 a k = some b) : am_gR (mkh X I J) ci a k f = f b := by
  unfold am_gR
  rw [mkh_K, hk, if_pos rfl, mkh_R, hr]; rfl
theorem gI_mk {X : lt_X} {I : Nat → Nat → Int32} {J : Nat → Nat → Int64} {ci a k : Nat} {f : Int32 → am_O} (hk : lk X.1 a = (ci, 0)) : am_gI (mkh X I J) ci a k f = f (I a k) := by
  unfold am_gI
  rw [mkh_K, hk, if_pos rfl, mkh_I]
theorem gL_mk {X : lt_X} {I : Nat → Nat → Int32} {J : Nat → Nat → Int64} {ci a k : Nat} {f : Int64 → am_O} (hk : lk X.1 a = (ci, 0)) : am_gL (mkh X I J) ci a k f = f (J a k) := by
  unfold am_gL
  rw [mkh_K, hk, if_pos rfl, mkh_L]
theorem pI_mk {X : lt_X} {I : Nat → Nat → Int32} {J : Nat → Nat → Int64} {ci a k : Nat} {v : Int32} {f : am_H → am_O} (hk : lk X.1 a = (ci, 0)) : am_pI (mkh X I J) ci a k v f = f (mkh X (u2 I a k v) J) := by
  unfold am_pI
  rw [mkh_K, hk, if_pos rfl, mkh_sI]
theorem tI_mk {X : lt_X} {I : Nat → Nat → Int32} {J : Nat → Nat → Int64} {a n j : Nat} {v : Int32} {f : am_H → am_O} (hk : lk X.1 a = (10, n)) (hj : j < n) (hn : n < 2 ^ 31) : am_tI (mkh X I J) a (nI j) v f = f (mkh X (u2 I a j v) J) := by
  unfold am_tI
  rw [mkh_K, hk, if_pos rfl, if_pos (in_nI hj hn), mkh_sI, nI_clamp (by omega)]
theorem lL_mk {X : lt_X} {I : Nat → Nat → Int32} {J : Nat → Nat → Int64} {a n j : Nat} {f : Int64 → am_O} (hk : lk X.1 a = (12, n)) (hj : j < n) (hn : n < 2 ^ 31) : am_lL (mkh X I J) a (nI j) f = f (J a j) := by
  unfold am_lL
  rw [mkh_K, hk, if_pos rfl, if_pos (in_nI hj hn), mkh_L, nI_clamp (by omega)]
theorem tL_mk {X : lt_X} {I : Nat → Nat → Int32} {J : Nat → Nat → Int64} {a n j : Nat} {v : Int64} {f : am_H → am_O} (hk : lk X.1 a = (12, n)) (hj : j < n) (hn : n < 2 ^ 31) : am_tL (mkh X I J) a (nI j) v f = f (mkh X I (u2L J a j v)) := by
  unfold am_tL
  rw [mkh_K, hk, if_pos rfl, if_pos (in_nI hj hn), mkh_sL, nI_clamp (by omega)]
