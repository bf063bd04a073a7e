/-! small things for the lay-out: towns, trays, a call's start -/
def hsX (X : lt_X) : Prop := X.2.1 = 14 ∧ X.2.2.1 = 34 ∨ X.2.1 = 34 ∧ X.2.2.1 = 14
def isTr (t : Nat) : Prop := t = 5 ∨ t = 7 ∨ t = 9 ∨ t = 11
theorem am_G_at (N d y : Nat) (M : am_M) (as : List Value) (h : am_H) (e : am_prog y = some M) : am_G am_prog N (d + 1) y as h = am_rc M.2.2.2.2.1 as h (bif Nat.ble (lg_sl as).length M.2.2.1 then am_run (am_G am_prog N d) M.2.2.2.2.2.1 M.2.2.2.2.2.2 N 0 (lv_args 0 as) [] h else none) := by
  show (match am_prog y with
      | some M => am_rc M.2.2.2.2.1 as h (bif Nat.ble (lg_sl as).length M.2.2.1 then am_run (am_G am_prog N d) M.2.2.2.2.2.1 M.2.2.2.2.2.2 N 0 (lv_args 0 as) [] h else none)
      | none => none) = _
  rw [e]
theorem hsX_he {X : lt_X} (h : hsX X) : isT X.2.1 := by
  rcases h with ⟨h, -⟩ | ⟨h, -⟩ <;> rw [h]
  · exact Or.inl rfl
  · exact Or.inr (Or.inl rfl)
theorem hsX_sp {X : lt_X} (h : hsX X) : isT X.2.2.1 := by
  rcases h with ⟨-, h⟩ | ⟨-, h⟩ <;> rw [h]
  · exact Or.inr (Or.inl rfl)
  · exact Or.inl rfl
theorem mkh_Rf {L he sp he' sp' : Nat} {t1 t2 t1' t2' : Option Nat} {a k : Nat} {v : Option Nat} {I : Nat → Nat → Int32} {J : Nat → Nat → Int64} (h : ∀ b j, (if b = a then va_up (lr he sp t1 t2 b) k v else lr he sp t1 t2 b) j = lr he' sp' t1' t2' b j) : am_sR (mkh (L, he, sp, t1, t2) I J) a k v = mkh (L, he', sp', t1', t2') I J := by
  show (147, 8248, lk L, I, J, fun b => if b = a then va_up (lr he sp t1 t2 b) k v else lr he sp t1 t2 b) = (147, 8248, lk L, I, J, lr he' sp' t1' t2')
  rw [show (fun b => if b = a then va_up (lr he sp t1 t2 b) k v else lr he sp t1 t2 b) = lr he' sp' t1' t2' from funext (fun b => funext (fun j => h b j))]
theorem mkh_R33 (L he sp a : Nat) (t1 t2 : Option Nat) (I : Nat → Nat → Int32) (J : Nat → Nat → Int64) : am_sR (mkh (L, he, sp, t1, t2) I J) 3 3 (some a) = mkh (L, a, sp, t1, t2) I J := mkh_Rf (fun b j => by
  by_cases q : b = 3
  · subst q; by_cases r : j = 3
    · subst r; rfl
    · simp [va_up, lr, r]
  · simp [lr, q])
theorem mkh_R34 (L he sp a : Nat) (t1 t2 : Option Nat) (I : Nat → Nat → Int32) (J : Nat → Nat → Int64) : am_sR (mkh (L, he, sp, t1, t2) I J) 3 4 (some a) = mkh (L, he, a, t1, t2) I J := mkh_Rf (fun b j => by
  by_cases q : b = 3
  · subst q; by_cases r : j = 4
    · subst r; rfl
    · simp [va_up, lr, r]
  · simp [lr, q])
theorem mkh_R117 (L he sp a : Nat) (t1 t2 : Option Nat) (I : Nat → Nat → Int32) (J : Nat → Nat → Int64) : am_sR (mkh (L, he, sp, t1, t2) I J) 117 1 (some a) = mkh (L, he, sp, some a, t2) I J := mkh_Rf (fun b j => by
  by_cases q : b = 117
  · subst q; by_cases r : j = 1
    · subst r; rfl
    · simp [va_up, lr, r]
  · simp [lr, q])
theorem mkh_R118 (L he sp a : Nat) (t1 t2 : Option Nat) (I : Nat → Nat → Int32) (J : Nat → Nat → Int64) : am_sR (mkh (L, he, sp, t1, t2) I J) 118 4 (some a) = mkh (L, he, sp, t1, some a) I J := mkh_Rf (fun b j => by
  by_cases q : b = 118
  · subst q; by_cases r : j = 4
    · subst r; rfl
    · simp [va_up, lr, r]
  · simp [lr, q])
