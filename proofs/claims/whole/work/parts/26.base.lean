/-! small things for the lay-out: towns, trays, a call's start -/
def hsX (X : lt_X) : Prop := X.2.1 = 14 ∧ X.2.2.1 = 34 ∨ X.2.1 = 34 ∧ X.2.2.1 = 14
def isTr (t : Nat) : Prop := t = 5 ∨ t = 7 ∨ t = 9 ∨ t = 11
theorem am_G_at (N d y : Nat) (M : am_M) (as : List Value) (h : am_H) (e : am_prog y = some M) : am_G am_prog N (d + 1) y as h = am_rc M.2.2.2.2.1 as h (bif Nat.ble (lg_sl as).length M.2.2.1 then am_run (am_G am_prog N d) M.2.2.2.2.2.1 M.2.2.2.2.2.2 N 0 (lv_args 0 as) [] h else none) := by
  show (match am_prog y with
      | some M => am_rc M.2.2.2.2.1 as h (bif Nat.ble (lg_sl as).length M.2.2.1 then am_run (am_G am_prog N d) M.2.2.2.2.2.1 M.2.2.2.2.2.2 N 0 (lv_args 0 as) [] h else none)
      | none => none) = _
  rw [e]
theorem hsX_he {X : lt_X} (h : hsX X) : isT X.2.1 := by
  rcases h with ⟨h, -⟩ | ⟨h, -⟩ <;> rw [h]
  · exact Or.inl rfl
  · exact Or.inr (Or.inl rfl)
theorem hsX_sp {X : lt_X} (h : hsX X) : isT X.2.2.1 := by
  rcases h with ⟨-, h⟩ | ⟨-, h⟩ <;> rw [h]
  · exact Or.inr (Or.inl rfl)
  · exact Or.inl rfl
