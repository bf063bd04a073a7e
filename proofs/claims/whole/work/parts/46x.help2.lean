/-! (behind 46) -/
theorem c9_arePeople {N d : Nat} {X : lt_X} {I : Nat → Nat → Int32} {J : Nat → Nat → Int64} {T : Nat → Nat} (hT : TM (I 140) T) (hw : WF T) (x : Int32) : am_G am_prog (N + 30) (d + 2) 306 [.ref 135, .int x] (mkh X I J) = some (.int (nI (if inb x (2 ^ T 2) = true then 1 else 0)), (mkh X I J)) := by
  have h1 := hw.1.2.2.1
  have h2 : 2 ^ T 2 ≤ 2 ^ 6 := Nat.pow_le_pow_right (by omega) h1
  rw [gX9_arePeople N d, sX9_arePeople_0 N d, tm2 hT, no_shl (by omega), c9_inb (by omega), cI_some, kX9_arePeople_0 N d, nb_10]
