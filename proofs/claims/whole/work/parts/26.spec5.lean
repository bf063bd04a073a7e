/-! test -/
theorem am_G_at (N d y : Nat) (M : am_M) (as : List Value) (h : am_H) (e : am_prog y = some M) : am_G am_prog N (d + 1) y as h = am_rc M.2.2.2.2.1 as h (bif Nat.ble (lg_sl as).length M.2.2.1 then am_run (am_G am_prog N d) M.2.2.2.2.2.1 M.2.2.2.2.2.2 N 0 (lv_args 0 as) [] h else none) := by
  show (match am_prog y with
      | some M => am_rc M.2.2.2.2.1 as h (bif Nat.ble (lg_sl as).length M.2.2.1 then am_run (am_G am_prog N d) M.2.2.2.2.2.1 M.2.2.2.2.2.2 N 0 (lv_args 0 as) [] h else none)
      | none => none) = _
  rw [e]
theorem gX5_setsOf (N d : Nat) {L he sp : Nat} {t1 t2 : Option Nat} {t : Nat} (ht : isT t) (x1 : Int32) (I : Nat → Nat → Int32) (J : Nat → Nat → Int64) : am_G am_prog N (d + 1) 64 [.ref t, .int x1] (mkh (L, he, sp, t1, t2) I J) = am_run (am_G am_prog N d) eX5_setsOf uX5_setsOf N 0 [(0, .ref t), (1, .int x1)] [] (mkh (L, he, sp, t1, t2) I J) := by
  refine (am_G_at N d 64 mX5_setsOf _ _ rfl).trans ?_
  rcases ht with rfl | rfl | rfl | rfl | rfl <;> rfl

set_option maxHeartbeats 1000000 in
set_option maxRecDepth 100000 in
theorem sX5_setsOf_0 (N d n : Nat) {L he sp : Nat} {t1 t2 : Option Nat} {t : Nat} (ht : isT t) (x1 : Int32) (I : Nat → Nat → Int32) (J : Nat → Nat → Int64) : am_run (am_G am_prog (N + 30) (d + 0)) eX5_setsOf uX5_setsOf (n + 1) 0 [(0, .ref t), (1, .int x1)] [] (mkh (L, he, sp, t1, t2) I J) = am_run (am_G am_prog (N + 30) (d + 0)) eX5_setsOf uX5_setsOf n 4 [(0, .ref t), (1, .int x1), (2, .int (0 : Int32)), (3, .int (0 : Int32))] [] (mkh (L, he, sp, t1, t2) I J) := by
  rcases ht with rfl | rfl | rfl | rfl | rfl <;> rfl

set_option maxHeartbeats 1000000 in
set_option maxRecDepth 100000 in
theorem sX5_setsOf_4 (N d n : Nat) {L he sp : Nat} {t1 t2 : Option Nat} {t : Nat} (ht : isT t) (x1 : Int32) (x2 : Int32) (x3 : Int32) (I : Nat → Nat → Int32) (J : Nat → Nat → Int64) : am_run (am_G am_prog (N + 30) (d + 0)) eX5_setsOf uX5_setsOf (n + 1) 4 [(0, .ref t), (1, .int x1), (2, .int x2), (3, .int x3)] [] (mkh (L, he, sp, t1, t2) I J) = if x3 < (I (t + 2) 3) then if am_in x3 6 then if (I (t + 13) x3.toNatClampNeg) = x1 then am_run (am_G am_prog (N + 30) (d + 0)) eX5_setsOf uX5_setsOf n 4 [(0, .ref t), (1, .int x1), (2, .int (x2 ||| ((1 : Int32) <<< (x3 &&& 31)))), (3, .int (x3 + (1 : Int32)))] [] (mkh (L, he, sp, t1, t2) I J) else am_run (am_G am_prog (N + 30) (d + 0)) eX5_setsOf uX5_setsOf n 4 [(0, .ref t), (1, .int x1), (2, .int x2), (3, .int (x3 + (1 : Int32)))] [] (mkh (L, he, sp, t1, t2) I J) else none else some (.int x2, (mkh (L, he, sp, t1, t2) I J)) := by
  rcases ht with rfl | rfl | rfl | rfl | rfl <;> rfl

set_option maxHeartbeats 1000000 in
set_option maxRecDepth 100000 in
theorem sX5_voicesOf_4 (N d n : Nat) {L he sp : Nat} {t1 t2 : Option Nat} {t : Nat} (ht : isT t) (x1 : Int32) (x2 : Int32) (x3 : Int32) (I : Nat → Nat → Int32) (J : Nat → Nat → Int64) : am_run (am_G am_prog (N + 30) (d + 1)) eX5_voicesOf uX5_voicesOf (n + 1) 4 [(0, .ref t), (1, .int x1), (2, .int x2), (3, .int x3)] [] (mkh (L, he, sp, t1, t2) I J) = if x3 < (I (t + 2) 3) then if am_in x3 6 then if (I (t + 13) x3.toNatClampNeg) = x1 then if am_in x3 6 then if am_in x3 6 then if (I (t + 12) x3.toNatClampNeg) = ((-1) : Int32) then am_run (am_G am_prog (N + 30) (d + 1)) eX5_voicesOf uX5_voicesOf n 4 [(0, .ref t), (1, .int x1), (2, .int (x2 ||| ((1 : Int32) <<< ((I (t + 11) x3.toNatClampNeg) &&& 31)))), (3, .int (x3 + (1 : Int32)))] [] (mkh (L, he, sp, t1, t2) I J) else if am_in x3 6 then am_run (am_G am_prog (N + 30) (d + 1)) eX5_voicesOf uX5_voicesOf n 4 [(0, .ref t), (1, .int x1), (2, .int (x2 ||| (((1 : Int32) <<< ((I (t + 11) x3.toNatClampNeg) &&& 31)) ||| ((1 : Int32) <<< ((I (t + 12) x3.toNatClampNeg) &&& 31))))), (3, .int (x3 + (1 : Int32)))] [] (mkh (L, he, sp, t1, t2) I J) else none else none else none else am_run (am_G am_prog (N + 30) (d + 1)) eX5_voicesOf uX5_voicesOf n 4 [(0, .ref t), (1, .int x1), (2, .int x2), (3, .int (x3 + (1 : Int32)))] [] (mkh (L, he, sp, t1, t2) I J) else none else some (.int x2, (mkh (L, he, sp, t1, t2) I J)) := by
  rcases ht with rfl | rfl | rfl | rfl | rfl <;> rfl

theorem gX8_person (N d : Nat) {L he sp : Nat} {t1 t2 : Option Nat} (x1 : Int32) (x2 : Int32) (I : Nat → Nat → Int32) (J : Nat → Nat → Int64) : am_G am_prog N (d + 1) 128 [.ref 3, .int x1, .int x2] (mkh (L, he, sp, t1, t2) I J) = am_run (am_G am_prog N d) eX8_person uX8_person N 0 [(0, .ref 3), (1, .int x1), (2, .int x2)] [] (mkh (L, he, sp, t1, t2) I J) := by
  refine (am_G_at N d 128 mX8_person _ _ rfl).trans ?_
  rfl

set_option maxHeartbeats 1000000 in
set_option maxRecDepth 100000 in
theorem sX8_person_0 (N d n : Nat) {L he sp : Nat} {t1 t2 : Option Nat} (hhe : he = 14 ∧ sp = 34 ∨ he = 34 ∧ sp = 14) (x1 : Int32) (x2 : Int32) (I : Nat → Nat → Int32) (J : Nat → Nat → Int64) : am_run (am_G am_prog (N + 30) (d + 1)) eX8_person uX8_person (n + 1) 0 [(0, .ref 3), (1, .int x1), (2, .int x2)] [] (mkh (L, he, sp, t1, t2) I J) = if x1 < 0 then some (.int ((-1) : Int32), (mkh (L, he, sp, t1, t2) (u2 I 3 15 (2 : Int32)) J)) else if x1 < (I (he + 2) 2) then if x2 = 0 then if am_in x1 6 then some (.int (I (he + 7) x1.toNatClampNeg), (mkh (L, he, sp, t1, t2) (u2 I 3 15 (0 : Int32)) J)) else none else if x2 = 1 then if am_in x1 6 then some (.int (I (he + 8) x1.toNatClampNeg), (mkh (L, he, sp, t1, t2) (u2 I 3 15 (0 : Int32)) J)) else none else if x2 = 2 then if am_in x1 6 then some (.int (I (he + 9) x1.toNatClampNeg), (mkh (L, he, sp, t1, t2) (u2 I 3 15 (0 : Int32)) J)) else none else if x2 = 3 then am_cI (am_G am_prog (N + 30) (d + 1) 64 [.ref he, .int x1] (mkh (L, he, sp, t1, t2) I J)) (fun r2 h1 => am_cI (am_G am_prog (N + 30) (d + 1) 179 [.ref 3, .int r2] h1) (fun r5 h4 => some (.int r5, h4))) else some (.int ((-1) : Int32), (mkh (L, he, sp, t1, t2) (u2 I 3 15 (5 : Int32)) J)) else some (.int ((-1) : Int32), (mkh (L, he, sp, t1, t2) (u2 I 3 15 (2 : Int32)) J)) := by
  rcases hhe with ⟨rfl, rfl⟩ | ⟨rfl, rfl⟩ <;> rfl

set_option maxHeartbeats 1000000 in
set_option maxRecDepth 100000 in
theorem sX9_set_0 (N d n : Nat) {L he sp : Nat} {t1 t2 : Option Nat} (x1 : Int32) (x2 : Int32) (I : Nat → Nat → Int32) (J : Nat → Nat → Int64) : am_run (am_G am_prog (N + 30) (d + 2)) eX9_set uX9_set (n + 1) 0 [(0, .ref 135), (1, .int x1), (2, .int x2)] [] (mkh (L, he, sp, t1, t2) I J) = if (lg_cmp x1.toInt64 (0 : Int64)) < 0 then some (.int ((-1) : Int32), (mkh (L, he, sp, t1, t2) (u2 (u2 (u2 I 135 1 (0 : Int32)) 135 0 (0 : Int32)) 135 0 (2 : Int32)) J)) else if 0 < (lg_cmp x1.toInt64 (((I 140 3) - (1 : Int32)).toInt64)) then some (.int ((-1) : Int32), (mkh (L, he, sp, t1, t2) (u2 (u2 (u2 I 135 1 (0 : Int32)) 135 0 (0 : Int32)) 135 0 (2 : Int32)) J)) else if (lg_cmp x2.toInt64 (0 : Int64)) < 0 then some (.int ((-1) : Int32), (mkh (L, he, sp, t1, t2) (u2 (u2 (u2 I 135 1 (0 : Int32)) 135 0 (0 : Int32)) 135 0 (5 : Int32)) J)) else if 0 < (lg_cmp x2.toInt64 (2 : Int64)) then some (.int ((-1) : Int32), (mkh (L, he, sp, t1, t2) (u2 (u2 (u2 I 135 1 (0 : Int32)) 135 0 (0 : Int32)) 135 0 (5 : Int32)) J)) else if am_in (((55 : Int32) + ((6 : Int32) * x2)) + x1) 2145 then if (I 140 ((((55 : Int32) + ((6 : Int32) * x2)) + x1).toNatClampNeg)) < 0 then some (.int ((-1) : Int32), (mkh (L, he, sp, t1, t2) (u2 (u2 (u2 I 135 1 (0 : Int32)) 135 0 (0 : Int32)) 135 0 (8 : Int32)) J)) else some (.int (I 140 ((((55 : Int32) + ((6 : Int32) * x2)) + x1).toNatClampNeg)), (mkh (L, he, sp, t1, t2) (u2 (u2 I 135 1 (0 : Int32)) 135 0 (0 : Int32)) J)) else none := by
  rfl

set_option maxHeartbeats 1000000 in
set_option maxRecDepth 100000 in
theorem sX9_ownedBy_4 (N d n : Nat) {L he sp : Nat} {t1 t2 : Option Nat} (x1 : Int32) (x2 : Int32) (x3 : Int32) (I : Nat → Nat → Int32) (J : Nat → Nat → Int64) : am_run (am_G am_prog (N + 30) (d + 0)) eX9_ownedBy uX9_ownedBy (n + 1) 4 [(0, .ref 135), (1, .int x1), (2, .int x2), (3, .int x3)] [] (mkh (L, he, sp, t1, t2) I J) = if x3 < (I 140 3) then if am_in ((67 : Int32) + x3) 2145 then if (I 140 (((67 : Int32) + x3).toNatClampNeg)) = x1 then am_run (am_G am_prog (N + 30) (d + 0)) eX9_ownedBy uX9_ownedBy n 4 [(0, .ref 135), (1, .int x1), (2, .int (x2 ||| ((1 : Int32) <<< (x3 &&& 31)))), (3, .int (x3 + (1 : Int32)))] [] (mkh (L, he, sp, t1, t2) I J) else am_run (am_G am_prog (N + 30) (d + 0)) eX9_ownedBy uX9_ownedBy n 4 [(0, .ref 135), (1, .int x1), (2, .int (x2 ||| (0 : Int32))), (3, .int (x3 + (1 : Int32)))] [] (mkh (L, he, sp, t1, t2) I J) else none else some (.int x2, (mkh (L, he, sp, t1, t2) I J)) := by
  rfl

set_option maxHeartbeats 1000000 in
set_option maxRecDepth 100000 in
theorem sX9_isVoiceAt_0 (N d n : Nat) {L he sp : Nat} {t1 t2 : Option Nat} (x1 : Int32) (I : Nat → Nat → Int32) (J : Nat → Nat → Int64) : am_run (am_G am_prog (N + 30) (d + 1)) eX9_isVoiceAt uX9_isVoiceAt (n + 1) 0 [(0, .ref 135), (1, .int x1)] [] (mkh (L, he, sp, t1, t2) I J) = if (lg_cmp x1.toInt64 (0 : Int64)) < 0 then some (.int (0 : Int32), (mkh (L, he, sp, t1, t2) I J)) else if 0 < (lg_cmp x1.toInt64 (((I 140 1) - (1 : Int32)).toInt64)) then some (.int (0 : Int32), (mkh (L, he, sp, t1, t2) I J)) else some (.int (1 : Int32), (mkh (L, he, sp, t1, t2) I J)) := by
  rfl

