/-! printed by wip/whole/eqs4.py (sym4.py) -/
def RX5_clear_0 (N d n : Nat) (X : lt_X) (t : Nat) (I : Nat → Nat → Int32) (J : Nat → Nat → Int64) : am_O := am_run (am_G am_prog (N + 30) (d + 1)) eX5_clear uX5_clear n 0 [(0, .ref t)] [] (mkh X I J)
def RX5_clear_2 (N d n : Nat) (X : lt_X) (t : Nat) (x1 : Int32) (I : Nat → Nat → Int32) (J : Nat → Nat → Int64) : am_O := am_run (am_G am_prog (N + 30) (d + 1)) eX5_clear uX5_clear n 2 [(0, .ref t), (1, .int x1)] [] (mkh X I J)
set_option maxHeartbeats 4000000 in
set_option maxRecDepth 100000 in
theorem sX5_clear_0 (N d n : Nat) {X : lt_X} {t : Nat} (ht : isT t) (I : Nat → Nat → Int32) (J : Nat → Nat → Int64) : RX5_clear_0 N d (n + 1) X t I J = RX5_clear_2 N d n X t (nI 0) I J := by
  rcases ht with rfl | rfl | rfl | rfl | rfl <;> rfl
set_option maxHeartbeats 4000000 in
set_option maxRecDepth 100000 in
theorem sX5_clear_2 (N d n : Nat) {X : lt_X} {t : Nat} (ht : isT t) (x1 : Int32) (I : Nat → Nat → Int32) (J : Nat → Nat → Int64) : RX5_clear_2 N d (n + 1) X t x1 I J = if x1 < (nI 4) then if am_in x1 4 then RX5_clear_2 N d n X t (x1 + (nI 1)) (u2 I (t + 2) x1.toNatClampNeg (nI 0)) J else none else some (.null, (mkh X (u2 (u2 (u2 (u2 (u2 (u2 (u2 (u2 I t 2 (nI 1)) t 3 (nI 0)) t 4 (nI 0)) t 5 (nI 0)) t 6 (nI 0)) (t + 14) 5 (nI 0)) (t + 14) 6 (nI 0)) (t + 14) 7 (nI 0)) J)) := by
  rcases ht with rfl | rfl | rfl | rfl | rfl <;> rfl
theorem fX5_clear (N d : Nat) {X : lt_X} {t : Nat} (ht : isT t) (I : Nat → Nat → Int32) (J : Nat → Nat → Int64) : am_G am_prog N (d + 1) 57 [.ref t] (mkh X I J) = am_run (am_G am_prog N d) eX5_clear uX5_clear N 0 [(0, .ref t)] [] (mkh X I J) := by
  refine (am_G_at N d 57 mX5_clear _ _ rfl).trans ?_
  rcases ht with rfl | rfl | rfl | rfl | rfl <;> rfl
theorem gX5_clear (N d : Nat) {X : lt_X} {t : Nat} (ht : isT t) (I : Nat → Nat → Int32) (J : Nat → Nat → Int64) : am_G am_prog (N + 30) (d + 2) 57 [.ref t] (mkh X I J) = RX5_clear_0 N d (N + 30) X t I J := fX5_clear (N + 30) (d + 1) ht I J
def RX5_take_0 (N d n : Nat) (X : lt_X) (t : Nat) (u : Nat) (I : Nat → Nat → Int32) (J : Nat → Nat → Int64) : am_O := am_run (am_G am_prog (N + 30) (d + 1)) eX5_take uX5_take n 0 [(0, .ref t), (1, .ref u)] [] (mkh X I J)
def KX5_take_0 (N d n : Nat) (h : am_H) : am_O := some (.null, h)
set_option maxHeartbeats 4000000 in
set_option maxRecDepth 100000 in
theorem sX5_take_0 (N d n : Nat) {X : lt_X} {t : Nat} {u : Nat} (ht : isT t) (hu : isT u) (htu : ¬ t = u) (I : Nat → Nat → Int32) (J : Nat → Nat → Int64) : RX5_take_0 N d (n + 1) X t u I J = am_cV (am_G am_prog (N + 30) (d + 1) 22 [.ref (t + 14), .ref (u + 14)] (mkh X (w2 (w2 (w2 (w2 (w2 (w2 (w2 (w2 (w2 (w2 (w2 (w2 (u2 (u2 (u2 (u2 (u2 I t 2 (I u 2)) t 3 (I u 3)) t 4 (I u 4)) t 5 (I u 5)) t 6 (I u 6)) (t + 2) (va_cpy (I (u + 2)) (I (t + 2)) 0 0 4)) (t + 3) (va_cpy (I (u + 3)) (I (t + 3)) 0 0 6)) (t + 4) (va_cpy (I (u + 4)) (I (t + 4)) 0 0 6)) (t + 5) (va_cpy (I (u + 5)) (I (t + 5)) 0 0 6)) (t + 6) (va_cpy (I (u + 6)) (I (t + 6)) 0 0 48)) (t + 7) (va_cpy (I (u + 7)) (I (t + 7)) 0 0 6)) (t + 8) (va_cpy (I (u + 8)) (I (t + 8)) 0 0 6)) (t + 9) (va_cpy (I (u + 9)) (I (t + 9)) 0 0 6)) (t + 10) (va_cpy (I (u + 10)) (I (t + 10)) 0 0 36)) (t + 11) (va_cpy (I (u + 11)) (I (t + 11)) 0 0 6)) (t + 12) (va_cpy (I (u + 12)) (I (t + 12)) 0 0 6)) (t + 13) (va_cpy (I (u + 13)) (I (t + 13)) 0 0 6)) (w2L J (t + 1) (va_cpy (J (u + 1)) (J (t + 1)) 0 0 24)))) (KX5_take_0 N d n ) := by
  rcases ht with rfl | rfl | rfl | rfl | rfl <;> rcases hu with rfl | rfl | rfl | rfl | rfl <;> first | rfl | exact absurd rfl htu
set_option maxHeartbeats 4000000 in
set_option maxRecDepth 100000 in
theorem kX5_take_0 (N d n : Nat) {X : lt_X} (I : Nat → Nat → Int32) (J : Nat → Nat → Int64) : KX5_take_0 N d n (mkh X I J) = some (.null, (mkh X I J)) := by
  rfl
theorem fX5_take (N d : Nat) {X : lt_X} {t : Nat} {u : Nat} (ht : isT t) (I : Nat → Nat → Int32) (J : Nat → Nat → Int64) : am_G am_prog N (d + 1) 58 [.ref t, .ref u] (mkh X I J) = am_run (am_G am_prog N d) eX5_take uX5_take N 0 [(0, .ref t), (1, .ref u)] [] (mkh X I J) := by
  refine (am_G_at N d 58 mX5_take _ _ rfl).trans ?_
  rcases ht with rfl | rfl | rfl | rfl | rfl <;> rfl
theorem gX5_take (N d : Nat) {X : lt_X} {t : Nat} {u : Nat} (ht : isT t) (I : Nat → Nat → Int32) (J : Nat → Nat → Int64) : am_G am_prog (N + 30) (d + 2) 58 [.ref t, .ref u] (mkh X I J) = RX5_take_0 N d (N + 30) X t u I J := fX5_take (N + 30) (d + 1) ht I J
def RX5_find_0 (N d n : Nat) (X : lt_X) (t : Nat) (x1 : Int32) (x2 : Int64) (I : Nat → Nat → Int32) (J : Nat → Nat → Int64) : am_O := am_run (am_G am_prog (N + 30) (d + 0)) eX5_find uX5_find n 0 [(0, .ref t), (1, .int x1), (2, .long x2)] [] (mkh X I J)
def RX5_find_3 (N d n : Nat) (X : lt_X) (t : Nat) (x1 : Int32) (x2 : Int64) (x4 : Int32) (I : Nat → Nat → Int32) (J : Nat → Nat → Int64) : am_O := am_run (am_G am_prog (N + 30) (d + 0)) eX5_find uX5_find n 3 [(0, .ref t), (1, .int x1), (2, .long x2), (4, .int x4)] [] (mkh X I J)
set_option maxHeartbeats 4000000 in
set_option maxRecDepth 100000 in
theorem sX5_find_0 (N d n : Nat) {X : lt_X} {t : Nat} (ht : isT t) (x1 : Int32) (x2 : Int64) (I : Nat → Nat → Int32) (J : Nat → Nat → Int64) : RX5_find_0 N d (n + 1) X t x1 x2 I J = RX5_find_3 N d n X t x1 x2 (nI 0) I J := by
  rcases ht with rfl | rfl | rfl | rfl | rfl <;> rfl
set_option maxHeartbeats 4000000 in
set_option maxRecDepth 100000 in
theorem sX5_find_3 (N d n : Nat) {X : lt_X} {t : Nat} (ht : isT t) (x1 : Int32) (x2 : Int64) (x4 : Int32) (I : Nat → Nat → Int32) (J : Nat → Nat → Int64) : RX5_find_3 N d (n + 1) X t x1 x2 x4 I J = if am_in x1 4 then if x4 < (I (t + 2) x1.toNatClampNeg) then if am_in ((x1 * (nI 6)) + x4) 24 then if (lg_cmp (J (t + 1) (((x1 * (nI 6)) + x4).toNatClampNeg)) x2) = nI 0 then some (.int x4, (mkh X I J)) else RX5_find_3 N d n X t x1 x2 (x4 + (nI 1)) I J else none else some (.int (-1), (mkh X I J)) else none := by
  rcases ht with rfl | rfl | rfl | rfl | rfl <;> rfl
theorem fX5_find (N d : Nat) {X : lt_X} {t : Nat} (ht : isT t) (x1 : Int32) (x2 : Int64) (I : Nat → Nat → Int32) (J : Nat → Nat → Int64) : am_G am_prog N (d + 1) 59 [.ref t, .int x1, .long x2] (mkh X I J) = am_run (am_G am_prog N d) eX5_find uX5_find N 0 [(0, .ref t), (1, .int x1), (2, .long x2)] [] (mkh X I J) := by
  refine (am_G_at N d 59 mX5_find _ _ rfl).trans ?_
  rcases ht with rfl | rfl | rfl | rfl | rfl <;> rfl
theorem gX5_find (N d : Nat) {X : lt_X} {t : Nat} (ht : isT t) (x1 : Int32) (x2 : Int64) (I : Nat → Nat → Int32) (J : Nat → Nat → Int64) : am_G am_prog (N + 30) (d + 1) 59 [.ref t, .int x1, .long x2] (mkh X I J) = RX5_find_0 N d (N + 30) X t x1 x2 I J := fX5_find (N + 30) (d + 0) ht x1 x2 I J
def RX5_isTaken_0 (N d n : Nat) (X : lt_X) (t : Nat) (x1 : Int64) (I : Nat → Nat → Int32) (J : Nat → Nat → Int64) : am_O := am_run (am_G am_prog (N + 30) (d + 0)) eX5_isTaken uX5_isTaken n 0 [(0, .ref t), (1, .long x1)] [] (mkh X I J)
def RX5_isTaken_2 (N d n : Nat) (X : lt_X) (t : Nat) (x1 : Int64) (x3 : Int32) (I : Nat → Nat → Int32) (J : Nat → Nat → Int64) : am_O := am_run (am_G am_prog (N + 30) (d + 0)) eX5_isTaken uX5_isTaken n 2 [(0, .ref t), (1, .long x1), (3, .int x3)] [] (mkh X I J)
def KX5_isTaken_0 (N d n : Nat) (t : Nat) (a0 : Int64) (a1 : Int32) (z : Int32) (h : am_H) : am_O := if z = (-1) then am_run (am_G am_prog (N + 30) (d + 0)) eX5_isTaken uX5_isTaken n 2 [(0, .ref t), (1, .long a0), (3, .int (a1 + (nI 1)))] [] h else some (.int (nI 1), h)
set_option maxHeartbeats 4000000 in
set_option maxRecDepth 100000 in
theorem sX5_isTaken_0 (N d n : Nat) {X : lt_X} {t : Nat} (ht : isT t) (x1 : Int64) (I : Nat → Nat → Int32) (J : Nat → Nat → Int64) : RX5_isTaken_0 N d (n + 1) X t x1 I J = RX5_isTaken_2 N d n X t x1 (nI 0) I J := by
  rcases ht with rfl | rfl | rfl | rfl | rfl <;> rfl
set_option maxHeartbeats 4000000 in
set_option maxRecDepth 100000 in
theorem sX5_isTaken_2 (N d n : Nat) {X : lt_X} {t : Nat} (ht : isT t) (x1 : Int64) (x3 : Int32) (I : Nat → Nat → Int32) (J : Nat → Nat → Int64) : RX5_isTaken_2 N d (n + 1) X t x1 x3 I J = if x3 < (nI 4) then am_cI (am_G am_prog (N + 30) (d + 0) 59 [.ref t, .int x3, .long x1] (mkh X I J)) (KX5_isTaken_0 N d n t x1 x3) else some (.int (nI 0), (mkh X I J)) := by
  rcases ht with rfl | rfl | rfl | rfl | rfl <;> rfl
set_option maxHeartbeats 4000000 in
set_option maxRecDepth 100000 in
theorem kX5_isTaken_0 (N d n : Nat) {X : lt_X} {t : Nat} (ht : isT t) (a0 : Int64) (a1 : Int32) (z : Int32) (I : Nat → Nat → Int32) (J : Nat → Nat → Int64) : KX5_isTaken_0 N d n t a0 a1 z (mkh X I J) = if z = (-1) then RX5_isTaken_2 N d n X t a0 (a1 + (nI 1)) I J else some (.int (nI 1), (mkh X I J)) := by
  rcases ht with rfl | rfl | rfl | rfl | rfl <;> rfl
theorem fX5_isTaken (N d : Nat) {X : lt_X} {t : Nat} (ht : isT t) (x1 : Int64) (I : Nat → Nat → Int32) (J : Nat → Nat → Int64) : am_G am_prog N (d + 1) 60 [.ref t, .long x1] (mkh X I J) = am_run (am_G am_prog N d) eX5_isTaken uX5_isTaken N 0 [(0, .ref t), (1, .long x1)] [] (mkh X I J) := by
  refine (am_G_at N d 60 mX5_isTaken _ _ rfl).trans ?_
  rcases ht with rfl | rfl | rfl | rfl | rfl <;> rfl
theorem gX5_isTaken (N d : Nat) {X : lt_X} {t : Nat} (ht : isT t) (x1 : Int64) (I : Nat → Nat → Int32) (J : Nat → Nat → Int64) : am_G am_prog (N + 30) (d + 1) 60 [.ref t, .long x1] (mkh X I J) = RX5_isTaken_0 N d (N + 30) X t x1 I J := fX5_isTaken (N + 30) (d + 0) ht x1 I J
def RX5_isFull_0 (N d n : Nat) (X : lt_X) (t : Nat) (x1 : Int32) (I : Nat → Nat → Int32) (J : Nat → Nat → Int64) : am_O := am_run (am_G am_prog (N + 30) (d + 0)) eX5_isFull uX5_isFull n 0 [(0, .ref t), (1, .int x1)] [] (mkh X I J)
set_option maxHeartbeats 4000000 in
set_option maxRecDepth 100000 in
theorem sX5_isFull_0 (N d n : Nat) {X : lt_X} {t : Nat} (ht : isT t) (x1 : Int32) (I : Nat → Nat → Int32) (J : Nat → Nat → Int64) : RX5_isFull_0 N d (n + 1) X t x1 I J = if am_in x1 4 then if (I (t + 2) x1.toNatClampNeg) < (nI 6) then some (.int (nI 0), (mkh X I J)) else some (.int (nI 1), (mkh X I J)) else none := by
  rcases ht with rfl | rfl | rfl | rfl | rfl <;> rfl
theorem fX5_isFull (N d : Nat) {X : lt_X} {t : Nat} (ht : isT t) (x1 : Int32) (I : Nat → Nat → Int32) (J : Nat → Nat → Int64) : am_G am_prog N (d + 1) 61 [.ref t, .int x1] (mkh X I J) = am_run (am_G am_prog N d) eX5_isFull uX5_isFull N 0 [(0, .ref t), (1, .int x1)] [] (mkh X I J) := by
  refine (am_G_at N d 61 mX5_isFull _ _ rfl).trans ?_
  rcases ht with rfl | rfl | rfl | rfl | rfl <;> rfl
theorem gX5_isFull (N d : Nat) {X : lt_X} {t : Nat} (ht : isT t) (x1 : Int32) (I : Nat → Nat → Int32) (J : Nat → Nat → Int64) : am_G am_prog (N + 30) (d + 1) 61 [.ref t, .int x1] (mkh X I J) = RX5_isFull_0 N d (N + 30) X t x1 I J := fX5_isFull (N + 30) (d + 0) ht x1 I J
def RX5_add_0 (N d n : Nat) (X : lt_X) (t : Nat) (x1 : Int32) (x2 : Int64) (I : Nat → Nat → Int32) (J : Nat → Nat → Int64) : am_O := am_run (am_G am_prog (N + 30) (d + 0)) eX5_add uX5_add n 0 [(0, .ref t), (1, .int x1), (2, .long x2)] [] (mkh X I J)
def RX5_add_93 (N d n : Nat) (X : lt_X) (t : Nat) (x4 : Int32) (x5 : Int32) (I : Nat → Nat → Int32) (J : Nat → Nat → Int64) : am_O := am_run (am_G am_prog (N + 30) (d + 0)) eX5_add uX5_add n 93 [(0, .ref t), (4, .int x4), (5, .int x5)] [] (mkh X I J)
set_option maxHeartbeats 4000000 in
set_option maxRecDepth 100000 in
theorem sX5_add_0 (N d n : Nat) {X : lt_X} {t : Nat} (ht : isT t) (x1 : Int32) (x2 : Int64) (I : Nat → Nat → Int32) (J : Nat → Nat → Int64) : RX5_add_0 N d (n + 1) X t x1 x2 I J = if am_in x1 4 then if am_in ((x1 * (nI 6)) + (I (t + 2) x1.toNatClampNeg)) 24 then if am_in x1 4 then if am_in x1 4 then if x1 = (nI 1) then if am_in (I (t + 2) x1.toNatClampNeg) 6 then some (.int (I (t + 2) x1.toNatClampNeg), (mkh X (u2 (u2 (u2 I (t + 2) x1.toNatClampNeg ((I (t + 2) x1.toNatClampNeg) + (nI 1))) t 5 ((I t 5) ||| ((nI 1) <<< ((I (t + 2) x1.toNatClampNeg) &&& 31)))) (t + 5) ((I (t + 2) x1.toNatClampNeg).toNatClampNeg) (nI 0)) (u2L J (t + 1) (((x1 * (nI 6)) + (I (t + 2) x1.toNatClampNeg)).toNatClampNeg) x2))) else none else if x1 = (nI 2) then if am_in (I (t + 2) x1.toNatClampNeg) 6 then if am_in (I (t + 2) x1.toNatClampNeg) 6 then if am_in (I (t + 2) x1.toNatClampNeg) 6 then RX5_add_93 N d n X t (I (t + 2) x1.toNatClampNeg) (nI 0) (u2 (u2 (u2 (u2 I (t + 2) x1.toNatClampNeg ((I (t + 2) x1.toNatClampNeg) + (nI 1))) (t + 7) ((I (t + 2) x1.toNatClampNeg).toNatClampNeg) (nI 10)) (t + 8) ((I (t + 2) x1.toNatClampNeg).toNatClampNeg) (nI 0)) (t + 9) ((I (t + 2) x1.toNatClampNeg).toNatClampNeg) (nI 0)) (u2L J (t + 1) (((x1 * (nI 6)) + (I (t + 2) x1.toNatClampNeg)).toNatClampNeg) x2) else none else none else none else if x1 = (nI 3) then if am_in (I (t + 2) x1.toNatClampNeg) 6 then if am_in (I (t + 2) x1.toNatClampNeg) 6 then some (.int (I (t + 2) x1.toNatClampNeg), (mkh X (u2 (u2 (u2 I (t + 2) x1.toNatClampNeg ((I (t + 2) x1.toNatClampNeg) + (nI 1))) (t + 12) ((I (t + 2) x1.toNatClampNeg).toNatClampNeg) (-1)) (t + 13) ((I (t + 2) x1.toNatClampNeg).toNatClampNeg) (-1)) (u2L J (t + 1) (((x1 * (nI 6)) + (I (t + 2) x1.toNatClampNeg)).toNatClampNeg) x2))) else none else none else some (.int (I (t + 2) x1.toNatClampNeg), (mkh X (u2 I (t + 2) x1.toNatClampNeg ((I (t + 2) x1.toNatClampNeg) + (nI 1))) (u2L J (t + 1) (((x1 * (nI 6)) + (I (t + 2) x1.toNatClampNeg)).toNatClampNeg) x2))) else none else none else none else none := by
  rcases ht with rfl | rfl | rfl | rfl | rfl <;> rfl
set_option maxHeartbeats 4000000 in
set_option maxRecDepth 100000 in
theorem sX5_add_93 (N d n : Nat) {X : lt_X} {t : Nat} (ht : isT t) (x4 : Int32) (x5 : Int32) (I : Nat → Nat → Int32) (J : Nat → Nat → Int64) : RX5_add_93 N d (n + 1) X t x4 x5 I J = if x5 < (nI 6) then if am_in ((x4 * (nI 6)) + x5) 36 then RX5_add_93 N d n X t x4 (x5 + (nI 1)) (u2 I (t + 10) (((x4 * (nI 6)) + x5).toNatClampNeg) (nI 0)) J else none else some (.int x4, (mkh X I J)) := by
  rcases ht with rfl | rfl | rfl | rfl | rfl <;> rfl
theorem fX5_add (N d : Nat) {X : lt_X} {t : Nat} (ht : isT t) (x1 : Int32) (x2 : Int64) (I : Nat → Nat → Int32) (J : Nat → Nat → Int64) : am_G am_prog N (d + 1) 62 [.ref t, .int x1, .long x2] (mkh X I J) = am_run (am_G am_prog N d) eX5_add uX5_add N 0 [(0, .ref t), (1, .int x1), (2, .long x2)] [] (mkh X I J) := by
  refine (am_G_at N d 62 mX5_add _ _ rfl).trans ?_
  rcases ht with rfl | rfl | rfl | rfl | rfl <;> rfl
theorem gX5_add (N d : Nat) {X : lt_X} {t : Nat} (ht : isT t) (x1 : Int32) (x2 : Int64) (I : Nat → Nat → Int32) (J : Nat → Nat → Int64) : am_G am_prog (N + 30) (d + 1) 62 [.ref t, .int x1, .long x2] (mkh X I J) = RX5_add_0 N d (N + 30) X t x1 x2 I J := fX5_add (N + 30) (d + 0) ht x1 x2 I J
def RX5_addToRow_0 (N d n : Nat) (X : lt_X) (t : Nat) (x1 : Int32) (x2 : Int32) (I : Nat → Nat → Int32) (J : Nat → Nat → Int64) : am_O := am_run (am_G am_prog (N + 30) (d + 0)) eX5_addToRow uX5_addToRow n 0 [(0, .ref t), (1, .int x1), (2, .int x2)] [] (mkh X I J)
set_option maxHeartbeats 4000000 in
set_option maxRecDepth 100000 in
theorem sX5_addToRow_0 (N d n : Nat) {X : lt_X} {t : Nat} (ht : isT t) (x1 : Int32) (x2 : Int32) (I : Nat → Nat → Int32) (J : Nat → Nat → Int64) : RX5_addToRow_0 N d (n + 1) X t x1 x2 I J = if am_in x1 6 then if (I (t + 5) x1.toNatClampNeg) < (nI 8) then if am_in ((x1 * (nI 8)) + (I (t + 5) x1.toNatClampNeg)) 48 then if am_in x1 6 then some (.null, (mkh X (u2 (u2 I (t + 6) (((x1 * (nI 8)) + (I (t + 5) x1.toNatClampNeg)).toNatClampNeg) x2) (t + 5) x1.toNatClampNeg ((I (t + 5) x1.toNatClampNeg) + (nI 1))) J)) else none else none else some (.null, (mkh X I J)) else none := by
  rcases ht with rfl | rfl | rfl | rfl | rfl <;> rfl
theorem fX5_addToRow (N d : Nat) {X : lt_X} {t : Nat} (ht : isT t) (x1 : Int32) (x2 : Int32) (I : Nat → Nat → Int32) (J : Nat → Nat → Int64) : am_G am_prog N (d + 1) 63 [.ref t, .int x1, .int x2] (mkh X I J) = am_run (am_G am_prog N d) eX5_addToRow uX5_addToRow N 0 [(0, .ref t), (1, .int x1), (2, .int x2)] [] (mkh X I J) := by
  refine (am_G_at N d 63 mX5_addToRow _ _ rfl).trans ?_
  rcases ht with rfl | rfl | rfl | rfl | rfl <;> rfl
theorem gX5_addToRow (N d : Nat) {X : lt_X} {t : Nat} (ht : isT t) (x1 : Int32) (x2 : Int32) (I : Nat → Nat → Int32) (J : Nat → Nat → Int64) : am_G am_prog (N + 30) (d + 1) 63 [.ref t, .int x1, .int x2] (mkh X I J) = RX5_addToRow_0 N d (N + 30) X t x1 x2 I J := fX5_addToRow (N + 30) (d + 0) ht x1 x2 I J
def RX5_setsOf_0 (N d n : Nat) (X : lt_X) (t : Nat) (x1 : Int32) (I : Nat → Nat → Int32) (J : Nat → Nat → Int64) : am_O := am_run (am_G am_prog (N + 30) (d + 0)) eX5_setsOf uX5_setsOf n 0 [(0, .ref t), (1, .int x1)] [] (mkh X I J)
def RX5_setsOf_4 (N d n : Nat) (X : lt_X) (t : Nat) (x1 : Int32) (x2 : Int32) (x3 : Int32) (I : Nat → Nat → Int32) (J : Nat → Nat → Int64) : am_O := am_run (am_G am_prog (N + 30) (d + 0)) eX5_setsOf uX5_setsOf n 4 [(0, .ref t), (1, .int x1), (2, .int x2), (3, .int x3)] [] (mkh X I J)
set_option maxHeartbeats 4000000 in
set_option maxRecDepth 100000 in
theorem sX5_setsOf_0 (N d n : Nat) {X : lt_X} {t : Nat} (ht : isT t) (x1 : Int32) (I : Nat → Nat → Int32) (J : Nat → Nat → Int64) : RX5_setsOf_0 N d (n + 1) X t x1 I J = RX5_setsOf_4 N d n X t x1 (nI 0) (nI 0) I J := by
  rcases ht with rfl | rfl | rfl | rfl | rfl <;> rfl
set_option maxHeartbeats 4000000 in
set_option maxRecDepth 100000 in
theorem sX5_setsOf_4 (N d n : Nat) {X : lt_X} {t : Nat} (ht : isT t) (x1 : Int32) (x2 : Int32) (x3 : Int32) (I : Nat → Nat → Int32) (J : Nat → Nat → Int64) : RX5_setsOf_4 N d (n + 1) X t x1 x2 x3 I J = if x3 < (I (t + 2) 3) then if am_in x3 6 then if (I (t + 13) x3.toNatClampNeg) = x1 then RX5_setsOf_4 N d n X t x1 (x2 ||| ((nI 1) <<< (x3 &&& 31))) (x3 + (nI 1)) I J else RX5_setsOf_4 N d n X t x1 x2 (x3 + (nI 1)) I J else none else some (.int x2, (mkh X I J)) := by
  rcases ht with rfl | rfl | rfl | rfl | rfl <;> rfl
theorem fX5_setsOf (N d : Nat) {X : lt_X} {t : Nat} (ht : isT t) (x1 : Int32) (I : Nat → Nat → Int32) (J : Nat → Nat → Int64) : am_G am_prog N (d + 1) 64 [.ref t, .int x1] (mkh X I J) = am_run (am_G am_prog N d) eX5_setsOf uX5_setsOf N 0 [(0, .ref t), (1, .int x1)] [] (mkh X I J) := by
  refine (am_G_at N d 64 mX5_setsOf _ _ rfl).trans ?_
  rcases ht with rfl | rfl | rfl | rfl | rfl <;> rfl
theorem gX5_setsOf (N d : Nat) {X : lt_X} {t : Nat} (ht : isT t) (x1 : Int32) (I : Nat → Nat → Int32) (J : Nat → Nat → Int64) : am_G am_prog (N + 30) (d + 1) 64 [.ref t, .int x1] (mkh X I J) = RX5_setsOf_0 N d (N + 30) X t x1 I J := fX5_setsOf (N + 30) (d + 0) ht x1 I J
def RX5_voicesIn_0 (N d n : Nat) (X : lt_X) (t : Nat) (x1 : Int32) (I : Nat → Nat → Int32) (J : Nat → Nat → Int64) : am_O := am_run (am_G am_prog (N + 30) (d + 0)) eX5_voicesIn uX5_voicesIn n 0 [(0, .ref t), (1, .int x1)] [] (mkh X I J)
set_option maxHeartbeats 4000000 in
set_option maxRecDepth 100000 in
theorem sX5_voicesIn_0 (N d n : Nat) {X : lt_X} {t : Nat} (ht : isT t) (x1 : Int32) (I : Nat → Nat → Int32) (J : Nat → Nat → Int64) : RX5_voicesIn_0 N d (n + 1) X t x1 I J = if am_in x1 6 then if am_in x1 6 then if (I (t + 12) x1.toNatClampNeg) = (-1) then some (.int ((nI 1) <<< ((I (t + 11) x1.toNatClampNeg) &&& 31)), (mkh X I J)) else if am_in x1 6 then some (.int (((nI 1) <<< ((I (t + 11) x1.toNatClampNeg) &&& 31)) ||| ((nI 1) <<< ((I (t + 12) x1.toNatClampNeg) &&& 31))), (mkh X I J)) else none else none else none := by
  rcases ht with rfl | rfl | rfl | rfl | rfl <;> rfl
theorem fX5_voicesIn (N d : Nat) {X : lt_X} {t : Nat} (ht : isT t) (x1 : Int32) (I : Nat → Nat → Int32) (J : Nat → Nat → Int64) : am_G am_prog N (d + 1) 65 [.ref t, .int x1] (mkh X I J) = am_run (am_G am_prog N d) eX5_voicesIn uX5_voicesIn N 0 [(0, .ref t), (1, .int x1)] [] (mkh X I J) := by
  refine (am_G_at N d 65 mX5_voicesIn _ _ rfl).trans ?_
  rcases ht with rfl | rfl | rfl | rfl | rfl <;> rfl
theorem gX5_voicesIn (N d : Nat) {X : lt_X} {t : Nat} (ht : isT t) (x1 : Int32) (I : Nat → Nat → Int32) (J : Nat → Nat → Int64) : am_G am_prog (N + 30) (d + 1) 65 [.ref t, .int x1] (mkh X I J) = RX5_voicesIn_0 N d (N + 30) X t x1 I J := fX5_voicesIn (N + 30) (d + 0) ht x1 I J
def RX5_voicesOf_0 (N d n : Nat) (X : lt_X) (t : Nat) (x1 : Int32) (I : Nat → Nat → Int32) (J : Nat → Nat → Int64) : am_O := am_run (am_G am_prog (N + 30) (d + 0)) eX5_voicesOf uX5_voicesOf n 0 [(0, .ref t), (1, .int x1)] [] (mkh X I J)
def RX5_voicesOf_4 (N d n : Nat) (X : lt_X) (t : Nat) (x1 : Int32) (x2 : Int32) (x3 : Int32) (I : Nat → Nat → Int32) (J : Nat → Nat → Int64) : am_O := am_run (am_G am_prog (N + 30) (d + 0)) eX5_voicesOf uX5_voicesOf n 4 [(0, .ref t), (1, .int x1), (2, .int x2), (3, .int x3)] [] (mkh X I J)
def KX5_voicesOf_0 (N d n : Nat) (t : Nat) (a0 : Int32) (a1 : Int32) (a2 : Int32) (z : Int32) (h : am_H) : am_O := am_run (am_G am_prog (N + 30) (d + 0)) eX5_voicesOf uX5_voicesOf n 4 [(0, .ref t), (1, .int a0), (2, .int (a2 ||| z)), (3, .int (a1 + (nI 1)))] [] h
set_option maxHeartbeats 4000000 in
set_option maxRecDepth 100000 in
theorem sX5_voicesOf_0 (N d n : Nat) {X : lt_X} {t : Nat} (ht : isT t) (x1 : Int32) (I : Nat → Nat → Int32) (J : Nat → Nat → Int64) : RX5_voicesOf_0 N d (n + 1) X t x1 I J = RX5_voicesOf_4 N d n X t x1 (nI 0) (nI 0) I J := by
  rcases ht with rfl | rfl | rfl | rfl | rfl <;> rfl
set_option maxHeartbeats 4000000 in
set_option maxRecDepth 100000 in
theorem sX5_voicesOf_4 (N d n : Nat) {X : lt_X} {t : Nat} (ht : isT t) (x1 : Int32) (x2 : Int32) (x3 : Int32) (I : Nat → Nat → Int32) (J : Nat → Nat → Int64) : RX5_voicesOf_4 N d (n + 1) X t x1 x2 x3 I J = if x3 < (I (t + 2) 3) then if am_in x3 6 then if (I (t + 13) x3.toNatClampNeg) = x1 then am_cI (am_G am_prog (N + 30) (d + 0) 65 [.ref t, .int x3] (mkh X I J)) (KX5_voicesOf_0 N d n t x1 x3 x2) else RX5_voicesOf_4 N d n X t x1 x2 (x3 + (nI 1)) I J else none else some (.int x2, (mkh X I J)) := by
  rcases ht with rfl | rfl | rfl | rfl | rfl <;> rfl
set_option maxHeartbeats 4000000 in
set_option maxRecDepth 100000 in
theorem kX5_voicesOf_0 (N d n : Nat) {X : lt_X} {t : Nat} (ht : isT t) (a0 : Int32) (a1 : Int32) (a2 : Int32) (z : Int32) (I : Nat → Nat → Int32) (J : Nat → Nat → Int64) : KX5_voicesOf_0 N d n t a0 a1 a2 z (mkh X I J) = RX5_voicesOf_4 N d n X t a0 (a2 ||| z) (a1 + (nI 1)) I J := by
  rcases ht with rfl | rfl | rfl | rfl | rfl <;> rfl
theorem fX5_voicesOf (N d : Nat) {X : lt_X} {t : Nat} (ht : isT t) (x1 : Int32) (I : Nat → Nat → Int32) (J : Nat → Nat → Int64) : am_G am_prog N (d + 1) 66 [.ref t, .int x1] (mkh X I J) = am_run (am_G am_prog N d) eX5_voicesOf uX5_voicesOf N 0 [(0, .ref t), (1, .int x1)] [] (mkh X I J) := by
  refine (am_G_at N d 66 mX5_voicesOf _ _ rfl).trans ?_
  rcases ht with rfl | rfl | rfl | rfl | rfl <;> rfl
theorem gX5_voicesOf (N d : Nat) {X : lt_X} {t : Nat} (ht : isT t) (x1 : Int32) (I : Nat → Nat → Int32) (J : Nat → Nat → Int64) : am_G am_prog (N + 30) (d + 1) 66 [.ref t, .int x1] (mkh X I J) = RX5_voicesOf_0 N d (N + 30) X t x1 I J := fX5_voicesOf (N + 30) (d + 0) ht x1 I J
def RX5_hearersOf_0 (N d n : Nat) (X : lt_X) (t : Nat) (x1 : Int32) (I : Nat → Nat → Int32) (J : Nat → Nat → Int64) : am_O := am_run (am_G am_prog (N + 30) (d + 0)) eX5_hearersOf uX5_hearersOf n 0 [(0, .ref t), (1, .int x1)] [] (mkh X I J)
def RX5_hearersOf_4 (N d n : Nat) (X : lt_X) (t : Nat) (x1 : Int32) (x2 : Int32) (x3 : Int32) (I : Nat → Nat → Int32) (J : Nat → Nat → Int64) : am_O := am_run (am_G am_prog (N + 30) (d + 0)) eX5_hearersOf uX5_hearersOf n 4 [(0, .ref t), (1, .int x1), (2, .int x2), (3, .int x3)] [] (mkh X I J)
def KX5_hearersOf_0 (N d n : Nat) (t : Nat) (a0 : Int32) (a1 : Int32) (a2 : Int32) (z : Int32) (h : am_H) : am_O := am_run (am_G am_prog (N + 30) (d + 0)) eX5_hearersOf uX5_hearersOf n 4 [(0, .ref t), (1, .int a0), (2, .int (a2 ||| (((z >>> (a0 &&& 31)) &&& (nI 1)) <<< (a1 &&& 31)))), (3, .int (a1 + (nI 1)))] [] h
set_option maxHeartbeats 4000000 in
set_option maxRecDepth 100000 in
theorem sX5_hearersOf_0 (N d n : Nat) {X : lt_X} {t : Nat} (ht : isT t) (x1 : Int32) (I : Nat → Nat → Int32) (J : Nat → Nat → Int64) : RX5_hearersOf_0 N d (n + 1) X t x1 I J = RX5_hearersOf_4 N d n X t x1 (nI 0) (nI 0) I J := by
  rcases ht with rfl | rfl | rfl | rfl | rfl <;> rfl
set_option maxHeartbeats 4000000 in
set_option maxRecDepth 100000 in
theorem sX5_hearersOf_4 (N d n : Nat) {X : lt_X} {t : Nat} (ht : isT t) (x1 : Int32) (x2 : Int32) (x3 : Int32) (I : Nat → Nat → Int32) (J : Nat → Nat → Int64) : RX5_hearersOf_4 N d (n + 1) X t x1 x2 x3 I J = if x3 < (I (t + 2) 2) then am_cI (am_G am_prog (N + 30) (d + 0) 66 [.ref t, .int x3] (mkh X I J)) (KX5_hearersOf_0 N d n t x1 x3 x2) else some (.int x2, (mkh X I J)) := by
  rcases ht with rfl | rfl | rfl | rfl | rfl <;> rfl
set_option maxHeartbeats 4000000 in
set_option maxRecDepth 100000 in
theorem kX5_hearersOf_0 (N d n : Nat) {X : lt_X} {t : Nat} (ht : isT t) (a0 : Int32) (a1 : Int32) (a2 : Int32) (z : Int32) (I : Nat → Nat → Int32) (J : Nat → Nat → Int64) : KX5_hearersOf_0 N d n t a0 a1 a2 z (mkh X I J) = RX5_hearersOf_4 N d n X t a0 (a2 ||| (((z >>> (a0 &&& 31)) &&& (nI 1)) <<< (a1 &&& 31))) (a1 + (nI 1)) I J := by
  rcases ht with rfl | rfl | rfl | rfl | rfl <;> rfl
theorem fX5_hearersOf (N d : Nat) {X : lt_X} {t : Nat} (ht : isT t) (x1 : Int32) (I : Nat → Nat → Int32) (J : Nat → Nat → Int64) : am_G am_prog N (d + 1) 67 [.ref t, .int x1] (mkh X I J) = am_run (am_G am_prog N d) eX5_hearersOf uX5_hearersOf N 0 [(0, .ref t), (1, .int x1)] [] (mkh X I J) := by
  refine (am_G_at N d 67 mX5_hearersOf _ _ rfl).trans ?_
  rcases ht with rfl | rfl | rfl | rfl | rfl <;> rfl
theorem gX5_hearersOf (N d : Nat) {X : lt_X} {t : Nat} (ht : isT t) (x1 : Int32) (I : Nat → Nat → Int32) (J : Nat → Nat → Int64) : am_G am_prog (N + 30) (d + 1) 67 [.ref t, .int x1] (mkh X I J) = RX5_hearersOf_0 N d (N + 30) X t x1 I J := fX5_hearersOf (N + 30) (d + 0) ht x1 I J
def RX5_coinsOfAll_0 (N d n : Nat) (X : lt_X) (t : Nat) (I : Nat → Nat → Int32) (J : Nat → Nat → Int64) : am_O := am_run (am_G am_prog (N + 30) (d + 0)) eX5_coinsOfAll uX5_coinsOfAll n 0 [(0, .ref t)] [] (mkh X I J)
def RX5_coinsOfAll_4 (N d n : Nat) (X : lt_X) (t : Nat) (x1 : Int32) (x2 : Int32) (I : Nat → Nat → Int32) (J : Nat → Nat → Int64) : am_O := am_run (am_G am_prog (N + 30) (d + 0)) eX5_coinsOfAll uX5_coinsOfAll n 4 [(0, .ref t), (1, .int x1), (2, .int x2)] [] (mkh X I J)
set_option maxHeartbeats 4000000 in
set_option maxRecDepth 100000 in
theorem sX5_coinsOfAll_0 (N d n : Nat) {X : lt_X} {t : Nat} (ht : isT t) (I : Nat → Nat → Int32) (J : Nat → Nat → Int64) : RX5_coinsOfAll_0 N d (n + 1) X t I J = RX5_coinsOfAll_4 N d n X t (nI 0) (nI 0) I J := by
  rcases ht with rfl | rfl | rfl | rfl | rfl <;> rfl
set_option maxHeartbeats 4000000 in
set_option maxRecDepth 100000 in
theorem sX5_coinsOfAll_4 (N d n : Nat) {X : lt_X} {t : Nat} (ht : isT t) (x1 : Int32) (x2 : Int32) (I : Nat → Nat → Int32) (J : Nat → Nat → Int64) : RX5_coinsOfAll_4 N d (n + 1) X t x1 x2 I J = if x2 < (I (t + 2) 2) then if am_in x2 6 then RX5_coinsOfAll_4 N d n X t (x1 + (I (t + 7) x2.toNatClampNeg)) (x2 + (nI 1)) I J else none else some (.int x1, (mkh X I J)) := by
  rcases ht with rfl | rfl | rfl | rfl | rfl <;> rfl
theorem fX5_coinsOfAll (N d : Nat) {X : lt_X} {t : Nat} (ht : isT t) (I : Nat → Nat → Int32) (J : Nat → Nat → Int64) : am_G am_prog N (d + 1) 68 [.ref t] (mkh X I J) = am_run (am_G am_prog N d) eX5_coinsOfAll uX5_coinsOfAll N 0 [(0, .ref t)] [] (mkh X I J) := by
  refine (am_G_at N d 68 mX5_coinsOfAll _ _ rfl).trans ?_
  rcases ht with rfl | rfl | rfl | rfl | rfl <;> rfl
theorem gX5_coinsOfAll (N d : Nat) {X : lt_X} {t : Nat} (ht : isT t) (I : Nat → Nat → Int32) (J : Nat → Nat → Int64) : am_G am_prog (N + 30) (d + 1) 68 [.ref t] (mkh X I J) = RX5_coinsOfAll_0 N d (N + 30) X t I J := fX5_coinsOfAll (N + 30) (d + 0) ht I J
def RX5_gladOfAll_0 (N d n : Nat) (X : lt_X) (t : Nat) (I : Nat → Nat → Int32) (J : Nat → Nat → Int64) : am_O := am_run (am_G am_prog (N + 30) (d + 0)) eX5_gladOfAll uX5_gladOfAll n 0 [(0, .ref t)] [] (mkh X I J)
def RX5_gladOfAll_4 (N d n : Nat) (X : lt_X) (t : Nat) (x1 : Int32) (x2 : Int32) (I : Nat → Nat → Int32) (J : Nat → Nat → Int64) : am_O := am_run (am_G am_prog (N + 30) (d + 0)) eX5_gladOfAll uX5_gladOfAll n 4 [(0, .ref t), (1, .int x1), (2, .int x2)] [] (mkh X I J)
set_option maxHeartbeats 4000000 in
set_option maxRecDepth 100000 in
theorem sX5_gladOfAll_0 (N d n : Nat) {X : lt_X} {t : Nat} (ht : isT t) (I : Nat → Nat → Int32) (J : Nat → Nat → Int64) : RX5_gladOfAll_0 N d (n + 1) X t I J = RX5_gladOfAll_4 N d n X t (nI 0) (nI 0) I J := by
  rcases ht with rfl | rfl | rfl | rfl | rfl <;> rfl
set_option maxHeartbeats 4000000 in
set_option maxRecDepth 100000 in
theorem sX5_gladOfAll_4 (N d n : Nat) {X : lt_X} {t : Nat} (ht : isT t) (x1 : Int32) (x2 : Int32) (I : Nat → Nat → Int32) (J : Nat → Nat → Int64) : RX5_gladOfAll_4 N d (n + 1) X t x1 x2 I J = if x2 < (I (t + 2) 2) then if am_in x2 6 then RX5_gladOfAll_4 N d n X t (x1 + (I (t + 8) x2.toNatClampNeg)) (x2 + (nI 1)) I J else none else some (.int x1, (mkh X I J)) := by
  rcases ht with rfl | rfl | rfl | rfl | rfl <;> rfl
theorem fX5_gladOfAll (N d : Nat) {X : lt_X} {t : Nat} (ht : isT t) (I : Nat → Nat → Int32) (J : Nat → Nat → Int64) : am_G am_prog N (d + 1) 69 [.ref t] (mkh X I J) = am_run (am_G am_prog N d) eX5_gladOfAll uX5_gladOfAll N 0 [(0, .ref t)] [] (mkh X I J) := by
  refine (am_G_at N d 69 mX5_gladOfAll _ _ rfl).trans ?_
  rcases ht with rfl | rfl | rfl | rfl | rfl <;> rfl
theorem gX5_gladOfAll (N d : Nat) {X : lt_X} {t : Nat} (ht : isT t) (I : Nat → Nat → Int32) (J : Nat → Nat → Int64) : am_G am_prog (N + 30) (d + 1) 69 [.ref t] (mkh X I J) = RX5_gladOfAll_0 N d (N + 30) X t I J := fX5_gladOfAll (N + 30) (d + 0) ht I J
def RX5_isLiving_0 (N d n : Nat) (X : lt_X) (t : Nat) (x1 : Int32) (I : Nat → Nat → Int32) (J : Nat → Nat → Int64) : am_O := am_run (am_G am_prog (N + 30) (d + 0)) eX5_isLiving uX5_isLiving n 0 [(0, .ref t), (1, .int x1)] [] (mkh X I J)
set_option maxHeartbeats 4000000 in
set_option maxRecDepth 100000 in
theorem sX5_isLiving_0 (N d n : Nat) {X : lt_X} {t : Nat} (ht : isT t) (x1 : Int32) (I : Nat → Nat → Int32) (J : Nat → Nat → Int64) : RX5_isLiving_0 N d (n + 1) X t x1 I J = if (((I t 5) >>> (x1 &&& 31)) &&& (nI 1)) = nI 0 then some (.int (nI 0), (mkh X I J)) else some (.int (nI 1), (mkh X I J)) := by
  rcases ht with rfl | rfl | rfl | rfl | rfl <;> rfl
theorem fX5_isLiving (N d : Nat) {X : lt_X} {t : Nat} (ht : isT t) (x1 : Int32) (I : Nat → Nat → Int32) (J : Nat → Nat → Int64) : am_G am_prog N (d + 1) 70 [.ref t, .int x1] (mkh X I J) = am_run (am_G am_prog N d) eX5_isLiving uX5_isLiving N 0 [(0, .ref t), (1, .int x1)] [] (mkh X I J) := by
  refine (am_G_at N d 70 mX5_isLiving _ _ rfl).trans ?_
  rcases ht with rfl | rfl | rfl | rfl | rfl <;> rfl
theorem gX5_isLiving (N d : Nat) {X : lt_X} {t : Nat} (ht : isT t) (x1 : Int32) (I : Nat → Nat → Int32) (J : Nat → Nat → Int64) : am_G am_prog (N + 30) (d + 1) 70 [.ref t, .int x1] (mkh X I J) = RX5_isLiving_0 N d (N + 30) X t x1 I J := fX5_isLiving (N + 30) (d + 0) ht x1 I J
def RX5_hasCold_0 (N d n : Nat) (X : lt_X) (t : Nat) (x1 : Int32) (I : Nat → Nat → Int32) (J : Nat → Nat → Int64) : am_O := am_run (am_G am_prog (N + 30) (d + 0)) eX5_hasCold uX5_hasCold n 0 [(0, .ref t), (1, .int x1)] [] (mkh X I J)
set_option maxHeartbeats 4000000 in
set_option maxRecDepth 100000 in
theorem sX5_hasCold_0 (N d n : Nat) {X : lt_X} {t : Nat} (ht : isT t) (x1 : Int32) (I : Nat → Nat → Int32) (J : Nat → Nat → Int64) : RX5_hasCold_0 N d (n + 1) X t x1 I J = if (((I t 6) >>> (x1 &&& 31)) &&& (nI 1)) = nI 0 then some (.int (nI 0), (mkh X I J)) else some (.int (nI 1), (mkh X I J)) := by
  rcases ht with rfl | rfl | rfl | rfl | rfl <;> rfl
theorem fX5_hasCold (N d : Nat) {X : lt_X} {t : Nat} (ht : isT t) (x1 : Int32) (I : Nat → Nat → Int32) (J : Nat → Nat → Int64) : am_G am_prog N (d + 1) 71 [.ref t, .int x1] (mkh X I J) = am_run (am_G am_prog N d) eX5_hasCold uX5_hasCold N 0 [(0, .ref t), (1, .int x1)] [] (mkh X I J) := by
  refine (am_G_at N d 71 mX5_hasCold _ _ rfl).trans ?_
  rcases ht with rfl | rfl | rfl | rfl | rfl <;> rfl
theorem gX5_hasCold (N d : Nat) {X : lt_X} {t : Nat} (ht : isT t) (x1 : Int32) (I : Nat → Nat → Int32) (J : Nat → Nat → Int64) : am_G am_prog (N + 30) (d + 1) 71 [.ref t, .int x1] (mkh X I J) = RX5_hasCold_0 N d (N + 30) X t x1 I J := fX5_hasCold (N + 30) (d + 0) ht x1 I J
def RX5_placedAt_0 (N d n : Nat) (X : lt_X) (t : Nat) (x1 : Int32) (x2 : Int32) (I : Nat → Nat → Int32) (J : Nat → Nat → Int64) : am_O := am_run (am_G am_prog (N + 30) (d + 0)) eX5_placedAt uX5_placedAt n 0 [(0, .ref t), (1, .int x1), (2, .int x2)] [] (mkh X I J)
set_option maxHeartbeats 4000000 in
set_option maxRecDepth 100000 in
theorem sX5_placedAt_0 (N d n : Nat) {X : lt_X} {t : Nat} (ht : isT t) (x1 : Int32) (x2 : Int32) (I : Nat → Nat → Int32) (J : Nat → Nat → Int64) : RX5_placedAt_0 N d (n + 1) X t x1 x2 I J = if am_in x1 6 then if nI 0 < (I (t + 5) x1.toNatClampNeg) then am_nz (I (t + 5) x1.toNatClampNeg) (if am_in ((x1 * (nI 8)) + (x2 - x2 / (I (t + 5) x1.toNatClampNeg) * (I (t + 5) x1.toNatClampNeg))) 48 then some (.int (I (t + 6) (((x1 * (nI 8)) + (x2 - x2 / (I (t + 5) x1.toNatClampNeg) * (I (t + 5) x1.toNatClampNeg))).toNatClampNeg)), (mkh X I J)) else none) else some (.int (-1), (mkh X I J)) else none := by
  rcases ht with rfl | rfl | rfl | rfl | rfl <;> rfl
theorem fX5_placedAt (N d : Nat) {X : lt_X} {t : Nat} (ht : isT t) (x1 : Int32) (x2 : Int32) (I : Nat → Nat → Int32) (J : Nat → Nat → Int64) : am_G am_prog N (d + 1) 72 [.ref t, .int x1, .int x2] (mkh X I J) = am_run (am_G am_prog N d) eX5_placedAt uX5_placedAt N 0 [(0, .ref t), (1, .int x1), (2, .int x2)] [] (mkh X I J) := by
  refine (am_G_at N d 72 mX5_placedAt _ _ rfl).trans ?_
  rcases ht with rfl | rfl | rfl | rfl | rfl <;> rfl
theorem gX5_placedAt (N d : Nat) {X : lt_X} {t : Nat} (ht : isT t) (x1 : Int32) (x2 : Int32) (I : Nat → Nat → Int32) (J : Nat → Nat → Int64) : am_G am_prog (N + 30) (d + 1) 72 [.ref t, .int x1, .int x2] (mkh X I J) = RX5_placedAt_0 N d (N + 30) X t x1 x2 I J := fX5_placedAt (N + 30) (d + 0) ht x1 x2 I J
def RX5_saysAt_0 (N d n : Nat) (X : lt_X) (t : Nat) (x1 : Int32) (x2 : Int32) (I : Nat → Nat → Int32) (J : Nat → Nat → Int64) : am_O := am_run (am_G am_prog (N + 30) (d + 1)) eX5_saysAt uX5_saysAt n 0 [(0, .ref t), (1, .int x1), (2, .int x2)] [] (mkh X I J)
def KX5_saysAt_0 (N d n : Nat) (t : Nat) (a0 : Int32) (a1 : Int32) (z : Int32) (h : am_H) : am_O := if z = nI 0 then some (.int (-1), h) else am_cI (am_G am_prog (N + 30) (d + 1) 71 [.ref t, .int a0] h) (fun r2 h1 => if r2 = nI 0 then am_cI (am_G am_prog (N + 30) (d + 1) 72 [.ref t, .int a0, .int a1] h1) (fun r4 h3 => some (.int r4, h3)) else some (.int (-1), h1))
def KX5_saysAt_1 (N d n : Nat) (t : Nat) (a0 : Int32) (a1 : Int32) (z : Int32) (h : am_H) : am_O := if z = nI 0 then am_cI (am_G am_prog (N + 30) (d + 1) 72 [.ref t, .int a0, .int a1] h) (fun r2 h1 => some (.int r2, h1)) else some (.int (-1), h)
def KX5_saysAt_2 (N d n : Nat) (z : Int32) (h : am_H) : am_O := some (.int z, h)
set_option maxHeartbeats 4000000 in
set_option maxRecDepth 100000 in
theorem sX5_saysAt_0 (N d n : Nat) {X : lt_X} {t : Nat} (ht : isT t) (x1 : Int32) (x2 : Int32) (I : Nat → Nat → Int32) (J : Nat → Nat → Int64) : RX5_saysAt_0 N d (n + 1) X t x1 x2 I J = am_cI (am_G am_prog (N + 30) (d + 1) 70 [.ref t, .int x1] (mkh X I J)) (KX5_saysAt_0 N d n t x1 x2) := by
  rcases ht with rfl | rfl | rfl | rfl | rfl <;> rfl
set_option maxHeartbeats 4000000 in
set_option maxRecDepth 100000 in
theorem kX5_saysAt_0 (N d n : Nat) {X : lt_X} {t : Nat} (ht : isT t) (a0 : Int32) (a1 : Int32) (z : Int32) (I : Nat → Nat → Int32) (J : Nat → Nat → Int64) : KX5_saysAt_0 N d n t a0 a1 z (mkh X I J) = if z = nI 0 then some (.int (-1), (mkh X I J)) else am_cI (am_G am_prog (N + 30) (d + 1) 71 [.ref t, .int a0] (mkh X I J)) (KX5_saysAt_1 N d n t a0 a1) := by
  rcases ht with rfl | rfl | rfl | rfl | rfl <;> rfl
set_option maxHeartbeats 4000000 in
set_option maxRecDepth 100000 in
theorem kX5_saysAt_1 (N d n : Nat) {X : lt_X} {t : Nat} (ht : isT t) (a0 : Int32) (a1 : Int32) (z : Int32) (I : Nat → Nat → Int32) (J : Nat → Nat → Int64) : KX5_saysAt_1 N d n t a0 a1 z (mkh X I J) = if z = nI 0 then am_cI (am_G am_prog (N + 30) (d + 1) 72 [.ref t, .int a0, .int a1] (mkh X I J)) (KX5_saysAt_2 N d n ) else some (.int (-1), (mkh X I J)) := by
  rcases ht with rfl | rfl | rfl | rfl | rfl <;> rfl
set_option maxHeartbeats 4000000 in
set_option maxRecDepth 100000 in
theorem kX5_saysAt_2 (N d n : Nat) {X : lt_X} (z : Int32) (I : Nat → Nat → Int32) (J : Nat → Nat → Int64) : KX5_saysAt_2 N d n z (mkh X I J) = some (.int z, (mkh X I J)) := by
  rfl
theorem fX5_saysAt (N d : Nat) {X : lt_X} {t : Nat} (ht : isT t) (x1 : Int32) (x2 : Int32) (I : Nat → Nat → Int32) (J : Nat → Nat → Int64) : am_G am_prog N (d + 1) 73 [.ref t, .int x1, .int x2] (mkh X I J) = am_run (am_G am_prog N d) eX5_saysAt uX5_saysAt N 0 [(0, .ref t), (1, .int x1), (2, .int x2)] [] (mkh X I J) := by
  refine (am_G_at N d 73 mX5_saysAt _ _ rfl).trans ?_
  rcases ht with rfl | rfl | rfl | rfl | rfl <;> rfl
theorem gX5_saysAt (N d : Nat) {X : lt_X} {t : Nat} (ht : isT t) (x1 : Int32) (x2 : Int32) (I : Nat → Nat → Int32) (J : Nat → Nat → Int64) : am_G am_prog (N + 30) (d + 2) 73 [.ref t, .int x1, .int x2] (mkh X I J) = RX5_saysAt_0 N d (N + 30) X t x1 x2 I J := fX5_saysAt (N + 30) (d + 1) ht x1 x2 I J
def RX5_heardAt_0 (N d n : Nat) (X : lt_X) (t : Nat) (x1 : Int32) (x2 : Int32) (I : Nat → Nat → Int32) (J : Nat → Nat → Int64) : am_O := am_run (am_G am_prog (N + 30) (d + 0)) eX5_heardAt uX5_heardAt n 0 [(0, .ref t), (1, .int x1), (2, .int x2)] [] (mkh X I J)
def RX5_heardAt_20 (N d n : Nat) (X : lt_X) (t : Nat) (x2 : Int32) (x3 : Int32) (x4 : Int32) (x5 : Int32) (I : Nat → Nat → Int32) (J : Nat → Nat → Int64) : am_O := am_run (am_G am_prog (N + 30) (d + 0)) eX5_heardAt uX5_heardAt n 20 [(0, .ref t), (2, .int x2), (3, .int x3), (4, .int x4), (5, .int x5)] [] (mkh X I J)
set_option maxHeartbeats 4000000 in
set_option maxRecDepth 100000 in
theorem sX5_heardAt_0 (N d n : Nat) {X : lt_X} {t : Nat} (ht : isT t) (x1 : Int32) (x2 : Int32) (I : Nat → Nat → Int32) (J : Nat → Nat → Int64) : RX5_heardAt_0 N d (n + 1) X t x1 x2 I J = RX5_heardAt_20 N d n X t x2 ((x1 &&& (I t 5)) &&& ((I t 6) ^^^ (-1))) (nI 0) (nI 0) I J := by
  rcases ht with rfl | rfl | rfl | rfl | rfl <;> rfl
set_option maxHeartbeats 4000000 in
set_option maxRecDepth 100000 in
theorem sX5_heardAt_20 (N d n : Nat) {X : lt_X} {t : Nat} (ht : isT t) (x2 : Int32) (x3 : Int32) (x4 : Int32) (x5 : Int32) (I : Nat → Nat → Int32) (J : Nat → Nat → Int64) : RX5_heardAt_20 N d (n + 1) X t x2 x3 x4 x5 I J = if x5 < (I (t + 2) 1) then if am_in x5 6 then if ((x3 >>> (x5 &&& 31)) &&& (nI 1)) = nI 0 then RX5_heardAt_20 N d n X t x2 x3 x4 (x5 + (nI 1)) I J else if nI 0 < (I (t + 5) x5.toNatClampNeg) then am_nz (I (t + 5) x5.toNatClampNeg) (if am_in ((x5 * (nI 8)) + (x2 - x2 / (I (t + 5) x5.toNatClampNeg) * (I (t + 5) x5.toNatClampNeg))) 48 then RX5_heardAt_20 N d n X t x2 x3 (x4 ||| ((nI 1) <<< ((I (t + 6) (((x5 * (nI 8)) + (x2 - x2 / (I (t + 5) x5.toNatClampNeg) * (I (t + 5) x5.toNatClampNeg))).toNatClampNeg)) &&& 31))) (x5 + (nI 1)) I J else none) else RX5_heardAt_20 N d n X t x2 x3 x4 (x5 + (nI 1)) I J else none else some (.int x4, (mkh X I J)) := by
  rcases ht with rfl | rfl | rfl | rfl | rfl <;> rfl
theorem fX5_heardAt (N d : Nat) {X : lt_X} {t : Nat} (ht : isT t) (x1 : Int32) (x2 : Int32) (I : Nat → Nat → Int32) (J : Nat → Nat → Int64) : am_G am_prog N (d + 1) 74 [.ref t, .int x1, .int x2] (mkh X I J) = am_run (am_G am_prog N d) eX5_heardAt uX5_heardAt N 0 [(0, .ref t), (1, .int x1), (2, .int x2)] [] (mkh X I J) := by
  refine (am_G_at N d 74 mX5_heardAt _ _ rfl).trans ?_
  rcases ht with rfl | rfl | rfl | rfl | rfl <;> rfl
theorem gX5_heardAt (N d : Nat) {X : lt_X} {t : Nat} (ht : isT t) (x1 : Int32) (x2 : Int32) (I : Nat → Nat → Int32) (J : Nat → Nat → Int64) : am_G am_prog (N + 30) (d + 1) 74 [.ref t, .int x1, .int x2] (mkh X I J) = RX5_heardAt_0 N d (N + 30) X t x1 x2 I J := fX5_heardAt (N + 30) (d + 0) ht x1 x2 I J
def RX5_joyBy_0 (N d n : Nat) (X : lt_X) (t : Nat) (x1 : Int32) (x2 : Int32) (I : Nat → Nat → Int32) (J : Nat → Nat → Int64) : am_O := am_run (am_G am_prog (N + 30) (d + 0)) eX5_joyBy uX5_joyBy n 0 [(0, .ref t), (1, .int x1), (2, .int x2)] [] (mkh X I J)
def RX5_joyBy_5 (N d n : Nat) (X : lt_X) (t : Nat) (x1 : Int32) (x2 : Int32) (x3 : Int32) (x4 : Int32) (I : Nat → Nat → Int32) (J : Nat → Nat → Int64) : am_O := am_run (am_G am_prog (N + 30) (d + 0)) eX5_joyBy uX5_joyBy n 5 [(0, .ref t), (1, .int x1), (2, .int x2), (3, .int x3), (4, .int x4)] [] (mkh X I J)
set_option maxHeartbeats 4000000 in
set_option maxRecDepth 100000 in
theorem sX5_joyBy_0 (N d n : Nat) {X : lt_X} {t : Nat} (ht : isT t) (x1 : Int32) (x2 : Int32) (I : Nat → Nat → Int32) (J : Nat → Nat → Int64) : RX5_joyBy_0 N d (n + 1) X t x1 x2 I J = RX5_joyBy_5 N d n X t x1 x2 (nI 0) (nI 0) I J := by
  rcases ht with rfl | rfl | rfl | rfl | rfl <;> rfl
set_option maxHeartbeats 4000000 in
set_option maxRecDepth 100000 in
theorem sX5_joyBy_5 (N d n : Nat) {X : lt_X} {t : Nat} (ht : isT t) (x1 : Int32) (x2 : Int32) (x3 : Int32) (x4 : Int32) (I : Nat → Nat → Int32) (J : Nat → Nat → Int64) : RX5_joyBy_5 N d (n + 1) X t x1 x2 x3 x4 I J = if x4 < (I (t + 2) 0) then if ((x2 >>> (x4 &&& 31)) &&& (nI 1)) = nI 0 then RX5_joyBy_5 N d n X t x1 x2 x3 (x4 + (nI 1)) I J else if am_in ((x1 * (nI 6)) + x4) 36 then RX5_joyBy_5 N d n X t x1 x2 (x3 + (I (t + 10) (((x1 * (nI 6)) + x4).toNatClampNeg))) (x4 + (nI 1)) I J else none else some (.int x3, (mkh X I J)) := by
  rcases ht with rfl | rfl | rfl | rfl | rfl <;> rfl
theorem fX5_joyBy (N d : Nat) {X : lt_X} {t : Nat} (ht : isT t) (x1 : Int32) (x2 : Int32) (I : Nat → Nat → Int32) (J : Nat → Nat → Int64) : am_G am_prog N (d + 1) 75 [.ref t, .int x1, .int x2] (mkh X I J) = am_run (am_G am_prog N d) eX5_joyBy uX5_joyBy N 0 [(0, .ref t), (1, .int x1), (2, .int x2)] [] (mkh X I J) := by
  refine (am_G_at N d 75 mX5_joyBy _ _ rfl).trans ?_
  rcases ht with rfl | rfl | rfl | rfl | rfl <;> rfl
theorem gX5_joyBy (N d : Nat) {X : lt_X} {t : Nat} (ht : isT t) (x1 : Int32) (x2 : Int32) (I : Nat → Nat → Int32) (J : Nat → Nat → Int64) : am_G am_prog (N + 30) (d + 1) 75 [.ref t, .int x1, .int x2] (mkh X I J) = RX5_joyBy_0 N d (N + 30) X t x1 x2 I J := fX5_joyBy (N + 30) (d + 0) ht x1 x2 I J
def RX5_joyAhead_0 (N d n : Nat) (X : lt_X) (t : Nat) (x1 : Int32) (x2 : Int32) (x3 : Int32) (I : Nat → Nat → Int32) (J : Nat → Nat → Int64) : am_O := am_run (am_G am_prog (N + 30) (d + 0)) eX5_joyAhead uX5_joyAhead n 0 [(0, .ref t), (1, .int x1), (2, .int x2), (3, .int x3)] [] (mkh X I J)
def RX5_joyAhead_6 (N d n : Nat) (X : lt_X) (t : Nat) (x1 : Int32) (x2 : Int32) (x3 : Int32) (x4 : Int32) (x5 : Int32) (I : Nat → Nat → Int32) (J : Nat → Nat → Int64) : am_O := am_run (am_G am_prog (N + 30) (d + 0)) eX5_joyAhead uX5_joyAhead n 6 [(0, .ref t), (1, .int x1), (2, .int x2), (3, .int x3), (4, .int x4), (5, .int x5)] [] (mkh X I J)
def KX5_joyAhead_0 (N d n : Nat) (t : Nat) (a0 : Int32) (a1 : Int32) (a2 : Int32) (a3 : Int32) (a4 : Int32) (z : Int32) (h : am_H) : am_O := am_cI (am_G am_prog (N + 30) (d + 0) 75 [.ref t, .int a0, .int z] h) (fun r2 h1 => am_run (am_G am_prog (N + 30) (d + 0)) eX5_joyAhead uX5_joyAhead n 6 [(0, .ref t), (1, .int a0), (2, .int a1), (3, .int a2), (4, .int (a4 + r2)), (5, .int (a3 + (nI 1)))] [] h1)
def KX5_joyAhead_1 (N d n : Nat) (t : Nat) (a0 : Int32) (a1 : Int32) (a2 : Int32) (a3 : Int32) (a4 : Int32) (z : Int32) (h : am_H) : am_O := am_run (am_G am_prog (N + 30) (d + 0)) eX5_joyAhead uX5_joyAhead n 6 [(0, .ref t), (1, .int a0), (2, .int a1), (3, .int a2), (4, .int (a4 + z)), (5, .int (a3 + (nI 1)))] [] h
set_option maxHeartbeats 4000000 in
set_option maxRecDepth 100000 in
theorem sX5_joyAhead_0 (N d n : Nat) {X : lt_X} {t : Nat} (ht : isT t) (x1 : Int32) (x2 : Int32) (x3 : Int32) (I : Nat → Nat → Int32) (J : Nat → Nat → Int64) : RX5_joyAhead_0 N d (n + 1) X t x1 x2 x3 I J = RX5_joyAhead_6 N d n X t x1 x2 x3 (nI 0) (nI 0) I J := by
  rcases ht with rfl | rfl | rfl | rfl | rfl <;> rfl
set_option maxHeartbeats 4000000 in
set_option maxRecDepth 100000 in
theorem sX5_joyAhead_6 (N d n : Nat) {X : lt_X} {t : Nat} (ht : isT t) (x1 : Int32) (x2 : Int32) (x3 : Int32) (x4 : Int32) (x5 : Int32) (I : Nat → Nat → Int32) (J : Nat → Nat → Int64) : RX5_joyAhead_6 N d (n + 1) X t x1 x2 x3 x4 x5 I J = if x5 < x3 then am_cI (am_G am_prog (N + 30) (d + 0) 74 [.ref t, .int x2, .int ((I t 3) + x5)] (mkh X I J)) (KX5_joyAhead_0 N d n t x1 x2 x3 x5 x4) else some (.int x4, (mkh X I J)) := by
  rcases ht with rfl | rfl | rfl | rfl | rfl <;> rfl
set_option maxHeartbeats 4000000 in
set_option maxRecDepth 100000 in
theorem kX5_joyAhead_0 (N d n : Nat) {X : lt_X} {t : Nat} (ht : isT t) (a0 : Int32) (a1 : Int32) (a2 : Int32) (a3 : Int32) (a4 : Int32) (z : Int32) (I : Nat → Nat → Int32) (J : Nat → Nat → Int64) : KX5_joyAhead_0 N d n t a0 a1 a2 a3 a4 z (mkh X I J) = am_cI (am_G am_prog (N + 30) (d + 0) 75 [.ref t, .int a0, .int z] (mkh X I J)) (KX5_joyAhead_1 N d n t a0 a1 a2 a3 a4) := by
  rcases ht with rfl | rfl | rfl | rfl | rfl <;> rfl
set_option maxHeartbeats 4000000 in
set_option maxRecDepth 100000 in
theorem kX5_joyAhead_1 (N d n : Nat) {X : lt_X} {t : Nat} (ht : isT t) (a0 : Int32) (a1 : Int32) (a2 : Int32) (a3 : Int32) (a4 : Int32) (z : Int32) (I : Nat → Nat → Int32) (J : Nat → Nat → Int64) : KX5_joyAhead_1 N d n t a0 a1 a2 a3 a4 z (mkh X I J) = RX5_joyAhead_6 N d n X t a0 a1 a2 (a4 + z) (a3 + (nI 1)) I J := by
  rcases ht with rfl | rfl | rfl | rfl | rfl <;> rfl
theorem fX5_joyAhead (N d : Nat) {X : lt_X} {t : Nat} (ht : isT t) (x1 : Int32) (x2 : Int32) (x3 : Int32) (I : Nat → Nat → Int32) (J : Nat → Nat → Int64) : am_G am_prog N (d + 1) 76 [.ref t, .int x1, .int x2, .int x3] (mkh X I J) = am_run (am_G am_prog N d) eX5_joyAhead uX5_joyAhead N 0 [(0, .ref t), (1, .int x1), (2, .int x2), (3, .int x3)] [] (mkh X I J) := by
  refine (am_G_at N d 76 mX5_joyAhead _ _ rfl).trans ?_
  rcases ht with rfl | rfl | rfl | rfl | rfl <;> rfl
theorem gX5_joyAhead (N d : Nat) {X : lt_X} {t : Nat} (ht : isT t) (x1 : Int32) (x2 : Int32) (x3 : Int32) (I : Nat → Nat → Int32) (J : Nat → Nat → Int64) : am_G am_prog (N + 30) (d + 1) 76 [.ref t, .int x1, .int x2, .int x3] (mkh X I J) = RX5_joyAhead_0 N d (N + 30) X t x1 x2 x3 I J := fX5_joyAhead (N + 30) (d + 0) ht x1 x2 x3 I J
def RX5_worthTo_0 (N d n : Nat) (X : lt_X) (t : Nat) (x1 : Int32) (x2 : Int32) (I : Nat → Nat → Int32) (J : Nat → Nat → Int64) : am_O := am_run (am_G am_prog (N + 30) (d + 0)) eX5_worthTo uX5_worthTo n 0 [(0, .ref t), (1, .int x1), (2, .int x2)] [] (mkh X I J)
def KX5_worthTo_0 (N d n : Nat) (t : Nat) (a0 : Int32) (z : Int32) (h : am_H) : am_O := am_cI (am_G am_prog (N + 30) (d + 0) 76 [.ref t, .int a0, .int z, .int (nI 12)] h) (fun r2 h1 => some (.int r2, h1))
def KX5_worthTo_1 (N d n : Nat) (z : Int32) (h : am_H) : am_O := some (.int z, h)
set_option maxHeartbeats 4000000 in
set_option maxRecDepth 100000 in
theorem sX5_worthTo_0 (N d n : Nat) {X : lt_X} {t : Nat} (ht : isT t) (x1 : Int32) (x2 : Int32) (I : Nat → Nat → Int32) (J : Nat → Nat → Int64) : RX5_worthTo_0 N d (n + 1) X t x1 x2 I J = am_cI (am_G am_prog (N + 30) (d + 0) 65 [.ref t, .int x2] (mkh X I J)) (KX5_worthTo_0 N d n t x1) := by
  rcases ht with rfl | rfl | rfl | rfl | rfl <;> rfl
set_option maxHeartbeats 4000000 in
set_option maxRecDepth 100000 in
theorem kX5_worthTo_0 (N d n : Nat) {X : lt_X} {t : Nat} (ht : isT t) (a0 : Int32) (z : Int32) (I : Nat → Nat → Int32) (J : Nat → Nat → Int64) : KX5_worthTo_0 N d n t a0 z (mkh X I J) = am_cI (am_G am_prog (N + 30) (d + 0) 76 [.ref t, .int a0, .int z, .int (nI 12)] (mkh X I J)) (KX5_worthTo_1 N d n ) := by
  rcases ht with rfl | rfl | rfl | rfl | rfl <;> rfl
set_option maxHeartbeats 4000000 in
set_option maxRecDepth 100000 in
theorem kX5_worthTo_1 (N d n : Nat) {X : lt_X} (z : Int32) (I : Nat → Nat → Int32) (J : Nat → Nat → Int64) : KX5_worthTo_1 N d n z (mkh X I J) = some (.int z, (mkh X I J)) := by
  rfl
theorem fX5_worthTo (N d : Nat) {X : lt_X} {t : Nat} (ht : isT t) (x1 : Int32) (x2 : Int32) (I : Nat → Nat → Int32) (J : Nat → Nat → Int64) : am_G am_prog N (d + 1) 77 [.ref t, .int x1, .int x2] (mkh X I J) = am_run (am_G am_prog N d) eX5_worthTo uX5_worthTo N 0 [(0, .ref t), (1, .int x1), (2, .int x2)] [] (mkh X I J) := by
  refine (am_G_at N d 77 mX5_worthTo _ _ rfl).trans ?_
  rcases ht with rfl | rfl | rfl | rfl | rfl <;> rfl
theorem gX5_worthTo (N d : Nat) {X : lt_X} {t : Nat} (ht : isT t) (x1 : Int32) (x2 : Int32) (I : Nat → Nat → Int32) (J : Nat → Nat → Int64) : am_G am_prog (N + 30) (d + 1) 77 [.ref t, .int x1, .int x2] (mkh X I J) = RX5_worthTo_0 N d (N + 30) X t x1 x2 I J := fX5_worthTo (N + 30) (d + 0) ht x1 x2 I J
def RX5_hasHours_0 (N d n : Nat) (X : lt_X) (t : Nat) (x1 : Int32) (I : Nat → Nat → Int32) (J : Nat → Nat → Int64) : am_O := am_run (am_G am_prog (N + 30) (d + 0)) eX5_hasHours uX5_hasHours n 0 [(0, .ref t), (1, .int x1)] [] (mkh X I J)
set_option maxHeartbeats 4000000 in
set_option maxRecDepth 100000 in
theorem sX5_hasHours_0 (N d n : Nat) {X : lt_X} {t : Nat} (ht : isT t) (x1 : Int32) (I : Nat → Nat → Int32) (J : Nat → Nat → Int64) : RX5_hasHours_0 N d (n + 1) X t x1 I J = if (nI 9999) < ((I t 3) + x1) then some (.int (nI 0), (mkh X I J)) else some (.int (nI 1), (mkh X I J)) := by
  rcases ht with rfl | rfl | rfl | rfl | rfl <;> rfl
theorem fX5_hasHours (N d : Nat) {X : lt_X} {t : Nat} (ht : isT t) (x1 : Int32) (I : Nat → Nat → Int32) (J : Nat → Nat → Int64) : am_G am_prog N (d + 1) 78 [.ref t, .int x1] (mkh X I J) = am_run (am_G am_prog N d) eX5_hasHours uX5_hasHours N 0 [(0, .ref t), (1, .int x1)] [] (mkh X I J) := by
  refine (am_G_at N d 78 mX5_hasHours _ _ rfl).trans ?_
  rcases ht with rfl | rfl | rfl | rfl | rfl <;> rfl
theorem gX5_hasHours (N d : Nat) {X : lt_X} {t : Nat} (ht : isT t) (x1 : Int32) (I : Nat → Nat → Int32) (J : Nat → Nat → Int64) : am_G am_prog (N + 30) (d + 1) 78 [.ref t, .int x1] (mkh X I J) = RX5_hasHours_0 N d (N + 30) X t x1 I J := fX5_hasHours (N + 30) (d + 0) ht x1 I J
def RX5_hasYears_0 (N d n : Nat) (X : lt_X) (t : Nat) (x1 : Int32) (I : Nat → Nat → Int32) (J : Nat → Nat → Int64) : am_O := am_run (am_G am_prog (N + 30) (d + 0)) eX5_hasYears uX5_hasYears n 0 [(0, .ref t), (1, .int x1)] [] (mkh X I J)
set_option maxHeartbeats 4000000 in
set_option maxRecDepth 100000 in
theorem sX5_hasYears_0 (N d n : Nat) {X : lt_X} {t : Nat} (ht : isT t) (x1 : Int32) (I : Nat → Nat → Int32) (J : Nat → Nat → Int64) : RX5_hasYears_0 N d (n + 1) X t x1 I J = if (nI 999) < ((I t 4) + x1) then some (.int (nI 0), (mkh X I J)) else some (.int (nI 1), (mkh X I J)) := by
  rcases ht with rfl | rfl | rfl | rfl | rfl <;> rfl
theorem fX5_hasYears (N d : Nat) {X : lt_X} {t : Nat} (ht : isT t) (x1 : Int32) (I : Nat → Nat → Int32) (J : Nat → Nat → Int64) : am_G am_prog N (d + 1) 79 [.ref t, .int x1] (mkh X I J) = am_run (am_G am_prog N d) eX5_hasYears uX5_hasYears N 0 [(0, .ref t), (1, .int x1)] [] (mkh X I J) := by
  refine (am_G_at N d 79 mX5_hasYears _ _ rfl).trans ?_
  rcases ht with rfl | rfl | rfl | rfl | rfl <;> rfl
theorem gX5_hasYears (N d : Nat) {X : lt_X} {t : Nat} (ht : isT t) (x1 : Int32) (I : Nat → Nat → Int32) (J : Nat → Nat → Int64) : am_G am_prog (N + 30) (d + 1) 79 [.ref t, .int x1] (mkh X I J) = RX5_hasYears_0 N d (N + 30) X t x1 I J := fX5_hasYears (N + 30) (d + 0) ht x1 I J
def RX5_passHours_0 (N d n : Nat) (X : lt_X) (t : Nat) (x1 : Int32) (I : Nat → Nat → Int32) (J : Nat → Nat → Int64) : am_O := am_run (am_G am_prog (N + 30) (d + 0)) eX5_passHours uX5_passHours n 0 [(0, .ref t), (1, .int x1)] [] (mkh X I J)
def RX5_passHours_4 (N d n : Nat) (X : lt_X) (t : Nat) (x1 : Int32) (x2 : Int32) (x3 : Int32) (I : Nat → Nat → Int32) (J : Nat → Nat → Int64) : am_O := am_run (am_G am_prog (N + 30) (d + 0)) eX5_passHours uX5_passHours n 4 [(0, .ref t), (1, .int x1), (2, .int x2), (3, .int x3)] [] (mkh X I J)
def RX5_passHours_24 (N d n : Nat) (X : lt_X) (t : Nat) (x1 : Int32) (x2 : Int32) (x3 : Int32) (x4 : Int32) (x5 : Int32) (I : Nat → Nat → Int32) (J : Nat → Nat → Int64) : am_O := am_run (am_G am_prog (N + 30) (d + 0)) eX5_passHours uX5_passHours n 24 [(0, .ref t), (1, .int x1), (2, .int x2), (3, .int x3), (4, .int x4), (5, .int x5)] [] (mkh X I J)
def KX5_passHours_0 (N d n : Nat) (t : Nat) (a0 : Int32) (a1 : Int32) (a2 : Int32) (z : Int32) (h : am_H) : am_O := am_run (am_G am_prog (N + 30) (d + 0)) eX5_passHours uX5_passHours n 24 [(0, .ref t), (1, .int a0), (2, .int a1), (3, .int a2), (4, .int z), (5, .int (nI 0))] [] h
def KX5_passHours_1 (N d n : Nat) (t : Nat) (a0 : Int32) (a1 : Int32) (a2 : Int32) (a3 : Int32) (a4 : Int32) (z : Int32) (h : am_H) : am_O := am_cI (am_G am_prog (N + 30) (d + 0) 75 [.ref t, .int a2, .int z] h) (fun r2 h1 => am_gR h1 5 t 12 (fun y3 => am_lI h1 10 y3 a2 (fun y4 => am_tI h1 y3 a2 (y4 + r2) (fun h5 => if z = nI 0 then am_gR h5 5 t 13 (fun y6 => am_lI h5 10 y6 a2 (fun y7 => am_tI h5 y6 a2 (y7 + (nI 1)) (fun h8 => am_run (am_G am_prog (N + 30) (d + 0)) eX5_passHours uX5_passHours n 24 [(0, .ref t), (1, .int a0), (2, .int (a1 + r2)), (3, .int a2), (4, .int a3), (5, .int (a4 + (nI 1)))] [] h8))) else am_run (am_G am_prog (N + 30) (d + 0)) eX5_passHours uX5_passHours n 24 [(0, .ref t), (1, .int a0), (2, .int (a1 + r2)), (3, .int a2), (4, .int a3), (5, .int (a4 + (nI 1)))] [] h5))))
def KX5_passHours_2 (N d n : Nat) (t : Nat) (a0 : Int32) (a1 : Int32) (a2 : Int32) (a3 : Int32) (a4 : Int32) (a5 : Int32) (z : Int32) (h : am_H) : am_O := am_gR h 5 t 12 (fun y1 => am_lI h 10 y1 a3 (fun y2 => am_tI h y1 a3 (y2 + z) (fun h3 => if a0 = nI 0 then am_gR h3 5 t 13 (fun y4 => am_lI h3 10 y4 a3 (fun y5 => am_tI h3 y4 a3 (y5 + (nI 1)) (fun h6 => am_run (am_G am_prog (N + 30) (d + 0)) eX5_passHours uX5_passHours n 24 [(0, .ref t), (1, .int a1), (2, .int (a2 + z)), (3, .int a3), (4, .int a4), (5, .int (a5 + (nI 1)))] [] h6))) else am_run (am_G am_prog (N + 30) (d + 0)) eX5_passHours uX5_passHours n 24 [(0, .ref t), (1, .int a1), (2, .int (a2 + z)), (3, .int a3), (4, .int a4), (5, .int (a5 + (nI 1)))] [] h3)))
set_option maxHeartbeats 4000000 in
set_option maxRecDepth 100000 in
theorem sX5_passHours_0 (N d n : Nat) {X : lt_X} {t : Nat} (ht : isT t) (x1 : Int32) (I : Nat → Nat → Int32) (J : Nat → Nat → Int64) : RX5_passHours_0 N d (n + 1) X t x1 I J = RX5_passHours_4 N d n X t x1 (nI 0) (nI 0) I J := by
  rcases ht with rfl | rfl | rfl | rfl | rfl <;> rfl
set_option maxHeartbeats 4000000 in
set_option maxRecDepth 100000 in
theorem sX5_passHours_4 (N d n : Nat) {X : lt_X} {t : Nat} (ht : isT t) (x1 : Int32) (x2 : Int32) (x3 : Int32) (I : Nat → Nat → Int32) (J : Nat → Nat → Int64) : RX5_passHours_4 N d (n + 1) X t x1 x2 x3 I J = if x3 < (I (t + 2) 2) then am_cI (am_G am_prog (N + 30) (d + 0) 66 [.ref t, .int x3] (mkh X I J)) (KX5_passHours_0 N d n t x1 x2 x3) else some (.int x2, (mkh X (u2 I t 3 ((I t 3) + x1)) J)) := by
  rcases ht with rfl | rfl | rfl | rfl | rfl <;> rfl
set_option maxHeartbeats 4000000 in
set_option maxRecDepth 100000 in
theorem sX5_passHours_24 (N d n : Nat) {X : lt_X} {t : Nat} (ht : isT t) (x1 : Int32) (x2 : Int32) (x3 : Int32) (x4 : Int32) (x5 : Int32) (I : Nat → Nat → Int32) (J : Nat → Nat → Int64) : RX5_passHours_24 N d (n + 1) X t x1 x2 x3 x4 x5 I J = if x5 < x1 then am_cI (am_G am_prog (N + 30) (d + 0) 74 [.ref t, .int x4, .int ((I t 3) + x5)] (mkh X I J)) (KX5_passHours_1 N d n t x1 x2 x3 x4 x5) else RX5_passHours_4 N d n X t x1 x2 (x3 + (nI 1)) I J := by
  rcases ht with rfl | rfl | rfl | rfl | rfl <;> rfl
set_option maxHeartbeats 4000000 in
set_option maxRecDepth 100000 in
theorem kX5_passHours_0 (N d n : Nat) {X : lt_X} {t : Nat} (ht : isT t) (a0 : Int32) (a1 : Int32) (a2 : Int32) (z : Int32) (I : Nat → Nat → Int32) (J : Nat → Nat → Int64) : KX5_passHours_0 N d n t a0 a1 a2 z (mkh X I J) = RX5_passHours_24 N d n X t a0 a1 a2 z (nI 0) I J := by
  rcases ht with rfl | rfl | rfl | rfl | rfl <;> rfl
set_option maxHeartbeats 4000000 in
set_option maxRecDepth 100000 in
theorem kX5_passHours_1 (N d n : Nat) {X : lt_X} {t : Nat} (ht : isT t) (a0 : Int32) (a1 : Int32) (a2 : Int32) (a3 : Int32) (a4 : Int32) (z : Int32) (I : Nat → Nat → Int32) (J : Nat → Nat → Int64) : KX5_passHours_1 N d n t a0 a1 a2 a3 a4 z (mkh X I J) = am_cI (am_G am_prog (N + 30) (d + 0) 75 [.ref t, .int a2, .int z] (mkh X I J)) (KX5_passHours_2 N d n t z a0 a1 a2 a3 a4) := by
  rcases ht with rfl | rfl | rfl | rfl | rfl <;> rfl
set_option maxHeartbeats 4000000 in
set_option maxRecDepth 100000 in
theorem kX5_passHours_2 (N d n : Nat) {X : lt_X} {t : Nat} (ht : isT t) (a0 : Int32) (a1 : Int32) (a2 : Int32) (a3 : Int32) (a4 : Int32) (a5 : Int32) (z : Int32) (I : Nat → Nat → Int32) (J : Nat → Nat → Int64) : KX5_passHours_2 N d n t a0 a1 a2 a3 a4 a5 z (mkh X I J) = if am_in a3 6 then if am_in a3 6 then if a0 = nI 0 then if am_in a3 6 then if am_in a3 6 then RX5_passHours_24 N d n X t a1 (a2 + z) a3 a4 (a5 + (nI 1)) (u2 (u2 I (t + 8) a3.toNatClampNeg ((I (t + 8) a3.toNatClampNeg) + z)) (t + 9) a3.toNatClampNeg ((I (t + 9) a3.toNatClampNeg) + (nI 1))) J else none else none else RX5_passHours_24 N d n X t a1 (a2 + z) a3 a4 (a5 + (nI 1)) (u2 I (t + 8) a3.toNatClampNeg ((I (t + 8) a3.toNatClampNeg) + z)) J else none else none := by
  rcases ht with rfl | rfl | rfl | rfl | rfl <;> rfl
theorem fX5_passHours (N d : Nat) {X : lt_X} {t : Nat} (ht : isT t) (x1 : Int32) (I : Nat → Nat → Int32) (J : Nat → Nat → Int64) : am_G am_prog N (d + 1) 80 [.ref t, .int x1] (mkh X I J) = am_run (am_G am_prog N d) eX5_passHours uX5_passHours N 0 [(0, .ref t), (1, .int x1)] [] (mkh X I J) := by
  refine (am_G_at N d 80 mX5_passHours _ _ rfl).trans ?_
  rcases ht with rfl | rfl | rfl | rfl | rfl <;> rfl
theorem gX5_passHours (N d : Nat) {X : lt_X} {t : Nat} (ht : isT t) (x1 : Int32) (I : Nat → Nat → Int32) (J : Nat → Nat → Int64) : am_G am_prog (N + 30) (d + 1) 80 [.ref t, .int x1] (mkh X I J) = RX5_passHours_0 N d (N + 30) X t x1 I J := fX5_passHours (N + 30) (d + 0) ht x1 I J
def RX5_passYears_0 (N d n : Nat) (X : lt_X) (t : Nat) (x1 : Int32) (I : Nat → Nat → Int32) (J : Nat → Nat → Int64) : am_O := am_run (am_G am_prog (N + 30) (d + 1)) eX5_passYears uX5_passYears n 0 [(0, .ref t), (1, .int x1)] [] (mkh X I J)
def RX5_passYears_7 (N d n : Nat) (X : lt_X) (t : Nat) (x1 : Int32) (x2 : Int32) (x3 : Int32) (I : Nat → Nat → Int32) (J : Nat → Nat → Int64) : am_O := am_run (am_G am_prog (N + 30) (d + 1)) eX5_passYears uX5_passYears n 7 [(0, .ref t), (1, .int x1), (2, .int x2), (3, .int x3)] [] (mkh X I J)
def RX5_passYears_15 (N d n : Nat) (X : lt_X) (t : Nat) (x1 : Int32) (x2 : Int32) (x3 : Int32) (x4 : Int32) (I : Nat → Nat → Int32) (J : Nat → Nat → Int64) : am_O := am_run (am_G am_prog (N + 30) (d + 1)) eX5_passYears uX5_passYears n 15 [(0, .ref t), (1, .int x1), (2, .int x2), (3, .int x3), (4, .int x4)] [] (mkh X I J)
def KX5_passYears_0 (N d n : Nat) (t : Nat) (a0 : Int32) (a1 : Int32) (a2 : Int32) (a3 : Int32) (z : Int32) (h : am_H) : am_O := if z = nI 0 then am_run (am_G am_prog (N + 30) (d + 1)) eX5_passYears uX5_passYears n 15 [(0, .ref t), (1, .int a0), (2, .int a1), (3, .int a2), (4, .int (a3 + (nI 1)))] [] h else am_gR h 5 t 7 (fun y1 => am_lI h 10 y1 a3 (fun y2 => am_tI h y1 a3 (y2 + (nI 1)) (fun h3 => am_gR h3 5 t 7 (fun y4 => am_lI h3 10 y4 a3 (fun y5 => am_gR h3 5 t 8 (fun y6 => am_lI h3 10 y6 a3 (fun y7 => if y5 < y7 then am_run (am_G am_prog (N + 30) (d + 1)) eX5_passYears uX5_passYears n 15 [(0, .ref t), (1, .int a0), (2, .int a1), (3, .int a2), (4, .int (a3 + (nI 1)))] [] h3 else am_gI h3 5 t 5 (fun y8 => am_pI h3 5 t 5 (y8 &&& (((nI 1) <<< (a3 &&& 31)) ^^^ (-1))) (fun h9 => am_run (am_G am_prog (N + 30) (d + 1)) eX5_passYears uX5_passYears n 15 [(0, .ref t), (1, .int a0), (2, .int a1), (3, .int a2), (4, .int (a3 + (nI 1)))] [] h9)))))))))
set_option maxHeartbeats 4000000 in
set_option maxRecDepth 100000 in
theorem sX5_passYears_0 (N d n : Nat) {X : lt_X} {t : Nat} (ht : isT t) (x1 : Int32) (I : Nat → Nat → Int32) (J : Nat → Nat → Int64) : RX5_passYears_0 N d (n + 1) X t x1 I J = RX5_passYears_7 N d n X t x1 (I t 5) (nI 0) I J := by
  rcases ht with rfl | rfl | rfl | rfl | rfl <;> rfl
set_option maxHeartbeats 4000000 in
set_option maxRecDepth 100000 in
theorem sX5_passYears_7 (N d n : Nat) {X : lt_X} {t : Nat} (ht : isT t) (x1 : Int32) (x2 : Int32) (x3 : Int32) (I : Nat → Nat → Int32) (J : Nat → Nat → Int64) : RX5_passYears_7 N d (n + 1) X t x1 x2 x3 I J = if x3 < x1 then RX5_passYears_15 N d n X t x1 x2 x3 (nI 0) I J else some (.int (x2 &&& ((I t 5) ^^^ (-1))), (mkh X (u2 I t 4 ((I t 4) + x1)) J)) := by
  rcases ht with rfl | rfl | rfl | rfl | rfl <;> rfl
set_option maxHeartbeats 4000000 in
set_option maxRecDepth 100000 in
theorem sX5_passYears_15 (N d n : Nat) {X : lt_X} {t : Nat} (ht : isT t) (x1 : Int32) (x2 : Int32) (x3 : Int32) (x4 : Int32) (I : Nat → Nat → Int32) (J : Nat → Nat → Int64) : RX5_passYears_15 N d (n + 1) X t x1 x2 x3 x4 I J = if x4 < (I (t + 2) 1) then am_cI (am_G am_prog (N + 30) (d + 1) 70 [.ref t, .int x4] (mkh X I J)) (KX5_passYears_0 N d n t x1 x2 x3 x4) else RX5_passYears_7 N d n X t x1 x2 (x3 + (nI 1)) I J := by
  rcases ht with rfl | rfl | rfl | rfl | rfl <;> rfl
set_option maxHeartbeats 4000000 in
set_option maxRecDepth 100000 in
theorem kX5_passYears_0 (N d n : Nat) {X : lt_X} {t : Nat} (ht : isT t) (a0 : Int32) (a1 : Int32) (a2 : Int32) (a3 : Int32) (z : Int32) (I : Nat → Nat → Int32) (J : Nat → Nat → Int64) : KX5_passYears_0 N d n t a0 a1 a2 a3 z (mkh X I J) = if z = nI 0 then RX5_passYears_15 N d n X t a0 a1 a2 (a3 + (nI 1)) I J else if am_in a3 6 then if am_in a3 6 then if am_in a3 6 then if am_in a3 6 then if ((u2 I (t + 3) a3.toNatClampNeg ((I (t + 3) a3.toNatClampNeg) + (nI 1))) (t + 3) a3.toNatClampNeg) < (I (t + 4) a3.toNatClampNeg) then RX5_passYears_15 N d n X t a0 a1 a2 (a3 + (nI 1)) (u2 I (t + 3) a3.toNatClampNeg ((I (t + 3) a3.toNatClampNeg) + (nI 1))) J else RX5_passYears_15 N d n X t a0 a1 a2 (a3 + (nI 1)) (u2 (u2 I (t + 3) a3.toNatClampNeg ((I (t + 3) a3.toNatClampNeg) + (nI 1))) t 5 ((I t 5) &&& (((nI 1) <<< (a3 &&& 31)) ^^^ (-1)))) J else none else none else none else none := by
  rcases ht with rfl | rfl | rfl | rfl | rfl <;> rfl
theorem fX5_passYears (N d : Nat) {X : lt_X} {t : Nat} (ht : isT t) (x1 : Int32) (I : Nat → Nat → Int32) (J : Nat → Nat → Int64) : am_G am_prog N (d + 1) 81 [.ref t, .int x1] (mkh X I J) = am_run (am_G am_prog N d) eX5_passYears uX5_passYears N 0 [(0, .ref t), (1, .int x1)] [] (mkh X I J) := by
  refine (am_G_at N d 81 mX5_passYears _ _ rfl).trans ?_
  rcases ht with rfl | rfl | rfl | rfl | rfl <;> rfl
theorem gX5_passYears (N d : Nat) {X : lt_X} {t : Nat} (ht : isT t) (x1 : Int32) (I : Nat → Nat → Int32) (J : Nat → Nat → Int64) : am_G am_prog (N + 30) (d + 2) 81 [.ref t, .int x1] (mkh X I J) = RX5_passYears_0 N d (N + 30) X t x1 I J := fX5_passYears (N + 30) (d + 1) ht x1 I J
def RX5_makesSale_0 (N d n : Nat) (X : lt_X) (t : Nat) (x1 : Int32) (x2 : Int32) (x3 : Int32) (I : Nat → Nat → Int32) (J : Nat → Nat → Int64) : am_O := am_run (am_G am_prog (N + 30) (d + 0)) eX5_makesSale uX5_makesSale n 0 [(0, .ref t), (1, .int x1), (2, .int x2), (3, .int x3)] [] (mkh X I J)
set_option maxHeartbeats 4000000 in
set_option maxRecDepth 100000 in
theorem sX5_makesSale_0 (N d n : Nat) {X : lt_X} {t : Nat} (ht : isT t) (x1 : Int32) (x2 : Int32) (x3 : Int32) (I : Nat → Nat → Int32) (J : Nat → Nat → Int64) : RX5_makesSale_0 N d (n + 1) X t x1 x2 x3 I J = if am_in x1 6 then if (I (t + 13) x1.toNatClampNeg) = (-1) then some (.int (nI 0), (mkh X I J)) else if (I (t + 13) x1.toNatClampNeg) = x2 then some (.int (nI 0), (mkh X I J)) else if am_in x2 6 then if (I (t + 7) x2.toNatClampNeg) < x3 then some (.int (nI 0), (mkh X I J)) else if am_in (I (t + 13) x1.toNatClampNeg) 6 then if (nI 9999) < ((I (t + 7) ((I (t + 13) x1.toNatClampNeg).toNatClampNeg)) + x3) then some (.int (nI 0), (mkh X I J)) else if am_in x2 6 then if am_in x2 6 then if am_in (I (t + 13) x1.toNatClampNeg) 6 then if am_in (I (t + 13) x1.toNatClampNeg) 6 then if am_in x1 6 then some (.int (nI 1), (mkh X (u2 (u2 (u2 I (t + 7) x2.toNatClampNeg ((I (t + 7) x2.toNatClampNeg) - x3)) (t + 7) ((I (t + 13) x1.toNatClampNeg).toNatClampNeg) (((u2 I (t + 7) x2.toNatClampNeg ((I (t + 7) x2.toNatClampNeg) - x3)) (t + 7) ((I (t + 13) x1.toNatClampNeg).toNatClampNeg)) + x3)) (t + 13) x1.toNatClampNeg x2) J)) else none else none else none else none else none else none else none else none := by
  rcases ht with rfl | rfl | rfl | rfl | rfl <;> rfl
theorem fX5_makesSale (N d : Nat) {X : lt_X} {t : Nat} (ht : isT t) (x1 : Int32) (x2 : Int32) (x3 : Int32) (I : Nat → Nat → Int32) (J : Nat → Nat → Int64) : am_G am_prog N (d + 1) 82 [.ref t, .int x1, .int x2, .int x3] (mkh X I J) = am_run (am_G am_prog N d) eX5_makesSale uX5_makesSale N 0 [(0, .ref t), (1, .int x1), (2, .int x2), (3, .int x3)] [] (mkh X I J) := by
  refine (am_G_at N d 82 mX5_makesSale _ _ rfl).trans ?_
  rcases ht with rfl | rfl | rfl | rfl | rfl <;> rfl
theorem gX5_makesSale (N d : Nat) {X : lt_X} {t : Nat} (ht : isT t) (x1 : Int32) (x2 : Int32) (x3 : Int32) (I : Nat → Nat → Int32) (J : Nat → Nat → Int64) : am_G am_prog (N + 30) (d + 1) 82 [.ref t, .int x1, .int x2, .int x3] (mkh X I J) = RX5_makesSale_0 N d (N + 30) X t x1 x2 x3 I J := fX5_makesSale (N + 30) (d + 0) ht x1 x2 x3 I J
def RX5_makesGift_0 (N d n : Nat) (X : lt_X) (t : Nat) (x1 : Int32) (x2 : Int32) (I : Nat → Nat → Int32) (J : Nat → Nat → Int64) : am_O := am_run (am_G am_prog (N + 30) (d + 0)) eX5_makesGift uX5_makesGift n 0 [(0, .ref t), (1, .int x1), (2, .int x2)] [] (mkh X I J)
set_option maxHeartbeats 4000000 in
set_option maxRecDepth 100000 in
theorem sX5_makesGift_0 (N d n : Nat) {X : lt_X} {t : Nat} (ht : isT t) (x1 : Int32) (x2 : Int32) (I : Nat → Nat → Int32) (J : Nat → Nat → Int64) : RX5_makesGift_0 N d (n + 1) X t x1 x2 I J = if am_in x1 6 then if (I (t + 13) x1.toNatClampNeg) = x2 then some (.int (nI 0), (mkh X I J)) else if am_in x1 6 then some (.int (nI 1), (mkh X (u2 I (t + 13) x1.toNatClampNeg x2) J)) else none else none := by
  rcases ht with rfl | rfl | rfl | rfl | rfl <;> rfl
theorem fX5_makesGift (N d : Nat) {X : lt_X} {t : Nat} (ht : isT t) (x1 : Int32) (x2 : Int32) (I : Nat → Nat → Int32) (J : Nat → Nat → Int64) : am_G am_prog N (d + 1) 83 [.ref t, .int x1, .int x2] (mkh X I J) = am_run (am_G am_prog N d) eX5_makesGift uX5_makesGift N 0 [(0, .ref t), (1, .int x1), (2, .int x2)] [] (mkh X I J) := by
  refine (am_G_at N d 83 mX5_makesGift _ _ rfl).trans ?_
  rcases ht with rfl | rfl | rfl | rfl | rfl <;> rfl
theorem gX5_makesGift (N d : Nat) {X : lt_X} {t : Nat} (ht : isT t) (x1 : Int32) (x2 : Int32) (I : Nat → Nat → Int32) (J : Nat → Nat → Int64) : am_G am_prog (N + 30) (d + 1) 83 [.ref t, .int x1, .int x2] (mkh X I J) = RX5_makesGift_0 N d (N + 30) X t x1 x2 I J := fX5_makesGift (N + 30) (d + 0) ht x1 x2 I J
def RX5_catchesCold_0 (N d n : Nat) (X : lt_X) (t : Nat) (x1 : Int32) (I : Nat → Nat → Int32) (J : Nat → Nat → Int64) : am_O := am_run (am_G am_prog (N + 30) (d + 1)) eX5_catchesCold uX5_catchesCold n 0 [(0, .ref t), (1, .int x1)] [] (mkh X I J)
def KX5_catchesCold_0 (N d n : Nat) (t : Nat) (a0 : Int32) (z : Int32) (h : am_H) : am_O := if z = nI 0 then am_cI (am_G am_prog (N + 30) (d + 1) 70 [.ref t, .int a0] h) (fun r2 h1 => if r2 = nI 0 then some (.int (nI 0), h1) else am_gI h1 5 t 6 (fun y3 => am_pI h1 5 t 6 (y3 ||| ((nI 1) <<< (a0 &&& 31))) (fun h4 => some (.int (nI 1), h4)))) else some (.int (nI 0), h)
def KX5_catchesCold_1 (N d n : Nat) (t : Nat) (a0 : Int32) (z : Int32) (h : am_H) : am_O := if z = nI 0 then some (.int (nI 0), h) else am_gI h 5 t 6 (fun y1 => am_pI h 5 t 6 (y1 ||| ((nI 1) <<< (a0 &&& 31))) (fun h2 => some (.int (nI 1), h2)))
set_option maxHeartbeats 4000000 in
set_option maxRecDepth 100000 in
theorem sX5_catchesCold_0 (N d n : Nat) {X : lt_X} {t : Nat} (ht : isT t) (x1 : Int32) (I : Nat → Nat → Int32) (J : Nat → Nat → Int64) : RX5_catchesCold_0 N d (n + 1) X t x1 I J = am_cI (am_G am_prog (N + 30) (d + 1) 71 [.ref t, .int x1] (mkh X I J)) (KX5_catchesCold_0 N d n t x1) := by
  rcases ht with rfl | rfl | rfl | rfl | rfl <;> rfl
set_option maxHeartbeats 4000000 in
set_option maxRecDepth 100000 in
theorem kX5_catchesCold_0 (N d n : Nat) {X : lt_X} {t : Nat} (ht : isT t) (a0 : Int32) (z : Int32) (I : Nat → Nat → Int32) (J : Nat → Nat → Int64) : KX5_catchesCold_0 N d n t a0 z (mkh X I J) = if z = nI 0 then am_cI (am_G am_prog (N + 30) (d + 1) 70 [.ref t, .int a0] (mkh X I J)) (KX5_catchesCold_1 N d n t a0) else some (.int (nI 0), (mkh X I J)) := by
  rcases ht with rfl | rfl | rfl | rfl | rfl <;> rfl
set_option maxHeartbeats 4000000 in
set_option maxRecDepth 100000 in
theorem kX5_catchesCold_1 (N d n : Nat) {X : lt_X} {t : Nat} (ht : isT t) (a0 : Int32) (z : Int32) (I : Nat → Nat → Int32) (J : Nat → Nat → Int64) : KX5_catchesCold_1 N d n t a0 z (mkh X I J) = if z = nI 0 then some (.int (nI 0), (mkh X I J)) else some (.int (nI 1), (mkh X (u2 I t 6 ((I t 6) ||| ((nI 1) <<< (a0 &&& 31)))) J)) := by
  rcases ht with rfl | rfl | rfl | rfl | rfl <;> rfl
theorem fX5_catchesCold (N d : Nat) {X : lt_X} {t : Nat} (ht : isT t) (x1 : Int32) (I : Nat → Nat → Int32) (J : Nat → Nat → Int64) : am_G am_prog N (d + 1) 84 [.ref t, .int x1] (mkh X I J) = am_run (am_G am_prog N d) eX5_catchesCold uX5_catchesCold N 0 [(0, .ref t), (1, .int x1)] [] (mkh X I J) := by
  refine (am_G_at N d 84 mX5_catchesCold _ _ rfl).trans ?_
  rcases ht with rfl | rfl | rfl | rfl | rfl <;> rfl
theorem gX5_catchesCold (N d : Nat) {X : lt_X} {t : Nat} (ht : isT t) (x1 : Int32) (I : Nat → Nat → Int32) (J : Nat → Nat → Int64) : am_G am_prog (N + 30) (d + 2) 84 [.ref t, .int x1] (mkh X I J) = RX5_catchesCold_0 N d (N + 30) X t x1 I J := fX5_catchesCold (N + 30) (d + 1) ht x1 I J
def RX5_getsWell_0 (N d n : Nat) (X : lt_X) (t : Nat) (x1 : Int32) (I : Nat → Nat → Int32) (J : Nat → Nat → Int64) : am_O := am_run (am_G am_prog (N + 30) (d + 1)) eX5_getsWell uX5_getsWell n 0 [(0, .ref t), (1, .int x1)] [] (mkh X I J)
def KX5_getsWell_0 (N d n : Nat) (t : Nat) (a0 : Int32) (z : Int32) (h : am_H) : am_O := if z = nI 0 then some (.int (nI 0), h) else am_gI h 5 t 6 (fun y1 => am_pI h 5 t 6 (y1 &&& (((nI 1) <<< (a0 &&& 31)) ^^^ (-1))) (fun h2 => some (.int (nI 1), h2)))
set_option maxHeartbeats 4000000 in
set_option maxRecDepth 100000 in
theorem sX5_getsWell_0 (N d n : Nat) {X : lt_X} {t : Nat} (ht : isT t) (x1 : Int32) (I : Nat → Nat → Int32) (J : Nat → Nat → Int64) : RX5_getsWell_0 N d (n + 1) X t x1 I J = am_cI (am_G am_prog (N + 30) (d + 1) 71 [.ref t, .int x1] (mkh X I J)) (KX5_getsWell_0 N d n t x1) := by
  rcases ht with rfl | rfl | rfl | rfl | rfl <;> rfl
set_option maxHeartbeats 4000000 in
set_option maxRecDepth 100000 in
theorem kX5_getsWell_0 (N d n : Nat) {X : lt_X} {t : Nat} (ht : isT t) (a0 : Int32) (z : Int32) (I : Nat → Nat → Int32) (J : Nat → Nat → Int64) : KX5_getsWell_0 N d n t a0 z (mkh X I J) = if z = nI 0 then some (.int (nI 0), (mkh X I J)) else some (.int (nI 1), (mkh X (u2 I t 6 ((I t 6) &&& (((nI 1) <<< (a0 &&& 31)) ^^^ (-1)))) J)) := by
  rcases ht with rfl | rfl | rfl | rfl | rfl <;> rfl
theorem fX5_getsWell (N d : Nat) {X : lt_X} {t : Nat} (ht : isT t) (x1 : Int32) (I : Nat → Nat → Int32) (J : Nat → Nat → Int64) : am_G am_prog N (d + 1) 85 [.ref t, .int x1] (mkh X I J) = am_run (am_G am_prog N d) eX5_getsWell uX5_getsWell N 0 [(0, .ref t), (1, .int x1)] [] (mkh X I J) := by
  refine (am_G_at N d 85 mX5_getsWell _ _ rfl).trans ?_
  rcases ht with rfl | rfl | rfl | rfl | rfl <;> rfl
theorem gX5_getsWell (N d : Nat) {X : lt_X} {t : Nat} (ht : isT t) (x1 : Int32) (I : Nat → Nat → Int32) (J : Nat → Nat → Int64) : am_G am_prog (N + 30) (d + 2) 85 [.ref t, .int x1] (mkh X I J) = RX5_getsWell_0 N d (N + 30) X t x1 I J := fX5_getsWell (N + 30) (d + 1) ht x1 I J
def RX5_voicesThatFit_0 (N d n : Nat) (X : lt_X) (t : Nat) (tr : Nat) (x2 : Int32) (I : Nat → Nat → Int32) (J : Nat → Nat → Int64) : am_O := am_run (am_G am_prog (N + 30) (d + 0)) eX5_voicesThatFit uX5_voicesThatFit n 0 [(0, .ref t), (1, .ref tr), (2, .int x2)] [] (mkh X I J)
def RX5_voicesThatFit_14 (N d n : Nat) (X : lt_X) (t : Nat) (tr : Nat) (x2 : Int32) (x3 : Int32) (x4 : Int32) (I : Nat → Nat → Int32) (J : Nat → Nat → Int64) : am_O := am_run (am_G am_prog (N + 30) (d + 0)) eX5_voicesThatFit uX5_voicesThatFit n 14 [(0, .ref t), (1, .ref tr), (2, .int x2), (3, .int x3), (4, .int x4)] [] (mkh X I J)
def RX5_voicesThatFit_59 (N d n : Nat) (X : lt_X) (t : Nat) (tr : Nat) (x2 : Int32) (x3 : Int32) (x4 : Int32) (x5 : Int32) (x6 : Int64) (x8 : Int32) (I : Nat → Nat → Int32) (J : Nat → Nat → Int64) : am_O := am_run (am_G am_prog (N + 30) (d + 0)) eX5_voicesThatFit uX5_voicesThatFit n 59 [(0, .ref t), (1, .ref tr), (2, .int x2), (3, .int x3), (4, .int x4), (5, .int x5), (6, .long x6), (8, .int x8)] [] (mkh X I J)
def KX5_voicesThatFit_0 (N d n : Nat) (t : Nat) (tr : Nat) (a0 : Int32) (a1 : Int32) (a2 : Int32) (a3 : Int32) (a4 : Int64) (a5 : Int32) (z : Int32) (h : am_H) : am_O := if (lg_cmp z.toInt64 a4) = nI 0 then am_run (am_G am_prog (N + 30) (d + 0)) eX5_voicesThatFit uX5_voicesThatFit n 59 [(0, .ref t), (1, .ref tr), (2, .int a0), (3, .int a1), (4, .int a2), (5, .int a3), (6, .long a4), (8, .int (a5 + (nI 1)))] [] h else am_run (am_G am_prog (N + 30) (d + 0)) eX5_voicesThatFit uX5_voicesThatFit n 59 [(0, .ref t), (1, .ref tr), (2, .int a0), (3, .int (a1 &&& (((nI 1) <<< (a5 &&& 31)) ^^^ (-1)))), (4, .int a2), (5, .int a3), (6, .long a4), (8, .int (a5 + (nI 1)))] [] h
set_option maxHeartbeats 4000000 in
set_option maxRecDepth 100000 in
theorem sX5_voicesThatFit_0 (N d n : Nat) {X : lt_X} {t : Nat} {tr : Nat} (ht : isT t) (htr : isTr tr) (x2 : Int32) (I : Nat → Nat → Int32) (J : Nat → Nat → Int64) : RX5_voicesThatFit_0 N d (n + 1) X t tr x2 I J = RX5_voicesThatFit_14 N d n X t tr x2 (((nI 1) <<< ((I (t + 2) 1) &&& 31)) - (nI 1)) (nI 0) I J := by
  rcases ht with rfl | rfl | rfl | rfl | rfl <;> rcases htr with rfl | rfl | rfl | rfl <;> rfl
set_option maxHeartbeats 4000000 in
set_option maxRecDepth 100000 in
theorem sX5_voicesThatFit_14 (N d n : Nat) {X : lt_X} {t : Nat} {tr : Nat} (ht : isT t) (htr : isTr tr) (x2 : Int32) (x3 : Int32) (x4 : Int32) (I : Nat → Nat → Int32) (J : Nat → Nat → Int64) : RX5_voicesThatFit_14 N d (n + 1) X t tr x2 x3 x4 I J = if x4 < x2 then if (((nI 2) * x4) + (nI 1)) < (nI 60) then if am_in ((nI 2) * x4) 60 then if am_in (((nI 2) * x4) + (nI 1)) 60 then RX5_voicesThatFit_59 N d n X t tr x2 x3 x4 ((J (tr + 1) (((nI 2) * x4).toNatClampNeg)).toInt32) (J (tr + 1) ((((nI 2) * x4) + (nI 1)).toNatClampNeg)) (nI 0) I J else none else none else some (.int x3, (mkh X I J)) else some (.int x3, (mkh X I J)) := by
  rcases ht with rfl | rfl | rfl | rfl | rfl <;> rcases htr with rfl | rfl | rfl | rfl <;> rfl
set_option maxHeartbeats 4000000 in
set_option maxRecDepth 100000 in
theorem sX5_voicesThatFit_59 (N d n : Nat) {X : lt_X} {t : Nat} {tr : Nat} (ht : isT t) (htr : isTr tr) (x2 : Int32) (x3 : Int32) (x4 : Int32) (x5 : Int32) (x6 : Int64) (x8 : Int32) (I : Nat → Nat → Int32) (J : Nat → Nat → Int64) : RX5_voicesThatFit_59 N d (n + 1) X t tr x2 x3 x4 x5 x6 x8 I J = if x8 < (I (t + 2) 1) then am_cI (am_G am_prog (N + 30) (d + 0) 72 [.ref t, .int x8, .int x5] (mkh X I J)) (KX5_voicesThatFit_0 N d n t tr x2 x3 x4 x5 x6 x8) else RX5_voicesThatFit_14 N d n X t tr x2 x3 (x4 + (nI 1)) I J := by
  rcases ht with rfl | rfl | rfl | rfl | rfl <;> rcases htr with rfl | rfl | rfl | rfl <;> rfl
set_option maxHeartbeats 4000000 in
set_option maxRecDepth 100000 in
theorem kX5_voicesThatFit_0 (N d n : Nat) {X : lt_X} {t : Nat} {tr : Nat} (ht : isT t) (htr : isTr tr) (a0 : Int32) (a1 : Int32) (a2 : Int32) (a3 : Int32) (a4 : Int64) (a5 : Int32) (z : Int32) (I : Nat → Nat → Int32) (J : Nat → Nat → Int64) : KX5_voicesThatFit_0 N d n t tr a0 a1 a2 a3 a4 a5 z (mkh X I J) = if (lg_cmp z.toInt64 a4) = nI 0 then RX5_voicesThatFit_59 N d n X t tr a0 a1 a2 a3 a4 (a5 + (nI 1)) I J else RX5_voicesThatFit_59 N d n X t tr a0 (a1 &&& (((nI 1) <<< (a5 &&& 31)) ^^^ (-1))) a2 a3 a4 (a5 + (nI 1)) I J := by
  rcases ht with rfl | rfl | rfl | rfl | rfl <;> rcases htr with rfl | rfl | rfl | rfl <;> rfl
theorem fX5_voicesThatFit (N d : Nat) {X : lt_X} {t : Nat} {tr : Nat} (ht : isT t) (htr : isTr tr) (x2 : Int32) (I : Nat → Nat → Int32) (J : Nat → Nat → Int64) : am_G am_prog N (d + 1) 86 [.ref t, .ref tr, .int x2] (mkh X I J) = am_run (am_G am_prog N d) eX5_voicesThatFit uX5_voicesThatFit N 0 [(0, .ref t), (1, .ref tr), (2, .int x2)] [] (mkh X I J) := by
  refine (am_G_at N d 86 mX5_voicesThatFit _ _ rfl).trans ?_
  rcases ht with rfl | rfl | rfl | rfl | rfl <;> rcases htr with rfl | rfl | rfl | rfl <;> rfl
theorem gX5_voicesThatFit (N d : Nat) {X : lt_X} {t : Nat} {tr : Nat} (ht : isT t) (htr : isTr tr) (x2 : Int32) (I : Nat → Nat → Int32) (J : Nat → Nat → Int64) : am_G am_prog (N + 30) (d + 1) 86 [.ref t, .ref tr, .int x2] (mkh X I J) = RX5_voicesThatFit_0 N d (N + 30) X t tr x2 I J := fX5_voicesThatFit (N + 30) (d + 0) ht htr x2 I J
def RX5_hourThatParts_0 (N d n : Nat) (X : lt_X) (t : Nat) (x1 : Int32) (I : Nat → Nat → Int32) (J : Nat → Nat → Int64) : am_O := am_run (am_G am_prog (N + 30) (d + 0)) eX5_hourThatParts uX5_hourThatParts n 0 [(0, .ref t), (1, .int x1)] [] (mkh X I J)
def RX5_hourThatParts_8 (N d n : Nat) (X : lt_X) (t : Nat) (x1 : Int32) (x2 : Int32) (x3 : Int32) (x4 : Int32) (I : Nat → Nat → Int32) (J : Nat → Nat → Int64) : am_O := am_run (am_G am_prog (N + 30) (d + 0)) eX5_hourThatParts uX5_hourThatParts n 8 [(0, .ref t), (1, .int x1), (2, .int x2), (3, .int x3), (4, .int x4)] [] (mkh X I J)
def KX5_hourThatParts_0 (N d n : Nat) (t : Nat) (a0 : Int32) (a1 : Int32) (a2 : Int32) (a3 : Int32) (z : Int32) (h : am_H) : am_O := if z < a2 then am_run (am_G am_prog (N + 30) (d + 0)) eX5_hourThatParts uX5_hourThatParts n 8 [(0, .ref t), (1, .int a0), (2, .int a3), (3, .int z), (4, .int (a3 + (nI 1)))] [] h else am_run (am_G am_prog (N + 30) (d + 0)) eX5_hourThatParts uX5_hourThatParts n 8 [(0, .ref t), (1, .int a0), (2, .int a1), (3, .int a2), (4, .int (a3 + (nI 1)))] [] h
set_option maxHeartbeats 4000000 in
set_option maxRecDepth 100000 in
theorem sX5_hourThatParts_0 (N d n : Nat) {X : lt_X} {t : Nat} (ht : isT t) (x1 : Int32) (I : Nat → Nat → Int32) (J : Nat → Nat → Int64) : RX5_hourThatParts_0 N d (n + 1) X t x1 I J = RX5_hourThatParts_8 N d n X t x1 (nI 0) (nI 7) (nI 0) I J := by
  rcases ht with rfl | rfl | rfl | rfl | rfl <;> rfl
set_option maxHeartbeats 4000000 in
set_option maxRecDepth 100000 in
theorem sX5_hourThatParts_8 (N d n : Nat) {X : lt_X} {t : Nat} (ht : isT t) (x1 : Int32) (x2 : Int32) (x3 : Int32) (x4 : Int32) (I : Nat → Nat → Int32) (J : Nat → Nat → Int64) : RX5_hourThatParts_8 N d (n + 1) X t x1 x2 x3 x4 I J = if x4 < (nI 100) then am_cI (am_G am_prog (N + 30) (d + 0) 88 [.ref t, .int x1, .int x4] (mkh X I J)) (KX5_hourThatParts_0 N d n t x1 x2 x3 x4) else some (.int x2, (mkh X I J)) := by
  rcases ht with rfl | rfl | rfl | rfl | rfl <;> rfl
set_option maxHeartbeats 4000000 in
set_option maxRecDepth 100000 in
theorem kX5_hourThatParts_0 (N d n : Nat) {X : lt_X} {t : Nat} (ht : isT t) (a0 : Int32) (a1 : Int32) (a2 : Int32) (a3 : Int32) (z : Int32) (I : Nat → Nat → Int32) (J : Nat → Nat → Int64) : KX5_hourThatParts_0 N d n t a0 a1 a2 a3 z (mkh X I J) = if z < a2 then RX5_hourThatParts_8 N d n X t a0 a3 z (a3 + (nI 1)) I J else RX5_hourThatParts_8 N d n X t a0 a1 a2 (a3 + (nI 1)) I J := by
  rcases ht with rfl | rfl | rfl | rfl | rfl <;> rfl
theorem fX5_hourThatParts (N d : Nat) {X : lt_X} {t : Nat} (ht : isT t) (x1 : Int32) (I : Nat → Nat → Int32) (J : Nat → Nat → Int64) : am_G am_prog N (d + 1) 87 [.ref t, .int x1] (mkh X I J) = am_run (am_G am_prog N d) eX5_hourThatParts uX5_hourThatParts N 0 [(0, .ref t), (1, .int x1)] [] (mkh X I J) := by
  refine (am_G_at N d 87 mX5_hourThatParts _ _ rfl).trans ?_
  rcases ht with rfl | rfl | rfl | rfl | rfl <;> rfl
theorem gX5_hourThatParts (N d : Nat) {X : lt_X} {t : Nat} (ht : isT t) (x1 : Int32) (I : Nat → Nat → Int32) (J : Nat → Nat → Int64) : am_G am_prog (N + 30) (d + 1) 87 [.ref t, .int x1] (mkh X I J) = RX5_hourThatParts_0 N d (N + 30) X t x1 I J := fX5_hourThatParts (N + 30) (d + 0) ht x1 I J
def RX5_mostWithOne_0 (N d n : Nat) (X : lt_X) (t : Nat) (x1 : Int32) (x2 : Int32) (I : Nat → Nat → Int32) (J : Nat → Nat → Int64) : am_O := am_run (am_G am_prog (N + 30) (d + 0)) eX5_mostWithOne uX5_mostWithOne n 0 [(0, .ref t), (1, .int x1), (2, .int x2)] [] (mkh X I J)
def RX5_mostWithOne_5 (N d n : Nat) (X : lt_X) (t : Nat) (x1 : Int32) (x2 : Int32) (x3 : Int32) (x4 : Int32) (I : Nat → Nat → Int32) (J : Nat → Nat → Int64) : am_O := am_run (am_G am_prog (N + 30) (d + 0)) eX5_mostWithOne uX5_mostWithOne n 5 [(0, .ref t), (1, .int x1), (2, .int x2), (3, .int x3), (4, .int x4)] [] (mkh X I J)
def RX5_mostWithOne_22 (N d n : Nat) (X : lt_X) (t : Nat) (x1 : Int32) (x2 : Int32) (x3 : Int32) (x4 : Int32) (x5 : Int32) (x6 : Int32) (I : Nat → Nat → Int32) (J : Nat → Nat → Int64) : am_O := am_run (am_G am_prog (N + 30) (d + 0)) eX5_mostWithOne uX5_mostWithOne n 22 [(0, .ref t), (1, .int x1), (2, .int x2), (3, .int x3), (4, .int x4), (5, .int x5), (6, .int x6)] [] (mkh X I J)
def KX5_mostWithOne_0 (N d n : Nat) (t : Nat) (a0 : Int32) (a1 : Int32) (a2 : Int32) (a3 : Int32) (a4 : Int32) (a5 : Int32) (z : Int32) (h : am_H) : am_O := if z = a3 then am_run (am_G am_prog (N + 30) (d + 0)) eX5_mostWithOne uX5_mostWithOne n 22 [(0, .ref t), (1, .int a0), (2, .int a1), (3, .int a2), (4, .int a3), (5, .int (a4 + (nI 1))), (6, .int (a5 + (nI 1)))] [] h else am_run (am_G am_prog (N + 30) (d + 0)) eX5_mostWithOne uX5_mostWithOne n 22 [(0, .ref t), (1, .int a0), (2, .int a1), (3, .int a2), (4, .int a3), (5, .int a4), (6, .int (a5 + (nI 1)))] [] h
set_option maxHeartbeats 4000000 in
set_option maxRecDepth 100000 in
theorem sX5_mostWithOne_0 (N d n : Nat) {X : lt_X} {t : Nat} (ht : isT t) (x1 : Int32) (x2 : Int32) (I : Nat → Nat → Int32) (J : Nat → Nat → Int64) : RX5_mostWithOne_0 N d (n + 1) X t x1 x2 I J = RX5_mostWithOne_5 N d n X t x1 x2 (nI 0) (nI 0) I J := by
  rcases ht with rfl | rfl | rfl | rfl | rfl <;> rfl
set_option maxHeartbeats 4000000 in
set_option maxRecDepth 100000 in
theorem sX5_mostWithOne_5 (N d n : Nat) {X : lt_X} {t : Nat} (ht : isT t) (x1 : Int32) (x2 : Int32) (x3 : Int32) (x4 : Int32) (I : Nat → Nat → Int32) (J : Nat → Nat → Int64) : RX5_mostWithOne_5 N d (n + 1) X t x1 x2 x3 x4 I J = if x4 < (I (t + 2) 0) then RX5_mostWithOne_22 N d n X t x1 x2 x3 x4 (nI 0) (nI 0) I J else some (.int x3, (mkh X I J)) := by
  rcases ht with rfl | rfl | rfl | rfl | rfl <;> rfl
set_option maxHeartbeats 4000000 in
set_option maxRecDepth 100000 in
theorem sX5_mostWithOne_22 (N d n : Nat) {X : lt_X} {t : Nat} (ht : isT t) (x1 : Int32) (x2 : Int32) (x3 : Int32) (x4 : Int32) (x5 : Int32) (x6 : Int32) (I : Nat → Nat → Int32) (J : Nat → Nat → Int64) : RX5_mostWithOne_22 N d (n + 1) X t x1 x2 x3 x4 x5 x6 I J = if x6 < (I (t + 2) 1) then if ((x1 >>> (x6 &&& 31)) &&& (nI 1)) = nI 0 then RX5_mostWithOne_22 N d n X t x1 x2 x3 x4 x5 (x6 + (nI 1)) I J else am_cI (am_G am_prog (N + 30) (d + 0) 72 [.ref t, .int x6, .int x2] (mkh X I J)) (KX5_mostWithOne_0 N d n t x1 x2 x3 x4 x5 x6) else RX5_mostWithOne_5 N d n X t x1 x2 (if x3 < x5 then x5 else x3) (x4 + (nI 1)) I J := by
  rcases ht with rfl | rfl | rfl | rfl | rfl <;> rfl
set_option maxHeartbeats 4000000 in
set_option maxRecDepth 100000 in
theorem kX5_mostWithOne_0 (N d n : Nat) {X : lt_X} {t : Nat} (ht : isT t) (a0 : Int32) (a1 : Int32) (a2 : Int32) (a3 : Int32) (a4 : Int32) (a5 : Int32) (z : Int32) (I : Nat → Nat → Int32) (J : Nat → Nat → Int64) : KX5_mostWithOne_0 N d n t a0 a1 a2 a3 a4 a5 z (mkh X I J) = if z = a3 then RX5_mostWithOne_22 N d n X t a0 a1 a2 a3 (a4 + (nI 1)) (a5 + (nI 1)) I J else RX5_mostWithOne_22 N d n X t a0 a1 a2 a3 a4 (a5 + (nI 1)) I J := by
  rcases ht with rfl | rfl | rfl | rfl | rfl <;> rfl
theorem fX5_mostWithOne (N d : Nat) {X : lt_X} {t : Nat} (ht : isT t) (x1 : Int32) (x2 : Int32) (I : Nat → Nat → Int32) (J : Nat → Nat → Int64) : am_G am_prog N (d + 1) 88 [.ref t, .int x1, .int x2] (mkh X I J) = am_run (am_G am_prog N d) eX5_mostWithOne uX5_mostWithOne N 0 [(0, .ref t), (1, .int x1), (2, .int x2)] [] (mkh X I J) := by
  refine (am_G_at N d 88 mX5_mostWithOne _ _ rfl).trans ?_
  rcases ht with rfl | rfl | rfl | rfl | rfl <;> rfl
theorem gX5_mostWithOne (N d : Nat) {X : lt_X} {t : Nat} (ht : isT t) (x1 : Int32) (x2 : Int32) (I : Nat → Nat → Int32) (J : Nat → Nat → Int64) : am_G am_prog (N + 30) (d + 1) 88 [.ref t, .int x1, .int x2] (mkh X I J) = RX5_mostWithOne_0 N d (N + 30) X t x1 x2 I J := fX5_mostWithOne (N + 30) (d + 0) ht x1 x2 I J
def RX5_leastLike_0 (N d n : Nat) (X : lt_X) (t : Nat) (x1 : Int32) (x2 : Int32) (I : Nat → Nat → Int32) (J : Nat → Nat → Int64) : am_O := am_run (am_G am_prog (N + 30) (d + 0)) eX5_leastLike uX5_leastLike n 0 [(0, .ref t), (1, .int x1), (2, .int x2)] [] (mkh X I J)
def RX5_leastLike_6 (N d n : Nat) (X : lt_X) (t : Nat) (x1 : Int32) (x2 : Int32) (x3 : Int32) (x4 : Int32) (I : Nat → Nat → Int32) (J : Nat → Nat → Int64) : am_O := am_run (am_G am_prog (N + 30) (d + 0)) eX5_leastLike uX5_leastLike n 6 [(0, .ref t), (1, .int x1), (2, .int x2), (3, .int x3), (4, .int x4)] [] (mkh X I J)
set_option maxHeartbeats 4000000 in
set_option maxRecDepth 100000 in
theorem sX5_leastLike_0 (N d n : Nat) {X : lt_X} {t : Nat} (ht : isT t) (x1 : Int32) (x2 : Int32) (I : Nat → Nat → Int32) (J : Nat → Nat → Int64) : RX5_leastLike_0 N d (n + 1) X t x1 x2 I J = RX5_leastLike_6 N d n X t x1 x2 (nI 9) (nI 0) I J := by
  rcases ht with rfl | rfl | rfl | rfl | rfl <;> rfl
set_option maxHeartbeats 4000000 in
set_option maxRecDepth 100000 in
theorem sX5_leastLike_6 (N d n : Nat) {X : lt_X} {t : Nat} (ht : isT t) (x1 : Int32) (x2 : Int32) (x3 : Int32) (x4 : Int32) (I : Nat → Nat → Int32) (J : Nat → Nat → Int64) : RX5_leastLike_6 N d (n + 1) X t x1 x2 x3 x4 I J = if x4 < (I (t + 2) 2) then if ((x1 >>> (x4 &&& 31)) &&& (nI 1)) = nI 0 then RX5_leastLike_6 N d n X t x1 x2 x3 (x4 + (nI 1)) I J else if am_in ((x4 * (nI 6)) + x2) 36 then RX5_leastLike_6 N d n X t x1 x2 (if (I (t + 10) (((x4 * (nI 6)) + x2).toNatClampNeg)) < x3 then (I (t + 10) (((x4 * (nI 6)) + x2).toNatClampNeg)) else x3) (x4 + (nI 1)) I J else none else some (.int x3, (mkh X I J)) := by
  rcases ht with rfl | rfl | rfl | rfl | rfl <;> rfl
theorem fX5_leastLike (N d : Nat) {X : lt_X} {t : Nat} (ht : isT t) (x1 : Int32) (x2 : Int32) (I : Nat → Nat → Int32) (J : Nat → Nat → Int64) : am_G am_prog N (d + 1) 89 [.ref t, .int x1, .int x2] (mkh X I J) = am_run (am_G am_prog N d) eX5_leastLike uX5_leastLike N 0 [(0, .ref t), (1, .int x1), (2, .int x2)] [] (mkh X I J) := by
  refine (am_G_at N d 89 mX5_leastLike _ _ rfl).trans ?_
  rcases ht with rfl | rfl | rfl | rfl | rfl <;> rfl
theorem gX5_leastLike (N d : Nat) {X : lt_X} {t : Nat} (ht : isT t) (x1 : Int32) (x2 : Int32) (I : Nat → Nat → Int32) (J : Nat → Nat → Int64) : am_G am_prog (N + 30) (d + 1) 89 [.ref t, .int x1, .int x2] (mkh X I J) = RX5_leastLike_0 N d (N + 30) X t x1 x2 I J := fX5_leastLike (N + 30) (d + 0) ht x1 x2 I J
def RX5_likeOfAll_0 (N d n : Nat) (X : lt_X) (t : Nat) (x1 : Int32) (x2 : Int32) (I : Nat → Nat → Int32) (J : Nat → Nat → Int64) : am_O := am_run (am_G am_prog (N + 30) (d + 0)) eX5_likeOfAll uX5_likeOfAll n 0 [(0, .ref t), (1, .int x1), (2, .int x2)] [] (mkh X I J)
def RX5_likeOfAll_5 (N d n : Nat) (X : lt_X) (t : Nat) (x1 : Int32) (x2 : Int32) (x3 : Int32) (x4 : Int32) (I : Nat → Nat → Int32) (J : Nat → Nat → Int64) : am_O := am_run (am_G am_prog (N + 30) (d + 0)) eX5_likeOfAll uX5_likeOfAll n 5 [(0, .ref t), (1, .int x1), (2, .int x2), (3, .int x3), (4, .int x4)] [] (mkh X I J)
set_option maxHeartbeats 4000000 in
set_option maxRecDepth 100000 in
theorem sX5_likeOfAll_0 (N d n : Nat) {X : lt_X} {t : Nat} (ht : isT t) (x1 : Int32) (x2 : Int32) (I : Nat → Nat → Int32) (J : Nat → Nat → Int64) : RX5_likeOfAll_0 N d (n + 1) X t x1 x2 I J = RX5_likeOfAll_5 N d n X t x1 x2 (nI 0) (nI 0) I J := by
  rcases ht with rfl | rfl | rfl | rfl | rfl <;> rfl
set_option maxHeartbeats 4000000 in
set_option maxRecDepth 100000 in
theorem sX5_likeOfAll_5 (N d n : Nat) {X : lt_X} {t : Nat} (ht : isT t) (x1 : Int32) (x2 : Int32) (x3 : Int32) (x4 : Int32) (I : Nat → Nat → Int32) (J : Nat → Nat → Int64) : RX5_likeOfAll_5 N d (n + 1) X t x1 x2 x3 x4 I J = if x4 < (I (t + 2) 2) then if ((x1 >>> (x4 &&& 31)) &&& (nI 1)) = nI 0 then RX5_likeOfAll_5 N d n X t x1 x2 x3 (x4 + (nI 1)) I J else if am_in ((x4 * (nI 6)) + x2) 36 then RX5_likeOfAll_5 N d n X t x1 x2 (x3 + (I (t + 10) (((x4 * (nI 6)) + x2).toNatClampNeg))) (x4 + (nI 1)) I J else none else some (.int x3, (mkh X I J)) := by
  rcases ht with rfl | rfl | rfl | rfl | rfl <;> rfl
theorem fX5_likeOfAll (N d : Nat) {X : lt_X} {t : Nat} (ht : isT t) (x1 : Int32) (x2 : Int32) (I : Nat → Nat → Int32) (J : Nat → Nat → Int64) : am_G am_prog N (d + 1) 90 [.ref t, .int x1, .int x2] (mkh X I J) = am_run (am_G am_prog N d) eX5_likeOfAll uX5_likeOfAll N 0 [(0, .ref t), (1, .int x1), (2, .int x2)] [] (mkh X I J) := by
  refine (am_G_at N d 90 mX5_likeOfAll _ _ rfl).trans ?_
  rcases ht with rfl | rfl | rfl | rfl | rfl <;> rfl
theorem gX5_likeOfAll (N d : Nat) {X : lt_X} {t : Nat} (ht : isT t) (x1 : Int32) (x2 : Int32) (I : Nat → Nat → Int32) (J : Nat → Nat → Int64) : am_G am_prog (N + 30) (d + 1) 90 [.ref t, .int x1, .int x2] (mkh X I J) = RX5_likeOfAll_0 N d (N + 30) X t x1 x2 I J := fX5_likeOfAll (N + 30) (d + 0) ht x1 x2 I J
def RX5_subjectOfPeace_0 (N d n : Nat) (X : lt_X) (t : Nat) (x1 : Int32) (I : Nat → Nat → Int32) (J : Nat → Nat → Int64) : am_O := am_run (am_G am_prog (N + 30) (d + 0)) eX5_subjectOfPeace uX5_subjectOfPeace n 0 [(0, .ref t), (1, .int x1)] [] (mkh X I J)
def RX5_subjectOfPeace_4 (N d n : Nat) (X : lt_X) (t : Nat) (x1 : Int32) (x2 : Int32) (x3 : Int32) (I : Nat → Nat → Int32) (J : Nat → Nat → Int64) : am_O := am_run (am_G am_prog (N + 30) (d + 0)) eX5_subjectOfPeace uX5_subjectOfPeace n 4 [(0, .ref t), (1, .int x1), (2, .int x2), (3, .int x3)] [] (mkh X I J)
def KX5_subjectOfPeace_0 (N d n : Nat) (t : Nat) (a0 : Int32) (a1 : Int32) (a2 : Int32) (z : Int32) (h : am_H) : am_O := am_cI (am_G am_prog (N + 30) (d + 0) 89 [.ref t, .int a0, .int a1] h) (fun r2 h1 => if nI 0 < (z - r2) then am_run (am_G am_prog (N + 30) (d + 0)) eX5_subjectOfPeace uX5_subjectOfPeace n 4 [(0, .ref t), (1, .int a0), (2, .int a2), (3, .int (a2 + (nI 1)))] [] h1 else if (z - r2) = nI 0 then am_cI (am_G am_prog (N + 30) (d + 0) 90 [.ref t, .int a0, .int a2] h1) (fun r4 h3 => am_cI (am_G am_prog (N + 30) (d + 0) 90 [.ref t, .int a0, .int a1] h3) (fun r6 h5 => if r6 < r4 then am_run (am_G am_prog (N + 30) (d + 0)) eX5_subjectOfPeace uX5_subjectOfPeace n 4 [(0, .ref t), (1, .int a0), (2, .int a2), (3, .int (a2 + (nI 1)))] [] h5 else am_run (am_G am_prog (N + 30) (d + 0)) eX5_subjectOfPeace uX5_subjectOfPeace n 4 [(0, .ref t), (1, .int a0), (2, .int a1), (3, .int (a2 + (nI 1)))] [] h5)) else am_run (am_G am_prog (N + 30) (d + 0)) eX5_subjectOfPeace uX5_subjectOfPeace n 4 [(0, .ref t), (1, .int a0), (2, .int a1), (3, .int (a2 + (nI 1)))] [] h1)
def KX5_subjectOfPeace_1 (N d n : Nat) (t : Nat) (a0 : Int32) (a1 : Int32) (a2 : Int32) (a3 : Int32) (z : Int32) (h : am_H) : am_O := if nI 0 < (a3 - z) then am_run (am_G am_prog (N + 30) (d + 0)) eX5_subjectOfPeace uX5_subjectOfPeace n 4 [(0, .ref t), (1, .int a0), (2, .int a2), (3, .int (a2 + (nI 1)))] [] h else if (a3 - z) = nI 0 then am_cI (am_G am_prog (N + 30) (d + 0) 90 [.ref t, .int a0, .int a2] h) (fun r2 h1 => am_cI (am_G am_prog (N + 30) (d + 0) 90 [.ref t, .int a0, .int a1] h1) (fun r4 h3 => if r4 < r2 then am_run (am_G am_prog (N + 30) (d + 0)) eX5_subjectOfPeace uX5_subjectOfPeace n 4 [(0, .ref t), (1, .int a0), (2, .int a2), (3, .int (a2 + (nI 1)))] [] h3 else am_run (am_G am_prog (N + 30) (d + 0)) eX5_subjectOfPeace uX5_subjectOfPeace n 4 [(0, .ref t), (1, .int a0), (2, .int a1), (3, .int (a2 + (nI 1)))] [] h3)) else am_run (am_G am_prog (N + 30) (d + 0)) eX5_subjectOfPeace uX5_subjectOfPeace n 4 [(0, .ref t), (1, .int a0), (2, .int a1), (3, .int (a2 + (nI 1)))] [] h
def KX5_subjectOfPeace_2 (N d n : Nat) (t : Nat) (a0 : Int32) (a1 : Int32) (a2 : Int32) (z : Int32) (h : am_H) : am_O := am_cI (am_G am_prog (N + 30) (d + 0) 90 [.ref t, .int a0, .int a1] h) (fun r2 h1 => if r2 < z then am_run (am_G am_prog (N + 30) (d + 0)) eX5_subjectOfPeace uX5_subjectOfPeace n 4 [(0, .ref t), (1, .int a0), (2, .int a2), (3, .int (a2 + (nI 1)))] [] h1 else am_run (am_G am_prog (N + 30) (d + 0)) eX5_subjectOfPeace uX5_subjectOfPeace n 4 [(0, .ref t), (1, .int a0), (2, .int a1), (3, .int (a2 + (nI 1)))] [] h1)
def KX5_subjectOfPeace_3 (N d n : Nat) (t : Nat) (a0 : Int32) (a1 : Int32) (a2 : Int32) (a3 : Int32) (z : Int32) (h : am_H) : am_O := if z < a3 then am_run (am_G am_prog (N + 30) (d + 0)) eX5_subjectOfPeace uX5_subjectOfPeace n 4 [(0, .ref t), (1, .int a0), (2, .int a2), (3, .int (a2 + (nI 1)))] [] h else am_run (am_G am_prog (N + 30) (d + 0)) eX5_subjectOfPeace uX5_subjectOfPeace n 4 [(0, .ref t), (1, .int a0), (2, .int a1), (3, .int (a2 + (nI 1)))] [] h
set_option maxHeartbeats 4000000 in
set_option maxRecDepth 100000 in
theorem sX5_subjectOfPeace_0 (N d n : Nat) {X : lt_X} {t : Nat} (ht : isT t) (x1 : Int32) (I : Nat → Nat → Int32) (J : Nat → Nat → Int64) : RX5_subjectOfPeace_0 N d (n + 1) X t x1 I J = RX5_subjectOfPeace_4 N d n X t x1 (nI 0) (nI 1) I J := by
  rcases ht with rfl | rfl | rfl | rfl | rfl <;> rfl
set_option maxHeartbeats 4000000 in
set_option maxRecDepth 100000 in
theorem sX5_subjectOfPeace_4 (N d n : Nat) {X : lt_X} {t : Nat} (ht : isT t) (x1 : Int32) (x2 : Int32) (x3 : Int32) (I : Nat → Nat → Int32) (J : Nat → Nat → Int64) : RX5_subjectOfPeace_4 N d (n + 1) X t x1 x2 x3 I J = if x3 < (I (t + 2) 0) then am_cI (am_G am_prog (N + 30) (d + 0) 89 [.ref t, .int x1, .int x3] (mkh X I J)) (KX5_subjectOfPeace_0 N d n t x1 x2 x3) else some (.int x2, (mkh X I J)) := by
  rcases ht with rfl | rfl | rfl | rfl | rfl <;> rfl
set_option maxHeartbeats 4000000 in
set_option maxRecDepth 100000 in
theorem kX5_subjectOfPeace_0 (N d n : Nat) {X : lt_X} {t : Nat} (ht : isT t) (a0 : Int32) (a1 : Int32) (a2 : Int32) (z : Int32) (I : Nat → Nat → Int32) (J : Nat → Nat → Int64) : KX5_subjectOfPeace_0 N d n t a0 a1 a2 z (mkh X I J) = am_cI (am_G am_prog (N + 30) (d + 0) 89 [.ref t, .int a0, .int a1] (mkh X I J)) (KX5_subjectOfPeace_1 N d n t a0 a1 a2 z) := by
  rcases ht with rfl | rfl | rfl | rfl | rfl <;> rfl
set_option maxHeartbeats 4000000 in
set_option maxRecDepth 100000 in
theorem kX5_subjectOfPeace_1 (N d n : Nat) {X : lt_X} {t : Nat} (ht : isT t) (a0 : Int32) (a1 : Int32) (a2 : Int32) (a3 : Int32) (z : Int32) (I : Nat → Nat → Int32) (J : Nat → Nat → Int64) : KX5_subjectOfPeace_1 N d n t a0 a1 a2 a3 z (mkh X I J) = if nI 0 < (a3 - z) then RX5_subjectOfPeace_4 N d n X t a0 a2 (a2 + (nI 1)) I J else if (a3 - z) = nI 0 then am_cI (am_G am_prog (N + 30) (d + 0) 90 [.ref t, .int a0, .int a2] (mkh X I J)) (KX5_subjectOfPeace_2 N d n t a0 a1 a2) else RX5_subjectOfPeace_4 N d n X t a0 a1 (a2 + (nI 1)) I J := by
  rcases ht with rfl | rfl | rfl | rfl | rfl <;> rfl
set_option maxHeartbeats 4000000 in
set_option maxRecDepth 100000 in
theorem kX5_subjectOfPeace_2 (N d n : Nat) {X : lt_X} {t : Nat} (ht : isT t) (a0 : Int32) (a1 : Int32) (a2 : Int32) (z : Int32) (I : Nat → Nat → Int32) (J : Nat → Nat → Int64) : KX5_subjectOfPeace_2 N d n t a0 a1 a2 z (mkh X I J) = am_cI (am_G am_prog (N + 30) (d + 0) 90 [.ref t, .int a0, .int a1] (mkh X I J)) (KX5_subjectOfPeace_3 N d n t a0 a1 a2 z) := by
  rcases ht with rfl | rfl | rfl | rfl | rfl <;> rfl
set_option maxHeartbeats 4000000 in
set_option maxRecDepth 100000 in
theorem kX5_subjectOfPeace_3 (N d n : Nat) {X : lt_X} {t : Nat} (ht : isT t) (a0 : Int32) (a1 : Int32) (a2 : Int32) (a3 : Int32) (z : Int32) (I : Nat → Nat → Int32) (J : Nat → Nat → Int64) : KX5_subjectOfPeace_3 N d n t a0 a1 a2 a3 z (mkh X I J) = if z < a3 then RX5_subjectOfPeace_4 N d n X t a0 a2 (a2 + (nI 1)) I J else RX5_subjectOfPeace_4 N d n X t a0 a1 (a2 + (nI 1)) I J := by
  rcases ht with rfl | rfl | rfl | rfl | rfl <;> rfl
theorem fX5_subjectOfPeace (N d : Nat) {X : lt_X} {t : Nat} (ht : isT t) (x1 : Int32) (I : Nat → Nat → Int32) (J : Nat → Nat → Int64) : am_G am_prog N (d + 1) 91 [.ref t, .int x1] (mkh X I J) = am_run (am_G am_prog N d) eX5_subjectOfPeace uX5_subjectOfPeace N 0 [(0, .ref t), (1, .int x1)] [] (mkh X I J) := by
  refine (am_G_at N d 91 mX5_subjectOfPeace _ _ rfl).trans ?_
  rcases ht with rfl | rfl | rfl | rfl | rfl <;> rfl
theorem gX5_subjectOfPeace (N d : Nat) {X : lt_X} {t : Nat} (ht : isT t) (x1 : Int32) (I : Nat → Nat → Int32) (J : Nat → Nat → Int64) : am_G am_prog (N + 30) (d + 1) 91 [.ref t, .int x1] (mkh X I J) = RX5_subjectOfPeace_0 N d (N + 30) X t x1 I J := fX5_subjectOfPeace (N + 30) (d + 0) ht x1 I J
def RX5_fansAmong_0 (N d n : Nat) (X : lt_X) (t : Nat) (x1 : Int32) (x2 : Int32) (I : Nat → Nat → Int32) (J : Nat → Nat → Int64) : am_O := am_run (am_G am_prog (N + 30) (d + 0)) eX5_fansAmong uX5_fansAmong n 0 [(0, .ref t), (1, .int x1), (2, .int x2)] [] (mkh X I J)
def RX5_fansAmong_5 (N d n : Nat) (X : lt_X) (t : Nat) (x1 : Int32) (x2 : Int32) (x3 : Int32) (x4 : Int32) (I : Nat → Nat → Int32) (J : Nat → Nat → Int64) : am_O := am_run (am_G am_prog (N + 30) (d + 0)) eX5_fansAmong uX5_fansAmong n 5 [(0, .ref t), (1, .int x1), (2, .int x2), (3, .int x3), (4, .int x4)] [] (mkh X I J)
set_option maxHeartbeats 4000000 in
set_option maxRecDepth 100000 in
theorem sX5_fansAmong_0 (N d n : Nat) {X : lt_X} {t : Nat} (ht : isT t) (x1 : Int32) (x2 : Int32) (I : Nat → Nat → Int32) (J : Nat → Nat → Int64) : RX5_fansAmong_0 N d (n + 1) X t x1 x2 I J = RX5_fansAmong_5 N d n X t x1 x2 (nI 0) (nI 0) I J := by
  rcases ht with rfl | rfl | rfl | rfl | rfl <;> rfl
set_option maxHeartbeats 4000000 in
set_option maxRecDepth 100000 in
theorem sX5_fansAmong_5 (N d n : Nat) {X : lt_X} {t : Nat} (ht : isT t) (x1 : Int32) (x2 : Int32) (x3 : Int32) (x4 : Int32) (I : Nat → Nat → Int32) (J : Nat → Nat → Int64) : RX5_fansAmong_5 N d (n + 1) X t x1 x2 x3 x4 I J = if x4 < (I (t + 2) 2) then if ((x1 >>> (x4 &&& 31)) &&& (nI 1)) = nI 0 then RX5_fansAmong_5 N d n X t x1 x2 x3 (x4 + (nI 1)) I J else if am_in ((x4 * (nI 6)) + x2) 36 then if (I (t + 10) (((x4 * (nI 6)) + x2).toNatClampNeg)) < (nI 5) then RX5_fansAmong_5 N d n X t x1 x2 x3 (x4 + (nI 1)) I J else RX5_fansAmong_5 N d n X t x1 x2 (x3 + (nI 1)) (x4 + (nI 1)) I J else none else some (.int x3, (mkh X I J)) := by
  rcases ht with rfl | rfl | rfl | rfl | rfl <;> rfl
theorem fX5_fansAmong (N d : Nat) {X : lt_X} {t : Nat} (ht : isT t) (x1 : Int32) (x2 : Int32) (I : Nat → Nat → Int32) (J : Nat → Nat → Int64) : am_G am_prog N (d + 1) 92 [.ref t, .int x1, .int x2] (mkh X I J) = am_run (am_G am_prog N d) eX5_fansAmong uX5_fansAmong N 0 [(0, .ref t), (1, .int x1), (2, .int x2)] [] (mkh X I J) := by
  refine (am_G_at N d 92 mX5_fansAmong _ _ rfl).trans ?_
  rcases ht with rfl | rfl | rfl | rfl | rfl <;> rfl
theorem gX5_fansAmong (N d : Nat) {X : lt_X} {t : Nat} (ht : isT t) (x1 : Int32) (x2 : Int32) (I : Nat → Nat → Int32) (J : Nat → Nat → Int64) : am_G am_prog (N + 30) (d + 1) 92 [.ref t, .int x1, .int x2] (mkh X I J) = RX5_fansAmong_0 N d (N + 30) X t x1 x2 I J := fX5_fansAmong (N + 30) (d + 0) ht x1 x2 I J
def RX5_popularAmong_0 (N d n : Nat) (X : lt_X) (t : Nat) (x1 : Int32) (I : Nat → Nat → Int32) (J : Nat → Nat → Int64) : am_O := am_run (am_G am_prog (N + 30) (d + 0)) eX5_popularAmong uX5_popularAmong n 0 [(0, .ref t), (1, .int x1)] [] (mkh X I J)
def RX5_popularAmong_4 (N d n : Nat) (X : lt_X) (t : Nat) (x1 : Int32) (x2 : Int32) (x3 : Int32) (I : Nat → Nat → Int32) (J : Nat → Nat → Int64) : am_O := am_run (am_G am_prog (N + 30) (d + 0)) eX5_popularAmong uX5_popularAmong n 4 [(0, .ref t), (1, .int x1), (2, .int x2), (3, .int x3)] [] (mkh X I J)
def KX5_popularAmong_0 (N d n : Nat) (t : Nat) (a0 : Int32) (a1 : Int32) (a2 : Int32) (z : Int32) (h : am_H) : am_O := am_cI (am_G am_prog (N + 30) (d + 0) 92 [.ref t, .int a0, .int a1] h) (fun r2 h1 => if r2 < z then am_run (am_G am_prog (N + 30) (d + 0)) eX5_popularAmong uX5_popularAmong n 4 [(0, .ref t), (1, .int a0), (2, .int a2), (3, .int (a2 + (nI 1)))] [] h1 else am_run (am_G am_prog (N + 30) (d + 0)) eX5_popularAmong uX5_popularAmong n 4 [(0, .ref t), (1, .int a0), (2, .int a1), (3, .int (a2 + (nI 1)))] [] h1)
def KX5_popularAmong_1 (N d n : Nat) (t : Nat) (a0 : Int32) (a1 : Int32) (a2 : Int32) (a3 : Int32) (z : Int32) (h : am_H) : am_O := if z < a3 then am_run (am_G am_prog (N + 30) (d + 0)) eX5_popularAmong uX5_popularAmong n 4 [(0, .ref t), (1, .int a0), (2, .int a2), (3, .int (a2 + (nI 1)))] [] h else am_run (am_G am_prog (N + 30) (d + 0)) eX5_popularAmong uX5_popularAmong n 4 [(0, .ref t), (1, .int a0), (2, .int a1), (3, .int (a2 + (nI 1)))] [] h
set_option maxHeartbeats 4000000 in
set_option maxRecDepth 100000 in
theorem sX5_popularAmong_0 (N d n : Nat) {X : lt_X} {t : Nat} (ht : isT t) (x1 : Int32) (I : Nat → Nat → Int32) (J : Nat → Nat → Int64) : RX5_popularAmong_0 N d (n + 1) X t x1 I J = RX5_popularAmong_4 N d n X t x1 (nI 0) (nI 1) I J := by
  rcases ht with rfl | rfl | rfl | rfl | rfl <;> rfl
set_option maxHeartbeats 4000000 in
set_option maxRecDepth 100000 in
theorem sX5_popularAmong_4 (N d n : Nat) {X : lt_X} {t : Nat} (ht : isT t) (x1 : Int32) (x2 : Int32) (x3 : Int32) (I : Nat → Nat → Int32) (J : Nat → Nat → Int64) : RX5_popularAmong_4 N d (n + 1) X t x1 x2 x3 I J = if x3 < (I (t + 2) 0) then am_cI (am_G am_prog (N + 30) (d + 0) 92 [.ref t, .int x1, .int x3] (mkh X I J)) (KX5_popularAmong_0 N d n t x1 x2 x3) else some (.int x2, (mkh X I J)) := by
  rcases ht with rfl | rfl | rfl | rfl | rfl <;> rfl
set_option maxHeartbeats 4000000 in
set_option maxRecDepth 100000 in
theorem kX5_popularAmong_0 (N d n : Nat) {X : lt_X} {t : Nat} (ht : isT t) (a0 : Int32) (a1 : Int32) (a2 : Int32) (z : Int32) (I : Nat → Nat → Int32) (J : Nat → Nat → Int64) : KX5_popularAmong_0 N d n t a0 a1 a2 z (mkh X I J) = am_cI (am_G am_prog (N + 30) (d + 0) 92 [.ref t, .int a0, .int a1] (mkh X I J)) (KX5_popularAmong_1 N d n t a0 a1 a2 z) := by
  rcases ht with rfl | rfl | rfl | rfl | rfl <;> rfl
set_option maxHeartbeats 4000000 in
set_option maxRecDepth 100000 in
theorem kX5_popularAmong_1 (N d n : Nat) {X : lt_X} {t : Nat} (ht : isT t) (a0 : Int32) (a1 : Int32) (a2 : Int32) (a3 : Int32) (z : Int32) (I : Nat → Nat → Int32) (J : Nat → Nat → Int64) : KX5_popularAmong_1 N d n t a0 a1 a2 a3 z (mkh X I J) = if z < a3 then RX5_popularAmong_4 N d n X t a0 a2 (a2 + (nI 1)) I J else RX5_popularAmong_4 N d n X t a0 a1 (a2 + (nI 1)) I J := by
  rcases ht with rfl | rfl | rfl | rfl | rfl <;> rfl
theorem fX5_popularAmong (N d : Nat) {X : lt_X} {t : Nat} (ht : isT t) (x1 : Int32) (I : Nat → Nat → Int32) (J : Nat → Nat → Int64) : am_G am_prog N (d + 1) 93 [.ref t, .int x1] (mkh X I J) = am_run (am_G am_prog N d) eX5_popularAmong uX5_popularAmong N 0 [(0, .ref t), (1, .int x1)] [] (mkh X I J) := by
  refine (am_G_at N d 93 mX5_popularAmong _ _ rfl).trans ?_
  rcases ht with rfl | rfl | rfl | rfl | rfl <;> rfl
theorem gX5_popularAmong (N d : Nat) {X : lt_X} {t : Nat} (ht : isT t) (x1 : Int32) (I : Nat → Nat → Int32) (J : Nat → Nat → Int64) : am_G am_prog (N + 30) (d + 1) 93 [.ref t, .int x1] (mkh X I J) = RX5_popularAmong_0 N d (N + 30) X t x1 I J := fX5_popularAmong (N + 30) (d + 0) ht x1 I J
def RX7_lay_0 (N d n : Nat) (X : lt_X) (tr : Nat) (x1 : Int32) (x2 : Int32) (I : Nat → Nat → Int32) (J : Nat → Nat → Int64) : am_O := am_run (am_G am_prog (N + 30) (d + 0)) eX7_lay uX7_lay n 0 [(0, .ref tr), (1, .int x1), (2, .int x2)] [] (mkh X I J)
def RX7_lay_17 (N d n : Nat) (X : lt_X) (tr : Nat) (x3 : Int32) (I : Nat → Nat → Int32) (J : Nat → Nat → Int64) : am_O := am_run (am_G am_prog (N + 30) (d + 0)) eX7_lay uX7_lay n 17 [(0, .ref tr), (3, .int x3)] [] (mkh X I J)
set_option maxHeartbeats 4000000 in
set_option maxRecDepth 100000 in
theorem sX7_lay_0 (N d n : Nat) {X : lt_X} {tr : Nat} (htr : isTr tr) (x1 : Int32) (x2 : Int32) (I : Nat → Nat → Int32) (J : Nat → Nat → Int64) : RX7_lay_0 N d (n + 1) X tr x1 x2 I J = RX7_lay_17 N d n X tr (nI 0) (u2 (u2 (u2 I tr 1 (nI 1)) tr 2 x1) tr 3 x2) J := by
  rcases htr with rfl | rfl | rfl | rfl <;> rfl
set_option maxHeartbeats 4000000 in
set_option maxRecDepth 100000 in
theorem sX7_lay_17 (N d n : Nat) {X : lt_X} {tr : Nat} (htr : isTr tr) (x3 : Int32) (I : Nat → Nat → Int32) (J : Nat → Nat → Int64) : RX7_lay_17 N d (n + 1) X tr x3 I J = if x3 < (nI 60) then if am_in x3 60 then RX7_lay_17 N d n X tr (x3 + (nI 1)) I (u2L J (tr + 1) x3.toNatClampNeg (lN 0)) else none else some (.null, (mkh X I J)) := by
  rcases htr with rfl | rfl | rfl | rfl <;> rfl
theorem fX7_lay (N d : Nat) {X : lt_X} {tr : Nat} (htr : isTr tr) (x1 : Int32) (x2 : Int32) (I : Nat → Nat → Int32) (J : Nat → Nat → Int64) : am_G am_prog N (d + 1) 106 [.ref tr, .int x1, .int x2] (mkh X I J) = am_run (am_G am_prog N d) eX7_lay uX7_lay N 0 [(0, .ref tr), (1, .int x1), (2, .int x2)] [] (mkh X I J) := by
  refine (am_G_at N d 106 mX7_lay _ _ rfl).trans ?_
  rcases htr with rfl | rfl | rfl | rfl <;> rfl
theorem gX7_lay (N d : Nat) {X : lt_X} {tr : Nat} (htr : isTr tr) (x1 : Int32) (x2 : Int32) (I : Nat → Nat → Int32) (J : Nat → Nat → Int64) : am_G am_prog (N + 30) (d + 1) 106 [.ref tr, .int x1, .int x2] (mkh X I J) = RX7_lay_0 N d (N + 30) X tr x1 x2 I J := fX7_lay (N + 30) (d + 0) htr x1 x2 I J
def RX7_hasRun_0 (N d n : Nat) (X : lt_X) (tr : Nat) (x1 : Int32) (x2 : Int32) (I : Nat → Nat → Int32) (J : Nat → Nat → Int64) : am_O := am_run (am_G am_prog (N + 30) (d + 0)) eX7_hasRun uX7_hasRun n 0 [(0, .ref tr), (1, .int x1), (2, .int x2)] [] (mkh X I J)
set_option maxHeartbeats 4000000 in
set_option maxRecDepth 100000 in
theorem sX7_hasRun_0 (N d n : Nat) {X : lt_X} {tr : Nat} (htr : isTr tr) (x1 : Int32) (x2 : Int32) (I : Nat → Nat → Int32) (J : Nat → Nat → Int64) : RX7_hasRun_0 N d (n + 1) X tr x1 x2 I J = if x1 < nI 0 then some (.int (nI 0), (mkh X I J)) else if nI 0 < (lg_cmp (x1.toInt64 + x2.toInt64) ((I tr 3).toInt64)) then some (.int (nI 0), (mkh X I J)) else some (.int (nI 1), (mkh X I J)) := by
  rcases htr with rfl | rfl | rfl | rfl <;> rfl
theorem fX7_hasRun (N d : Nat) {X : lt_X} {tr : Nat} (htr : isTr tr) (x1 : Int32) (x2 : Int32) (I : Nat → Nat → Int32) (J : Nat → Nat → Int64) : am_G am_prog N (d + 1) 107 [.ref tr, .int x1, .int x2] (mkh X I J) = am_run (am_G am_prog N d) eX7_hasRun uX7_hasRun N 0 [(0, .ref tr), (1, .int x1), (2, .int x2)] [] (mkh X I J) := by
  refine (am_G_at N d 107 mX7_hasRun _ _ rfl).trans ?_
  rcases htr with rfl | rfl | rfl | rfl <;> rfl
theorem gX7_hasRun (N d : Nat) {X : lt_X} {tr : Nat} (htr : isTr tr) (x1 : Int32) (x2 : Int32) (I : Nat → Nat → Int32) (J : Nat → Nat → Int64) : am_G am_prog (N + 30) (d + 1) 107 [.ref tr, .int x1, .int x2] (mkh X I J) = RX7_hasRun_0 N d (N + 30) X tr x1 x2 I J := fX7_hasRun (N + 30) (d + 0) htr x1 x2 I J
def RX7_put_0 (N d n : Nat) (X : lt_X) (tr : Nat) (x1 : Int32) (x2 : Int64) (I : Nat → Nat → Int32) (J : Nat → Nat → Int64) : am_O := am_run (am_G am_prog (N + 30) (d + 0)) eX7_put uX7_put n 0 [(0, .ref tr), (1, .int x1), (2, .long x2)] [] (mkh X I J)
set_option maxHeartbeats 4000000 in
set_option maxRecDepth 100000 in
theorem sX7_put_0 (N d n : Nat) {X : lt_X} {tr : Nat} (htr : isTr tr) (x1 : Int32) (x2 : Int64) (I : Nat → Nat → Int32) (J : Nat → Nat → Int64) : RX7_put_0 N d (n + 1) X tr x1 x2 I J = if (I tr 2) = nI 0 then if am_in x1 60 then some (.null, (mkh X I (u2L J (tr + 1) x1.toNatClampNeg x2.toInt32.toInt8.toInt32.toInt64))) else none else if (I tr 2) = (nI 1) then if am_in x1 60 then some (.null, (mkh X I (u2L J (tr + 1) x1.toNatClampNeg x2.toInt32.toInt16.toInt32.toInt64))) else none else if (I tr 2) = (nI 2) then if am_in x1 60 then some (.null, (mkh X I (u2L J (tr + 1) x1.toNatClampNeg x2.toInt32.toInt64))) else none else if am_in x1 60 then some (.null, (mkh X I (u2L J (tr + 1) x1.toNatClampNeg x2))) else none := by
  rcases htr with rfl | rfl | rfl | rfl <;> rfl
theorem fX7_put (N d : Nat) {X : lt_X} {tr : Nat} (htr : isTr tr) (x1 : Int32) (x2 : Int64) (I : Nat → Nat → Int32) (J : Nat → Nat → Int64) : am_G am_prog N (d + 1) 108 [.ref tr, .int x1, .long x2] (mkh X I J) = am_run (am_G am_prog N d) eX7_put uX7_put N 0 [(0, .ref tr), (1, .int x1), (2, .long x2)] [] (mkh X I J) := by
  refine (am_G_at N d 108 mX7_put _ _ rfl).trans ?_
  rcases htr with rfl | rfl | rfl | rfl <;> rfl
theorem gX7_put (N d : Nat) {X : lt_X} {tr : Nat} (htr : isTr tr) (x1 : Int32) (x2 : Int64) (I : Nat → Nat → Int32) (J : Nat → Nat → Int64) : am_G am_prog (N + 30) (d + 1) 108 [.ref tr, .int x1, .long x2] (mkh X I J) = RX7_put_0 N d (N + 30) X tr x1 x2 I J := fX7_put (N + 30) (d + 0) htr x1 x2 I J
def RJ6_bitCount_0f7a4_0 (N d n : Nat) (X : lt_X) (x0 : Int32) (I : Nat → Nat → Int32) (J : Nat → Nat → Int64) : am_O := am_run (am_G am_prog (N + 30) (d + 0)) eJ6_bitCount_0f7a4 uJ6_bitCount_0f7a4 n 0 [(0, .int x0)] [] (mkh X I J)
set_option maxHeartbeats 4000000 in
set_option maxRecDepth 100000 in
theorem sJ6_bitCount_0f7a4_0 (N d n : Nat) {X : lt_X} (x0 : Int32) (I : Nat → Nat → Int32) (J : Nat → Nat → Int64) : RJ6_bitCount_0f7a4_0 N d (n + 1) X x0 I J = some (.int ((((((((x0 - (((x0.toUInt32 >>> ((nI 1).toUInt32 &&& Int32.toUInt32 31)).toInt32) &&& (nI 1431655765))) &&& (nI 858993459)) + ((((x0 - (((x0.toUInt32 >>> ((nI 1).toUInt32 &&& Int32.toUInt32 31)).toInt32) &&& (nI 1431655765))).toUInt32 >>> ((nI 2).toUInt32 &&& Int32.toUInt32 31)).toInt32) &&& (nI 858993459))) + (((((x0 - (((x0.toUInt32 >>> ((nI 1).toUInt32 &&& Int32.toUInt32 31)).toInt32) &&& (nI 1431655765))) &&& (nI 858993459)) + ((((x0 - (((x0.toUInt32 >>> ((nI 1).toUInt32 &&& Int32.toUInt32 31)).toInt32) &&& (nI 1431655765))).toUInt32 >>> ((nI 2).toUInt32 &&& Int32.toUInt32 31)).toInt32) &&& (nI 858993459))).toUInt32 >>> ((nI 4).toUInt32 &&& Int32.toUInt32 31)).toInt32)) &&& (nI 252645135)) + (((((((x0 - (((x0.toUInt32 >>> ((nI 1).toUInt32 &&& Int32.toUInt32 31)).toInt32) &&& (nI 1431655765))) &&& (nI 858993459)) + ((((x0 - (((x0.toUInt32 >>> ((nI 1).toUInt32 &&& Int32.toUInt32 31)).toInt32) &&& (nI 1431655765))).toUInt32 >>> ((nI 2).toUInt32 &&& Int32.toUInt32 31)).toInt32) &&& (nI 858993459))) + (((((x0 - (((x0.toUInt32 >>> ((nI 1).toUInt32 &&& Int32.toUInt32 31)).toInt32) &&& (nI 1431655765))) &&& (nI 858993459)) + ((((x0 - (((x0.toUInt32 >>> ((nI 1).toUInt32 &&& Int32.toUInt32 31)).toInt32) &&& (nI 1431655765))).toUInt32 >>> ((nI 2).toUInt32 &&& Int32.toUInt32 31)).toInt32) &&& (nI 858993459))).toUInt32 >>> ((nI 4).toUInt32 &&& Int32.toUInt32 31)).toInt32)) &&& (nI 252645135)).toUInt32 >>> ((nI 8).toUInt32 &&& Int32.toUInt32 31)).toInt32)) + ((((((((x0 - (((x0.toUInt32 >>> ((nI 1).toUInt32 &&& Int32.toUInt32 31)).toInt32) &&& (nI 1431655765))) &&& (nI 858993459)) + ((((x0 - (((x0.toUInt32 >>> ((nI 1).toUInt32 &&& Int32.toUInt32 31)).toInt32) &&& (nI 1431655765))).toUInt32 >>> ((nI 2).toUInt32 &&& Int32.toUInt32 31)).toInt32) &&& (nI 858993459))) + (((((x0 - (((x0.toUInt32 >>> ((nI 1).toUInt32 &&& Int32.toUInt32 31)).toInt32) &&& (nI 1431655765))) &&& (nI 858993459)) + ((((x0 - (((x0.toUInt32 >>> ((nI 1).toUInt32 &&& Int32.toUInt32 31)).toInt32) &&& (nI 1431655765))).toUInt32 >>> ((nI 2).toUInt32 &&& Int32.toUInt32 31)).toInt32) &&& (nI 858993459))).toUInt32 >>> ((nI 4).toUInt32 &&& Int32.toUInt32 31)).toInt32)) &&& (nI 252645135)) + (((((((x0 - (((x0.toUInt32 >>> ((nI 1).toUInt32 &&& Int32.toUInt32 31)).toInt32) &&& (nI 1431655765))) &&& (nI 858993459)) + ((((x0 - (((x0.toUInt32 >>> ((nI 1).toUInt32 &&& Int32.toUInt32 31)).toInt32) &&& (nI 1431655765))).toUInt32 >>> ((nI 2).toUInt32 &&& Int32.toUInt32 31)).toInt32) &&& (nI 858993459))) + (((((x0 - (((x0.toUInt32 >>> ((nI 1).toUInt32 &&& Int32.toUInt32 31)).toInt32) &&& (nI 1431655765))) &&& (nI 858993459)) + ((((x0 - (((x0.toUInt32 >>> ((nI 1).toUInt32 &&& Int32.toUInt32 31)).toInt32) &&& (nI 1431655765))).toUInt32 >>> ((nI 2).toUInt32 &&& Int32.toUInt32 31)).toInt32) &&& (nI 858993459))).toUInt32 >>> ((nI 4).toUInt32 &&& Int32.toUInt32 31)).toInt32)) &&& (nI 252645135)).toUInt32 >>> ((nI 8).toUInt32 &&& Int32.toUInt32 31)).toInt32)).toUInt32 >>> ((nI 16).toUInt32 &&& Int32.toUInt32 31)).toInt32)) &&& (nI 63)), (mkh X I J)) := by
  rfl
theorem fJ6_bitCount_0f7a4 (N d : Nat) {X : lt_X} (x0 : Int32) (I : Nat → Nat → Int32) (J : Nat → Nat → Int64) : am_G am_prog N (d + 1) 356 [.int x0] (mkh X I J) = am_run (am_G am_prog N d) eJ6_bitCount_0f7a4 uJ6_bitCount_0f7a4 N 0 [(0, .int x0)] [] (mkh X I J) := by
  refine (am_G_at N d 356 mJ6_bitCount_0f7a4 _ _ rfl).trans ?_
  rfl
theorem gJ6_bitCount_0f7a4 (N d : Nat) {X : lt_X} (x0 : Int32) (I : Nat → Nat → Int32) (J : Nat → Nat → Int64) : am_G am_prog (N + 30) (d + 1) 356 [.int x0] (mkh X I J) = RJ6_bitCount_0f7a4_0 N d (N + 30) X x0 I J := fJ6_bitCount_0f7a4 (N + 30) (d + 0) x0 I J
