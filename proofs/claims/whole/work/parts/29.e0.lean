/-! printed by wip/whole/eqs4.py (sym4.py) -/
def RX0_weigh_0 (N d n : Nat) (X : lt_X) (t : Nat) (I : Nat → Nat → Int32) (J : Nat → Nat → Int64) : am_O := am_run (am_G am_prog (N + 30) (d + 0)) eX0_weigh uX0_weigh n 0 [(0, .ref 126), (1, .ref t)] [] (mkh X I J)
def RX0_weigh_2 (N d n : Nat) (X : lt_X) (t : Nat) (x2 : Int32) (I : Nat → Nat → Int32) (J : Nat → Nat → Int64) : am_O := am_run (am_G am_prog (N + 30) (d + 0)) eX0_weigh uX0_weigh n 2 [(0, .ref 126), (1, .ref t), (2, .int x2)] [] (mkh X I J)
def RX0_weigh_14 (N d n : Nat) (X : lt_X) (t : Nat) (x2 : Int32) (x3 : Int32) (I : Nat → Nat → Int32) (J : Nat → Nat → Int64) : am_O := am_run (am_G am_prog (N + 30) (d + 0)) eX0_weigh uX0_weigh n 14 [(0, .ref 126), (1, .ref t), (2, .int x2), (3, .int x3)] [] (mkh X I J)
def KX0_weigh_0 (N d n : Nat) (t : Nat) (a0 : Int32) (a1 : Int32) (a2 : Int32) (z : Int32) (h : am_H) : am_O := am_tI h 127 a2 z (fun h1 => am_run (am_G am_prog (N + 30) (d + 0)) eX0_weigh uX0_weigh n 14 [(0, .ref 126), (1, .ref t), (2, .int a0), (3, .int (a1 + (nI 1)))] [] h1)
set_option maxHeartbeats 4000000 in
set_option maxRecDepth 100000 in
theorem sX0_weigh_0 (N d n : Nat) {X : lt_X} {t : Nat} (ht : isT t) (I : Nat → Nat → Int32) (J : Nat → Nat → Int64) : RX0_weigh_0 N d (n + 1) X t I J = RX0_weigh_2 N d n X t (nI 0) I J := by
  rcases ht with rfl | rfl | rfl | rfl | rfl <;> rfl
set_option maxHeartbeats 4000000 in
set_option maxRecDepth 100000 in
theorem sX0_weigh_2 (N d n : Nat) {X : lt_X} {t : Nat} (ht : isT t) (x2 : Int32) (I : Nat → Nat → Int32) (J : Nat → Nat → Int64) : RX0_weigh_2 N d (n + 1) X t x2 I J = if x2 < (I (t + 2) 2) then RX0_weigh_14 N d n X t x2 (nI 0) I J else some (.null, (mkh X I J)) := by
  rcases ht with rfl | rfl | rfl | rfl | rfl <;> rfl
set_option maxHeartbeats 4000000 in
set_option maxRecDepth 100000 in
theorem sX0_weigh_14 (N d n : Nat) {X : lt_X} {t : Nat} (ht : isT t) (x2 : Int32) (x3 : Int32) (I : Nat → Nat → Int32) (J : Nat → Nat → Int64) : RX0_weigh_14 N d (n + 1) X t x2 x3 I J = if x3 < (I (t + 2) 3) then am_cI (am_G am_prog (N + 30) (d + 0) 77 [.ref t, .int x2, .int x3] (mkh X I J)) (KX0_weigh_0 N d n t x2 x3 ((x2 * (nI 6)) + x3)) else RX0_weigh_2 N d n X t (x2 + (nI 1)) I J := by
  rcases ht with rfl | rfl | rfl | rfl | rfl <;> rfl
set_option maxHeartbeats 4000000 in
set_option maxRecDepth 100000 in
theorem kX0_weigh_0 (N d n : Nat) {X : lt_X} {t : Nat} (ht : isT t) (a0 : Int32) (a1 : Int32) (a2 : Int32) (z : Int32) (I : Nat → Nat → Int32) (J : Nat → Nat → Int64) : KX0_weigh_0 N d n t a0 a1 a2 z (mkh X I J) = if am_in a2 36 then RX0_weigh_14 N d n X t a0 (a1 + (nI 1)) (u2 I 127 a2.toNatClampNeg z) J else none := by
  rcases ht with rfl | rfl | rfl | rfl | rfl <;> rfl
theorem fX0_weigh (N d : Nat) {X : lt_X} {t : Nat} (ht : isT t) (I : Nat → Nat → Int32) (J : Nat → Nat → Int64) : am_G am_prog N (d + 1) 1 [.ref 126, .ref t] (mkh X I J) = am_run (am_G am_prog N d) eX0_weigh uX0_weigh N 0 [(0, .ref 126), (1, .ref t)] [] (mkh X I J) := by
  refine (am_G_at N d 1 mX0_weigh _ _ rfl).trans ?_
  rcases ht with rfl | rfl | rfl | rfl | rfl <;> rfl
theorem gX0_weigh (N d : Nat) {X : lt_X} {t : Nat} (ht : isT t) (I : Nat → Nat → Int32) (J : Nat → Nat → Int64) : am_G am_prog (N + 30) (d + 1) 1 [.ref 126, .ref t] (mkh X I J) = RX0_weigh_0 N d (N + 30) X t I J := fX0_weigh (N + 30) (d + 0) ht I J
def RX0_findBest_0 (N d n : Nat) (X : lt_X) (t : Nat) (x2 : Int32) (I : Nat → Nat → Int32) (J : Nat → Nat → Int64) : am_O := am_run (am_G am_prog (N + 30) (d + 0)) eX0_findBest uX0_findBest n 0 [(0, .ref 126), (1, .ref t), (2, .int x2)] [] (mkh X I J)
def RX0_findBest_25 (N d n : Nat) (X : lt_X) (t : Nat) (x2 : Int32) (x3 : Int32) (x4 : Int32) (x5 : Int32) (I : Nat → Nat → Int32) (J : Nat → Nat → Int64) : am_O := am_run (am_G am_prog (N + 30) (d + 0)) eX0_findBest uX0_findBest n 25 [(0, .ref 126), (1, .ref t), (2, .int x2), (3, .int x3), (4, .int x4), (5, .int x5)] [] (mkh X I J)
def RX0_findBest_56 (N d n : Nat) (X : lt_X) (t : Nat) (x2 : Int32) (x4 : Int32) (x5 : Int32) (I : Nat → Nat → Int32) (J : Nat → Nat → Int64) : am_O := am_run (am_G am_prog (N + 30) (d + 0)) eX0_findBest uX0_findBest n 56 [(0, .ref 126), (1, .ref t), (2, .int x2), (4, .int x4), (5, .int x5)] [] (mkh X I J)
def RX0_findBest_64 (N d n : Nat) (X : lt_X) (t : Nat) (x2 : Int32) (x4 : Int32) (x5 : Int32) (x6 : Int32) (I : Nat → Nat → Int32) (J : Nat → Nat → Int64) : am_O := am_run (am_G am_prog (N + 30) (d + 0)) eX0_findBest uX0_findBest n 64 [(0, .ref 126), (1, .ref t), (2, .int x2), (4, .int x4), (5, .int x5), (6, .int x6)] [] (mkh X I J)
def RX0_findBest_102 (N d n : Nat) (X : lt_X) (t : Nat) (x2 : Int32) (x4 : Int32) (x5 : Int32) (x6 : Int32) (x7 : Int32) (s0 : Int32) (I : Nat → Nat → Int32) (J : Nat → Nat → Int64) : am_O := am_run (am_G am_prog (N + 30) (d + 0)) eX0_findBest uX0_findBest n 102 [(0, .ref 126), (1, .ref t), (2, .int x2), (4, .int x4), (5, .int x5), (6, .int x6), (7, .int x7)] [.int s0] (mkh X I J)
def KX0_findBest_0 (N d n : Nat) (t : Nat) (a0 : Int32) (h : am_H) : am_O := am_gR h 5 t 1 (fun y1 => am_lI h 10 y1 (nI 2) (fun y2 => am_gR h 5 t 1 (fun y3 => am_lI h 10 y3 (nI 3) (fun y4 => am_run (am_G am_prog (N + 30) (d + 0)) eX0_findBest uX0_findBest n 25 [(0, .ref 126), (1, .ref t), (2, .int a0), (3, .int y2), (4, .int ((nI 1) <<< (y4 &&& 31))), (5, .int (nI 0))] [] h))))
def KX0_findBest_1 (N d n : Nat) (t : Nat) (a0 : Int32) (a1 : Int32) (a2 : Int32) (a3 : Int32) (a4 : Int32) (a5 : Int32) (z : Int32) (h : am_H) : am_O := am_tI h 128 a5 (if a4 < z then z else a4) (fun h1 => am_run (am_G am_prog (N + 30) (d + 0)) eX0_findBest uX0_findBest n 64 [(0, .ref 126), (1, .ref t), (2, .int a0), (4, .int a1), (5, .int a2), (6, .int (a3 + (nI 1)))] [] h1)
set_option maxHeartbeats 4000000 in
set_option maxRecDepth 100000 in
theorem sX0_findBest_0 (N d n : Nat) {X : lt_X} {t : Nat} (ht : isT t) (x2 : Int32) (I : Nat → Nat → Int32) (J : Nat → Nat → Int64) : RX0_findBest_0 N d (n + 1) X t x2 I J = am_cV (am_G am_prog (N + 30) (d + 0) 1 [.ref 126, .ref t] (mkh X I J)) (KX0_findBest_0 N d n t x2) := by
  rcases ht with rfl | rfl | rfl | rfl | rfl <;> rfl
set_option maxHeartbeats 4000000 in
set_option maxRecDepth 100000 in
theorem sX0_findBest_25 (N d n : Nat) {X : lt_X} {t : Nat} (ht : isT t) (x2 : Int32) (x3 : Int32) (x4 : Int32) (x5 : Int32) (I : Nat → Nat → Int32) (J : Nat → Nat → Int64) : RX0_findBest_25 N d (n + 1) X t x2 x3 x4 x5 I J = if x5 < x4 then if am_in ((x3 * (nI 64)) + x5) 448 then RX0_findBest_25 N d n X t x2 x3 x4 (x5 + (nI 1)) (u2 I 128 (((x3 * (nI 64)) + x5).toNatClampNeg) (nI 0)) J else none else RX0_findBest_56 N d n X t x2 x4 (x3 - (nI 1)) I J := by
  rcases ht with rfl | rfl | rfl | rfl | rfl <;> rfl
set_option maxHeartbeats 4000000 in
set_option maxRecDepth 100000 in
theorem sX0_findBest_56 (N d n : Nat) {X : lt_X} {t : Nat} (ht : isT t) (x2 : Int32) (x4 : Int32) (x5 : Int32) (I : Nat → Nat → Int32) (J : Nat → Nat → Int64) : RX0_findBest_56 N d (n + 1) X t x2 x4 x5 I J = if x5 < nI 0 then some (.int (I 128 0), (mkh X I J)) else RX0_findBest_64 N d n X t x2 x4 x5 (nI 0) I J := by
  rcases ht with rfl | rfl | rfl | rfl | rfl <;> rfl
set_option maxHeartbeats 4000000 in
set_option maxRecDepth 100000 in
theorem sX0_findBest_64 (N d n : Nat) {X : lt_X} {t : Nat} (ht : isT t) (x2 : Int32) (x4 : Int32) (x5 : Int32) (x6 : Int32) (I : Nat → Nat → Int32) (J : Nat → Nat → Int64) : RX0_findBest_64 N d (n + 1) X t x2 x4 x5 x6 I J = if x6 < x4 then if am_in (((x5 + (nI 1)) * (nI 64)) + x6) 448 then if ((x2 >>> (x5 &&& 31)) &&& (nI 1)) = nI 0 then RX0_findBest_102 N d n X t x2 x4 x5 x6 (I 128 ((((x5 + (nI 1)) * (nI 64)) + x6).toNatClampNeg)) (nI 0) I J else RX0_findBest_102 N d n X t x2 x4 x5 x6 (I 128 ((((x5 + (nI 1)) * (nI 64)) + x6).toNatClampNeg)) (nI 1) I J else none else RX0_findBest_56 N d n X t x2 x4 (x5 + (-1)) I J := by
  rcases ht with rfl | rfl | rfl | rfl | rfl <;> rfl
set_option maxHeartbeats 4000000 in
set_option maxRecDepth 100000 in
theorem sX0_findBest_102 (N d n : Nat) {X : lt_X} {t : Nat} (ht : isT t) (x2 : Int32) (x4 : Int32) (x5 : Int32) (x6 : Int32) (x7 : Int32) (s0 : Int32) (I : Nat → Nat → Int32) (J : Nat → Nat → Int64) : RX0_findBest_102 N d (n + 1) X t x2 x4 x5 x6 x7 s0 I J = if s0 = nI 0 then if am_in ((x5 * (nI 64)) + x6) 448 then RX0_findBest_64 N d n X t x2 x4 x5 (x6 + (nI 1)) (u2 I 128 (((x5 * (nI 64)) + x6).toNatClampNeg) x7) J else none else am_cI (am_G am_prog (N + 30) (d + 0) 3 [.ref 126, .ref t, .int x5, .int x6] (mkh X I J)) (KX0_findBest_1 N d n t x2 x4 x5 x6 x7 ((x5 * (nI 64)) + x6)) := by
  rcases ht with rfl | rfl | rfl | rfl | rfl <;> rfl
set_option maxHeartbeats 4000000 in
set_option maxRecDepth 100000 in
theorem kX0_findBest_0 (N d n : Nat) {X : lt_X} {t : Nat} (ht : isT t) (a0 : Int32) (I : Nat → Nat → Int32) (J : Nat → Nat → Int64) : KX0_findBest_0 N d n t a0 (mkh X I J) = RX0_findBest_25 N d n X t a0 (I (t + 2) 2) ((nI 1) <<< ((I (t + 2) 3) &&& 31)) (nI 0) I J := by
  rcases ht with rfl | rfl | rfl | rfl | rfl <;> rfl
set_option maxHeartbeats 4000000 in
set_option maxRecDepth 100000 in
theorem kX0_findBest_1 (N d n : Nat) {X : lt_X} {t : Nat} (ht : isT t) (a0 : Int32) (a1 : Int32) (a2 : Int32) (a3 : Int32) (a4 : Int32) (a5 : Int32) (z : Int32) (I : Nat → Nat → Int32) (J : Nat → Nat → Int64) : KX0_findBest_1 N d n t a0 a1 a2 a3 a4 a5 z (mkh X I J) = if am_in a5 448 then RX0_findBest_64 N d n X t a0 a1 a2 (a3 + (nI 1)) (u2 I 128 a5.toNatClampNeg (if a4 < z then z else a4)) J else none := by
  rcases ht with rfl | rfl | rfl | rfl | rfl <;> rfl
theorem fX0_findBest (N d : Nat) {X : lt_X} {t : Nat} (ht : isT t) (x2 : Int32) (I : Nat → Nat → Int32) (J : Nat → Nat → Int64) : am_G am_prog N (d + 1) 2 [.ref 126, .ref t, .int x2] (mkh X I J) = am_run (am_G am_prog N d) eX0_findBest uX0_findBest N 0 [(0, .ref 126), (1, .ref t), (2, .int x2)] [] (mkh X I J) := by
  refine (am_G_at N d 2 mX0_findBest _ _ rfl).trans ?_
  rcases ht with rfl | rfl | rfl | rfl | rfl <;> rfl
theorem gX0_findBest (N d : Nat) {X : lt_X} {t : Nat} (ht : isT t) (x2 : Int32) (I : Nat → Nat → Int32) (J : Nat → Nat → Int64) : am_G am_prog (N + 30) (d + 1) 2 [.ref 126, .ref t, .int x2] (mkh X I J) = RX0_findBest_0 N d (N + 30) X t x2 I J := fX0_findBest (N + 30) (d + 0) ht x2 I J
def RX0_mostBySet_0 (N d n : Nat) (X : lt_X) (t : Nat) (x2 : Int32) (x3 : Int32) (I : Nat → Nat → Int32) (J : Nat → Nat → Int64) : am_O := am_run (am_G am_prog (N + 30) (d + 0)) eX0_mostBySet uX0_mostBySet n 0 [(0, .ref 126), (1, .ref t), (2, .int x2), (3, .int x3)] [] (mkh X I J)
def RX0_mostBySet_6 (N d n : Nat) (X : lt_X) (t : Nat) (x2 : Int32) (x3 : Int32) (x4 : Int32) (x5 : Int32) (I : Nat → Nat → Int32) (J : Nat → Nat → Int64) : am_O := am_run (am_G am_prog (N + 30) (d + 0)) eX0_mostBySet uX0_mostBySet n 6 [(0, .ref 126), (1, .ref t), (2, .int x2), (3, .int x3), (4, .int x4), (5, .int x5)] [] (mkh X I J)
def KX0_mostBySet_0 (N d n : Nat) (t : Nat) (a0 : Int32) (a1 : Int32) (a2 : Int32) (a3 : Int32) (z : Int32) (h : am_H) : am_O := am_run (am_G am_prog (N + 30) (d + 0)) eX0_mostBySet uX0_mostBySet n 6 [(0, .ref 126), (1, .ref t), (2, .int a0), (3, .int a1), (4, .int (if a3 < z then z else a3)), (5, .int (a2 + (nI 1)))] [] h
set_option maxHeartbeats 4000000 in
set_option maxRecDepth 100000 in
theorem sX0_mostBySet_0 (N d n : Nat) {X : lt_X} {t : Nat} (ht : isT t) (x2 : Int32) (x3 : Int32) (I : Nat → Nat → Int32) (J : Nat → Nat → Int64) : RX0_mostBySet_0 N d (n + 1) X t x2 x3 I J = RX0_mostBySet_6 N d n X t x2 x3 (nI 0) (nI 0) I J := by
  rcases ht with rfl | rfl | rfl | rfl | rfl <;> rfl
set_option maxHeartbeats 4000000 in
set_option maxRecDepth 100000 in
theorem sX0_mostBySet_6 (N d n : Nat) {X : lt_X} {t : Nat} (ht : isT t) (x2 : Int32) (x3 : Int32) (x4 : Int32) (x5 : Int32) (I : Nat → Nat → Int32) (J : Nat → Nat → Int64) : RX0_mostBySet_6 N d (n + 1) X t x2 x3 x4 x5 I J = if x5 < (I (t + 2) 3) then if ((x3 >>> (x5 &&& 31)) &&& (nI 1)) = nI 0 then am_cI (am_G am_prog (N + 30) (d + 0) 4 [.ref 126, .int x2, .int x3, .int x5] (mkh X I J)) (KX0_mostBySet_0 N d n t x2 x3 x5 x4) else RX0_mostBySet_6 N d n X t x2 x3 x4 (x5 + (nI 1)) I J else some (.int x4, (mkh X I J)) := by
  rcases ht with rfl | rfl | rfl | rfl | rfl <;> rfl
set_option maxHeartbeats 4000000 in
set_option maxRecDepth 100000 in
theorem kX0_mostBySet_0 (N d n : Nat) {X : lt_X} {t : Nat} (ht : isT t) (a0 : Int32) (a1 : Int32) (a2 : Int32) (a3 : Int32) (z : Int32) (I : Nat → Nat → Int32) (J : Nat → Nat → Int64) : KX0_mostBySet_0 N d n t a0 a1 a2 a3 z (mkh X I J) = RX0_mostBySet_6 N d n X t a0 a1 (if a3 < z then z else a3) (a2 + (nI 1)) I J := by
  rcases ht with rfl | rfl | rfl | rfl | rfl <;> rfl
theorem fX0_mostBySet (N d : Nat) {X : lt_X} {t : Nat} (ht : isT t) (x2 : Int32) (x3 : Int32) (I : Nat → Nat → Int32) (J : Nat → Nat → Int64) : am_G am_prog N (d + 1) 3 [.ref 126, .ref t, .int x2, .int x3] (mkh X I J) = am_run (am_G am_prog N d) eX0_mostBySet uX0_mostBySet N 0 [(0, .ref 126), (1, .ref t), (2, .int x2), (3, .int x3)] [] (mkh X I J) := by
  refine (am_G_at N d 3 mX0_mostBySet _ _ rfl).trans ?_
  rcases ht with rfl | rfl | rfl | rfl | rfl <;> rfl
theorem gX0_mostBySet (N d : Nat) {X : lt_X} {t : Nat} (ht : isT t) (x2 : Int32) (x3 : Int32) (I : Nat → Nat → Int32) (J : Nat → Nat → Int64) : am_G am_prog (N + 30) (d + 1) 3 [.ref 126, .ref t, .int x2, .int x3] (mkh X I J) = RX0_mostBySet_0 N d (N + 30) X t x2 x3 I J := fX0_mostBySet (N + 30) (d + 0) ht x2 x3 I J
def RX0_bySet_0 (N d n : Nat) (X : lt_X) (x1 : Int32) (x2 : Int32) (x3 : Int32) (I : Nat → Nat → Int32) (J : Nat → Nat → Int64) : am_O := am_run (am_G am_prog (N + 30) (d + 0)) eX0_bySet uX0_bySet n 0 [(0, .ref 126), (1, .int x1), (2, .int x2), (3, .int x3)] [] (mkh X I J)
set_option maxHeartbeats 4000000 in
set_option maxRecDepth 100000 in
theorem sX0_bySet_0 (N d n : Nat) {X : lt_X} (x1 : Int32) (x2 : Int32) (x3 : Int32) (I : Nat → Nat → Int32) (J : Nat → Nat → Int64) : RX0_bySet_0 N d (n + 1) X x1 x2 x3 I J = if am_in ((x1 * (nI 6)) + x3) 36 then if am_in (((x1 + (nI 1)) * (nI 64)) + (x2 ||| ((nI 1) <<< (x3 &&& 31)))) 448 then some (.int ((I 127 (((x1 * (nI 6)) + x3).toNatClampNeg)) + (I 128 ((((x1 + (nI 1)) * (nI 64)) + (x2 ||| ((nI 1) <<< (x3 &&& 31)))).toNatClampNeg))), (mkh X I J)) else none else none := by
  rfl
theorem fX0_bySet (N d : Nat) {X : lt_X} (x1 : Int32) (x2 : Int32) (x3 : Int32) (I : Nat → Nat → Int32) (J : Nat → Nat → Int64) : am_G am_prog N (d + 1) 4 [.ref 126, .int x1, .int x2, .int x3] (mkh X I J) = am_run (am_G am_prog N d) eX0_bySet uX0_bySet N 0 [(0, .ref 126), (1, .int x1), (2, .int x2), (3, .int x3)] [] (mkh X I J) := by
  refine (am_G_at N d 4 mX0_bySet _ _ rfl).trans ?_
  rfl
theorem gX0_bySet (N d : Nat) {X : lt_X} (x1 : Int32) (x2 : Int32) (x3 : Int32) (I : Nat → Nat → Int32) (J : Nat → Nat → Int64) : am_G am_prog (N + 30) (d + 1) 4 [.ref 126, .int x1, .int x2, .int x3] (mkh X I J) = RX0_bySet_0 N d (N + 30) X x1 x2 x3 I J := fX0_bySet (N + 30) (d + 0) x1 x2 x3 I J
def RX0_findBestSet_0 (N d n : Nat) (X : lt_X) (t : Nat) (x2 : Int32) (x3 : Int32) (I : Nat → Nat → Int32) (J : Nat → Nat → Int64) : am_O := am_run (am_G am_prog (N + 30) (d + 0)) eX0_findBestSet uX0_findBestSet n 0 [(0, .ref 126), (1, .ref t), (2, .int x2), (3, .int x3)] [] (mkh X I J)
def RX0_findBestSet_16 (N d n : Nat) (X : lt_X) (t : Nat) (x2 : Int32) (x3 : Int32) (x4 : Int32) (x5 : Int32) (x6 : Int32) (I : Nat → Nat → Int32) (J : Nat → Nat → Int64) : am_O := am_run (am_G am_prog (N + 30) (d + 0)) eX0_findBestSet uX0_findBestSet n 16 [(0, .ref 126), (1, .ref t), (2, .int x2), (3, .int x3), (4, .int x4), (5, .int x5), (6, .int x6)] [] (mkh X I J)
def KX0_findBestSet_0 (N d n : Nat) (t : Nat) (a0 : Int32) (a1 : Int32) (z : Int32) (h : am_H) : am_O := am_run (am_G am_prog (N + 30) (d + 0)) eX0_findBestSet uX0_findBestSet n 16 [(0, .ref 126), (1, .ref t), (2, .int a0), (3, .int a1), (4, .int (nI 0)), (5, .int (-1)), (6, .int (nI 0))] [] h
def KX0_findBestSet_1 (N d n : Nat) (t : Nat) (a0 : Int32) (a1 : Int32) (a2 : Int32) (a3 : Int32) (z : Int32) (h : am_H) : am_O := if z = (-1) then am_run (am_G am_prog (N + 30) (d + 0)) eX0_findBestSet uX0_findBestSet n 16 [(0, .ref 126), (1, .ref t), (2, .int a0), (3, .int a1), (4, .int a2), (5, .int z), (6, .int (a3 + (nI 1)))] [] h else am_run (am_G am_prog (N + 30) (d + 0)) eX0_findBestSet uX0_findBestSet n 16 [(0, .ref 126), (1, .ref t), (2, .int a0), (3, .int a1), (4, .int (a2 ||| ((nI 1) <<< (z &&& 31)))), (5, .int z), (6, .int (a3 + (nI 1)))] [] h
set_option maxHeartbeats 4000000 in
set_option maxRecDepth 100000 in
theorem sX0_findBestSet_0 (N d n : Nat) {X : lt_X} {t : Nat} (ht : isT t) (x2 : Int32) (x3 : Int32) (I : Nat → Nat → Int32) (J : Nat → Nat → Int64) : RX0_findBestSet_0 N d (n + 1) X t x2 x3 I J = am_cI (am_G am_prog (N + 30) (d + 0) 2 [.ref 126, .ref t, .int x2] (mkh X I J)) (KX0_findBestSet_0 N d n t x2 x3) := by
  rcases ht with rfl | rfl | rfl | rfl | rfl <;> rfl
set_option maxHeartbeats 4000000 in
set_option maxRecDepth 100000 in
theorem sX0_findBestSet_16 (N d n : Nat) {X : lt_X} {t : Nat} (ht : isT t) (x2 : Int32) (x3 : Int32) (x4 : Int32) (x5 : Int32) (x6 : Int32) (I : Nat → Nat → Int32) (J : Nat → Nat → Int64) : RX0_findBestSet_16 N d (n + 1) X t x2 x3 x4 x5 x6 I J = if x3 < x6 then some (.int x5, (mkh X I J)) else if x6 < (nI 6) then if ((x2 >>> (x6 &&& 31)) &&& (nI 1)) = nI 0 then RX0_findBestSet_16 N d n X t x2 x3 x4 x5 (x6 + (nI 1)) I J else am_cI (am_G am_prog (N + 30) (d + 0) 6 [.ref 126, .ref t, .int x6, .int x4] (mkh X I J)) (KX0_findBestSet_1 N d n t x2 x3 x4 x6) else some (.int x5, (mkh X I J)) := by
  rcases ht with rfl | rfl | rfl | rfl | rfl <;> rfl
set_option maxHeartbeats 4000000 in
set_option maxRecDepth 100000 in
theorem kX0_findBestSet_0 (N d n : Nat) {X : lt_X} {t : Nat} (ht : isT t) (a0 : Int32) (a1 : Int32) (z : Int32) (I : Nat → Nat → Int32) (J : Nat → Nat → Int64) : KX0_findBestSet_0 N d n t a0 a1 z (mkh X I J) = RX0_findBestSet_16 N d n X t a0 a1 (nI 0) (-1) (nI 0) I J := by
  rcases ht with rfl | rfl | rfl | rfl | rfl <;> rfl
set_option maxHeartbeats 4000000 in
set_option maxRecDepth 100000 in
theorem kX0_findBestSet_1 (N d n : Nat) {X : lt_X} {t : Nat} (ht : isT t) (a0 : Int32) (a1 : Int32) (a2 : Int32) (a3 : Int32) (z : Int32) (I : Nat → Nat → Int32) (J : Nat → Nat → Int64) : KX0_findBestSet_1 N d n t a0 a1 a2 a3 z (mkh X I J) = if z = (-1) then RX0_findBestSet_16 N d n X t a0 a1 a2 z (a3 + (nI 1)) I J else RX0_findBestSet_16 N d n X t a0 a1 (a2 ||| ((nI 1) <<< (z &&& 31))) z (a3 + (nI 1)) I J := by
  rcases ht with rfl | rfl | rfl | rfl | rfl <;> rfl
theorem fX0_findBestSet (N d : Nat) {X : lt_X} {t : Nat} (ht : isT t) (x2 : Int32) (x3 : Int32) (I : Nat → Nat → Int32) (J : Nat → Nat → Int64) : am_G am_prog N (d + 1) 5 [.ref 126, .ref t, .int x2, .int x3] (mkh X I J) = am_run (am_G am_prog N d) eX0_findBestSet uX0_findBestSet N 0 [(0, .ref 126), (1, .ref t), (2, .int x2), (3, .int x3)] [] (mkh X I J) := by
  refine (am_G_at N d 5 mX0_findBestSet _ _ rfl).trans ?_
  rcases ht with rfl | rfl | rfl | rfl | rfl <;> rfl
theorem gX0_findBestSet (N d : Nat) {X : lt_X} {t : Nat} (ht : isT t) (x2 : Int32) (x3 : Int32) (I : Nat → Nat → Int32) (J : Nat → Nat → Int64) : am_G am_prog (N + 30) (d + 1) 5 [.ref 126, .ref t, .int x2, .int x3] (mkh X I J) = RX0_findBestSet_0 N d (N + 30) X t x2 x3 I J := fX0_findBestSet (N + 30) (d + 0) ht x2 x3 I J
def RX0_firstBest_0 (N d n : Nat) (X : lt_X) (t : Nat) (x2 : Int32) (x3 : Int32) (I : Nat → Nat → Int32) (J : Nat → Nat → Int64) : am_O := am_run (am_G am_prog (N + 30) (d + 0)) eX0_firstBest uX0_firstBest n 0 [(0, .ref 126), (1, .ref t), (2, .int x2), (3, .int x3)] [] (mkh X I J)
def RX0_firstBest_3 (N d n : Nat) (X : lt_X) (t : Nat) (x2 : Int32) (x3 : Int32) (x4 : Int32) (I : Nat → Nat → Int32) (J : Nat → Nat → Int64) : am_O := am_run (am_G am_prog (N + 30) (d + 0)) eX0_firstBest uX0_firstBest n 3 [(0, .ref 126), (1, .ref t), (2, .int x2), (3, .int x3), (4, .int x4)] [] (mkh X I J)
def KX0_firstBest_0 (N d n : Nat) (t : Nat) (a0 : Int32) (a1 : Int32) (a2 : Int32) (z : Int32) (h : am_H) : am_O := am_gR h 0 126 1 (fun y1 => am_lI h 10 y1 ((a0 * (nI 64)) + a1) (fun y2 => if z = y2 then some (.int a2, h) else am_run (am_G am_prog (N + 30) (d + 0)) eX0_firstBest uX0_firstBest n 3 [(0, .ref 126), (1, .ref t), (2, .int a0), (3, .int a1), (4, .int (a2 + (nI 1)))] [] h))
set_option maxHeartbeats 4000000 in
set_option maxRecDepth 100000 in
theorem sX0_firstBest_0 (N d n : Nat) {X : lt_X} {t : Nat} (ht : isT t) (x2 : Int32) (x3 : Int32) (I : Nat → Nat → Int32) (J : Nat → Nat → Int64) : RX0_firstBest_0 N d (n + 1) X t x2 x3 I J = RX0_firstBest_3 N d n X t x2 x3 (nI 0) I J := by
  rcases ht with rfl | rfl | rfl | rfl | rfl <;> rfl
set_option maxHeartbeats 4000000 in
set_option maxRecDepth 100000 in
theorem sX0_firstBest_3 (N d n : Nat) {X : lt_X} {t : Nat} (ht : isT t) (x2 : Int32) (x3 : Int32) (x4 : Int32) (I : Nat → Nat → Int32) (J : Nat → Nat → Int64) : RX0_firstBest_3 N d (n + 1) X t x2 x3 x4 I J = if x4 < (I (t + 2) 3) then if ((x3 >>> (x4 &&& 31)) &&& (nI 1)) = nI 0 then am_cI (am_G am_prog (N + 30) (d + 0) 4 [.ref 126, .int x2, .int x3, .int x4] (mkh X I J)) (KX0_firstBest_0 N d n t x2 x3 x4) else RX0_firstBest_3 N d n X t x2 x3 (x4 + (nI 1)) I J else some (.int (-1), (mkh X I J)) := by
  rcases ht with rfl | rfl | rfl | rfl | rfl <;> rfl
set_option maxHeartbeats 4000000 in
set_option maxRecDepth 100000 in
theorem kX0_firstBest_0 (N d n : Nat) {X : lt_X} {t : Nat} (ht : isT t) (a0 : Int32) (a1 : Int32) (a2 : Int32) (z : Int32) (I : Nat → Nat → Int32) (J : Nat → Nat → Int64) : KX0_firstBest_0 N d n t a0 a1 a2 z (mkh X I J) = if am_in ((a0 * (nI 64)) + a1) 448 then if z = (I 128 (((a0 * (nI 64)) + a1).toNatClampNeg)) then some (.int a2, (mkh X I J)) else RX0_firstBest_3 N d n X t a0 a1 (a2 + (nI 1)) I J else none := by
  rcases ht with rfl | rfl | rfl | rfl | rfl <;> rfl
theorem fX0_firstBest (N d : Nat) {X : lt_X} {t : Nat} (ht : isT t) (x2 : Int32) (x3 : Int32) (I : Nat → Nat → Int32) (J : Nat → Nat → Int64) : am_G am_prog N (d + 1) 6 [.ref 126, .ref t, .int x2, .int x3] (mkh X I J) = am_run (am_G am_prog N d) eX0_firstBest uX0_firstBest N 0 [(0, .ref 126), (1, .ref t), (2, .int x2), (3, .int x3)] [] (mkh X I J) := by
  refine (am_G_at N d 6 mX0_firstBest _ _ rfl).trans ?_
  rcases ht with rfl | rfl | rfl | rfl | rfl <;> rfl
theorem gX0_firstBest (N d : Nat) {X : lt_X} {t : Nat} (ht : isT t) (x2 : Int32) (x3 : Int32) (I : Nat → Nat → Int32) (J : Nat → Nat → Int64) : am_G am_prog (N + 30) (d + 1) 6 [.ref 126, .ref t, .int x2, .int x3] (mkh X I J) = RX0_firstBest_0 N d (N + 30) X t x2 x3 I J := fX0_firstBest (N + 30) (d + 0) ht x2 x3 I J
def RX0_makeTrades_0 (N d n : Nat) (X : lt_X) (t : Nat) (I : Nat → Nat → Int32) (J : Nat → Nat → Int64) : am_O := am_run (am_G am_prog (N + 30) (d + 0)) eX0_makeTrades uX0_makeTrades n 0 [(0, .ref 126), (1, .ref t)] [] (mkh X I J)
def RX0_makeTrades_17 (N d n : Nat) (X : lt_X) (t : Nat) (x2 : Int32) (x3 : Int32) (x4 : Int32) (I : Nat → Nat → Int32) (J : Nat → Nat → Int64) : am_O := am_run (am_G am_prog (N + 30) (d + 0)) eX0_makeTrades uX0_makeTrades n 17 [(0, .ref 126), (1, .ref t), (2, .int x2), (3, .int x3), (4, .int x4)] [] (mkh X I J)
def RX0_makeTrades_77 (N d n : Nat) (X : lt_X) (x2 : Int32) (x3 : Int32) (x4 : Int32) (I : Nat → Nat → Int32) (J : Nat → Nat → Int64) : am_O := am_run (am_G am_prog (N + 30) (d + 0)) eX0_makeTrades uX0_makeTrades n 77 [(0, .ref 126), (2, .int x2), (3, .int x3), (4, .int x4)] [] (mkh X I J)
def RX0_makeTrades_91 (N d n : Nat) (X : lt_X) (x2 : Int32) (x3 : Int32) (x4 : Int32) (x5 : Int32) (I : Nat → Nat → Int32) (J : Nat → Nat → Int64) : am_O := am_run (am_G am_prog (N + 30) (d + 0)) eX0_makeTrades uX0_makeTrades n 91 [(0, .ref 126), (2, .int x2), (3, .int x3), (4, .int x4), (5, .int x5)] [] (mkh X I J)
def KX0_makeTrades_0 (N d n : Nat) (t : Nat) (h : am_H) : am_O := am_gR h 5 t 1 (fun y1 => am_lI h 10 y1 (nI 2) (fun y2 => am_run (am_G am_prog (N + 30) (d + 0)) eX0_makeTrades uX0_makeTrades n 17 [(0, .ref 126), (1, .ref t), (2, .int y2), (3, .int (nI 0)), (4, .int (nI 0))] [] h))
def KX0_makeTrades_1 (N d n : Nat) (t : Nat) (a0 : Int32) (a1 : Int32) (a2 : Int32) (z : Int32) (h : am_H) : am_O := am_tI h 129 a2 z (fun h1 => am_gR h1 0 126 3 (fun y2 => am_gR h1 0 126 2 (fun y3 => am_lI h1 10 y3 a2 (fun y4 => am_tI h1 y2 a2 y4 (fun h5 => am_gR h5 0 126 2 (fun y6 => am_lI h5 10 y6 a2 (fun y7 => if y7 = (-1) then am_run (am_G am_prog (N + 30) (d + 0)) eX0_makeTrades uX0_makeTrades n 17 [(0, .ref 126), (1, .ref t), (2, .int a0), (3, .int a1), (4, .int (a2 + (nI 1)))] [] h5 else am_run (am_G am_prog (N + 30) (d + 0)) eX0_makeTrades uX0_makeTrades n 17 [(0, .ref 126), (1, .ref t), (2, .int a0), (3, .int (a1 ||| ((nI 1) <<< (a2 &&& 31)))), (4, .int (a2 + (nI 1)))] [] h5)))))))
def KX0_makeTrades_2 (N d n : Nat) (a0 : Int32) (a1 : Int32) (a2 : Int32) (a3 : Int32) (z : Int32) (h : am_H) : am_O := am_tI h 131 a3 z (fun h1 => am_run (am_G am_prog (N + 30) (d + 0)) eX0_makeTrades uX0_makeTrades n 91 [(0, .ref 126), (2, .int a0), (3, .int a1), (4, .int a2), (5, .int (a3 + (nI 1)))] [] h1)
def KX0_makeTrades_3 (N d n : Nat) (a0 : Int32) (a1 : Int32) (a2 : Int32) (z : Int32) (h : am_H) : am_O := am_run (am_G am_prog (N + 30) (d + 0)) eX0_makeTrades uX0_makeTrades n 77 [(0, .ref 126), (2, .int a0), (3, .int (a2 &&& (z ^^^ (-1)))), (4, .int (a1 + (nI 1)))] [] h
set_option maxHeartbeats 4000000 in
set_option maxRecDepth 100000 in
theorem sX0_makeTrades_0 (N d n : Nat) {X : lt_X} {t : Nat} (ht : isT t) (I : Nat → Nat → Int32) (J : Nat → Nat → Int64) : RX0_makeTrades_0 N d (n + 1) X t I J = am_cV (am_G am_prog (N + 30) (d + 0) 1 [.ref 126, .ref t] (mkh X I J)) (KX0_makeTrades_0 N d n t) := by
  rcases ht with rfl | rfl | rfl | rfl | rfl <;> rfl
set_option maxHeartbeats 4000000 in
set_option maxRecDepth 100000 in
theorem sX0_makeTrades_17 (N d n : Nat) {X : lt_X} {t : Nat} (ht : isT t) (x2 : Int32) (x3 : Int32) (x4 : Int32) (I : Nat → Nat → Int32) (J : Nat → Nat → Int64) : RX0_makeTrades_17 N d (n + 1) X t x2 x3 x4 I J = if x4 < x2 then am_cI (am_G am_prog (N + 30) (d + 0) 8 [.ref t, .int x4] (mkh X I J)) (KX0_makeTrades_1 N d n t x2 x3 x4) else RX0_makeTrades_77 N d n X x2 x3 (nI 0) I J := by
  rcases ht with rfl | rfl | rfl | rfl | rfl <;> rfl
set_option maxHeartbeats 4000000 in
set_option maxRecDepth 100000 in
theorem sX0_makeTrades_77 (N d n : Nat) {X : lt_X} (x2 : Int32) (x3 : Int32) (x4 : Int32) (I : Nat → Nat → Int32) (J : Nat → Nat → Int64) : RX0_makeTrades_77 N d (n + 1) X x2 x3 x4 I J = if x4 < (nI 6) then if x3 = nI 0 then some (.null, (mkh X I J)) else RX0_makeTrades_91 N d n X x2 x3 x4 (nI 0) I J else some (.null, (mkh X I J)) := by
  rfl
set_option maxHeartbeats 4000000 in
set_option maxRecDepth 100000 in
theorem sX0_makeTrades_91 (N d n : Nat) {X : lt_X} (x2 : Int32) (x3 : Int32) (x4 : Int32) (x5 : Int32) (I : Nat → Nat → Int32) (J : Nat → Nat → Int64) : RX0_makeTrades_91 N d (n + 1) X x2 x3 x4 x5 I J = if x5 < x2 then if ((x3 >>> (x5 &&& 31)) &&& (nI 1)) = nI 0 then RX0_makeTrades_91 N d n X x2 x3 x4 (x5 + (nI 1)) I J else am_cI (am_G am_prog (N + 30) (d + 0) 9 [.ref 126, .int x2, .int x3, .int x5] (mkh X I J)) (KX0_makeTrades_2 N d n x2 x3 x4 x5) else am_cI (am_G am_prog (N + 30) (d + 0) 11 [.ref 126, .int x2, .int x3] (mkh X I J)) (KX0_makeTrades_3 N d n x2 x4 x3) := by
  rfl
set_option maxHeartbeats 4000000 in
set_option maxRecDepth 100000 in
theorem kX0_makeTrades_0 (N d n : Nat) {X : lt_X} {t : Nat} (ht : isT t) (I : Nat → Nat → Int32) (J : Nat → Nat → Int64) : KX0_makeTrades_0 N d n t (mkh X I J) = RX0_makeTrades_17 N d n X t (I (t + 2) 2) (nI 0) (nI 0) I J := by
  rcases ht with rfl | rfl | rfl | rfl | rfl <;> rfl
set_option maxHeartbeats 4000000 in
set_option maxRecDepth 100000 in
theorem kX0_makeTrades_1 (N d n : Nat) {X : lt_X} {t : Nat} (ht : isT t) (a0 : Int32) (a1 : Int32) (a2 : Int32) (z : Int32) (I : Nat → Nat → Int32) (J : Nat → Nat → Int64) : KX0_makeTrades_1 N d n t a0 a1 a2 z (mkh X I J) = if am_in a2 6 then if am_in a2 6 then if am_in a2 6 then if am_in a2 6 then if ((u2 (u2 I 129 a2.toNatClampNeg z) 130 a2.toNatClampNeg ((u2 I 129 a2.toNatClampNeg z) 129 a2.toNatClampNeg)) 129 a2.toNatClampNeg) = (-1) then RX0_makeTrades_17 N d n X t a0 a1 (a2 + (nI 1)) (u2 (u2 I 129 a2.toNatClampNeg z) 130 a2.toNatClampNeg ((u2 I 129 a2.toNatClampNeg z) 129 a2.toNatClampNeg)) J else RX0_makeTrades_17 N d n X t a0 (a1 ||| ((nI 1) <<< (a2 &&& 31))) (a2 + (nI 1)) (u2 (u2 I 129 a2.toNatClampNeg z) 130 a2.toNatClampNeg ((u2 I 129 a2.toNatClampNeg z) 129 a2.toNatClampNeg)) J else none else none else none else none := by
  rcases ht with rfl | rfl | rfl | rfl | rfl <;> rfl
set_option maxHeartbeats 4000000 in
set_option maxRecDepth 100000 in
theorem kX0_makeTrades_2 (N d n : Nat) {X : lt_X} (a0 : Int32) (a1 : Int32) (a2 : Int32) (a3 : Int32) (z : Int32) (I : Nat → Nat → Int32) (J : Nat → Nat → Int64) : KX0_makeTrades_2 N d n a0 a1 a2 a3 z (mkh X I J) = if am_in a3 6 then RX0_makeTrades_91 N d n X a0 a1 a2 (a3 + (nI 1)) (u2 I 131 a3.toNatClampNeg z) J else none := by
  rfl
set_option maxHeartbeats 4000000 in
set_option maxRecDepth 100000 in
theorem kX0_makeTrades_3 (N d n : Nat) {X : lt_X} (a0 : Int32) (a1 : Int32) (a2 : Int32) (z : Int32) (I : Nat → Nat → Int32) (J : Nat → Nat → Int64) : KX0_makeTrades_3 N d n a0 a1 a2 z (mkh X I J) = RX0_makeTrades_77 N d n X a0 (a2 &&& (z ^^^ (-1))) (a1 + (nI 1)) I J := by
  rfl
theorem fX0_makeTrades (N d : Nat) {X : lt_X} {t : Nat} (ht : isT t) (I : Nat → Nat → Int32) (J : Nat → Nat → Int64) : am_G am_prog N (d + 1) 7 [.ref 126, .ref t] (mkh X I J) = am_run (am_G am_prog N d) eX0_makeTrades uX0_makeTrades N 0 [(0, .ref 126), (1, .ref t)] [] (mkh X I J) := by
  refine (am_G_at N d 7 mX0_makeTrades _ _ rfl).trans ?_
  rcases ht with rfl | rfl | rfl | rfl | rfl <;> rfl
theorem gX0_makeTrades (N d : Nat) {X : lt_X} {t : Nat} (ht : isT t) (I : Nat → Nat → Int32) (J : Nat → Nat → Int64) : am_G am_prog (N + 30) (d + 1) 7 [.ref 126, .ref t] (mkh X I J) = RX0_makeTrades_0 N d (N + 30) X t I J := fX0_makeTrades (N + 30) (d + 0) ht I J
def RX0_firstSetOf_0 (N d n : Nat) (X : lt_X) (t : Nat) (x1 : Int32) (I : Nat → Nat → Int32) (J : Nat → Nat → Int64) : am_O := am_run (am_G am_prog (N + 30) (d + 0)) eX0_firstSetOf uX0_firstSetOf n 0 [(0, .ref t), (1, .int x1)] [] (mkh X I J)
def RX0_firstSetOf_2 (N d n : Nat) (X : lt_X) (t : Nat) (x1 : Int32) (x2 : Int32) (I : Nat → Nat → Int32) (J : Nat → Nat → Int64) : am_O := am_run (am_G am_prog (N + 30) (d + 0)) eX0_firstSetOf uX0_firstSetOf n 2 [(0, .ref t), (1, .int x1), (2, .int x2)] [] (mkh X I J)
set_option maxHeartbeats 4000000 in
set_option maxRecDepth 100000 in
theorem sX0_firstSetOf_0 (N d n : Nat) {X : lt_X} {t : Nat} (ht : isT t) (x1 : Int32) (I : Nat → Nat → Int32) (J : Nat → Nat → Int64) : RX0_firstSetOf_0 N d (n + 1) X t x1 I J = RX0_firstSetOf_2 N d n X t x1 (nI 0) I J := by
  rcases ht with rfl | rfl | rfl | rfl | rfl <;> rfl
set_option maxHeartbeats 4000000 in
set_option maxRecDepth 100000 in
theorem sX0_firstSetOf_2 (N d n : Nat) {X : lt_X} {t : Nat} (ht : isT t) (x1 : Int32) (x2 : Int32) (I : Nat → Nat → Int32) (J : Nat → Nat → Int64) : RX0_firstSetOf_2 N d (n + 1) X t x1 x2 I J = if x2 < (I (t + 2) 3) then if am_in x2 6 then if (I (t + 13) x2.toNatClampNeg) = x1 then some (.int x2, (mkh X I J)) else RX0_firstSetOf_2 N d n X t x1 (x2 + (nI 1)) I J else none else some (.int (-1), (mkh X I J)) := by
  rcases ht with rfl | rfl | rfl | rfl | rfl <;> rfl
theorem fX0_firstSetOf (N d : Nat) {X : lt_X} {t : Nat} (ht : isT t) (x1 : Int32) (I : Nat → Nat → Int32) (J : Nat → Nat → Int64) : am_G am_prog N (d + 1) 8 [.ref t, .int x1] (mkh X I J) = am_run (am_G am_prog N d) eX0_firstSetOf uX0_firstSetOf N 0 [(0, .ref t), (1, .int x1)] [] (mkh X I J) := by
  refine (am_G_at N d 8 mX0_firstSetOf _ _ rfl).trans ?_
  rcases ht with rfl | rfl | rfl | rfl | rfl <;> rfl
theorem gX0_firstSetOf (N d : Nat) {X : lt_X} {t : Nat} (ht : isT t) (x1 : Int32) (I : Nat → Nat → Int32) (J : Nat → Nat → Int64) : am_G am_prog (N + 30) (d + 1) 8 [.ref t, .int x1] (mkh X I J) = RX0_firstSetOf_0 N d (N + 30) X t x1 I J := fX0_firstSetOf (N + 30) (d + 0) ht x1 I J
def RX0_pointsTo_0 (N d n : Nat) (X : lt_X) (x1 : Int32) (x2 : Int32) (x3 : Int32) (I : Nat → Nat → Int32) (J : Nat → Nat → Int64) : am_O := am_run (am_G am_prog (N + 30) (d + 0)) eX0_pointsTo uX0_pointsTo n 0 [(0, .ref 126), (1, .int x1), (2, .int x2), (3, .int x3)] [] (mkh X I J)
def RX0_pointsTo_6 (N d n : Nat) (X : lt_X) (x1 : Int32) (x2 : Int32) (x3 : Int32) (x4 : Int32) (x5 : Int32) (I : Nat → Nat → Int32) (J : Nat → Nat → Int64) : am_O := am_run (am_G am_prog (N + 30) (d + 0)) eX0_pointsTo uX0_pointsTo n 6 [(0, .ref 126), (1, .int x1), (2, .int x2), (3, .int x3), (4, .int x4), (5, .int x5)] [] (mkh X I J)
def KX0_pointsTo_0 (N d n : Nat) (a0 : Int32) (a1 : Int32) (a2 : Int32) (a3 : Int32) (a4 : Int32) (z : Int32) (h : am_H) : am_O := if z = nI 0 then am_run (am_G am_prog (N + 30) (d + 0)) eX0_pointsTo uX0_pointsTo n 6 [(0, .ref 126), (1, .int a0), (2, .int a1), (3, .int a2), (4, .int a3), (5, .int (a4 + (nI 1)))] [] h else am_run (am_G am_prog (N + 30) (d + 0)) eX0_pointsTo uX0_pointsTo n 6 [(0, .ref 126), (1, .int a0), (2, .int a1), (3, .int a2), (4, .int a4), (5, .int (a4 + (nI 1)))] [] h
set_option maxHeartbeats 4000000 in
set_option maxRecDepth 100000 in
theorem sX0_pointsTo_0 (N d n : Nat) {X : lt_X} (x1 : Int32) (x2 : Int32) (x3 : Int32) (I : Nat → Nat → Int32) (J : Nat → Nat → Int64) : RX0_pointsTo_0 N d (n + 1) X x1 x2 x3 I J = RX0_pointsTo_6 N d n X x1 x2 x3 x3 (nI 0) I J := by
  rfl
set_option maxHeartbeats 4000000 in
set_option maxRecDepth 100000 in
theorem sX0_pointsTo_6 (N d n : Nat) {X : lt_X} (x1 : Int32) (x2 : Int32) (x3 : Int32) (x4 : Int32) (x5 : Int32) (I : Nat → Nat → Int32) (J : Nat → Nat → Int64) : RX0_pointsTo_6 N d (n + 1) X x1 x2 x3 x4 x5 I J = if x5 < x1 then if ((x2 >>> (x5 &&& 31)) &&& (nI 1)) = nI 0 then RX0_pointsTo_6 N d n X x1 x2 x3 x4 (x5 + (nI 1)) I J else am_cI (am_G am_prog (N + 30) (d + 0) 10 [.ref 126, .int x3, .int x5, .int x4] (mkh X I J)) (KX0_pointsTo_0 N d n x1 x2 x3 x4 x5) else some (.int x4, (mkh X I J)) := by
  rfl
set_option maxHeartbeats 4000000 in
set_option maxRecDepth 100000 in
theorem kX0_pointsTo_0 (N d n : Nat) {X : lt_X} (a0 : Int32) (a1 : Int32) (a2 : Int32) (a3 : Int32) (a4 : Int32) (z : Int32) (I : Nat → Nat → Int32) (J : Nat → Nat → Int64) : KX0_pointsTo_0 N d n a0 a1 a2 a3 a4 z (mkh X I J) = if z = nI 0 then RX0_pointsTo_6 N d n X a0 a1 a2 a3 (a4 + (nI 1)) I J else RX0_pointsTo_6 N d n X a0 a1 a2 a4 (a4 + (nI 1)) I J := by
  rfl
theorem fX0_pointsTo (N d : Nat) {X : lt_X} (x1 : Int32) (x2 : Int32) (x3 : Int32) (I : Nat → Nat → Int32) (J : Nat → Nat → Int64) : am_G am_prog N (d + 1) 9 [.ref 126, .int x1, .int x2, .int x3] (mkh X I J) = am_run (am_G am_prog N d) eX0_pointsTo uX0_pointsTo N 0 [(0, .ref 126), (1, .int x1), (2, .int x2), (3, .int x3)] [] (mkh X I J) := by
  refine (am_G_at N d 9 mX0_pointsTo _ _ rfl).trans ?_
  rfl
theorem gX0_pointsTo (N d : Nat) {X : lt_X} (x1 : Int32) (x2 : Int32) (x3 : Int32) (I : Nat → Nat → Int32) (J : Nat → Nat → Int64) : am_G am_prog (N + 30) (d + 1) 9 [.ref 126, .int x1, .int x2, .int x3] (mkh X I J) = RX0_pointsTo_0 N d (N + 30) X x1 x2 x3 I J := fX0_pointsTo (N + 30) (d + 0) x1 x2 x3 I J
def RX0_isBetter_0 (N d n : Nat) (X : lt_X) (x1 : Int32) (x2 : Int32) (x3 : Int32) (I : Nat → Nat → Int32) (J : Nat → Nat → Int64) : am_O := am_run (am_G am_prog (N + 30) (d + 0)) eX0_isBetter uX0_isBetter n 0 [(0, .ref 126), (1, .int x1), (2, .int x2), (3, .int x3)] [] (mkh X I J)
set_option maxHeartbeats 4000000 in
set_option maxRecDepth 100000 in
theorem sX0_isBetter_0 (N d n : Nat) {X : lt_X} (x1 : Int32) (x2 : Int32) (x3 : Int32) (I : Nat → Nat → Int32) (J : Nat → Nat → Int64) : RX0_isBetter_0 N d (n + 1) X x1 x2 x3 I J = if am_in x2 6 then if am_in ((x1 * (nI 6)) + (I 129 x2.toNatClampNeg)) 36 then if am_in x3 6 then if am_in ((x1 * (nI 6)) + (I 129 x3.toNatClampNeg)) 36 then if nI 0 < ((I 127 (((x1 * (nI 6)) + (I 129 x2.toNatClampNeg)).toNatClampNeg)) - (I 127 (((x1 * (nI 6)) + (I 129 x3.toNatClampNeg)).toNatClampNeg))) then some (.int (nI 1), (mkh X I J)) else if ((I 127 (((x1 * (nI 6)) + (I 129 x2.toNatClampNeg)).toNatClampNeg)) - (I 127 (((x1 * (nI 6)) + (I 129 x3.toNatClampNeg)).toNatClampNeg))) = nI 0 then if x3 = x1 then some (.int (nI 0), (mkh X I J)) else if am_in x2 6 then if am_in x3 6 then if (I 129 x2.toNatClampNeg) < (I 129 x3.toNatClampNeg) then some (.int (nI 1), (mkh X I J)) else some (.int (nI 0), (mkh X I J)) else none else none else some (.int (nI 0), (mkh X I J)) else none else none else none else none := by
  rfl
theorem fX0_isBetter (N d : Nat) {X : lt_X} (x1 : Int32) (x2 : Int32) (x3 : Int32) (I : Nat → Nat → Int32) (J : Nat → Nat → Int64) : am_G am_prog N (d + 1) 10 [.ref 126, .int x1, .int x2, .int x3] (mkh X I J) = am_run (am_G am_prog N d) eX0_isBetter uX0_isBetter N 0 [(0, .ref 126), (1, .int x1), (2, .int x2), (3, .int x3)] [] (mkh X I J) := by
  refine (am_G_at N d 10 mX0_isBetter _ _ rfl).trans ?_
  rfl
theorem gX0_isBetter (N d : Nat) {X : lt_X} (x1 : Int32) (x2 : Int32) (x3 : Int32) (I : Nat → Nat → Int32) (J : Nat → Nat → Int64) : am_G am_prog (N + 30) (d + 1) 10 [.ref 126, .int x1, .int x2, .int x3] (mkh X I J) = RX0_isBetter_0 N d (N + 30) X x1 x2 x3 I J := fX0_isBetter (N + 30) (d + 0) x1 x2 x3 I J
def RX0_leaveInRings_0 (N d n : Nat) (X : lt_X) (x1 : Int32) (x2 : Int32) (I : Nat → Nat → Int32) (J : Nat → Nat → Int64) : am_O := am_run (am_G am_prog (N + 30) (d + 0)) eX0_leaveInRings uX0_leaveInRings n 0 [(0, .ref 126), (1, .int x1), (2, .int x2)] [] (mkh X I J)
def RX0_leaveInRings_5 (N d n : Nat) (X : lt_X) (x1 : Int32) (x2 : Int32) (x3 : Int32) (x4 : Int32) (I : Nat → Nat → Int32) (J : Nat → Nat → Int64) : am_O := am_run (am_G am_prog (N + 30) (d + 0)) eX0_leaveInRings uX0_leaveInRings n 5 [(0, .ref 126), (1, .int x1), (2, .int x2), (3, .int x3), (4, .int x4)] [] (mkh X I J)
def KX0_leaveInRings_0 (N d n : Nat) (a0 : Int32) (a1 : Int32) (a2 : Int32) (a3 : Int32) (z : Int32) (h : am_H) : am_O := if z = nI 0 then am_run (am_G am_prog (N + 30) (d + 0)) eX0_leaveInRings uX0_leaveInRings n 5 [(0, .ref 126), (1, .int a0), (2, .int a1), (3, .int a2), (4, .int (a3 + (nI 1)))] [] h else am_gR h 0 126 3 (fun y1 => am_gR h 0 126 2 (fun y2 => am_gR h 0 126 4 (fun y3 => am_lI h 10 y3 a3 (fun y4 => am_lI h 10 y2 y4 (fun y5 => am_tI h y1 a3 y5 (fun h6 => am_run (am_G am_prog (N + 30) (d + 0)) eX0_leaveInRings uX0_leaveInRings n 5 [(0, .ref 126), (1, .int a0), (2, .int a1), (3, .int (a2 ||| ((nI 1) <<< (a3 &&& 31)))), (4, .int (a3 + (nI 1)))] [] h6))))))
set_option maxHeartbeats 4000000 in
set_option maxRecDepth 100000 in
theorem sX0_leaveInRings_0 (N d n : Nat) {X : lt_X} (x1 : Int32) (x2 : Int32) (I : Nat → Nat → Int32) (J : Nat → Nat → Int64) : RX0_leaveInRings_0 N d (n + 1) X x1 x2 I J = RX0_leaveInRings_5 N d n X x1 x2 (nI 0) (nI 0) I J := by
  rfl
set_option maxHeartbeats 4000000 in
set_option maxRecDepth 100000 in
theorem sX0_leaveInRings_5 (N d n : Nat) {X : lt_X} (x1 : Int32) (x2 : Int32) (x3 : Int32) (x4 : Int32) (I : Nat → Nat → Int32) (J : Nat → Nat → Int64) : RX0_leaveInRings_5 N d (n + 1) X x1 x2 x3 x4 I J = if x4 < x1 then if ((x2 >>> (x4 &&& 31)) &&& (nI 1)) = nI 0 then RX0_leaveInRings_5 N d n X x1 x2 x3 (x4 + (nI 1)) I J else am_cI (am_G am_prog (N + 30) (d + 0) 12 [.ref 126, .int x4] (mkh X I J)) (KX0_leaveInRings_0 N d n x1 x2 x3 x4) else some (.int x3, (mkh X I J)) := by
  rfl
set_option maxHeartbeats 4000000 in
set_option maxRecDepth 100000 in
theorem kX0_leaveInRings_0 (N d n : Nat) {X : lt_X} (a0 : Int32) (a1 : Int32) (a2 : Int32) (a3 : Int32) (z : Int32) (I : Nat → Nat → Int32) (J : Nat → Nat → Int64) : KX0_leaveInRings_0 N d n a0 a1 a2 a3 z (mkh X I J) = if z = nI 0 then RX0_leaveInRings_5 N d n X a0 a1 a2 (a3 + (nI 1)) I J else if am_in a3 6 then if am_in (I 131 a3.toNatClampNeg) 6 then if am_in a3 6 then RX0_leaveInRings_5 N d n X a0 a1 (a2 ||| ((nI 1) <<< (a3 &&& 31))) (a3 + (nI 1)) (u2 I 130 a3.toNatClampNeg (I 129 ((I 131 a3.toNatClampNeg).toNatClampNeg))) J else none else none else none := by
  have e1 : KX0_leaveInRings_0 N d n a0 a1 a2 a3 z (mkh X I J) = if z = nI 0 then RX0_leaveInRings_5 N d n X a0 a1 a2 (a3 + (nI 1)) I J else am_lI (mkh X I J) 10 131 a3 (fun y4 => am_lI (mkh X I J) 10 129 y4 (fun y5 => am_tI (mkh X I J) 130 a3 y5 (fun h6 => am_run (am_G am_prog (N + 30) (d + 0)) eX0_leaveInRings uX0_leaveInRings n 5 [(0, Value.ref 126), (1, Value.int a0), (2, Value.int a1), (3, Value.int (a2 ||| ((nI 1) <<< (a3 &&& 31)))), (4, Value.int (a3 + (nI 1)))] [] h6))) := rfl
  have e2 : ∀ f, am_lI (mkh X I J) 10 131 a3 f = if am_in a3 6 then f (I 131 a3.toNatClampNeg) else none := fun f => rfl
  have e3 : ∀ x f, am_lI (mkh X I J) 10 129 x f = if am_in x 6 then f (I 129 x.toNatClampNeg) else none := fun x f => rfl
  have e4 : ∀ v f, am_tI (mkh X I J) 130 a3 v f = if am_in a3 6 then f (mkh X (u2 I 130 a3.toNatClampNeg v) J) else none := fun v f => rfl
  rw [e1, e2, e3, e4]
  rfl
theorem fX0_leaveInRings (N d : Nat) {X : lt_X} (x1 : Int32) (x2 : Int32) (I : Nat → Nat → Int32) (J : Nat → Nat → Int64) : am_G am_prog N (d + 1) 11 [.ref 126, .int x1, .int x2] (mkh X I J) = am_run (am_G am_prog N d) eX0_leaveInRings uX0_leaveInRings N 0 [(0, .ref 126), (1, .int x1), (2, .int x2)] [] (mkh X I J) := by
  refine (am_G_at N d 11 mX0_leaveInRings _ _ rfl).trans ?_
  rfl
theorem gX0_leaveInRings (N d : Nat) {X : lt_X} (x1 : Int32) (x2 : Int32) (I : Nat → Nat → Int32) (J : Nat → Nat → Int64) : am_G am_prog (N + 30) (d + 1) 11 [.ref 126, .int x1, .int x2] (mkh X I J) = RX0_leaveInRings_0 N d (N + 30) X x1 x2 I J := fX0_leaveInRings (N + 30) (d + 0) x1 x2 I J
def RX0_isInRing_0 (N d n : Nat) (X : lt_X) (x1 : Int32) (I : Nat → Nat → Int32) (J : Nat → Nat → Int64) : am_O := am_run (am_G am_prog (N + 30) (d + 0)) eX0_isInRing uX0_isInRing n 0 [(0, .ref 126), (1, .int x1)] [] (mkh X I J)
def RX0_isInRing_9 (N d n : Nat) (X : lt_X) (x1 : Int32) (x2 : Int32) (x3 : Int32) (I : Nat → Nat → Int32) (J : Nat → Nat → Int64) : am_O := am_run (am_G am_prog (N + 30) (d + 0)) eX0_isInRing uX0_isInRing n 9 [(0, .ref 126), (1, .int x1), (2, .int x2), (3, .int x3)] [] (mkh X I J)
set_option maxHeartbeats 4000000 in
set_option maxRecDepth 100000 in
theorem sX0_isInRing_0 (N d n : Nat) {X : lt_X} (x1 : Int32) (I : Nat → Nat → Int32) (J : Nat → Nat → Int64) : RX0_isInRing_0 N d (n + 1) X x1 I J = if am_in x1 6 then RX0_isInRing_9 N d n X x1 (I 131 x1.toNatClampNeg) (nI 0) I J else none := by
  rfl
set_option maxHeartbeats 4000000 in
set_option maxRecDepth 100000 in
theorem sX0_isInRing_9 (N d n : Nat) {X : lt_X} (x1 : Int32) (x2 : Int32) (x3 : Int32) (I : Nat → Nat → Int32) (J : Nat → Nat → Int64) : RX0_isInRing_9 N d (n + 1) X x1 x2 x3 I J = if x3 < (nI 6) then if x2 = x1 then if x2 = x1 then some (.int (nI 1), (mkh X I J)) else some (.int (nI 0), (mkh X I J)) else if am_in x2 6 then RX0_isInRing_9 N d n X x1 (I 131 x2.toNatClampNeg) (x3 + (nI 1)) I J else none else if x2 = x1 then some (.int (nI 1), (mkh X I J)) else some (.int (nI 0), (mkh X I J)) := by
  rfl
theorem fX0_isInRing (N d : Nat) {X : lt_X} (x1 : Int32) (I : Nat → Nat → Int32) (J : Nat → Nat → Int64) : am_G am_prog N (d + 1) 12 [.ref 126, .int x1] (mkh X I J) = am_run (am_G am_prog N d) eX0_isInRing uX0_isInRing N 0 [(0, .ref 126), (1, .int x1)] [] (mkh X I J) := by
  refine (am_G_at N d 12 mX0_isInRing _ _ rfl).trans ?_
  rfl
theorem gX0_isInRing (N d : Nat) {X : lt_X} (x1 : Int32) (I : Nat → Nat → Int32) (J : Nat → Nat → Int64) : am_G am_prog (N + 30) (d + 1) 12 [.ref 126, .int x1] (mkh X I J) = RX0_isInRing_0 N d (N + 30) X x1 I J := fX0_isInRing (N + 30) (d + 0) x1 I J
def RX0_mostWorth_0 (N d n : Nat) (X : lt_X) (t : Nat) (x2 : Int32) (x3 : Int32) (I : Nat → Nat → Int32) (J : Nat → Nat → Int64) : am_O := am_run (am_G am_prog (N + 30) (d + 0)) eX0_mostWorth uX0_mostWorth n 0 [(0, .ref 126), (1, .ref t), (2, .int x2), (3, .int x3)] [] (mkh X I J)
def RX0_mostWorth_6 (N d n : Nat) (X : lt_X) (t : Nat) (x2 : Int32) (x3 : Int32) (x4 : Int32) (x5 : Int32) (I : Nat → Nat → Int32) (J : Nat → Nat → Int64) : am_O := am_run (am_G am_prog (N + 30) (d + 0)) eX0_mostWorth uX0_mostWorth n 6 [(1, .ref t), (2, .int x2), (3, .int x3), (4, .int x4), (5, .int x5)] [] (mkh X I J)
def KX0_mostWorth_0 (N d n : Nat) (t : Nat) (a0 : Int32) (a1 : Int32) (a2 : Int32) (a3 : Int32) (z : Int32) (h : am_H) : am_O := am_run (am_G am_prog (N + 30) (d + 0)) eX0_mostWorth uX0_mostWorth n 6 [(1, .ref t), (2, .int a0), (3, .int a1), (4, .int (if a3 < z then z else a3)), (5, .int (a2 + (nI 1)))] [] h
set_option maxHeartbeats 4000000 in
set_option maxRecDepth 100000 in
theorem sX0_mostWorth_0 (N d n : Nat) {X : lt_X} {t : Nat} (ht : isT t) (x2 : Int32) (x3 : Int32) (I : Nat → Nat → Int32) (J : Nat → Nat → Int64) : RX0_mostWorth_0 N d (n + 1) X t x2 x3 I J = RX0_mostWorth_6 N d n X t x2 x3 (nI 0) (nI 0) I J := by
  rcases ht with rfl | rfl | rfl | rfl | rfl <;> rfl
set_option maxHeartbeats 4000000 in
set_option maxRecDepth 100000 in
theorem sX0_mostWorth_6 (N d n : Nat) {X : lt_X} {t : Nat} (ht : isT t) (x2 : Int32) (x3 : Int32) (x4 : Int32) (x5 : Int32) (I : Nat → Nat → Int32) (J : Nat → Nat → Int64) : RX0_mostWorth_6 N d (n + 1) X t x2 x3 x4 x5 I J = if x5 < (I (t + 2) 3) then if am_in x5 6 then if (I (t + 13) x5.toNatClampNeg) = x3 then am_cI (am_G am_prog (N + 30) (d + 0) 77 [.ref t, .int x2, .int x5] (mkh X I J)) (KX0_mostWorth_0 N d n t x2 x3 x5 x4) else RX0_mostWorth_6 N d n X t x2 x3 x4 (x5 + (nI 1)) I J else none else some (.int x4, (mkh X I J)) := by
  rcases ht with rfl | rfl | rfl | rfl | rfl <;> rfl
set_option maxHeartbeats 4000000 in
set_option maxRecDepth 100000 in
theorem kX0_mostWorth_0 (N d n : Nat) {X : lt_X} {t : Nat} (ht : isT t) (a0 : Int32) (a1 : Int32) (a2 : Int32) (a3 : Int32) (z : Int32) (I : Nat → Nat → Int32) (J : Nat → Nat → Int64) : KX0_mostWorth_0 N d n t a0 a1 a2 a3 z (mkh X I J) = RX0_mostWorth_6 N d n X t a0 a1 (if a3 < z then z else a3) (a2 + (nI 1)) I J := by
  rcases ht with rfl | rfl | rfl | rfl | rfl <;> rfl
theorem fX0_mostWorth (N d : Nat) {X : lt_X} {t : Nat} (ht : isT t) (x2 : Int32) (x3 : Int32) (I : Nat → Nat → Int32) (J : Nat → Nat → Int64) : am_G am_prog N (d + 1) 13 [.ref 126, .ref t, .int x2, .int x3] (mkh X I J) = am_run (am_G am_prog N d) eX0_mostWorth uX0_mostWorth N 0 [(0, .ref 126), (1, .ref t), (2, .int x2), (3, .int x3)] [] (mkh X I J) := by
  refine (am_G_at N d 13 mX0_mostWorth _ _ rfl).trans ?_
  rcases ht with rfl | rfl | rfl | rfl | rfl <;> rfl
theorem gX0_mostWorth (N d : Nat) {X : lt_X} {t : Nat} (ht : isT t) (x2 : Int32) (x3 : Int32) (I : Nat → Nat → Int32) (J : Nat → Nat → Int64) : am_G am_prog (N + 30) (d + 1) 13 [.ref 126, .ref t, .int x2, .int x3] (mkh X I J) = RX0_mostWorth_0 N d (N + 30) X t x2 x3 I J := fX0_mostWorth (N + 30) (d + 0) ht x2 x3 I J
def RX0_findPick_0 (N d n : Nat) (X : lt_X) (t : Nat) (tr : Nat) (x3 : Int32) (I : Nat → Nat → Int32) (J : Nat → Nat → Int64) : am_O := am_run (am_G am_prog (N + 30) (d + 0)) eX0_findPick uX0_findPick n 0 [(0, .ref 126), (1, .ref t), (2, .ref tr), (3, .int x3)] [] (mkh X I J)
def RX0_findPick_14 (N d n : Nat) (X : lt_X) (t : Nat) (tr : Nat) (x3 : Int32) (x4 : Int32) (x5 : Int32) (x6 : Int32) (I : Nat → Nat → Int32) (J : Nat → Nat → Int64) : am_O := am_run (am_G am_prog (N + 30) (d + 0)) eX0_findPick uX0_findPick n 14 [(0, .ref 126), (1, .ref t), (2, .ref tr), (3, .int x3), (4, .int x4), (5, .int x5), (6, .int x6)] [] (mkh X I J)
def KX0_findPick_0 (N d n : Nat) (t : Nat) (tr : Nat) (a0 : Int32) (h : am_H) : am_O := am_run (am_G am_prog (N + 30) (d + 0)) eX0_findPick uX0_findPick n 14 [(0, .ref 126), (1, .ref t), (2, .ref tr), (3, .int a0), (4, .int (nI 0)), (5, .int (-1)), (6, .int (nI 0))] [] h
def KX0_findPick_1 (N d n : Nat) (t : Nat) (tr : Nat) (a0 : Int32) (a1 : Int32) (a2 : Int32) (z : Int32) (h : am_H) : am_O := if z = (-1) then am_run (am_G am_prog (N + 30) (d + 0)) eX0_findPick uX0_findPick n 14 [(0, .ref 126), (1, .ref t), (2, .ref tr), (3, .int a0), (4, .int a1), (5, .int z), (6, .int (a2 + (nI 1)))] [] h else am_run (am_G am_prog (N + 30) (d + 0)) eX0_findPick uX0_findPick n 14 [(0, .ref 126), (1, .ref t), (2, .ref tr), (3, .int a0), (4, .int (a1 ||| ((nI 1) <<< (z &&& 31)))), (5, .int z), (6, .int (a2 + (nI 1)))] [] h
set_option maxHeartbeats 4000000 in
set_option maxRecDepth 100000 in
theorem sX0_findPick_0 (N d n : Nat) {X : lt_X} {t : Nat} {tr : Nat} (ht : isT t) (htr : isTr tr) (x3 : Int32) (I : Nat → Nat → Int32) (J : Nat → Nat → Int64) : RX0_findPick_0 N d (n + 1) X t tr x3 I J = am_cV (am_G am_prog (N + 30) (d + 0) 1 [.ref 126, .ref t] (mkh X I J)) (KX0_findPick_0 N d n t tr x3) := by
  rcases ht with rfl | rfl | rfl | rfl | rfl <;> rcases htr with rfl | rfl | rfl | rfl <;> rfl
set_option maxHeartbeats 4000000 in
set_option maxRecDepth 100000 in
theorem sX0_findPick_14 (N d n : Nat) {X : lt_X} {t : Nat} {tr : Nat} (ht : isT t) (htr : isTr tr) (x3 : Int32) (x4 : Int32) (x5 : Int32) (x6 : Int32) (I : Nat → Nat → Int32) (J : Nat → Nat → Int64) : RX0_findPick_14 N d (n + 1) X t tr x3 x4 x5 x6 I J = if x3 < x6 then some (.int x5, (mkh X I J)) else if x6 < (nI 6) then if am_in x6 60 then am_cI (am_G am_prog (N + 30) (d + 0) 15 [.ref 126, .ref t, .int ((J (tr + 1) x6.toNatClampNeg).toInt32), .int x4] (mkh X I J)) (KX0_findPick_1 N d n t tr x3 x4 x6) else none else some (.int x5, (mkh X I J)) := by
  rcases ht with rfl | rfl | rfl | rfl | rfl <;> rcases htr with rfl | rfl | rfl | rfl <;> rfl
set_option maxHeartbeats 4000000 in
set_option maxRecDepth 100000 in
theorem kX0_findPick_0 (N d n : Nat) {X : lt_X} {t : Nat} {tr : Nat} (ht : isT t) (htr : isTr tr) (a0 : Int32) (I : Nat → Nat → Int32) (J : Nat → Nat → Int64) : KX0_findPick_0 N d n t tr a0 (mkh X I J) = RX0_findPick_14 N d n X t tr a0 (nI 0) (-1) (nI 0) I J := by
  rcases ht with rfl | rfl | rfl | rfl | rfl <;> rcases htr with rfl | rfl | rfl | rfl <;> rfl
set_option maxHeartbeats 4000000 in
set_option maxRecDepth 100000 in
theorem kX0_findPick_1 (N d n : Nat) {X : lt_X} {t : Nat} {tr : Nat} (ht : isT t) (htr : isTr tr) (a0 : Int32) (a1 : Int32) (a2 : Int32) (z : Int32) (I : Nat → Nat → Int32) (J : Nat → Nat → Int64) : KX0_findPick_1 N d n t tr a0 a1 a2 z (mkh X I J) = if z = (-1) then RX0_findPick_14 N d n X t tr a0 a1 z (a2 + (nI 1)) I J else RX0_findPick_14 N d n X t tr a0 (a1 ||| ((nI 1) <<< (z &&& 31))) z (a2 + (nI 1)) I J := by
  rcases ht with rfl | rfl | rfl | rfl | rfl <;> rcases htr with rfl | rfl | rfl | rfl <;> rfl
theorem fX0_findPick (N d : Nat) {X : lt_X} {t : Nat} {tr : Nat} (ht : isT t) (htr : isTr tr) (x3 : Int32) (I : Nat → Nat → Int32) (J : Nat → Nat → Int64) : am_G am_prog N (d + 1) 14 [.ref 126, .ref t, .ref tr, .int x3] (mkh X I J) = am_run (am_G am_prog N d) eX0_findPick uX0_findPick N 0 [(0, .ref 126), (1, .ref t), (2, .ref tr), (3, .int x3)] [] (mkh X I J) := by
  refine (am_G_at N d 14 mX0_findPick _ _ rfl).trans ?_
  rcases ht with rfl | rfl | rfl | rfl | rfl <;> rcases htr with rfl | rfl | rfl | rfl <;> rfl
theorem gX0_findPick (N d : Nat) {X : lt_X} {t : Nat} {tr : Nat} (ht : isT t) (htr : isTr tr) (x3 : Int32) (I : Nat → Nat → Int32) (J : Nat → Nat → Int64) : am_G am_prog (N + 30) (d + 1) 14 [.ref 126, .ref t, .ref tr, .int x3] (mkh X I J) = RX0_findPick_0 N d (N + 30) X t tr x3 I J := fX0_findPick (N + 30) (d + 0) ht htr x3 I J
def RX0_firstMost_0 (N d n : Nat) (X : lt_X) (t : Nat) (x2 : Int32) (x3 : Int32) (I : Nat → Nat → Int32) (J : Nat → Nat → Int64) : am_O := am_run (am_G am_prog (N + 30) (d + 0)) eX0_firstMost uX0_firstMost n 0 [(0, .ref 126), (1, .ref t), (2, .int x2), (3, .int x3)] [] (mkh X I J)
def RX0_firstMost_6 (N d n : Nat) (X : lt_X) (t : Nat) (x2 : Int32) (x3 : Int32) (x4 : Int32) (x5 : Int32) (I : Nat → Nat → Int32) (J : Nat → Nat → Int64) : am_O := am_run (am_G am_prog (N + 30) (d + 0)) eX0_firstMost uX0_firstMost n 6 [(0, .ref 126), (1, .ref t), (2, .int x2), (3, .int x3), (4, .int x4), (5, .int x5)] [] (mkh X I J)
def RX0_firstMost_31 (N d n : Nat) (X : lt_X) (t : Nat) (x2 : Int32) (x3 : Int32) (x4 : Int32) (x5 : Int32) (s0 : Int32) (I : Nat → Nat → Int32) (J : Nat → Nat → Int64) : am_O := am_run (am_G am_prog (N + 30) (d + 0)) eX0_firstMost uX0_firstMost n 31 [(0, .ref 126), (1, .ref t), (2, .int x2), (3, .int x3), (4, .int x4), (5, .int x5)] [.int s0] (mkh X I J)
set_option maxHeartbeats 4000000 in
set_option maxRecDepth 100000 in
theorem sX0_firstMost_0 (N d n : Nat) {X : lt_X} {t : Nat} (ht : isT t) (x2 : Int32) (x3 : Int32) (I : Nat → Nat → Int32) (J : Nat → Nat → Int64) : RX0_firstMost_0 N d (n + 1) X t x2 x3 I J = RX0_firstMost_6 N d n X t x2 x3 (-1) (nI 0) I J := by
  rcases ht with rfl | rfl | rfl | rfl | rfl <;> rfl
set_option maxHeartbeats 4000000 in
set_option maxRecDepth 100000 in
theorem sX0_firstMost_6 (N d n : Nat) {X : lt_X} {t : Nat} (ht : isT t) (x2 : Int32) (x3 : Int32) (x4 : Int32) (x5 : Int32) (I : Nat → Nat → Int32) (J : Nat → Nat → Int64) : RX0_firstMost_6 N d (n + 1) X t x2 x3 x4 x5 I J = if x5 < (I (t + 2) 3) then if ((x3 >>> (x5 &&& 31)) &&& (nI 1)) = nI 0 then RX0_firstMost_31 N d n X t x2 x3 x4 x5 (nI 1) I J else RX0_firstMost_31 N d n X t x2 x3 x4 x5 (nI 0) I J else some (.int x4, (mkh X I J)) := by
  rcases ht with rfl | rfl | rfl | rfl | rfl <;> rfl
set_option maxHeartbeats 4000000 in
set_option maxRecDepth 100000 in
theorem sX0_firstMost_31 (N d n : Nat) {X : lt_X} {t : Nat} (ht : isT t) (x2 : Int32) (x3 : Int32) (x4 : Int32) (x5 : Int32) (s0 : Int32) (I : Nat → Nat → Int32) (J : Nat → Nat → Int64) : RX0_firstMost_31 N d (n + 1) X t x2 x3 x4 x5 s0 I J = if s0 = nI 0 then RX0_firstMost_6 N d n X t x2 x3 x4 (x5 + (nI 1)) I J else if x4 = (-1) then RX0_firstMost_6 N d n X t x2 x3 x5 (x5 + (nI 1)) I J else if am_in ((x2 * (nI 6)) + x5) 36 then if am_in ((x2 * (nI 6)) + x4) 36 then if (I 127 (((x2 * (nI 6)) + x4).toNatClampNeg)) < (I 127 (((x2 * (nI 6)) + x5).toNatClampNeg)) then RX0_firstMost_6 N d n X t x2 x3 x5 (x5 + (nI 1)) I J else RX0_firstMost_6 N d n X t x2 x3 x4 (x5 + (nI 1)) I J else none else none := by
  rcases ht with rfl | rfl | rfl | rfl | rfl <;> rfl
theorem fX0_firstMost (N d : Nat) {X : lt_X} {t : Nat} (ht : isT t) (x2 : Int32) (x3 : Int32) (I : Nat → Nat → Int32) (J : Nat → Nat → Int64) : am_G am_prog N (d + 1) 15 [.ref 126, .ref t, .int x2, .int x3] (mkh X I J) = am_run (am_G am_prog N d) eX0_firstMost uX0_firstMost N 0 [(0, .ref 126), (1, .ref t), (2, .int x2), (3, .int x3)] [] (mkh X I J) := by
  refine (am_G_at N d 15 mX0_firstMost _ _ rfl).trans ?_
  rcases ht with rfl | rfl | rfl | rfl | rfl <;> rfl
theorem gX0_firstMost (N d : Nat) {X : lt_X} {t : Nat} (ht : isT t) (x2 : Int32) (x3 : Int32) (I : Nat → Nat → Int32) (J : Nat → Nat → Int64) : am_G am_prog (N + 30) (d + 1) 15 [.ref 126, .ref t, .int x2, .int x3] (mkh X I J) = RX0_firstMost_0 N d (N + 30) X t x2 x3 I J := fX0_firstMost (N + 30) (d + 0) ht x2 x3 I J
def RX0_playGame_0 (N d n : Nat) (X : lt_X) (t : Nat) (x2 : Int32) (x3 : Int32) (x4 : Int32) (I : Nat → Nat → Int32) (J : Nat → Nat → Int64) : am_O := am_run (am_G am_prog (N + 30) (d + 0)) eX0_playGame uX0_playGame n 0 [(0, .ref 126), (1, .ref t), (2, .int x2), (3, .int x3), (4, .int x4)] [] (mkh X I J)
def RX0_playGame_25 (N d n : Nat) (X : lt_X) (x2 : Int32) (x3 : Int32) (x4 : Int32) (x5 : Int32) (x6 : Int32) (x7 : Int32) (I : Nat → Nat → Int32) (J : Nat → Nat → Int64) : am_O := am_run (am_G am_prog (N + 30) (d + 0)) eX0_playGame uX0_playGame n 25 [(0, .ref 126), (2, .int x2), (3, .int x3), (4, .int x4), (5, .int x5), (6, .int x6), (7, .int x7)] [] (mkh X I J)
def RX0_playGame_58 (N d n : Nat) (X : lt_X) (x2 : Int32) (x3 : Int32) (x5 : Int32) (x6 : Int32) (x7 : Int32) (I : Nat → Nat → Int32) (J : Nat → Nat → Int64) : am_O := am_run (am_G am_prog (N + 30) (d + 0)) eX0_playGame uX0_playGame n 58 [(0, .ref 126), (2, .int x2), (3, .int x3), (5, .int x5), (6, .int x6), (7, .int x7)] [] (mkh X I J)
def RX0_playGame_66 (N d n : Nat) (X : lt_X) (x2 : Int32) (x3 : Int32) (x5 : Int32) (x6 : Int32) (x7 : Int32) (x8 : Int32) (I : Nat → Nat → Int32) (J : Nat → Nat → Int64) : am_O := am_run (am_G am_prog (N + 30) (d + 0)) eX0_playGame uX0_playGame n 66 [(0, .ref 126), (2, .int x2), (3, .int x3), (5, .int x5), (6, .int x6), (7, .int x7), (8, .int x8)] [] (mkh X I J)
def RX0_playGame_105 (N d n : Nat) (X : lt_X) (x2 : Int32) (x3 : Int32) (x5 : Int32) (x6 : Int32) (x7 : Int32) (x8 : Int32) (s0 : Int32) (I : Nat → Nat → Int32) (J : Nat → Nat → Int64) : am_O := am_run (am_G am_prog (N + 30) (d + 0)) eX0_playGame uX0_playGame n 105 [(0, .ref 126), (2, .int x2), (3, .int x3), (5, .int x5), (6, .int x6), (7, .int x7), (8, .int x8)] [.int s0] (mkh X I J)
def KX0_playGame_0 (N d n : Nat) (t : Nat) (a0 : Int32) (a1 : Int32) (a2 : Int32) (h : am_H) : am_O := am_cI (am_G am_prog (N + 30) (d + 0) 64 [.ref t, .int (-1)] h) (fun r2 h1 => am_gR h1 5 t 1 (fun y3 => am_lI h1 10 y3 (nI 3) (fun y4 => am_run (am_G am_prog (N + 30) (d + 0)) eX0_playGame uX0_playGame n 25 [(0, .ref 126), (2, .int a0), (3, .int a1), (4, .int a2), (5, .int r2), (6, .int ((nI 1) <<< (y4 &&& 31))), (7, .int (nI 0))] [] h1)))
def KX0_playGame_1 (N d n : Nat) (a0 : Int32) (a1 : Int32) (a2 : Int32) (a3 : Int32) (a4 : Int32) (a5 : Int32) (z : Int32) (h : am_H) : am_O := am_run (am_G am_prog (N + 30) (d + 0)) eX0_playGame uX0_playGame n 105 [(0, .ref 126), (2, .int a0), (3, .int a1), (5, .int a2), (6, .int a3), (7, .int a4), (8, .int a5)] [.int z] h
def KX0_playGame_2 (N d n : Nat) (a0 : Int32) (a1 : Int32) (a2 : Int32) (a3 : Int32) (a4 : Int32) (a5 : Int32) (z : Int32) (h : am_H) : am_O := am_run (am_G am_prog (N + 30) (d + 0)) eX0_playGame uX0_playGame n 105 [(0, .ref 126), (2, .int a0), (3, .int a1), (5, .int a2), (6, .int a3), (7, .int a4), (8, .int a5)] [.int z] h
def KX0_playGame_3 (N d n : Nat) (t : Nat) (a0 : Int32) (a1 : Int32) (a2 : Int32) (z : Int32) (h : am_H) : am_O := am_gR h 5 t 1 (fun y1 => am_lI h 10 y1 (nI 3) (fun y2 => am_run (am_G am_prog (N + 30) (d + 0)) eX0_playGame uX0_playGame n 25 [(0, .ref 126), (2, .int a0), (3, .int a1), (4, .int a2), (5, .int z), (6, .int ((nI 1) <<< (y2 &&& 31))), (7, .int (nI 0))] [] h))
set_option maxHeartbeats 4000000 in
set_option maxRecDepth 100000 in
theorem sX0_playGame_0 (N d n : Nat) {X : lt_X} {t : Nat} (ht : isT t) (x2 : Int32) (x3 : Int32) (x4 : Int32) (I : Nat → Nat → Int32) (J : Nat → Nat → Int64) : RX0_playGame_0 N d (n + 1) X t x2 x3 x4 I J = am_cV (am_G am_prog (N + 30) (d + 0) 1 [.ref 126, .ref t] (mkh X I J)) (KX0_playGame_0 N d n t x2 x3 x4) := by
  rcases ht with rfl | rfl | rfl | rfl | rfl <;> rfl
set_option maxHeartbeats 4000000 in
set_option maxRecDepth 100000 in
theorem sX0_playGame_25 (N d n : Nat) {X : lt_X} (x2 : Int32) (x3 : Int32) (x4 : Int32) (x5 : Int32) (x6 : Int32) (x7 : Int32) (I : Nat → Nat → Int32) (J : Nat → Nat → Int64) : RX0_playGame_25 N d (n + 1) X x2 x3 x4 x5 x6 x7 I J = if x7 < x6 then if am_in ((x4 * (nI 64)) + x7) 448 then RX0_playGame_25 N d n X x2 x3 x4 x5 x6 (x7 + (nI 1)) (u2 I 128 (((x4 * (nI 64)) + x7).toNatClampNeg) (nI 0)) J else none else RX0_playGame_58 N d n X x2 x3 x5 x6 (x4 - (nI 1)) I J := by
  rfl
set_option maxHeartbeats 4000000 in
set_option maxRecDepth 100000 in
theorem sX0_playGame_58 (N d n : Nat) {X : lt_X} (x2 : Int32) (x3 : Int32) (x5 : Int32) (x6 : Int32) (x7 : Int32) (I : Nat → Nat → Int32) (J : Nat → Nat → Int64) : RX0_playGame_58 N d (n + 1) X x2 x3 x5 x6 x7 I J = if x7 < nI 0 then some (.int (I 128 0), (mkh X I J)) else RX0_playGame_66 N d n X x2 x3 x5 x6 x7 (nI 0) I J := by
  rfl
set_option maxHeartbeats 4000000 in
set_option maxRecDepth 100000 in
theorem sX0_playGame_66 (N d n : Nat) {X : lt_X} (x2 : Int32) (x3 : Int32) (x5 : Int32) (x6 : Int32) (x7 : Int32) (x8 : Int32) (I : Nat → Nat → Int32) (J : Nat → Nat → Int64) : RX0_playGame_66 N d (n + 1) X x2 x3 x5 x6 x7 x8 I J = if x8 < x6 then if (x7 - x7 / (nI 2) * (nI 2)) = nI 0 then am_cI (am_G am_prog (N + 30) (d + 0) 17 [.ref 126, .int x5, .int x2, .int x7, .int x8] (mkh X I J)) (KX0_playGame_1 N d n x2 x3 x5 x6 x7 x8) else am_cI (am_G am_prog (N + 30) (d + 0) 18 [.ref 126, .int x5, .int x3, .int x7, .int x8] (mkh X I J)) (KX0_playGame_2 N d n x2 x3 x5 x6 x7 x8) else RX0_playGame_58 N d n X x2 x3 x5 x6 (x7 + (-1)) I J := by
  rfl
set_option maxHeartbeats 4000000 in
set_option maxRecDepth 100000 in
theorem sX0_playGame_105 (N d n : Nat) {X : lt_X} (x2 : Int32) (x3 : Int32) (x5 : Int32) (x6 : Int32) (x7 : Int32) (x8 : Int32) (s0 : Int32) (I : Nat → Nat → Int32) (J : Nat → Nat → Int64) : RX0_playGame_105 N d (n + 1) X x2 x3 x5 x6 x7 x8 s0 I J = if am_in ((x7 * (nI 64)) + x8) 448 then RX0_playGame_66 N d n X x2 x3 x5 x6 x7 (x8 + (nI 1)) (u2 I 128 (((x7 * (nI 64)) + x8).toNatClampNeg) s0) J else none := by
  rfl
set_option maxHeartbeats 4000000 in
set_option maxRecDepth 100000 in
theorem kX0_playGame_0 (N d n : Nat) {X : lt_X} {t : Nat} (ht : isT t) (a0 : Int32) (a1 : Int32) (a2 : Int32) (I : Nat → Nat → Int32) (J : Nat → Nat → Int64) : KX0_playGame_0 N d n t a0 a1 a2 (mkh X I J) = am_cI (am_G am_prog (N + 30) (d + 0) 64 [.ref t, .int (-1)] (mkh X I J)) (KX0_playGame_3 N d n t a0 a1 a2) := by
  rcases ht with rfl | rfl | rfl | rfl | rfl <;> rfl
set_option maxHeartbeats 4000000 in
set_option maxRecDepth 100000 in
theorem kX0_playGame_1 (N d n : Nat) {X : lt_X} (a0 : Int32) (a1 : Int32) (a2 : Int32) (a3 : Int32) (a4 : Int32) (a5 : Int32) (z : Int32) (I : Nat → Nat → Int32) (J : Nat → Nat → Int64) : KX0_playGame_1 N d n a0 a1 a2 a3 a4 a5 z (mkh X I J) = RX0_playGame_105 N d n X a0 a1 a2 a3 a4 a5 z I J := by
  rfl
set_option maxHeartbeats 4000000 in
set_option maxRecDepth 100000 in
theorem kX0_playGame_2 (N d n : Nat) {X : lt_X} (a0 : Int32) (a1 : Int32) (a2 : Int32) (a3 : Int32) (a4 : Int32) (a5 : Int32) (z : Int32) (I : Nat → Nat → Int32) (J : Nat → Nat → Int64) : KX0_playGame_2 N d n a0 a1 a2 a3 a4 a5 z (mkh X I J) = RX0_playGame_105 N d n X a0 a1 a2 a3 a4 a5 z I J := by
  rfl
set_option maxHeartbeats 4000000 in
set_option maxRecDepth 100000 in
theorem kX0_playGame_3 (N d n : Nat) {X : lt_X} {t : Nat} (ht : isT t) (a0 : Int32) (a1 : Int32) (a2 : Int32) (z : Int32) (I : Nat → Nat → Int32) (J : Nat → Nat → Int64) : KX0_playGame_3 N d n t a0 a1 a2 z (mkh X I J) = RX0_playGame_25 N d n X a0 a1 a2 z ((nI 1) <<< ((I (t + 2) 3) &&& 31)) (nI 0) I J := by
  rcases ht with rfl | rfl | rfl | rfl | rfl <;> rfl
theorem fX0_playGame (N d : Nat) {X : lt_X} {t : Nat} (ht : isT t) (x2 : Int32) (x3 : Int32) (x4 : Int32) (I : Nat → Nat → Int32) (J : Nat → Nat → Int64) : am_G am_prog N (d + 1) 16 [.ref 126, .ref t, .int x2, .int x3, .int x4] (mkh X I J) = am_run (am_G am_prog N d) eX0_playGame uX0_playGame N 0 [(0, .ref 126), (1, .ref t), (2, .int x2), (3, .int x3), (4, .int x4)] [] (mkh X I J) := by
  refine (am_G_at N d 16 mX0_playGame _ _ rfl).trans ?_
  rcases ht with rfl | rfl | rfl | rfl | rfl <;> rfl
theorem gX0_playGame (N d : Nat) {X : lt_X} {t : Nat} (ht : isT t) (x2 : Int32) (x3 : Int32) (x4 : Int32) (I : Nat → Nat → Int32) (J : Nat → Nat → Int64) : am_G am_prog (N + 30) (d + 1) 16 [.ref 126, .ref t, .int x2, .int x3, .int x4] (mkh X I J) = RX0_playGame_0 N d (N + 30) X t x2 x3 x4 I J := fX0_playGame (N + 30) (d + 0) ht x2 x3 x4 I J
def RX0_firstsBest_0 (N d n : Nat) (X : lt_X) (x1 : Int32) (x2 : Int32) (x3 : Int32) (x4 : Int32) (I : Nat → Nat → Int32) (J : Nat → Nat → Int64) : am_O := am_run (am_G am_prog (N + 30) (d + 0)) eX0_firstsBest uX0_firstsBest n 0 [(0, .ref 126), (1, .int x1), (2, .int x2), (3, .int x3), (4, .int x4)] [] (mkh X I J)
def RX0_firstsBest_19 (N d n : Nat) (X : lt_X) (x1 : Int32) (x2 : Int32) (x3 : Int32) (x4 : Int32) (x5 : Int32) (x6 : Int32) (I : Nat → Nat → Int32) (J : Nat → Nat → Int64) : am_O := am_run (am_G am_prog (N + 30) (d + 0)) eX0_firstsBest uX0_firstsBest n 19 [(0, .ref 126), (1, .int x1), (2, .int x2), (3, .int x3), (4, .int x4), (5, .int x5), (6, .int x6)] [] (mkh X I J)
set_option maxHeartbeats 4000000 in
set_option maxRecDepth 100000 in
theorem sX0_firstsBest_0 (N d n : Nat) {X : lt_X} (x1 : Int32) (x2 : Int32) (x3 : Int32) (x4 : Int32) (I : Nat → Nat → Int32) (J : Nat → Nat → Int64) : RX0_firstsBest_0 N d (n + 1) X x1 x2 x3 x4 I J = if am_in (((x3 + (nI 1)) * (nI 64)) + x4) 448 then RX0_firstsBest_19 N d n X x1 x2 x3 x4 (I 128 ((((x3 + (nI 1)) * (nI 64)) + x4).toNatClampNeg)) (nI 0) I J else none := by
  rfl
set_option maxHeartbeats 4000000 in
set_option maxRecDepth 100000 in
theorem sX0_firstsBest_19 (N d n : Nat) {X : lt_X} (x1 : Int32) (x2 : Int32) (x3 : Int32) (x4 : Int32) (x5 : Int32) (x6 : Int32) (I : Nat → Nat → Int32) (J : Nat → Nat → Int64) : RX0_firstsBest_19 N d (n + 1) X x1 x2 x3 x4 x5 x6 I J = if x6 < (nI 6) then if (((x1 &&& (x4 ^^^ (-1))) >>> (x6 &&& 31)) &&& (nI 1)) = nI 0 then RX0_firstsBest_19 N d n X x1 x2 x3 x4 x5 (x6 + (nI 1)) I J else if am_in ((x2 * (nI 6)) + x6) 36 then if am_in (((x3 + (nI 1)) * (nI 64)) + (x4 ||| ((nI 1) <<< (x6 &&& 31)))) 448 then RX0_firstsBest_19 N d n X x1 x2 x3 x4 (if x5 < ((I 127 (((x2 * (nI 6)) + x6).toNatClampNeg)) + (I 128 ((((x3 + (nI 1)) * (nI 64)) + (x4 ||| ((nI 1) <<< (x6 &&& 31)))).toNatClampNeg))) then ((I 127 (((x2 * (nI 6)) + x6).toNatClampNeg)) + (I 128 ((((x3 + (nI 1)) * (nI 64)) + (x4 ||| ((nI 1) <<< (x6 &&& 31)))).toNatClampNeg))) else x5) (x6 + (nI 1)) I J else none else none else some (.int x5, (mkh X I J)) := by
  rfl
theorem fX0_firstsBest (N d : Nat) {X : lt_X} (x1 : Int32) (x2 : Int32) (x3 : Int32) (x4 : Int32) (I : Nat → Nat → Int32) (J : Nat → Nat → Int64) : am_G am_prog N (d + 1) 17 [.ref 126, .int x1, .int x2, .int x3, .int x4] (mkh X I J) = am_run (am_G am_prog N d) eX0_firstsBest uX0_firstsBest N 0 [(0, .ref 126), (1, .int x1), (2, .int x2), (3, .int x3), (4, .int x4)] [] (mkh X I J) := by
  refine (am_G_at N d 17 mX0_firstsBest _ _ rfl).trans ?_
  rfl
theorem gX0_firstsBest (N d : Nat) {X : lt_X} (x1 : Int32) (x2 : Int32) (x3 : Int32) (x4 : Int32) (I : Nat → Nat → Int32) (J : Nat → Nat → Int64) : am_G am_prog (N + 30) (d + 1) 17 [.ref 126, .int x1, .int x2, .int x3, .int x4] (mkh X I J) = RX0_firstsBest_0 N d (N + 30) X x1 x2 x3 x4 I J := fX0_firstsBest (N + 30) (d + 0) x1 x2 x3 x4 I J
def RX0_secondsBest_0 (N d n : Nat) (X : lt_X) (x1 : Int32) (x2 : Int32) (x3 : Int32) (x4 : Int32) (I : Nat → Nat → Int32) (J : Nat → Nat → Int64) : am_O := am_run (am_G am_prog (N + 30) (d + 0)) eX0_secondsBest uX0_secondsBest n 0 [(0, .ref 126), (1, .int x1), (2, .int x2), (3, .int x3), (4, .int x4)] [] (mkh X I J)
def RX0_secondsBest_19 (N d n : Nat) (X : lt_X) (x1 : Int32) (x2 : Int32) (x3 : Int32) (x4 : Int32) (x5 : Int32) (x6 : Int32) (I : Nat → Nat → Int32) (J : Nat → Nat → Int64) : am_O := am_run (am_G am_prog (N + 30) (d + 0)) eX0_secondsBest uX0_secondsBest n 19 [(0, .ref 126), (1, .int x1), (2, .int x2), (3, .int x3), (4, .int x4), (5, .int x5), (6, .int x6)] [] (mkh X I J)
set_option maxHeartbeats 4000000 in
set_option maxRecDepth 100000 in
theorem sX0_secondsBest_0 (N d n : Nat) {X : lt_X} (x1 : Int32) (x2 : Int32) (x3 : Int32) (x4 : Int32) (I : Nat → Nat → Int32) (J : Nat → Nat → Int64) : RX0_secondsBest_0 N d (n + 1) X x1 x2 x3 x4 I J = if am_in (((x3 + (nI 1)) * (nI 64)) + x4) 448 then RX0_secondsBest_19 N d n X x1 x2 x3 x4 (I 128 ((((x3 + (nI 1)) * (nI 64)) + x4).toNatClampNeg)) (nI 0) I J else none := by
  rfl
set_option maxHeartbeats 4000000 in
set_option maxRecDepth 100000 in
theorem sX0_secondsBest_19 (N d n : Nat) {X : lt_X} (x1 : Int32) (x2 : Int32) (x3 : Int32) (x4 : Int32) (x5 : Int32) (x6 : Int32) (I : Nat → Nat → Int32) (J : Nat → Nat → Int64) : RX0_secondsBest_19 N d (n + 1) X x1 x2 x3 x4 x5 x6 I J = if x6 < (nI 6) then if (((x1 &&& (x4 ^^^ (-1))) >>> (x6 &&& 31)) &&& (nI 1)) = nI 0 then RX0_secondsBest_19 N d n X x1 x2 x3 x4 x5 (x6 + (nI 1)) I J else if am_in (((x3 + (nI 1)) * (nI 64)) + (x4 ||| ((nI 1) <<< (x6 &&& 31)))) 448 then if am_in ((x2 * (nI 6)) + x6) 36 then RX0_secondsBest_19 N d n X x1 x2 x3 x4 (if ((I 128 ((((x3 + (nI 1)) * (nI 64)) + (x4 ||| ((nI 1) <<< (x6 &&& 31)))).toNatClampNeg)) - (I 127 (((x2 * (nI 6)) + x6).toNatClampNeg))) < x5 then ((I 128 ((((x3 + (nI 1)) * (nI 64)) + (x4 ||| ((nI 1) <<< (x6 &&& 31)))).toNatClampNeg)) - (I 127 (((x2 * (nI 6)) + x6).toNatClampNeg))) else x5) (x6 + (nI 1)) I J else none else none else some (.int x5, (mkh X I J)) := by
  rfl
theorem fX0_secondsBest (N d : Nat) {X : lt_X} (x1 : Int32) (x2 : Int32) (x3 : Int32) (x4 : Int32) (I : Nat → Nat → Int32) (J : Nat → Nat → Int64) : am_G am_prog N (d + 1) 18 [.ref 126, .int x1, .int x2, .int x3, .int x4] (mkh X I J) = am_run (am_G am_prog N d) eX0_secondsBest uX0_secondsBest N 0 [(0, .ref 126), (1, .int x1), (2, .int x2), (3, .int x3), (4, .int x4)] [] (mkh X I J) := by
  refine (am_G_at N d 18 mX0_secondsBest _ _ rfl).trans ?_
  rfl
theorem gX0_secondsBest (N d : Nat) {X : lt_X} (x1 : Int32) (x2 : Int32) (x3 : Int32) (x4 : Int32) (I : Nat → Nat → Int32) (J : Nat → Nat → Int64) : am_G am_prog (N + 30) (d + 1) 18 [.ref 126, .int x1, .int x2, .int x3, .int x4] (mkh X I J) = RX0_secondsBest_0 N d (N + 30) X x1 x2 x3 x4 I J := fX0_secondsBest (N + 30) (d + 0) x1 x2 x3 x4 I J
def RX0_findMove_0 (N d n : Nat) (X : lt_X) (t : Nat) (x2 : Int32) (x3 : Int32) (x4 : Int32) (I : Nat → Nat → Int32) (J : Nat → Nat → Int64) : am_O := am_run (am_G am_prog (N + 30) (d + 0)) eX0_findMove uX0_findMove n 0 [(0, .ref 126), (1, .ref t), (2, .int x2), (3, .int x3), (4, .int x4)] [] (mkh X I J)
def RX0_findMove_21 (N d n : Nat) (X : lt_X) (x2 : Int32) (x5 : Int32) (x6 : Int32) (x7 : Int32) (I : Nat → Nat → Int32) (J : Nat → Nat → Int64) : am_O := am_run (am_G am_prog (N + 30) (d + 0)) eX0_findMove uX0_findMove n 21 [(0, .ref 126), (2, .int x2), (5, .int x5), (6, .int x6), (7, .int x7)] [] (mkh X I J)
def KX0_findMove_0 (N d n : Nat) (t : Nat) (a0 : Int32) (z : Int32) (h : am_H) : am_O := am_cI (am_G am_prog (N + 30) (d + 0) 64 [.ref t, .int (-1)] h) (fun r2 h1 => am_run (am_G am_prog (N + 30) (d + 0)) eX0_findMove uX0_findMove n 21 [(0, .ref 126), (2, .int a0), (5, .int z), (6, .int r2), (7, .int (nI 0))] [] h1)
def KX0_findMove_1 (N d n : Nat) (a0 : Int32) (a1 : Int32) (z : Int32) (h : am_H) : am_O := am_run (am_G am_prog (N + 30) (d + 0)) eX0_findMove uX0_findMove n 21 [(0, .ref 126), (2, .int a1), (5, .int a0), (6, .int z), (7, .int (nI 0))] [] h
set_option maxHeartbeats 4000000 in
set_option maxRecDepth 100000 in
theorem sX0_findMove_0 (N d n : Nat) {X : lt_X} {t : Nat} (ht : isT t) (x2 : Int32) (x3 : Int32) (x4 : Int32) (I : Nat → Nat → Int32) (J : Nat → Nat → Int64) : RX0_findMove_0 N d (n + 1) X t x2 x3 x4 I J = am_cI (am_G am_prog (N + 30) (d + 0) 16 [.ref 126, .ref t, .int x2, .int x3, .int x4] (mkh X I J)) (KX0_findMove_0 N d n t x2) := by
  rcases ht with rfl | rfl | rfl | rfl | rfl <;> rfl
set_option maxHeartbeats 4000000 in
set_option maxRecDepth 100000 in
theorem sX0_findMove_21 (N d n : Nat) {X : lt_X} (x2 : Int32) (x5 : Int32) (x6 : Int32) (x7 : Int32) (I : Nat → Nat → Int32) (J : Nat → Nat → Int64) : RX0_findMove_21 N d (n + 1) X x2 x5 x6 x7 I J = if x7 < (nI 6) then if ((x6 >>> (x7 &&& 31)) &&& (nI 1)) = nI 0 then RX0_findMove_21 N d n X x2 x5 x6 (x7 + (nI 1)) I J else if am_in ((x2 * (nI 6)) + x7) 36 then if am_in ((nI 64) + ((nI 1) <<< (x7 &&& 31))) 448 then if ((I 127 (((x2 * (nI 6)) + x7).toNatClampNeg)) + (I 128 (((nI 64) + ((nI 1) <<< (x7 &&& 31))).toNatClampNeg))) = x5 then some (.int x7, (mkh X I J)) else RX0_findMove_21 N d n X x2 x5 x6 (x7 + (nI 1)) I J else none else none else some (.int (-1), (mkh X I J)) := by
  rfl
set_option maxHeartbeats 4000000 in
set_option maxRecDepth 100000 in
theorem kX0_findMove_0 (N d n : Nat) {X : lt_X} {t : Nat} (ht : isT t) (a0 : Int32) (z : Int32) (I : Nat → Nat → Int32) (J : Nat → Nat → Int64) : KX0_findMove_0 N d n t a0 z (mkh X I J) = am_cI (am_G am_prog (N + 30) (d + 0) 64 [.ref t, .int (-1)] (mkh X I J)) (KX0_findMove_1 N d n z a0) := by
  rcases ht with rfl | rfl | rfl | rfl | rfl <;> rfl
set_option maxHeartbeats 4000000 in
set_option maxRecDepth 100000 in
theorem kX0_findMove_1 (N d n : Nat) {X : lt_X} (a0 : Int32) (a1 : Int32) (z : Int32) (I : Nat → Nat → Int32) (J : Nat → Nat → Int64) : KX0_findMove_1 N d n a0 a1 z (mkh X I J) = RX0_findMove_21 N d n X a1 a0 z (nI 0) I J := by
  rfl
theorem fX0_findMove (N d : Nat) {X : lt_X} {t : Nat} (ht : isT t) (x2 : Int32) (x3 : Int32) (x4 : Int32) (I : Nat → Nat → Int32) (J : Nat → Nat → Int64) : am_G am_prog N (d + 1) 19 [.ref 126, .ref t, .int x2, .int x3, .int x4] (mkh X I J) = am_run (am_G am_prog N d) eX0_findMove uX0_findMove N 0 [(0, .ref 126), (1, .ref t), (2, .int x2), (3, .int x3), (4, .int x4)] [] (mkh X I J) := by
  refine (am_G_at N d 19 mX0_findMove _ _ rfl).trans ?_
  rcases ht with rfl | rfl | rfl | rfl | rfl <;> rfl
theorem gX0_findMove (N d : Nat) {X : lt_X} {t : Nat} (ht : isT t) (x2 : Int32) (x3 : Int32) (x4 : Int32) (I : Nat → Nat → Int32) (J : Nat → Nat → Int64) : am_G am_prog (N + 30) (d + 1) 19 [.ref 126, .ref t, .int x2, .int x3, .int x4] (mkh X I J) = RX0_findMove_0 N d (N + 30) X t x2 x3 x4 I J := fX0_findMove (N + 30) (d + 0) ht x2 x3 x4 I J
def RX3_play_0 (N d n : Nat) (X : lt_X) (t : Nat) (x2 : Int32) (I : Nat → Nat → Int32) (J : Nat → Nat → Int64) : am_O := am_run (am_G am_prog (N + 30) (d + 0)) eX3_play uX3_play n 0 [(0, .ref 132), (1, .ref t), (2, .int x2)] [] (mkh X I J)
def RX3_play_41 (N d n : Nat) (X : lt_X) (t : Nat) (x4 : Int32) (x5 : Int32) (I : Nat → Nat → Int32) (J : Nat → Nat → Int64) : am_O := am_run (am_G am_prog (N + 30) (d + 0)) eX3_play uX3_play n 41 [(0, .ref 132), (1, .ref t), (3, .ref (t + 14)), (4, .int x4), (5, .int x5)] [] (mkh X I J)
def RX3_play_145 (N d n : Nat) (X : lt_X) (t : Nat) (x4 : Int32) (x5 : Int32) (I : Nat → Nat → Int32) (J : Nat → Nat → Int64) : am_O := am_run (am_G am_prog (N + 30) (d + 0)) eX3_play uX3_play n 145 [(0, .ref 132), (1, .ref t), (3, .ref (t + 14)), (4, .int x4), (5, .int x5)] [] (mkh X I J)
def KX3_play_0 (N d n : Nat) (t : Nat) (a0 : Int32) (z : Int32) (h : am_H) : am_O := am_run (am_G am_prog (N + 30) (d + 0)) eX3_play uX3_play n 41 [(0, .ref 132), (1, .ref t), (3, .ref (t + 14)), (4, .int z), (5, .int (a0 + (nI 1)))] [] h
def KX3_play_1 (N d n : Nat) (t : Nat) (a0 : Int32) (z : Int32) (h : am_H) : am_O := am_run (am_G am_prog (N + 30) (d + 0)) eX3_play uX3_play n 41 [(0, .ref 132), (1, .ref t), (3, .ref (t + 14)), (4, .int z), (5, .int (a0 + (nI 1)))] [] h
def KX3_play_2 (N d n : Nat) (t : Nat) (a0 : Int32) (a1 : Int32) (a2 : Int32) (z : Int32) (h : am_H) : am_O := if z = nI 0 then am_pI h 3 132 3 (a2 + (nI 1)) (fun h1 => am_run (am_G am_prog (N + 30) (d + 0)) eX3_play uX3_play n 41 [(0, .ref 132), (1, .ref t), (3, .ref (t + 14)), (4, .int (a0 + (nI 1))), (5, .int (a1 + (nI 1)))] [] h1) else am_pI h 3 132 3 (a2 + (nI 0)) (fun h2 => am_run (am_G am_prog (N + 30) (d + 0)) eX3_play uX3_play n 41 [(0, .ref 132), (1, .ref t), (3, .ref (t + 14)), (4, .int (a0 + (nI 1))), (5, .int (a1 + (nI 1)))] [] h2)
set_option maxHeartbeats 4000000 in
set_option maxRecDepth 100000 in
theorem sX3_play_0 (N d n : Nat) {X : lt_X} {t : Nat} (ht : isT t) (x2 : Int32) (I : Nat → Nat → Int32) (J : Nat → Nat → Int64) : RX3_play_0 N d (n + 1) X t x2 I J = RX3_play_41 N d n X t (nI 0) (nI 0) (u2 (u2 (u2 (u2 (u2 (u2 I 132 1 x2) 132 2 (nI 0)) 132 3 (nI 0)) 132 4 (nI 0)) 132 5 (nI 0)) 132 6 (nI 0)) J := by
  rcases ht with rfl | rfl | rfl | rfl | rfl <;> rfl
set_option maxHeartbeats 4000000 in
set_option maxRecDepth 100000 in
theorem sX3_play_41 (N d n : Nat) {X : lt_X} {t : Nat} (ht : isT t) (x4 : Int32) (x5 : Int32) (I : Nat → Nat → Int32) (J : Nat → Nat → Int64) : RX3_play_41 N d (n + 1) X t x4 x5 I J = if x5 < (nI 1000000) then if x4 < (I (t + 14) 6) then if am_in x4 60 then if (I (t + 15) x4.toNatClampNeg) = (nI 125) then am_cI (am_G am_prog (N + 30) (d + 0) 36 [.ref 132, .ref (t + 14), .int x4] (mkh X I J)) (KX3_play_0 N d n t x5) else if (I 132 2) < (nI 300) then if (I (t + 15) x4.toNatClampNeg) = (nI 126) then some (.null, (mkh X (u2 I 132 2 ((I 132 2) + (nI 1))) J)) else if (I (t + 15) x4.toNatClampNeg) < (nI 121) then RX3_play_145 N d n X t x4 x5 (u2 I 132 2 ((I 132 2) + (nI 1))) J else if (nI 124) < (I (t + 15) x4.toNatClampNeg) then RX3_play_145 N d n X t x4 x5 (u2 I 132 2 ((I 132 2) + (nI 1))) J else am_cI (am_G am_prog (N + 30) (d + 0) 37 [.ref 132, .ref t, .int x4] (mkh X (u2 I 132 2 ((I 132 2) + (nI 1))) J)) (KX3_play_1 N d n t x5) else some (.null, (mkh X (u2 I 132 6 (nI 1)) J)) else none else some (.null, (mkh X I J)) else some (.null, (mkh X I J)) := by
  rcases ht with rfl | rfl | rfl | rfl | rfl <;> rfl
set_option maxHeartbeats 4000000 in
set_option maxRecDepth 100000 in
theorem sX3_play_145 (N d n : Nat) {X : lt_X} {t : Nat} (ht : isT t) (x4 : Int32) (x5 : Int32) (I : Nat → Nat → Int32) (J : Nat → Nat → Int64) : RX3_play_145 N d (n + 1) X t x4 x5 I J = am_cI (am_G am_prog (N + 30) (d + 0) 39 [.ref 132, .ref t, .int x4] (mkh X I J)) (KX3_play_2 N d n t x4 x5 (I 132 3)) := by
  rcases ht with rfl | rfl | rfl | rfl | rfl <;> rfl
set_option maxHeartbeats 4000000 in
set_option maxRecDepth 100000 in
theorem kX3_play_0 (N d n : Nat) {X : lt_X} {t : Nat} (ht : isT t) (a0 : Int32) (z : Int32) (I : Nat → Nat → Int32) (J : Nat → Nat → Int64) : KX3_play_0 N d n t a0 z (mkh X I J) = RX3_play_41 N d n X t z (a0 + (nI 1)) I J := by
  rcases ht with rfl | rfl | rfl | rfl | rfl <;> rfl
set_option maxHeartbeats 4000000 in
set_option maxRecDepth 100000 in
theorem kX3_play_1 (N d n : Nat) {X : lt_X} {t : Nat} (ht : isT t) (a0 : Int32) (z : Int32) (I : Nat → Nat → Int32) (J : Nat → Nat → Int64) : KX3_play_1 N d n t a0 z (mkh X I J) = RX3_play_41 N d n X t z (a0 + (nI 1)) I J := by
  rcases ht with rfl | rfl | rfl | rfl | rfl <;> rfl
set_option maxHeartbeats 4000000 in
set_option maxRecDepth 100000 in
theorem kX3_play_2 (N d n : Nat) {X : lt_X} {t : Nat} (ht : isT t) (a0 : Int32) (a1 : Int32) (a2 : Int32) (z : Int32) (I : Nat → Nat → Int32) (J : Nat → Nat → Int64) : KX3_play_2 N d n t a0 a1 a2 z (mkh X I J) = if z = nI 0 then RX3_play_41 N d n X t (a0 + (nI 1)) (a1 + (nI 1)) (u2 I 132 3 (a2 + (nI 1))) J else RX3_play_41 N d n X t (a0 + (nI 1)) (a1 + (nI 1)) (u2 I 132 3 (a2 + (nI 0))) J := by
  rcases ht with rfl | rfl | rfl | rfl | rfl <;> rfl
theorem fX3_play (N d : Nat) {X : lt_X} {t : Nat} (ht : isT t) (x2 : Int32) (I : Nat → Nat → Int32) (J : Nat → Nat → Int64) : am_G am_prog N (d + 1) 35 [.ref 132, .ref t, .int x2] (mkh X I J) = am_run (am_G am_prog N d) eX3_play uX3_play N 0 [(0, .ref 132), (1, .ref t), (2, .int x2)] [] (mkh X I J) := by
  refine (am_G_at N d 35 mX3_play _ _ rfl).trans ?_
  rcases ht with rfl | rfl | rfl | rfl | rfl <;> rfl
theorem gX3_play (N d : Nat) {X : lt_X} {t : Nat} (ht : isT t) (x2 : Int32) (I : Nat → Nat → Int32) (J : Nat → Nat → Int64) : am_G am_prog (N + 30) (d + 1) 35 [.ref 132, .ref t, .int x2] (mkh X I J) = RX3_play_0 N d (N + 30) X t x2 I J := fX3_play (N + 30) (d + 0) ht x2 I J
def RX3_placeBehindEnd_0 (N d n : Nat) (X : lt_X) (t : Nat) (x2 : Int32) (I : Nat → Nat → Int32) (J : Nat → Nat → Int64) : am_O := am_run (am_G am_prog (N + 30) (d + 0)) eX3_placeBehindEnd uX3_placeBehindEnd n 0 [(0, .ref 132), (1, .ref (t + 14)), (2, .int x2)] [] (mkh X I J)
set_option maxHeartbeats 4000000 in
set_option maxRecDepth 100000 in
theorem sX3_placeBehindEnd_0 (N d n : Nat) {X : lt_X} {t : Nat} (ht : isT t) (x2 : Int32) (I : Nat → Nat → Int32) (J : Nat → Nat → Int64) : RX3_placeBehindEnd_0 N d (n + 1) X t x2 I J = if am_in x2 60 then if am_in (I (t + 19) x2.toNatClampNeg) 60 then if (I (t + 15) ((I (t + 19) x2.toNatClampNeg).toNatClampNeg)) = (nI 124) then if am_in (I (t + 19) x2.toNatClampNeg) 60 then if (nI 1) < (I 133 ((I (t + 19) x2.toNatClampNeg).toNatClampNeg)) then if am_in (I (t + 19) x2.toNatClampNeg) 60 then if am_in (I (t + 19) x2.toNatClampNeg) 60 then some (.int ((I (t + 19) x2.toNatClampNeg) + (nI 1)), (mkh X (u2 I 133 ((I (t + 19) x2.toNatClampNeg).toNatClampNeg) ((I 133 ((I (t + 19) x2.toNatClampNeg).toNatClampNeg)) - (nI 1))) J)) else none else none else some (.int (x2 + (nI 1)), (mkh X I J)) else none else some (.int (x2 + (nI 1)), (mkh X I J)) else none else none := by
  rcases ht with rfl | rfl | rfl | rfl | rfl <;> rfl
theorem fX3_placeBehindEnd (N d : Nat) {X : lt_X} {t : Nat} (ht : isT t) (x2 : Int32) (I : Nat → Nat → Int32) (J : Nat → Nat → Int64) : am_G am_prog N (d + 1) 36 [.ref 132, .ref (t + 14), .int x2] (mkh X I J) = am_run (am_G am_prog N d) eX3_placeBehindEnd uX3_placeBehindEnd N 0 [(0, .ref 132), (1, .ref (t + 14)), (2, .int x2)] [] (mkh X I J) := by
  refine (am_G_at N d 36 mX3_placeBehindEnd _ _ rfl).trans ?_
  rcases ht with rfl | rfl | rfl | rfl | rfl <;> rfl
theorem gX3_placeBehindEnd (N d : Nat) {X : lt_X} {t : Nat} (ht : isT t) (x2 : Int32) (I : Nat → Nat → Int32) (J : Nat → Nat → Int64) : am_G am_prog (N + 30) (d + 1) 36 [.ref 132, .ref (t + 14), .int x2] (mkh X I J) = RX3_placeBehindEnd_0 N d (N + 30) X t x2 I J := fX3_placeBehindEnd (N + 30) (d + 0) ht x2 I J
def RX3_placeBehindOpener_0 (N d n : Nat) (X : lt_X) (t : Nat) (x2 : Int32) (I : Nat → Nat → Int32) (J : Nat → Nat → Int64) : am_O := am_run (am_G am_prog (N + 30) (d + 0)) eX3_placeBehindOpener uX3_placeBehindOpener n 0 [(0, .ref 132), (1, .ref t), (2, .int x2)] [] (mkh X I J)
def KX3_placeBehindOpener_0 (N d n : Nat) (t : Nat) (a0 : Int32) (z : Int32) (h : am_H) : am_O := if z = nI 0 then am_gR h 5 t 18 (fun y1 => am_gR h 1 y1 4 (fun y2 => am_lI h 10 y2 a0 (fun y3 => some (.int (y3 + (nI 1)), h)))) else some (.int (a0 + (nI 1)), h)
set_option maxHeartbeats 4000000 in
set_option maxRecDepth 100000 in
theorem sX3_placeBehindOpener_0 (N d n : Nat) {X : lt_X} {t : Nat} (ht : isT t) (x2 : Int32) (I : Nat → Nat → Int32) (J : Nat → Nat → Int64) : RX3_placeBehindOpener_0 N d (n + 1) X t x2 I J = if am_in x2 60 then if (I (t + 15) x2.toNatClampNeg) = (nI 124) then if am_in x2 60 then if am_in x2 60 then some (.int (x2 + (nI 1)), (mkh X (u2 I 133 x2.toNatClampNeg (I (t + 18) x2.toNatClampNeg)) J)) else none else none else am_cI (am_G am_prog (N + 30) (d + 0) 38 [.ref t, .int x2] (mkh X I J)) (KX3_placeBehindOpener_0 N d n t x2) else none := by
  rcases ht with rfl | rfl | rfl | rfl | rfl <;> rfl
set_option maxHeartbeats 4000000 in
set_option maxRecDepth 100000 in
theorem kX3_placeBehindOpener_0 (N d n : Nat) {X : lt_X} {t : Nat} (ht : isT t) (a0 : Int32) (z : Int32) (I : Nat → Nat → Int32) (J : Nat → Nat → Int64) : KX3_placeBehindOpener_0 N d n t a0 z (mkh X I J) = if z = nI 0 then if am_in a0 60 then some (.int ((I (t + 19) a0.toNatClampNeg) + (nI 1)), (mkh X I J)) else none else some (.int (a0 + (nI 1)), (mkh X I J)) := by
  rcases ht with rfl | rfl | rfl | rfl | rfl <;> rfl
theorem fX3_placeBehindOpener (N d : Nat) {X : lt_X} {t : Nat} (ht : isT t) (x2 : Int32) (I : Nat → Nat → Int32) (J : Nat → Nat → Int64) : am_G am_prog N (d + 1) 37 [.ref 132, .ref t, .int x2] (mkh X I J) = am_run (am_G am_prog N d) eX3_placeBehindOpener uX3_placeBehindOpener N 0 [(0, .ref 132), (1, .ref t), (2, .int x2)] [] (mkh X I J) := by
  refine (am_G_at N d 37 mX3_placeBehindOpener _ _ rfl).trans ?_
  rcases ht with rfl | rfl | rfl | rfl | rfl <;> rfl
theorem gX3_placeBehindOpener (N d : Nat) {X : lt_X} {t : Nat} (ht : isT t) (x2 : Int32) (I : Nat → Nat → Int32) (J : Nat → Nat → Int64) : am_G am_prog (N + 30) (d + 1) 37 [.ref 132, .ref t, .int x2] (mkh X I J) = RX3_placeBehindOpener_0 N d (N + 30) X t x2 I J := fX3_placeBehindOpener (N + 30) (d + 0) ht x2 I J
def RX3_holds_0 (N d n : Nat) (X : lt_X) (t : Nat) (x1 : Int32) (I : Nat → Nat → Int32) (J : Nat → Nat → Int64) : am_O := am_run (am_G am_prog (N + 30) (d + 1)) eX3_holds uX3_holds n 0 [(0, .ref t), (1, .int x1)] [] (mkh X I J)
def KX3_holds_0 (N d n : Nat) (z : Int32) (h : am_H) : am_O := am_nb z (some (.int z, h))
set_option maxHeartbeats 4000000 in
set_option maxRecDepth 100000 in
theorem sX3_holds_0 (N d n : Nat) {X : lt_X} {t : Nat} (ht : isT t) (x1 : Int32) (I : Nat → Nat → Int32) (J : Nat → Nat → Int64) : RX3_holds_0 N d (n + 1) X t x1 I J = if am_in x1 60 then if am_in x1 60 then if am_in x1 60 then if (I (t + 15) x1.toNatClampNeg) = (nI 122) then am_cI (am_G am_prog (N + 30) (d + 1) 70 [.ref t, .int (I (t + 16) x1.toNatClampNeg)] (mkh X I J)) (KX3_holds_0 N d n ) else if (I (t + 15) x1.toNatClampNeg) = (nI 123) then if am_in (I (t + 17) x1.toNatClampNeg) 6 then if (I (t + 13) ((I (t + 17) x1.toNatClampNeg).toNatClampNeg)) = (I (t + 16) x1.toNatClampNeg) then some (.int (nI 1), (mkh X I J)) else some (.int (nI 0), (mkh X I J)) else none else if am_in (I (t + 16) x1.toNatClampNeg) 6 then if am_in x1 60 then if (I (t + 17) x1.toNatClampNeg) = (nI 60) then if (I (t + 8) ((I (t + 16) x1.toNatClampNeg).toNatClampNeg)) < (I (t + 18) x1.toNatClampNeg) then some (.int (nI 1), (mkh X I J)) else some (.int (nI 0), (mkh X I J)) else if (I (t + 17) x1.toNatClampNeg) = (nI 62) then if (I (t + 18) x1.toNatClampNeg) < (I (t + 8) ((I (t + 16) x1.toNatClampNeg).toNatClampNeg)) then some (.int (nI 1), (mkh X I J)) else some (.int (nI 0), (mkh X I J)) else if (I (t + 8) ((I (t + 16) x1.toNatClampNeg).toNatClampNeg)) = (I (t + 18) x1.toNatClampNeg) then some (.int (nI 1), (mkh X I J)) else some (.int (nI 0), (mkh X I J)) else none else none else none else none else none := by
  rcases ht with rfl | rfl | rfl | rfl | rfl <;> rfl
set_option maxHeartbeats 4000000 in
set_option maxRecDepth 100000 in
theorem kX3_holds_0 (N d n : Nat) {X : lt_X} (z : Int32) (I : Nat → Nat → Int32) (J : Nat → Nat → Int64) : KX3_holds_0 N d n z (mkh X I J) = am_nb z (some (.int z, (mkh X I J))) := by
  rfl
theorem fX3_holds (N d : Nat) {X : lt_X} {t : Nat} (ht : isT t) (x1 : Int32) (I : Nat → Nat → Int32) (J : Nat → Nat → Int64) : am_G am_prog N (d + 1) 38 [.ref t, .int x1] (mkh X I J) = am_run (am_G am_prog N d) eX3_holds uX3_holds N 0 [(0, .ref t), (1, .int x1)] [] (mkh X I J) := by
  refine (am_G_at N d 38 mX3_holds _ _ rfl).trans ?_
  rcases ht with rfl | rfl | rfl | rfl | rfl <;> rfl
theorem gX3_holds (N d : Nat) {X : lt_X} {t : Nat} (ht : isT t) (x1 : Int32) (I : Nat → Nat → Int32) (J : Nat → Nat → Int64) : am_G am_prog (N + 30) (d + 2) 38 [.ref t, .int x1] (mkh X I J) = RX3_holds_0 N d (N + 30) X t x1 I J := fX3_holds (N + 30) (d + 1) ht x1 I J
def RX3_does_0 (N d n : Nat) (X : lt_X) (t : Nat) (x2 : Int32) (I : Nat → Nat → Int32) (J : Nat → Nat → Int64) : am_O := am_run (am_G am_prog (N + 30) (d + 0)) eX3_does uX3_does n 0 [(0, .ref 132), (1, .ref t), (2, .int x2)] [] (mkh X I J)
def KX3_does_0 (N d n : Nat) (z : Int32) (h : am_H) : am_O := am_nb z (some (.int z, h))
def KX3_does_1 (N d n : Nat) (z : Int32) (h : am_H) : am_O := am_nb z (some (.int z, h))
def KX3_does_2 (N d n : Nat) (z : Int32) (h : am_H) : am_O := am_nb z (some (.int z, h))
def KX3_does_3 (N d n : Nat) (z : Int32) (h : am_H) : am_O := am_nb z (some (.int z, h))
def KX3_does_4 (N d n : Nat) (z : Int32) (h : am_H) : am_O := am_nb z (some (.int z, h))
def KX3_does_5 (N d n : Nat) (z : Int32) (h : am_H) : am_O := am_nb z (some (.int z, h))
def KX3_does_6 (N d n : Nat) (z : Int32) (h : am_H) : am_O := am_nb z (some (.int z, h))
set_option maxHeartbeats 4000000 in
set_option maxRecDepth 100000 in
theorem sX3_does_0 (N d n : Nat) {X : lt_X} {t : Nat} (ht : isT t) (x2 : Int32) (I : Nat → Nat → Int32) (J : Nat → Nat → Int64) : RX3_does_0 N d (n + 1) X t x2 I J = if am_in x2 60 then if am_in x2 60 then if am_in x2 60 then if am_in x2 60 then if (I (t + 15) x2.toNatClampNeg) = nI 113 then am_cI (am_G am_prog (N + 30) (d + 0) 40 [.ref 132, .ref t, .int (I (t + 18) x2.toNatClampNeg)] (mkh X I J)) (KX3_does_0 N d n ) else if (I (t + 15) x2.toNatClampNeg) = nI 114 then am_cI (am_G am_prog (N + 30) (d + 0) 41 [.ref 132, .ref t, .int (I (t + 18) x2.toNatClampNeg)] (mkh X I J)) (KX3_does_1 N d n ) else if (I (t + 15) x2.toNatClampNeg) = nI 115 then am_cI (am_G am_prog (N + 30) (d + 0) 82 [.ref t, .int (I (t + 16) x2.toNatClampNeg), .int (I (t + 17) x2.toNatClampNeg), .int (I (t + 18) x2.toNatClampNeg)] (mkh X I J)) (KX3_does_2 N d n ) else if (I (t + 15) x2.toNatClampNeg) = nI 116 then am_cI (am_G am_prog (N + 30) (d + 0) 83 [.ref t, .int (I (t + 16) x2.toNatClampNeg), .int (I (t + 17) x2.toNatClampNeg)] (mkh X I J)) (KX3_does_3 N d n ) else if (I (t + 15) x2.toNatClampNeg) = nI 117 then am_cI (am_G am_prog (N + 30) (d + 0) 84 [.ref t, .int (I (t + 16) x2.toNatClampNeg)] (mkh X I J)) (KX3_does_4 N d n ) else if (I (t + 15) x2.toNatClampNeg) = nI 118 then am_cI (am_G am_prog (N + 30) (d + 0) 85 [.ref t, .int (I (t + 16) x2.toNatClampNeg)] (mkh X I J)) (KX3_does_5 N d n ) else am_cI (am_G am_prog (N + 30) (d + 0) 42 [.ref 132, .ref t] (mkh X I J)) (KX3_does_6 N d n ) else none else none else none else none := by
  rcases ht with rfl | rfl | rfl | rfl | rfl <;> rfl
set_option maxHeartbeats 4000000 in
set_option maxRecDepth 100000 in
theorem kX3_does_0 (N d n : Nat) {X : lt_X} (z : Int32) (I : Nat → Nat → Int32) (J : Nat → Nat → Int64) : KX3_does_0 N d n z (mkh X I J) = am_nb z (some (.int z, (mkh X I J))) := by
  rfl
set_option maxHeartbeats 4000000 in
set_option maxRecDepth 100000 in
theorem kX3_does_1 (N d n : Nat) {X : lt_X} (z : Int32) (I : Nat → Nat → Int32) (J : Nat → Nat → Int64) : KX3_does_1 N d n z (mkh X I J) = am_nb z (some (.int z, (mkh X I J))) := by
  rfl
set_option maxHeartbeats 4000000 in
set_option maxRecDepth 100000 in
theorem kX3_does_2 (N d n : Nat) {X : lt_X} (z : Int32) (I : Nat → Nat → Int32) (J : Nat → Nat → Int64) : KX3_does_2 N d n z (mkh X I J) = am_nb z (some (.int z, (mkh X I J))) := by
  rfl
set_option maxHeartbeats 4000000 in
set_option maxRecDepth 100000 in
theorem kX3_does_3 (N d n : Nat) {X : lt_X} (z : Int32) (I : Nat → Nat → Int32) (J : Nat → Nat → Int64) : KX3_does_3 N d n z (mkh X I J) = am_nb z (some (.int z, (mkh X I J))) := by
  rfl
set_option maxHeartbeats 4000000 in
set_option maxRecDepth 100000 in
theorem kX3_does_4 (N d n : Nat) {X : lt_X} (z : Int32) (I : Nat → Nat → Int32) (J : Nat → Nat → Int64) : KX3_does_4 N d n z (mkh X I J) = am_nb z (some (.int z, (mkh X I J))) := by
  rfl
set_option maxHeartbeats 4000000 in
set_option maxRecDepth 100000 in
theorem kX3_does_5 (N d n : Nat) {X : lt_X} (z : Int32) (I : Nat → Nat → Int32) (J : Nat → Nat → Int64) : KX3_does_5 N d n z (mkh X I J) = am_nb z (some (.int z, (mkh X I J))) := by
  rfl
set_option maxHeartbeats 4000000 in
set_option maxRecDepth 100000 in
theorem kX3_does_6 (N d n : Nat) {X : lt_X} (z : Int32) (I : Nat → Nat → Int32) (J : Nat → Nat → Int64) : KX3_does_6 N d n z (mkh X I J) = am_nb z (some (.int z, (mkh X I J))) := by
  rfl
theorem fX3_does (N d : Nat) {X : lt_X} {t : Nat} (ht : isT t) (x2 : Int32) (I : Nat → Nat → Int32) (J : Nat → Nat → Int64) : am_G am_prog N (d + 1) 39 [.ref 132, .ref t, .int x2] (mkh X I J) = am_run (am_G am_prog N d) eX3_does uX3_does N 0 [(0, .ref 132), (1, .ref t), (2, .int x2)] [] (mkh X I J) := by
  refine (am_G_at N d 39 mX3_does _ _ rfl).trans ?_
  rcases ht with rfl | rfl | rfl | rfl | rfl <;> rfl
theorem gX3_does (N d : Nat) {X : lt_X} {t : Nat} (ht : isT t) (x2 : Int32) (I : Nat → Nat → Int32) (J : Nat → Nat → Int64) : am_G am_prog (N + 30) (d + 1) 39 [.ref 132, .ref t, .int x2] (mkh X I J) = RX3_does_0 N d (N + 30) X t x2 I J := fX3_does (N + 30) (d + 0) ht x2 I J
def RX3_doesHours_0 (N d n : Nat) (X : lt_X) (t : Nat) (x2 : Int32) (I : Nat → Nat → Int32) (J : Nat → Nat → Int64) : am_O := am_run (am_G am_prog (N + 30) (d + 1)) eX3_doesHours uX3_doesHours n 0 [(0, .ref 132), (1, .ref t), (2, .int x2)] [] (mkh X I J)
def KX3_doesHours_0 (N d n : Nat) (t : Nat) (a0 : Int32) (z : Int32) (h : am_H) : am_O := if z = nI 0 then some (.int (nI 0), h) else am_cI (am_G am_prog (N + 30) (d + 1) 80 [.ref t, .int a0] h) (fun r2 h1 => am_gI h1 3 132 4 (fun y3 => am_pI h1 3 132 4 (y3 + a0) (fun h4 => some (.int (nI 1), h4))))
def KX3_doesHours_1 (N d n : Nat) (a0 : Int32) (z : Int32) (h : am_H) : am_O := am_gI h 3 132 4 (fun y1 => am_pI h 3 132 4 (y1 + a0) (fun h2 => some (.int (nI 1), h2)))
set_option maxHeartbeats 4000000 in
set_option maxRecDepth 100000 in
theorem sX3_doesHours_0 (N d n : Nat) {X : lt_X} {t : Nat} (ht : isT t) (x2 : Int32) (I : Nat → Nat → Int32) (J : Nat → Nat → Int64) : RX3_doesHours_0 N d (n + 1) X t x2 I J = am_cI (am_G am_prog (N + 30) (d + 1) 78 [.ref t, .int x2] (mkh X I J)) (KX3_doesHours_0 N d n t x2) := by
  rcases ht with rfl | rfl | rfl | rfl | rfl <;> rfl
set_option maxHeartbeats 4000000 in
set_option maxRecDepth 100000 in
theorem kX3_doesHours_0 (N d n : Nat) {X : lt_X} {t : Nat} (ht : isT t) (a0 : Int32) (z : Int32) (I : Nat → Nat → Int32) (J : Nat → Nat → Int64) : KX3_doesHours_0 N d n t a0 z (mkh X I J) = if z = nI 0 then some (.int (nI 0), (mkh X I J)) else am_cI (am_G am_prog (N + 30) (d + 1) 80 [.ref t, .int a0] (mkh X I J)) (KX3_doesHours_1 N d n a0) := by
  rcases ht with rfl | rfl | rfl | rfl | rfl <;> rfl
set_option maxHeartbeats 4000000 in
set_option maxRecDepth 100000 in
theorem kX3_doesHours_1 (N d n : Nat) {X : lt_X} (a0 : Int32) (z : Int32) (I : Nat → Nat → Int32) (J : Nat → Nat → Int64) : KX3_doesHours_1 N d n a0 z (mkh X I J) = some (.int (nI 1), (mkh X (u2 I 132 4 ((I 132 4) + a0)) J)) := by
  rfl
theorem fX3_doesHours (N d : Nat) {X : lt_X} {t : Nat} (ht : isT t) (x2 : Int32) (I : Nat → Nat → Int32) (J : Nat → Nat → Int64) : am_G am_prog N (d + 1) 40 [.ref 132, .ref t, .int x2] (mkh X I J) = am_run (am_G am_prog N d) eX3_doesHours uX3_doesHours N 0 [(0, .ref 132), (1, .ref t), (2, .int x2)] [] (mkh X I J) := by
  refine (am_G_at N d 40 mX3_doesHours _ _ rfl).trans ?_
  rcases ht with rfl | rfl | rfl | rfl | rfl <;> rfl
theorem gX3_doesHours (N d : Nat) {X : lt_X} {t : Nat} (ht : isT t) (x2 : Int32) (I : Nat → Nat → Int32) (J : Nat → Nat → Int64) : am_G am_prog (N + 30) (d + 2) 40 [.ref 132, .ref t, .int x2] (mkh X I J) = RX3_doesHours_0 N d (N + 30) X t x2 I J := fX3_doesHours (N + 30) (d + 1) ht x2 I J
def RX3_doesYears_0 (N d n : Nat) (X : lt_X) (t : Nat) (x2 : Int32) (I : Nat → Nat → Int32) (J : Nat → Nat → Int64) : am_O := am_run (am_G am_prog (N + 30) (d + 1)) eX3_doesYears uX3_doesYears n 0 [(0, .ref 132), (1, .ref t), (2, .int x2)] [] (mkh X I J)
def KX3_doesYears_0 (N d n : Nat) (t : Nat) (a0 : Int32) (z : Int32) (h : am_H) : am_O := if z = nI 0 then some (.int (nI 0), h) else am_gI h 3 132 5 (fun y1 => am_cI (am_G am_prog (N + 30) (d + 1) 81 [.ref t, .int a0] h) (fun r3 h2 => am_cI (am_G am_prog (N + 30) (d + 1) 356 [.int r3] h2) (fun r5 h4 => am_pI h4 3 132 5 (y1 + r5) (fun h6 => some (.int (nI 1), h6)))))
def KX3_doesYears_1 (N d n : Nat) (a0 : Int32) (z : Int32) (h : am_H) : am_O := am_cI (am_G am_prog (N + 30) (d + 1) 356 [.int z] h) (fun r2 h1 => am_pI h1 3 132 5 (a0 + r2) (fun h3 => some (.int (nI 1), h3)))
def KX3_doesYears_2 (N d n : Nat) (a0 : Int32) (z : Int32) (h : am_H) : am_O := am_pI h 3 132 5 (a0 + z) (fun h1 => some (.int (nI 1), h1))
set_option maxHeartbeats 4000000 in
set_option maxRecDepth 100000 in
theorem sX3_doesYears_0 (N d n : Nat) {X : lt_X} {t : Nat} (ht : isT t) (x2 : Int32) (I : Nat → Nat → Int32) (J : Nat → Nat → Int64) : RX3_doesYears_0 N d (n + 1) X t x2 I J = am_cI (am_G am_prog (N + 30) (d + 1) 79 [.ref t, .int x2] (mkh X I J)) (KX3_doesYears_0 N d n t x2) := by
  rcases ht with rfl | rfl | rfl | rfl | rfl <;> rfl
set_option maxHeartbeats 4000000 in
set_option maxRecDepth 100000 in
theorem kX3_doesYears_0 (N d n : Nat) {X : lt_X} {t : Nat} (ht : isT t) (a0 : Int32) (z : Int32) (I : Nat → Nat → Int32) (J : Nat → Nat → Int64) : KX3_doesYears_0 N d n t a0 z (mkh X I J) = if z = nI 0 then some (.int (nI 0), (mkh X I J)) else am_cI (am_G am_prog (N + 30) (d + 1) 81 [.ref t, .int a0] (mkh X I J)) (KX3_doesYears_1 N d n (I 132 5)) := by
  rcases ht with rfl | rfl | rfl | rfl | rfl <;> rfl
set_option maxHeartbeats 4000000 in
set_option maxRecDepth 100000 in
theorem kX3_doesYears_1 (N d n : Nat) {X : lt_X} (a0 : Int32) (z : Int32) (I : Nat → Nat → Int32) (J : Nat → Nat → Int64) : KX3_doesYears_1 N d n a0 z (mkh X I J) = am_cI (am_G am_prog (N + 30) (d + 1) 356 [.int z] (mkh X I J)) (KX3_doesYears_2 N d n a0) := by
  rfl
set_option maxHeartbeats 4000000 in
set_option maxRecDepth 100000 in
theorem kX3_doesYears_2 (N d n : Nat) {X : lt_X} (a0 : Int32) (z : Int32) (I : Nat → Nat → Int32) (J : Nat → Nat → Int64) : KX3_doesYears_2 N d n a0 z (mkh X I J) = some (.int (nI 1), (mkh X (u2 I 132 5 (a0 + z)) J)) := by
  rfl
theorem fX3_doesYears (N d : Nat) {X : lt_X} {t : Nat} (ht : isT t) (x2 : Int32) (I : Nat → Nat → Int32) (J : Nat → Nat → Int64) : am_G am_prog N (d + 1) 41 [.ref 132, .ref t, .int x2] (mkh X I J) = am_run (am_G am_prog N d) eX3_doesYears uX3_doesYears N 0 [(0, .ref 132), (1, .ref t), (2, .int x2)] [] (mkh X I J) := by
  refine (am_G_at N d 41 mX3_doesYears _ _ rfl).trans ?_
  rcases ht with rfl | rfl | rfl | rfl | rfl <;> rfl
theorem gX3_doesYears (N d : Nat) {X : lt_X} {t : Nat} (ht : isT t) (x2 : Int32) (I : Nat → Nat → Int32) (J : Nat → Nat → Int64) : am_G am_prog (N + 30) (d + 2) 41 [.ref 132, .ref t, .int x2] (mkh X I J) = RX3_doesYears_0 N d (N + 30) X t x2 I J := fX3_doesYears (N + 30) (d + 1) ht x2 I J
def RX3_doesAny_0 (N d n : Nat) (X : lt_X) (t : Nat) (I : Nat → Nat → Int32) (J : Nat → Nat → Int64) : am_O := am_run (am_G am_prog (N + 30) (d + 1)) eX3_doesAny uX3_doesAny n 0 [(0, .ref 132), (1, .ref t)] [] (mkh X I J)
def RX3_doesAny_37 (N d n : Nat) (X : lt_X) (t : Nat) (x3 : Int32) (s0 : Int32) (I : Nat → Nat → Int32) (J : Nat → Nat → Int64) : am_O := am_run (am_G am_prog (N + 30) (d + 1)) eX3_doesAny uX3_doesAny n 37 [(1, .ref t), (3, .int x3)] [.int s0] (mkh X I J)
def KX3_doesAny_0 (N d n : Nat) (t : Nat) (z : Int32) (h : am_H) : am_O := am_cI (am_G am_prog (N + 30) (d + 1) 43 [.ref 132, .int (nI 16)] h) (fun r2 h1 => am_gI h1 5 t 2 (fun y3 => if r2 < y3 then am_run (am_G am_prog (N + 30) (d + 1)) eX3_doesAny uX3_doesAny n 37 [(1, .ref t), (3, .int z)] [.int (nI 1)] h1 else am_run (am_G am_prog (N + 30) (d + 1)) eX3_doesAny uX3_doesAny n 37 [(1, .ref t), (3, .int z)] [.int (nI 0)] h1))
def KX3_doesAny_1 (N d n : Nat) (t : Nat) (a0 : Int32) (a1 : Int32) (z : Int32) (h : am_H) : am_O := if z = nI 0 then some (.int (nI 0), h) else if a0 = nI 0 then am_cI (am_G am_prog (N + 30) (d + 1) 85 [.ref t, .int a1] h) (fun r2 h1 => some (.int (nI 1), h1)) else am_cI (am_G am_prog (N + 30) (d + 1) 84 [.ref t, .int a1] h) (fun r4 h3 => some (.int (nI 1), h3))
def KX3_doesAny_2 (N d n : Nat) (t : Nat) (a0 : Int32) (z : Int32) (h : am_H) : am_O := am_gI h 5 t 2 (fun y1 => if z < y1 then am_run (am_G am_prog (N + 30) (d + 1)) eX3_doesAny uX3_doesAny n 37 [(1, .ref t), (3, .int a0)] [.int (nI 1)] h else am_run (am_G am_prog (N + 30) (d + 1)) eX3_doesAny uX3_doesAny n 37 [(1, .ref t), (3, .int a0)] [.int (nI 0)] h)
def KX3_doesAny_3 (N d n : Nat) (z : Int32) (h : am_H) : am_O := some (.int (nI 1), h)
def KX3_doesAny_4 (N d n : Nat) (z : Int32) (h : am_H) : am_O := some (.int (nI 1), h)
set_option maxHeartbeats 4000000 in
set_option maxRecDepth 100000 in
theorem sX3_doesAny_0 (N d n : Nat) {X : lt_X} {t : Nat} (ht : isT t) (I : Nat → Nat → Int32) (J : Nat → Nat → Int64) : RX3_doesAny_0 N d (n + 1) X t I J = if nI 0 < (I (t + 2) 1) then am_cI (am_G am_prog (N + 30) (d + 1) 43 [.ref 132, .int (I (t + 2) 1)] (mkh X I J)) (KX3_doesAny_0 N d n t) else some (.int (nI 0), (mkh X I J)) := by
  rcases ht with rfl | rfl | rfl | rfl | rfl <;> rfl
set_option maxHeartbeats 4000000 in
set_option maxRecDepth 100000 in
theorem sX3_doesAny_37 (N d n : Nat) {X : lt_X} {t : Nat} (ht : isT t) (x3 : Int32) (s0 : Int32) (I : Nat → Nat → Int32) (J : Nat → Nat → Int64) : RX3_doesAny_37 N d (n + 1) X t x3 s0 I J = am_cI (am_G am_prog (N + 30) (d + 1) 70 [.ref t, .int x3] (mkh X I J)) (KX3_doesAny_1 N d n t s0 x3) := by
  rcases ht with rfl | rfl | rfl | rfl | rfl <;> rfl
set_option maxHeartbeats 4000000 in
set_option maxRecDepth 100000 in
theorem kX3_doesAny_0 (N d n : Nat) {X : lt_X} {t : Nat} (ht : isT t) (z : Int32) (I : Nat → Nat → Int32) (J : Nat → Nat → Int64) : KX3_doesAny_0 N d n t z (mkh X I J) = am_cI (am_G am_prog (N + 30) (d + 1) 43 [.ref 132, .int (nI 16)] (mkh X I J)) (KX3_doesAny_2 N d n t z) := by
  rcases ht with rfl | rfl | rfl | rfl | rfl <;> rfl
set_option maxHeartbeats 4000000 in
set_option maxRecDepth 100000 in
theorem kX3_doesAny_1 (N d n : Nat) {X : lt_X} {t : Nat} (ht : isT t) (a0 : Int32) (a1 : Int32) (z : Int32) (I : Nat → Nat → Int32) (J : Nat → Nat → Int64) : KX3_doesAny_1 N d n t a0 a1 z (mkh X I J) = if z = nI 0 then some (.int (nI 0), (mkh X I J)) else if a0 = nI 0 then am_cI (am_G am_prog (N + 30) (d + 1) 85 [.ref t, .int a1] (mkh X I J)) (KX3_doesAny_3 N d n ) else am_cI (am_G am_prog (N + 30) (d + 1) 84 [.ref t, .int a1] (mkh X I J)) (KX3_doesAny_4 N d n ) := by
  rcases ht with rfl | rfl | rfl | rfl | rfl <;> rfl
set_option maxHeartbeats 4000000 in
set_option maxRecDepth 100000 in
theorem kX3_doesAny_2 (N d n : Nat) {X : lt_X} {t : Nat} (ht : isT t) (a0 : Int32) (z : Int32) (I : Nat → Nat → Int32) (J : Nat → Nat → Int64) : KX3_doesAny_2 N d n t a0 z (mkh X I J) = if z < (I t 2) then RX3_doesAny_37 N d n X t a0 (nI 1) I J else RX3_doesAny_37 N d n X t a0 (nI 0) I J := by
  rcases ht with rfl | rfl | rfl | rfl | rfl <;> rfl
set_option maxHeartbeats 4000000 in
set_option maxRecDepth 100000 in
theorem kX3_doesAny_3 (N d n : Nat) {X : lt_X} (z : Int32) (I : Nat → Nat → Int32) (J : Nat → Nat → Int64) : KX3_doesAny_3 N d n z (mkh X I J) = some (.int (nI 1), (mkh X I J)) := by
  rfl
set_option maxHeartbeats 4000000 in
set_option maxRecDepth 100000 in
theorem kX3_doesAny_4 (N d n : Nat) {X : lt_X} (z : Int32) (I : Nat → Nat → Int32) (J : Nat → Nat → Int64) : KX3_doesAny_4 N d n z (mkh X I J) = some (.int (nI 1), (mkh X I J)) := by
  rfl
theorem fX3_doesAny (N d : Nat) {X : lt_X} {t : Nat} (ht : isT t) (I : Nat → Nat → Int32) (J : Nat → Nat → Int64) : am_G am_prog N (d + 1) 42 [.ref 132, .ref t] (mkh X I J) = am_run (am_G am_prog N d) eX3_doesAny uX3_doesAny N 0 [(0, .ref 132), (1, .ref t)] [] (mkh X I J) := by
  refine (am_G_at N d 42 mX3_doesAny _ _ rfl).trans ?_
  rcases ht with rfl | rfl | rfl | rfl | rfl <;> rfl
theorem gX3_doesAny (N d : Nat) {X : lt_X} {t : Nat} (ht : isT t) (I : Nat → Nat → Int32) (J : Nat → Nat → Int64) : am_G am_prog (N + 30) (d + 2) 42 [.ref 132, .ref t] (mkh X I J) = RX3_doesAny_0 N d (N + 30) X t I J := fX3_doesAny (N + 30) (d + 1) ht I J
def RX3_draw_0 (N d n : Nat) (X : lt_X) (x1 : Int32) (I : Nat → Nat → Int32) (J : Nat → Nat → Int64) : am_O := am_run (am_G am_prog (N + 30) (d + 0)) eX3_draw uX3_draw n 0 [(0, .ref 132), (1, .int x1)] [] (mkh X I J)
set_option maxHeartbeats 4000000 in
set_option maxRecDepth 100000 in
theorem sX3_draw_0 (N d n : Nat) {X : lt_X} (x1 : Int32) (I : Nat → Nat → Int32) (J : Nat → Nat → Int64) : RX3_draw_0 N d (n + 1) X x1 I J = if nI 0 < x1 then am_nz x1 (some (.int ((((((I 132 1) * (nI 2971)) + (nI 10847)) - (((I 132 1) * (nI 2971)) + (nI 10847)) / (nI 65536) * (nI 65536)) / (nI 8)) - (((((I 132 1) * (nI 2971)) + (nI 10847)) - (((I 132 1) * (nI 2971)) + (nI 10847)) / (nI 65536) * (nI 65536)) / (nI 8)) / x1 * x1), (mkh X (u2 I 132 1 ((((I 132 1) * (nI 2971)) + (nI 10847)) - (((I 132 1) * (nI 2971)) + (nI 10847)) / (nI 65536) * (nI 65536))) J))) else some (.int (nI 0), (mkh X (u2 I 132 1 ((((I 132 1) * (nI 2971)) + (nI 10847)) - (((I 132 1) * (nI 2971)) + (nI 10847)) / (nI 65536) * (nI 65536))) J)) := by
  rfl
theorem fX3_draw (N d : Nat) {X : lt_X} (x1 : Int32) (I : Nat → Nat → Int32) (J : Nat → Nat → Int64) : am_G am_prog N (d + 1) 43 [.ref 132, .int x1] (mkh X I J) = am_run (am_G am_prog N d) eX3_draw uX3_draw N 0 [(0, .ref 132), (1, .int x1)] [] (mkh X I J) := by
  refine (am_G_at N d 43 mX3_draw _ _ rfl).trans ?_
  rfl
theorem gX3_draw (N d : Nat) {X : lt_X} (x1 : Int32) (I : Nat → Nat → Int32) (J : Nat → Nat → Int64) : am_G am_prog (N + 30) (d + 1) 43 [.ref 132, .int x1] (mkh X I J) = RX3_draw_0 N d (N + 30) X x1 I J := fX3_draw (N + 30) (d + 0) x1 I J
