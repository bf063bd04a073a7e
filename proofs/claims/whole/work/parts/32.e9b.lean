/-! printed by wip/whole/eqs4.py (sym4.py) -/
def RX9_year_0 (N d n : Nat) (X : lt_X) (x1 : Int32) (I : Nat → Nat → Int32) (J : Nat → Nat → Int64) : am_O := am_run (am_G am_prog (N + 30) (d + 1)) eX9_year uX9_year n 0 [(0, .ref 135), (1, .int x1)] [] (mkh X I J)
def RX9_year_54 (N d n : Nat) (X : lt_X) (x1 : Int32) (x2 : Int32) (x3 : Int32) (I : Nat → Nat → Int32) (J : Nat → Nat → Int64) : am_O := am_run (am_G am_prog (N + 30) (d + 1)) eX9_year uX9_year n 54 [(0, .ref 135), (1, .int x1), (2, .int x2), (3, .int x3)] [] (mkh X I J)
def KX9_year_0 (N d n : Nat) (a0 : Int32) (z : Int32) (h : am_H) : am_O := if z = nI 0 then am_cI (am_G am_prog (N + 30) (d + 1) 188 [.ref 135, .int (nI 5)] h) (fun r2 h1 => some (.int r2, h1)) else am_gR h 9 135 20 (fun y3 => am_lI h 10 y3 (nI 6) (fun y4 => if (nI 999) < (y4 + a0) then am_cI (am_G am_prog (N + 30) (d + 1) 188 [.ref 135, .int (nI 7)] h) (fun r6 h5 => some (.int r6, h5)) else am_run (am_G am_prog (N + 30) (d + 1)) eX9_year uX9_year n 54 [(0, .ref 135), (1, .int a0), (2, .int (nI 0)), (3, .int (nI 0))] [] h))
def KX9_year_1 (N d n : Nat) (a0 : Int32) (a1 : Int32) (a2 : Int32) (z : Int32) (h : am_H) : am_O := am_run (am_G am_prog (N + 30) (d + 1)) eX9_year uX9_year n 54 [(0, .ref 135), (1, .int a0), (2, .int (a2 ||| z)), (3, .int (a1 + (nI 1)))] [] h
set_option maxHeartbeats 4000000 in
set_option maxRecDepth 100000 in
theorem sX9_year_0 (N d n : Nat) {X : lt_X} (x1 : Int32) (I : Nat → Nat → Int32) (J : Nat → Nat → Int64) : RX9_year_0 N d (n + 1) X x1 I J = am_cI (am_G am_prog (N + 30) (d + 1) 190 [.long x1.toInt64, .long (lN 1), .long (lN 99)] (mkh X (u2 (u2 I 135 1 (nI 0)) 135 0 (nI 0)) J)) (KX9_year_0 N d n x1) := by
  rfl
set_option maxHeartbeats 4000000 in
set_option maxRecDepth 100000 in
theorem sX9_year_54 (N d n : Nat) {X : lt_X} (x1 : Int32) (x2 : Int32) (x3 : Int32) (I : Nat → Nat → Int32) (J : Nat → Nat → Int64) : RX9_year_54 N d (n + 1) X x1 x2 x3 I J = if x3 < x1 then am_cI (am_G am_prog (N + 30) (d + 1) 279 [.ref 135] (mkh X I J)) (KX9_year_1 N d n x1 x3 x2) else some (.int x2, (mkh X I J)) := by
  rfl
set_option maxHeartbeats 4000000 in
set_option maxRecDepth 100000 in
theorem kX9_year_0 (N d n : Nat) {X : lt_X} (a0 : Int32) (z : Int32) (I : Nat → Nat → Int32) (J : Nat → Nat → Int64) : KX9_year_0 N d n a0 z (mkh X I J) = if z = nI 0 then some (.int (-1), (mkh X (u2 I 135 0 (nI 5)) J)) else if (nI 999) < ((I 140 6) + a0) then some (.int (-1), (mkh X (u2 I 135 0 (nI 7)) J)) else RX9_year_54 N d n X a0 (nI 0) (nI 0) I J := by
  rfl
set_option maxHeartbeats 4000000 in
set_option maxRecDepth 100000 in
theorem kX9_year_1 (N d n : Nat) {X : lt_X} (a0 : Int32) (a1 : Int32) (a2 : Int32) (z : Int32) (I : Nat → Nat → Int32) (J : Nat → Nat → Int64) : KX9_year_1 N d n a0 a1 a2 z (mkh X I J) = RX9_year_54 N d n X a0 (a2 ||| z) (a1 + (nI 1)) I J := by
  rfl
theorem fX9_year (N d : Nat) {X : lt_X} (x1 : Int32) (I : Nat → Nat → Int32) (J : Nat → Nat → Int64) : am_G am_prog N (d + 1) 280 [.ref 135, .int x1] (mkh X I J) = am_run (am_G am_prog N d) eX9_year uX9_year N 0 [(0, .ref 135), (1, .int x1)] [] (mkh X I J) := by
  refine (am_G_at N d 280 mX9_year _ _ rfl).trans ?_
  rfl
theorem gX9_year (N d : Nat) {X : lt_X} (x1 : Int32) (I : Nat → Nat → Int32) (J : Nat → Nat → Int64) : am_G am_prog (N + 30) (d + 2) 280 [.ref 135, .int x1] (mkh X I J) = RX9_year_0 N d (N + 30) X x1 I J := fX9_year (N + 30) (d + 1) x1 I J
def RX9_sells_0 (N d n : Nat) (X : lt_X) (x1 : Int32) (x2 : Int32) (x3 : Int32) (I : Nat → Nat → Int32) (J : Nat → Nat → Int64) : am_O := am_run (am_G am_prog (N + 30) (d + 0)) eX9_sells uX9_sells n 0 [(0, .ref 135), (1, .int x1), (2, .int x2), (3, .int x3)] [] (mkh X I J)
set_option maxHeartbeats 4000000 in
set_option maxRecDepth 100000 in
theorem sX9_sells_0 (N d n : Nat) {X : lt_X} (x1 : Int32) (x2 : Int32) (x3 : Int32) (I : Nat → Nat → Int32) (J : Nat → Nat → Int64) : RX9_sells_0 N d (n + 1) X x1 x2 x3 I J = if am_in ((nI 67) + x1) 2145 then if (I 140 (((nI 67) + x1).toNatClampNeg)) < nI 0 then some (.int (nI 0), (mkh X I J)) else if (I 140 (((nI 67) + x1).toNatClampNeg)) = x2 then some (.int (nI 0), (mkh X I J)) else if am_in ((nI 37) + x2) 2145 then if (I 140 (((nI 37) + x2).toNatClampNeg)) < x3 then some (.int (nI 0), (mkh X I J)) else if am_in ((nI 37) + (I 140 (((nI 67) + x1).toNatClampNeg))) 2145 then if (nI 9999) < ((I 140 (((nI 37) + (I 140 (((nI 67) + x1).toNatClampNeg))).toNatClampNeg)) + x3) then some (.int (nI 0), (mkh X I J)) else if am_in ((nI 37) + (I 140 (((nI 67) + x1).toNatClampNeg))) 2145 then if am_in ((nI 37) + (I 140 (((nI 67) + x1).toNatClampNeg))) 2145 then if am_in ((nI 37) + x2) 2145 then if am_in ((nI 37) + x2) 2145 then if am_in ((nI 67) + x1) 2145 then some (.int (nI 1), (mkh X (u2 (u2 (u2 I 140 (((nI 37) + (I 140 (((nI 67) + x1).toNatClampNeg))).toNatClampNeg) ((I 140 (((nI 37) + (I 140 (((nI 67) + x1).toNatClampNeg))).toNatClampNeg)) + x3)) 140 (((nI 37) + x2).toNatClampNeg) (((u2 I 140 (((nI 37) + (I 140 (((nI 67) + x1).toNatClampNeg))).toNatClampNeg) ((I 140 (((nI 37) + (I 140 (((nI 67) + x1).toNatClampNeg))).toNatClampNeg)) + x3)) 140 (((nI 37) + x2).toNatClampNeg)) - x3)) 140 (((nI 67) + x1).toNatClampNeg) x2) J)) else none else none else none else none else none else none else none else none := by
  rfl
theorem fX9_sells (N d : Nat) {X : lt_X} (x1 : Int32) (x2 : Int32) (x3 : Int32) (I : Nat → Nat → Int32) (J : Nat → Nat → Int64) : am_G am_prog N (d + 1) 281 [.ref 135, .int x1, .int x2, .int x3] (mkh X I J) = am_run (am_G am_prog N d) eX9_sells uX9_sells N 0 [(0, .ref 135), (1, .int x1), (2, .int x2), (3, .int x3)] [] (mkh X I J) := by
  refine (am_G_at N d 281 mX9_sells _ _ rfl).trans ?_
  rfl
theorem gX9_sells (N d : Nat) {X : lt_X} (x1 : Int32) (x2 : Int32) (x3 : Int32) (I : Nat → Nat → Int32) (J : Nat → Nat → Int64) : am_G am_prog (N + 30) (d + 1) 281 [.ref 135, .int x1, .int x2, .int x3] (mkh X I J) = RX9_sells_0 N d (N + 30) X x1 x2 x3 I J := fX9_sells (N + 30) (d + 0) x1 x2 x3 I J
def RX9_sell_0 (N d n : Nat) (X : lt_X) (x1 : Int32) (x2 : Int32) (x3 : Int32) (I : Nat → Nat → Int32) (J : Nat → Nat → Int64) : am_O := am_run (am_G am_prog (N + 30) (d + 2)) eX9_sell uX9_sell n 0 [(0, .ref 135), (1, .int x1), (2, .int x2), (3, .int x3)] [] (mkh X I J)
def KX9_sell_0 (N d n : Nat) (a0 : Int32) (a1 : Int32) (a2 : Int32) (z : Int32) (h : am_H) : am_O := if z = nI 0 then am_cI (am_G am_prog (N + 30) (d + 2) 188 [.ref 135, .int (nI 2)] h) (fun r2 h1 => some (.int r2, h1)) else am_cI (am_G am_prog (N + 30) (d + 2) 260 [.ref 135, .long a1.toInt64] h) (fun r4 h3 => if r4 = nI 0 then am_cI (am_G am_prog (N + 30) (d + 2) 188 [.ref 135, .int (nI 2)] h3) (fun r6 h5 => some (.int r6, h5)) else am_cI (am_G am_prog (N + 30) (d + 2) 190 [.long a2.toInt64, .long (lN 0), .long (lN 999)] h3) (fun r8 h7 => if r8 = nI 0 then am_cI (am_G am_prog (N + 30) (d + 2) 188 [.ref 135, .int (nI 5)] h7) (fun r10 h9 => some (.int r10, h9)) else am_cI (am_G am_prog (N + 30) (d + 2) 281 [.ref 135, .int a0, .int a1, .int a2] h7) (fun r12 h11 => if r12 = nI 0 then am_cI (am_G am_prog (N + 30) (d + 2) 188 [.ref 135, .int (nI 9)] h11) (fun r14 h13 => some (.int r14, h13)) else am_gR h11 9 135 20 (fun y15 => am_lI h11 10 y15 ((nI 37) + a1) (fun y16 => some (.int y16, h11))))))
def KX9_sell_1 (N d n : Nat) (a0 : Int32) (a1 : Int32) (a2 : Int32) (z : Int32) (h : am_H) : am_O := if z = nI 0 then am_cI (am_G am_prog (N + 30) (d + 2) 188 [.ref 135, .int (nI 2)] h) (fun r2 h1 => some (.int r2, h1)) else am_cI (am_G am_prog (N + 30) (d + 2) 190 [.long a2.toInt64, .long (lN 0), .long (lN 999)] h) (fun r4 h3 => if r4 = nI 0 then am_cI (am_G am_prog (N + 30) (d + 2) 188 [.ref 135, .int (nI 5)] h3) (fun r6 h5 => some (.int r6, h5)) else am_cI (am_G am_prog (N + 30) (d + 2) 281 [.ref 135, .int a0, .int a1, .int a2] h3) (fun r8 h7 => if r8 = nI 0 then am_cI (am_G am_prog (N + 30) (d + 2) 188 [.ref 135, .int (nI 9)] h7) (fun r10 h9 => some (.int r10, h9)) else am_gR h7 9 135 20 (fun y11 => am_lI h7 10 y11 ((nI 37) + a1) (fun y12 => some (.int y12, h7)))))
def KX9_sell_2 (N d n : Nat) (a0 : Int32) (a1 : Int32) (a2 : Int32) (z : Int32) (h : am_H) : am_O := if z = nI 0 then am_cI (am_G am_prog (N + 30) (d + 2) 188 [.ref 135, .int (nI 5)] h) (fun r2 h1 => some (.int r2, h1)) else am_cI (am_G am_prog (N + 30) (d + 2) 281 [.ref 135, .int a0, .int a1, .int a2] h) (fun r4 h3 => if r4 = nI 0 then am_cI (am_G am_prog (N + 30) (d + 2) 188 [.ref 135, .int (nI 9)] h3) (fun r6 h5 => some (.int r6, h5)) else am_gR h3 9 135 20 (fun y7 => am_lI h3 10 y7 ((nI 37) + a1) (fun y8 => some (.int y8, h3))))
def KX9_sell_3 (N d n : Nat) (a0 : Int32) (z : Int32) (h : am_H) : am_O := if z = nI 0 then am_cI (am_G am_prog (N + 30) (d + 2) 188 [.ref 135, .int (nI 9)] h) (fun r2 h1 => some (.int r2, h1)) else am_gR h 9 135 20 (fun y3 => am_lI h 10 y3 ((nI 37) + a0) (fun y4 => some (.int y4, h)))
set_option maxHeartbeats 4000000 in
set_option maxRecDepth 100000 in
theorem sX9_sell_0 (N d n : Nat) {X : lt_X} (x1 : Int32) (x2 : Int32) (x3 : Int32) (I : Nat → Nat → Int32) (J : Nat → Nat → Int64) : RX9_sell_0 N d (n + 1) X x1 x2 x3 I J = am_cI (am_G am_prog (N + 30) (d + 2) 261 [.ref 135, .int x1] (mkh X (u2 (u2 I 135 1 (nI 0)) 135 0 (nI 0)) J)) (KX9_sell_0 N d n x1 x2 x3) := by
  rfl
set_option maxHeartbeats 4000000 in
set_option maxRecDepth 100000 in
theorem kX9_sell_0 (N d n : Nat) {X : lt_X} (a0 : Int32) (a1 : Int32) (a2 : Int32) (z : Int32) (I : Nat → Nat → Int32) (J : Nat → Nat → Int64) : KX9_sell_0 N d n a0 a1 a2 z (mkh X I J) = if z = nI 0 then some (.int (-1), (mkh X (u2 I 135 0 (nI 2)) J)) else am_cI (am_G am_prog (N + 30) (d + 2) 260 [.ref 135, .long a1.toInt64] (mkh X I J)) (KX9_sell_1 N d n a0 a1 a2) := by
  rfl
set_option maxHeartbeats 4000000 in
set_option maxRecDepth 100000 in
theorem kX9_sell_1 (N d n : Nat) {X : lt_X} (a0 : Int32) (a1 : Int32) (a2 : Int32) (z : Int32) (I : Nat → Nat → Int32) (J : Nat → Nat → Int64) : KX9_sell_1 N d n a0 a1 a2 z (mkh X I J) = if z = nI 0 then some (.int (-1), (mkh X (u2 I 135 0 (nI 2)) J)) else am_cI (am_G am_prog (N + 30) (d + 2) 190 [.long a2.toInt64, .long (lN 0), .long (lN 999)] (mkh X I J)) (KX9_sell_2 N d n a0 a1 a2) := by
  rfl
set_option maxHeartbeats 4000000 in
set_option maxRecDepth 100000 in
theorem kX9_sell_2 (N d n : Nat) {X : lt_X} (a0 : Int32) (a1 : Int32) (a2 : Int32) (z : Int32) (I : Nat → Nat → Int32) (J : Nat → Nat → Int64) : KX9_sell_2 N d n a0 a1 a2 z (mkh X I J) = if z = nI 0 then some (.int (-1), (mkh X (u2 I 135 0 (nI 5)) J)) else am_cI (am_G am_prog (N + 30) (d + 2) 281 [.ref 135, .int a0, .int a1, .int a2] (mkh X I J)) (KX9_sell_3 N d n a1) := by
  rfl
set_option maxHeartbeats 4000000 in
set_option maxRecDepth 100000 in
theorem kX9_sell_3 (N d n : Nat) {X : lt_X} (a0 : Int32) (z : Int32) (I : Nat → Nat → Int32) (J : Nat → Nat → Int64) : KX9_sell_3 N d n a0 z (mkh X I J) = if z = nI 0 then some (.int (-1), (mkh X (u2 I 135 0 (nI 9)) J)) else if am_in ((nI 37) + a0) 2145 then some (.int (I 140 (((nI 37) + a0).toNatClampNeg)), (mkh X I J)) else none := by
  rfl
theorem fX9_sell (N d : Nat) {X : lt_X} (x1 : Int32) (x2 : Int32) (x3 : Int32) (I : Nat → Nat → Int32) (J : Nat → Nat → Int64) : am_G am_prog N (d + 1) 282 [.ref 135, .int x1, .int x2, .int x3] (mkh X I J) = am_run (am_G am_prog N d) eX9_sell uX9_sell N 0 [(0, .ref 135), (1, .int x1), (2, .int x2), (3, .int x3)] [] (mkh X I J) := by
  refine (am_G_at N d 282 mX9_sell _ _ rfl).trans ?_
  rfl
theorem gX9_sell (N d : Nat) {X : lt_X} (x1 : Int32) (x2 : Int32) (x3 : Int32) (I : Nat → Nat → Int32) (J : Nat → Nat → Int64) : am_G am_prog (N + 30) (d + 3) 282 [.ref 135, .int x1, .int x2, .int x3] (mkh X I J) = RX9_sell_0 N d (N + 30) X x1 x2 x3 I J := fX9_sell (N + 30) (d + 2) x1 x2 x3 I J
def RX9_becomes_0 (N d n : Nat) (X : lt_X) (x1 : Int32) (x2 : Int32) (I : Nat → Nat → Int32) (J : Nat → Nat → Int64) : am_O := am_run (am_G am_prog (N + 30) (d + 0)) eX9_becomes uX9_becomes n 0 [(0, .ref 135), (1, .int x1), (2, .int x2)] [] (mkh X I J)
set_option maxHeartbeats 4000000 in
set_option maxRecDepth 100000 in
theorem sX9_becomes_0 (N d n : Nat) {X : lt_X} (x1 : Int32) (x2 : Int32) (I : Nat → Nat → Int32) (J : Nat → Nat → Int64) : RX9_becomes_0 N d (n + 1) X x1 x2 I J = if am_in x1 2145 then if (I 140 x1.toNatClampNeg) = x2 then some (.int (nI 0), (mkh X I J)) else if am_in x1 2145 then some (.int (nI 1), (mkh X (u2 I 140 x1.toNatClampNeg x2) J)) else none else none := by
  rfl
theorem fX9_becomes (N d : Nat) {X : lt_X} (x1 : Int32) (x2 : Int32) (I : Nat → Nat → Int32) (J : Nat → Nat → Int64) : am_G am_prog N (d + 1) 283 [.ref 135, .int x1, .int x2] (mkh X I J) = am_run (am_G am_prog N d) eX9_becomes uX9_becomes N 0 [(0, .ref 135), (1, .int x1), (2, .int x2)] [] (mkh X I J) := by
  refine (am_G_at N d 283 mX9_becomes _ _ rfl).trans ?_
  rfl
theorem gX9_becomes (N d : Nat) {X : lt_X} (x1 : Int32) (x2 : Int32) (I : Nat → Nat → Int32) (J : Nat → Nat → Int64) : am_G am_prog (N + 30) (d + 1) 283 [.ref 135, .int x1, .int x2] (mkh X I J) = RX9_becomes_0 N d (N + 30) X x1 x2 I J := fX9_becomes (N + 30) (d + 0) x1 x2 I J
def RX9_give_0 (N d n : Nat) (X : lt_X) (x1 : Int32) (x2 : Int32) (I : Nat → Nat → Int32) (J : Nat → Nat → Int64) : am_O := am_run (am_G am_prog (N + 30) (d + 2)) eX9_give uX9_give n 0 [(0, .ref 135), (1, .int x1), (2, .int x2)] [] (mkh X I J)
def KX9_give_0 (N d n : Nat) (a0 : Int32) (a1 : Int32) (z : Int32) (h : am_H) : am_O := if z = nI 0 then am_cI (am_G am_prog (N + 30) (d + 2) 188 [.ref 135, .int (nI 2)] h) (fun r2 h1 => some (.int r2, h1)) else am_cI (am_G am_prog (N + 30) (d + 2) 260 [.ref 135, .long a1.toInt64] h) (fun r4 h3 => if r4 = nI 0 then am_cI (am_G am_prog (N + 30) (d + 2) 188 [.ref 135, .int (nI 2)] h3) (fun r6 h5 => some (.int r6, h5)) else am_cI (am_G am_prog (N + 30) (d + 2) 283 [.ref 135, .int ((nI 67) + a0), .int a1] h3) (fun r8 h7 => if r8 = nI 0 then am_cI (am_G am_prog (N + 30) (d + 2) 188 [.ref 135, .int (nI 9)] h7) (fun r10 h9 => some (.int r10, h9)) else am_cI (am_G am_prog (N + 30) (d + 2) 262 [.ref 135, .int a1] h7) (fun r12 h11 => am_cI (am_G am_prog (N + 30) (d + 2) 202 [.int r12] h11) (fun r14 h13 => some (.int r14, h13)))))
def KX9_give_1 (N d n : Nat) (a0 : Int32) (a1 : Int32) (z : Int32) (h : am_H) : am_O := if z = nI 0 then am_cI (am_G am_prog (N + 30) (d + 2) 188 [.ref 135, .int (nI 2)] h) (fun r2 h1 => some (.int r2, h1)) else am_cI (am_G am_prog (N + 30) (d + 2) 283 [.ref 135, .int ((nI 67) + a0), .int a1] h) (fun r4 h3 => if r4 = nI 0 then am_cI (am_G am_prog (N + 30) (d + 2) 188 [.ref 135, .int (nI 9)] h3) (fun r6 h5 => some (.int r6, h5)) else am_cI (am_G am_prog (N + 30) (d + 2) 262 [.ref 135, .int a1] h3) (fun r8 h7 => am_cI (am_G am_prog (N + 30) (d + 2) 202 [.int r8] h7) (fun r10 h9 => some (.int r10, h9))))
def KX9_give_2 (N d n : Nat) (a0 : Int32) (z : Int32) (h : am_H) : am_O := if z = nI 0 then am_cI (am_G am_prog (N + 30) (d + 2) 188 [.ref 135, .int (nI 9)] h) (fun r2 h1 => some (.int r2, h1)) else am_cI (am_G am_prog (N + 30) (d + 2) 262 [.ref 135, .int a0] h) (fun r4 h3 => am_cI (am_G am_prog (N + 30) (d + 2) 202 [.int r4] h3) (fun r6 h5 => some (.int r6, h5)))
def KX9_give_3 (N d n : Nat) (z : Int32) (h : am_H) : am_O := am_cI (am_G am_prog (N + 30) (d + 2) 202 [.int z] h) (fun r2 h1 => some (.int r2, h1))
def KX9_give_4 (N d n : Nat) (z : Int32) (h : am_H) : am_O := some (.int z, h)
set_option maxHeartbeats 4000000 in
set_option maxRecDepth 100000 in
theorem sX9_give_0 (N d n : Nat) {X : lt_X} (x1 : Int32) (x2 : Int32) (I : Nat → Nat → Int32) (J : Nat → Nat → Int64) : RX9_give_0 N d (n + 1) X x1 x2 I J = am_cI (am_G am_prog (N + 30) (d + 2) 261 [.ref 135, .int x1] (mkh X (u2 (u2 I 135 1 (nI 0)) 135 0 (nI 0)) J)) (KX9_give_0 N d n x1 x2) := by
  rfl
set_option maxHeartbeats 4000000 in
set_option maxRecDepth 100000 in
theorem kX9_give_0 (N d n : Nat) {X : lt_X} (a0 : Int32) (a1 : Int32) (z : Int32) (I : Nat → Nat → Int32) (J : Nat → Nat → Int64) : KX9_give_0 N d n a0 a1 z (mkh X I J) = if z = nI 0 then some (.int (-1), (mkh X (u2 I 135 0 (nI 2)) J)) else am_cI (am_G am_prog (N + 30) (d + 2) 260 [.ref 135, .long a1.toInt64] (mkh X I J)) (KX9_give_1 N d n a0 a1) := by
  rfl
set_option maxHeartbeats 4000000 in
set_option maxRecDepth 100000 in
theorem kX9_give_1 (N d n : Nat) {X : lt_X} (a0 : Int32) (a1 : Int32) (z : Int32) (I : Nat → Nat → Int32) (J : Nat → Nat → Int64) : KX9_give_1 N d n a0 a1 z (mkh X I J) = if z = nI 0 then some (.int (-1), (mkh X (u2 I 135 0 (nI 2)) J)) else am_cI (am_G am_prog (N + 30) (d + 2) 283 [.ref 135, .int ((nI 67) + a0), .int a1] (mkh X I J)) (KX9_give_2 N d n a1) := by
  rfl
set_option maxHeartbeats 4000000 in
set_option maxRecDepth 100000 in
theorem kX9_give_2 (N d n : Nat) {X : lt_X} (a0 : Int32) (z : Int32) (I : Nat → Nat → Int32) (J : Nat → Nat → Int64) : KX9_give_2 N d n a0 z (mkh X I J) = if z = nI 0 then some (.int (-1), (mkh X (u2 I 135 0 (nI 9)) J)) else am_cI (am_G am_prog (N + 30) (d + 2) 262 [.ref 135, .int a0] (mkh X I J)) (KX9_give_3 N d n ) := by
  rfl
set_option maxHeartbeats 4000000 in
set_option maxRecDepth 100000 in
theorem kX9_give_3 (N d n : Nat) {X : lt_X} (z : Int32) (I : Nat → Nat → Int32) (J : Nat → Nat → Int64) : KX9_give_3 N d n z (mkh X I J) = am_cI (am_G am_prog (N + 30) (d + 2) 202 [.int z] (mkh X I J)) (KX9_give_4 N d n ) := by
  rfl
set_option maxHeartbeats 4000000 in
set_option maxRecDepth 100000 in
theorem kX9_give_4 (N d n : Nat) {X : lt_X} (z : Int32) (I : Nat → Nat → Int32) (J : Nat → Nat → Int64) : KX9_give_4 N d n z (mkh X I J) = some (.int z, (mkh X I J)) := by
  rfl
theorem fX9_give (N d : Nat) {X : lt_X} (x1 : Int32) (x2 : Int32) (I : Nat → Nat → Int32) (J : Nat → Nat → Int64) : am_G am_prog N (d + 1) 284 [.ref 135, .int x1, .int x2] (mkh X I J) = am_run (am_G am_prog N d) eX9_give uX9_give N 0 [(0, .ref 135), (1, .int x1), (2, .int x2)] [] (mkh X I J) := by
  refine (am_G_at N d 284 mX9_give _ _ rfl).trans ?_
  rfl
theorem gX9_give (N d : Nat) {X : lt_X} (x1 : Int32) (x2 : Int32) (I : Nat → Nat → Int32) (J : Nat → Nat → Int64) : am_G am_prog (N + 30) (d + 3) 284 [.ref 135, .int x1, .int x2] (mkh X I J) = RX9_give_0 N d (N + 30) X x1 x2 I J := fX9_give (N + 30) (d + 2) x1 x2 I J
def RX9_dump_0 (N d n : Nat) (X : lt_X) (x1 : Int32) (I : Nat → Nat → Int32) (J : Nat → Nat → Int64) : am_O := am_run (am_G am_prog (N + 30) (d + 2)) eX9_dump uX9_dump n 0 [(0, .ref 135), (1, .int x1)] [] (mkh X I J)
def KX9_dump_0 (N d n : Nat) (a0 : Int32) (z : Int32) (h : am_H) : am_O := if z = nI 0 then am_cI (am_G am_prog (N + 30) (d + 2) 188 [.ref 135, .int (nI 2)] h) (fun r2 h1 => some (.int r2, h1)) else am_gR h 9 135 20 (fun y3 => am_lI h 10 y3 ((nI 67) + a0) (fun y4 => am_cI (am_G am_prog (N + 30) (d + 2) 283 [.ref 135, .int ((nI 67) + a0), .int (-1)] h) (fun r6 h5 => if r6 = nI 0 then am_cI (am_G am_prog (N + 30) (d + 2) 188 [.ref 135, .int (nI 8)] h5) (fun r8 h7 => some (.int r8, h7)) else some (.int y4, h5))))
def KX9_dump_1 (N d n : Nat) (a0 : Int32) (z : Int32) (h : am_H) : am_O := if z = nI 0 then am_cI (am_G am_prog (N + 30) (d + 2) 188 [.ref 135, .int (nI 8)] h) (fun r2 h1 => some (.int r2, h1)) else some (.int a0, h)
set_option maxHeartbeats 4000000 in
set_option maxRecDepth 100000 in
theorem sX9_dump_0 (N d n : Nat) {X : lt_X} (x1 : Int32) (I : Nat → Nat → Int32) (J : Nat → Nat → Int64) : RX9_dump_0 N d (n + 1) X x1 I J = am_cI (am_G am_prog (N + 30) (d + 2) 261 [.ref 135, .int x1] (mkh X (u2 (u2 I 135 1 (nI 0)) 135 0 (nI 0)) J)) (KX9_dump_0 N d n x1) := by
  rfl
set_option maxHeartbeats 4000000 in
set_option maxRecDepth 100000 in
theorem kX9_dump_0 (N d n : Nat) {X : lt_X} (a0 : Int32) (z : Int32) (I : Nat → Nat → Int32) (J : Nat → Nat → Int64) : KX9_dump_0 N d n a0 z (mkh X I J) = if z = nI 0 then some (.int (-1), (mkh X (u2 I 135 0 (nI 2)) J)) else if am_in ((nI 67) + a0) 2145 then am_cI (am_G am_prog (N + 30) (d + 2) 283 [.ref 135, .int ((nI 67) + a0), .int (-1)] (mkh X I J)) (KX9_dump_1 N d n (I 140 (((nI 67) + a0).toNatClampNeg))) else none := by
  rfl
set_option maxHeartbeats 4000000 in
set_option maxRecDepth 100000 in
theorem kX9_dump_1 (N d n : Nat) {X : lt_X} (a0 : Int32) (z : Int32) (I : Nat → Nat → Int32) (J : Nat → Nat → Int64) : KX9_dump_1 N d n a0 z (mkh X I J) = if z = nI 0 then some (.int (-1), (mkh X (u2 I 135 0 (nI 8)) J)) else some (.int a0, (mkh X I J)) := by
  rfl
theorem fX9_dump (N d : Nat) {X : lt_X} (x1 : Int32) (I : Nat → Nat → Int32) (J : Nat → Nat → Int64) : am_G am_prog N (d + 1) 285 [.ref 135, .int x1] (mkh X I J) = am_run (am_G am_prog N d) eX9_dump uX9_dump N 0 [(0, .ref 135), (1, .int x1)] [] (mkh X I J) := by
  refine (am_G_at N d 285 mX9_dump _ _ rfl).trans ?_
  rfl
theorem gX9_dump (N d : Nat) {X : lt_X} (x1 : Int32) (I : Nat → Nat → Int32) (J : Nat → Nat → Int64) : am_G am_prog (N + 30) (d + 3) 285 [.ref 135, .int x1] (mkh X I J) = RX9_dump_0 N d (N + 30) X x1 I J := fX9_dump (N + 30) (d + 2) x1 I J
def RX9_chills_0 (N d n : Nat) (X : lt_X) (x1 : Int32) (x2 : Int32) (I : Nat → Nat → Int32) (J : Nat → Nat → Int64) : am_O := am_run (am_G am_prog (N + 30) (d + 0)) eX9_chills uX9_chills n 0 [(0, .ref 135), (1, .int x1), (2, .int x2)] [] (mkh X I J)
def RX9_chills_17 (N d n : Nat) (X : lt_X) (x1 : Int32) (x2 : Int32) (I : Nat → Nat → Int32) (J : Nat → Nat → Int64) : am_O := am_run (am_G am_prog (N + 30) (d + 0)) eX9_chills uX9_chills n 17 [(0, .ref 135), (1, .int x1), (2, .int x2)] [] (mkh X I J)
def KX9_chills_0 (N d n : Nat) (z : Int32) (h : am_H) : am_O := if z = nI 0 then some (.int (nI 0), h) else some (.int (nI 1), h)
set_option maxHeartbeats 4000000 in
set_option maxRecDepth 100000 in
theorem sX9_chills_0 (N d n : Nat) {X : lt_X} (x1 : Int32) (x2 : Int32) (I : Nat → Nat → Int32) (J : Nat → Nat → Int64) : RX9_chills_0 N d (n + 1) X x1 x2 I J = if x2 = nI 0 then RX9_chills_17 N d n X x1 x2 I J else if am_in ((nI 25) + x1) 2145 then if (I 140 (((nI 25) + x1).toNatClampNeg)) = (nI 1) then RX9_chills_17 N d n X x1 x2 I J else some (.int (nI 0), (mkh X I J)) else none := by
  rfl
set_option maxHeartbeats 4000000 in
set_option maxRecDepth 100000 in
theorem sX9_chills_17 (N d n : Nat) {X : lt_X} (x1 : Int32) (x2 : Int32) (I : Nat → Nat → Int32) (J : Nat → Nat → Int64) : RX9_chills_17 N d (n + 1) X x1 x2 I J = if x2 = nI 0 then am_cI (am_G am_prog (N + 30) (d + 0) 283 [.ref 135, .int ((nI 31) + x1), .int (nI 0)] (mkh X I J)) (KX9_chills_0 N d n ) else am_cI (am_G am_prog (N + 30) (d + 0) 283 [.ref 135, .int ((nI 31) + x1), .int (nI 1)] (mkh X I J)) (KX9_chills_0 N d n ) := by
  rfl
set_option maxHeartbeats 4000000 in
set_option maxRecDepth 100000 in
theorem kX9_chills_0 (N d n : Nat) {X : lt_X} (z : Int32) (I : Nat → Nat → Int32) (J : Nat → Nat → Int64) : KX9_chills_0 N d n z (mkh X I J) = if z = nI 0 then some (.int (nI 0), (mkh X I J)) else some (.int (nI 1), (mkh X I J)) := by
  rfl
theorem fX9_chills (N d : Nat) {X : lt_X} (x1 : Int32) (x2 : Int32) (I : Nat → Nat → Int32) (J : Nat → Nat → Int64) : am_G am_prog N (d + 1) 286 [.ref 135, .int x1, .int x2] (mkh X I J) = am_run (am_G am_prog N d) eX9_chills uX9_chills N 0 [(0, .ref 135), (1, .int x1), (2, .int x2)] [] (mkh X I J) := by
  refine (am_G_at N d 286 mX9_chills _ _ rfl).trans ?_
  rfl
theorem gX9_chills (N d : Nat) {X : lt_X} (x1 : Int32) (x2 : Int32) (I : Nat → Nat → Int32) (J : Nat → Nat → Int64) : am_G am_prog (N + 30) (d + 1) 286 [.ref 135, .int x1, .int x2] (mkh X I J) = RX9_chills_0 N d (N + 30) X x1 x2 I J := fX9_chills (N + 30) (d + 0) x1 x2 I J
def RX9_cold_0 (N d n : Nat) (X : lt_X) (x1 : Int32) (x2 : Int32) (I : Nat → Nat → Int32) (J : Nat → Nat → Int64) : am_O := am_run (am_G am_prog (N + 30) (d + 2)) eX9_cold uX9_cold n 0 [(0, .ref 135), (1, .int x1), (2, .int x2)] [] (mkh X I J)
def KX9_cold_0 (N d n : Nat) (a0 : Int32) (a1 : Int32) (z : Int32) (h : am_H) : am_O := if z = nI 0 then am_cI (am_G am_prog (N + 30) (d + 2) 189 [.ref 135, .int (nI 2)] h) (fun r2 h1 => am_nb r2 (some (.int r2, h1))) else am_cI (am_G am_prog (N + 30) (d + 2) 286 [.ref 135, .int a0, .int a1] h) (fun r4 h3 => if r4 = nI 0 then am_cI (am_G am_prog (N + 30) (d + 2) 189 [.ref 135, .int (nI 9)] h3) (fun r6 h5 => if r6 = nI 0 then some (.int (nI 0), h5) else some (.int (nI 1), h5)) else some (.int (nI 1), h3))
def KX9_cold_1 (N d n : Nat) (z : Int32) (h : am_H) : am_O := if z = nI 0 then am_cI (am_G am_prog (N + 30) (d + 2) 189 [.ref 135, .int (nI 9)] h) (fun r2 h1 => if r2 = nI 0 then some (.int (nI 0), h1) else some (.int (nI 1), h1)) else some (.int (nI 1), h)
set_option maxHeartbeats 4000000 in
set_option maxRecDepth 100000 in
theorem sX9_cold_0 (N d n : Nat) {X : lt_X} (x1 : Int32) (x2 : Int32) (I : Nat → Nat → Int32) (J : Nat → Nat → Int64) : RX9_cold_0 N d (n + 1) X x1 x2 I J = am_cI (am_G am_prog (N + 30) (d + 2) 259 [.ref 135, .int x1] (mkh X (u2 (u2 I 135 1 (nI 0)) 135 0 (nI 0)) J)) (KX9_cold_0 N d n x1 x2) := by
  rfl
set_option maxHeartbeats 4000000 in
set_option maxRecDepth 100000 in
theorem kX9_cold_0 (N d n : Nat) {X : lt_X} (a0 : Int32) (a1 : Int32) (z : Int32) (I : Nat → Nat → Int32) (J : Nat → Nat → Int64) : KX9_cold_0 N d n a0 a1 z (mkh X I J) = if z = nI 0 then some (.int (nI 0), (mkh X (u2 I 135 0 (nI 2)) J)) else am_cI (am_G am_prog (N + 30) (d + 2) 286 [.ref 135, .int a0, .int a1] (mkh X I J)) (KX9_cold_1 N d n ) := by
  rfl
set_option maxHeartbeats 4000000 in
set_option maxRecDepth 100000 in
theorem kX9_cold_1 (N d n : Nat) {X : lt_X} (z : Int32) (I : Nat → Nat → Int32) (J : Nat → Nat → Int64) : KX9_cold_1 N d n z (mkh X I J) = if z = nI 0 then some (.int (nI 0), (mkh X (u2 I 135 0 (nI 9)) J)) else some (.int (nI 1), (mkh X I J)) := by
  rfl
theorem fX9_cold (N d : Nat) {X : lt_X} (x1 : Int32) (x2 : Int32) (I : Nat → Nat → Int32) (J : Nat → Nat → Int64) : am_G am_prog N (d + 1) 287 [.ref 135, .int x1, .int x2] (mkh X I J) = am_run (am_G am_prog N d) eX9_cold uX9_cold N 0 [(0, .ref 135), (1, .int x1), (2, .int x2)] [] (mkh X I J) := by
  refine (am_G_at N d 287 mX9_cold _ _ rfl).trans ?_
  rfl
theorem gX9_cold (N d : Nat) {X : lt_X} (x1 : Int32) (x2 : Int32) (I : Nat → Nat → Int32) (J : Nat → Nat → Int64) : am_G am_prog (N + 30) (d + 3) 287 [.ref 135, .int x1, .int x2] (mkh X I J) = RX9_cold_0 N d (N + 30) X x1 x2 I J := fX9_cold (N + 30) (d + 2) x1 x2 I J
def RX9_flaw_0 (N d n : Nat) (X : lt_X) (x1 : Int32) (x2 : Int32) (I : Nat → Nat → Int32) (J : Nat → Nat → Int64) : am_O := am_run (am_G am_prog (N + 30) (d + 2)) eX9_flaw uX9_flaw n 0 [(0, .ref 135), (1, .int x1), (2, .int x2)] [] (mkh X I J)
def RX9_flaw_38 (N d n : Nat) (X : lt_X) (x1 : Int32) (x2 : Int32) (I : Nat → Nat → Int32) (J : Nat → Nat → Int64) : am_O := am_run (am_G am_prog (N + 30) (d + 2)) eX9_flaw uX9_flaw n 38 [(0, .ref 135), (1, .int x1), (2, .int x2)] [] (mkh X I J)
def RX9_flaw_67 (N d n : Nat) (X : lt_X) (s0 : Int32) (s1 : Int32) (s2 : Nat) (I : Nat → Nat → Int32) (J : Nat → Nat → Int64) : am_O := am_run (am_G am_prog (N + 30) (d + 2)) eX9_flaw uX9_flaw n 67 [(0, .ref 135)] [.int s0, .int s1, .ref s2] (mkh X I J)
def KX9_flaw_0 (N d n : Nat) (a0 : Int32) (a1 : Int32) (z : Int32) (h : am_H) : am_O := if z = nI 0 then am_cI (am_G am_prog (N + 30) (d + 2) 189 [.ref 135, .int (nI 2)] h) (fun r2 h1 => am_nb r2 (some (.int r2, h1))) else if a1 = (nI 6) then am_run (am_G am_prog (N + 30) (d + 2)) eX9_flaw uX9_flaw n 38 [(0, .ref 135), (1, .int a0), (2, .int a1)] [] h else am_cI (am_G am_prog (N + 30) (d + 2) 259 [.ref 135, .int a1] h) (fun r4 h3 => if r4 = nI 0 then am_cI (am_G am_prog (N + 30) (d + 2) 189 [.ref 135, .int (nI 2)] h3) (fun r6 h5 => am_nb r6 (some (.int r6, h5))) else am_run (am_G am_prog (N + 30) (d + 2)) eX9_flaw uX9_flaw n 38 [(0, .ref 135), (1, .int a0), (2, .int a1)] [] h3)
def KX9_flaw_1 (N d n : Nat) (z : Int32) (h : am_H) : am_O := if z = nI 0 then am_cI (am_G am_prog (N + 30) (d + 2) 189 [.ref 135, .int (nI 9)] h) (fun r2 h1 => if r2 = nI 0 then some (.int (nI 0), h1) else some (.int (nI 1), h1)) else some (.int (nI 1), h)
def KX9_flaw_2 (N d n : Nat) (a0 : Int32) (a1 : Int32) (z : Int32) (h : am_H) : am_O := if z = nI 0 then am_cI (am_G am_prog (N + 30) (d + 2) 189 [.ref 135, .int (nI 2)] h) (fun r2 h1 => am_nb r2 (some (.int r2, h1))) else am_run (am_G am_prog (N + 30) (d + 2)) eX9_flaw uX9_flaw n 38 [(0, .ref 135), (1, .int a0), (2, .int a1)] [] h
set_option maxHeartbeats 4000000 in
set_option maxRecDepth 100000 in
theorem sX9_flaw_0 (N d n : Nat) {X : lt_X} (x1 : Int32) (x2 : Int32) (I : Nat → Nat → Int32) (J : Nat → Nat → Int64) : RX9_flaw_0 N d (n + 1) X x1 x2 I J = am_cI (am_G am_prog (N + 30) (d + 2) 261 [.ref 135, .int x1] (mkh X (u2 (u2 I 135 1 (nI 0)) 135 0 (nI 0)) J)) (KX9_flaw_0 N d n x1 x2) := by
  rfl
set_option maxHeartbeats 4000000 in
set_option maxRecDepth 100000 in
theorem sX9_flaw_38 (N d n : Nat) {X : lt_X} (x1 : Int32) (x2 : Int32) (I : Nat → Nat → Int32) (J : Nat → Nat → Int64) : RX9_flaw_38 N d (n + 1) X x1 x2 I J = if am_in ((nI 55) + x1) 2145 then if x2 = (I 140 (((nI 55) + x1).toNatClampNeg)) then some (.int (nI 0), (mkh X (u2 I 135 0 (nI 9)) J)) else if x2 = (nI 6) then am_run (am_G am_prog (N + 30) (d + 2)) eX9_flaw uX9_flaw n 67 [(0, .ref 135)] [.int (-1), .int ((nI 61) + x1), .ref 135] (mkh X I J) else am_run (am_G am_prog (N + 30) (d + 2)) eX9_flaw uX9_flaw n 67 [(0, .ref 135)] [.int x2, .int ((nI 61) + x1), .ref 135] (mkh X I J) else none := by
  rfl
set_option maxHeartbeats 4000000 in
set_option maxRecDepth 100000 in
theorem sX9_flaw_67 (N d n : Nat) {X : lt_X} (s0 : Int32) (s1 : Int32) (s2 : Nat) (I : Nat → Nat → Int32) (J : Nat → Nat → Int64) : RX9_flaw_67 N d (n + 1) X s0 s1 s2 I J = am_cI (am_G am_prog (N + 30) (d + 2) 283 [.ref s2, .int s1, .int s0] (mkh X I J)) (KX9_flaw_1 N d n ) := by
  rfl
set_option maxHeartbeats 4000000 in
set_option maxRecDepth 100000 in
theorem kX9_flaw_0 (N d n : Nat) {X : lt_X} (a0 : Int32) (a1 : Int32) (z : Int32) (I : Nat → Nat → Int32) (J : Nat → Nat → Int64) : KX9_flaw_0 N d n a0 a1 z (mkh X I J) = if z = nI 0 then some (.int (nI 0), (mkh X (u2 I 135 0 (nI 2)) J)) else if a1 = (nI 6) then RX9_flaw_38 N d n X a0 a1 I J else am_cI (am_G am_prog (N + 30) (d + 2) 259 [.ref 135, .int a1] (mkh X I J)) (KX9_flaw_2 N d n a0 a1) := by
  rfl
set_option maxHeartbeats 4000000 in
set_option maxRecDepth 100000 in
theorem kX9_flaw_1 (N d n : Nat) {X : lt_X} (z : Int32) (I : Nat → Nat → Int32) (J : Nat → Nat → Int64) : KX9_flaw_1 N d n z (mkh X I J) = if z = nI 0 then some (.int (nI 0), (mkh X (u2 I 135 0 (nI 9)) J)) else some (.int (nI 1), (mkh X I J)) := by
  rfl
set_option maxHeartbeats 4000000 in
set_option maxRecDepth 100000 in
theorem kX9_flaw_2 (N d n : Nat) {X : lt_X} (a0 : Int32) (a1 : Int32) (z : Int32) (I : Nat → Nat → Int32) (J : Nat → Nat → Int64) : KX9_flaw_2 N d n a0 a1 z (mkh X I J) = if z = nI 0 then some (.int (nI 0), (mkh X (u2 I 135 0 (nI 2)) J)) else RX9_flaw_38 N d n X a0 a1 I J := by
  rfl
theorem fX9_flaw (N d : Nat) {X : lt_X} (x1 : Int32) (x2 : Int32) (I : Nat → Nat → Int32) (J : Nat → Nat → Int64) : am_G am_prog N (d + 1) 288 [.ref 135, .int x1, .int x2] (mkh X I J) = am_run (am_G am_prog N d) eX9_flaw uX9_flaw N 0 [(0, .ref 135), (1, .int x1), (2, .int x2)] [] (mkh X I J) := by
  refine (am_G_at N d 288 mX9_flaw _ _ rfl).trans ?_
  rfl
theorem gX9_flaw (N d : Nat) {X : lt_X} (x1 : Int32) (x2 : Int32) (I : Nat → Nat → Int32) (J : Nat → Nat → Int64) : am_G am_prog (N + 30) (d + 3) 288 [.ref 135, .int x1, .int x2] (mkh X I J) = RX9_flaw_0 N d (N + 30) X x1 x2 I J := fX9_flaw (N + 30) (d + 2) x1 x2 I J
def RX9_please_0 (N d n : Nat) (X : lt_X) (x1 : Int32) (x2 : Int32) (x3 : Int32) (I : Nat → Nat → Int32) (J : Nat → Nat → Int64) : am_O := am_run (am_G am_prog (N + 30) (d + 2)) eX9_please uX9_please n 0 [(0, .ref 135), (1, .int x1), (2, .int x2), (3, .int x3)] [] (mkh X I J)
def KX9_please_0 (N d n : Nat) (a0 : Int32) (a1 : Int32) (a2 : Int32) (z : Int32) (h : am_H) : am_O := if z = nI 0 then am_cI (am_G am_prog (N + 30) (d + 2) 188 [.ref 135, .int (nI 2)] h) (fun r2 h1 => some (.int r2, h1)) else am_cI (am_G am_prog (N + 30) (d + 2) 258 [.ref 135, .long a1.toInt64] h) (fun r4 h3 => if r4 = nI 0 then am_cI (am_G am_prog (N + 30) (d + 2) 188 [.ref 135, .int (nI 2)] h3) (fun r6 h5 => some (.int r6, h5)) else am_cI (am_G am_prog (N + 30) (d + 2) 190 [.long a2.toInt64, .long (lN 0), .long (lN 9)] h3) (fun r8 h7 => if r8 = nI 0 then am_cI (am_G am_prog (N + 30) (d + 2) 188 [.ref 135, .int (nI 5)] h7) (fun r10 h9 => some (.int r10, h9)) else am_cI (am_G am_prog (N + 30) (d + 2) 269 [.ref 135, .int a0, .int a1] h7) (fun r12 h11 => am_cI (am_G am_prog (N + 30) (d + 2) 283 [.ref 135, .int (((nI 121) + ((nI 6) * a0)) + a1), .int a2] h11) (fun r14 h13 => if r14 = nI 0 then am_cI (am_G am_prog (N + 30) (d + 2) 188 [.ref 135, .int (nI 9)] h13) (fun r16 h15 => some (.int r16, h15)) else some (.int r12, h13)))))
def KX9_please_1 (N d n : Nat) (a0 : Int32) (a1 : Int32) (a2 : Int32) (z : Int32) (h : am_H) : am_O := if z = nI 0 then am_cI (am_G am_prog (N + 30) (d + 2) 188 [.ref 135, .int (nI 2)] h) (fun r2 h1 => some (.int r2, h1)) else am_cI (am_G am_prog (N + 30) (d + 2) 190 [.long a2.toInt64, .long (lN 0), .long (lN 9)] h) (fun r4 h3 => if r4 = nI 0 then am_cI (am_G am_prog (N + 30) (d + 2) 188 [.ref 135, .int (nI 5)] h3) (fun r6 h5 => some (.int r6, h5)) else am_cI (am_G am_prog (N + 30) (d + 2) 269 [.ref 135, .int a0, .int a1] h3) (fun r8 h7 => am_cI (am_G am_prog (N + 30) (d + 2) 283 [.ref 135, .int (((nI 121) + ((nI 6) * a0)) + a1), .int a2] h7) (fun r10 h9 => if r10 = nI 0 then am_cI (am_G am_prog (N + 30) (d + 2) 188 [.ref 135, .int (nI 9)] h9) (fun r12 h11 => some (.int r12, h11)) else some (.int r8, h9))))
def KX9_please_2 (N d n : Nat) (a0 : Int32) (a1 : Int32) (a2 : Int32) (z : Int32) (h : am_H) : am_O := if z = nI 0 then am_cI (am_G am_prog (N + 30) (d + 2) 188 [.ref 135, .int (nI 5)] h) (fun r2 h1 => some (.int r2, h1)) else am_cI (am_G am_prog (N + 30) (d + 2) 269 [.ref 135, .int a0, .int a1] h) (fun r4 h3 => am_cI (am_G am_prog (N + 30) (d + 2) 283 [.ref 135, .int (((nI 121) + ((nI 6) * a0)) + a1), .int a2] h3) (fun r6 h5 => if r6 = nI 0 then am_cI (am_G am_prog (N + 30) (d + 2) 188 [.ref 135, .int (nI 9)] h5) (fun r8 h7 => some (.int r8, h7)) else some (.int r4, h5)))
def KX9_please_3 (N d n : Nat) (a0 : Int32) (a1 : Int32) (a2 : Int32) (z : Int32) (h : am_H) : am_O := am_cI (am_G am_prog (N + 30) (d + 2) 283 [.ref 135, .int (((nI 121) + ((nI 6) * a0)) + a1), .int a2] h) (fun r2 h1 => if r2 = nI 0 then am_cI (am_G am_prog (N + 30) (d + 2) 188 [.ref 135, .int (nI 9)] h1) (fun r4 h3 => some (.int r4, h3)) else some (.int z, h1))
def KX9_please_4 (N d n : Nat) (a0 : Int32) (z : Int32) (h : am_H) : am_O := if z = nI 0 then am_cI (am_G am_prog (N + 30) (d + 2) 188 [.ref 135, .int (nI 9)] h) (fun r2 h1 => some (.int r2, h1)) else some (.int a0, h)
set_option maxHeartbeats 4000000 in
set_option maxRecDepth 100000 in
theorem sX9_please_0 (N d n : Nat) {X : lt_X} (x1 : Int32) (x2 : Int32) (x3 : Int32) (I : Nat → Nat → Int32) (J : Nat → Nat → Int64) : RX9_please_0 N d (n + 1) X x1 x2 x3 I J = am_cI (am_G am_prog (N + 30) (d + 2) 260 [.ref 135, .long x1.toInt64] (mkh X (u2 (u2 I 135 1 (nI 0)) 135 0 (nI 0)) J)) (KX9_please_0 N d n x1 x2 x3) := by
  rfl
set_option maxHeartbeats 4000000 in
set_option maxRecDepth 100000 in
theorem kX9_please_0 (N d n : Nat) {X : lt_X} (a0 : Int32) (a1 : Int32) (a2 : Int32) (z : Int32) (I : Nat → Nat → Int32) (J : Nat → Nat → Int64) : KX9_please_0 N d n a0 a1 a2 z (mkh X I J) = if z = nI 0 then some (.int (-1), (mkh X (u2 I 135 0 (nI 2)) J)) else am_cI (am_G am_prog (N + 30) (d + 2) 258 [.ref 135, .long a1.toInt64] (mkh X I J)) (KX9_please_1 N d n a0 a1 a2) := by
  rfl
set_option maxHeartbeats 4000000 in
set_option maxRecDepth 100000 in
theorem kX9_please_1 (N d n : Nat) {X : lt_X} (a0 : Int32) (a1 : Int32) (a2 : Int32) (z : Int32) (I : Nat → Nat → Int32) (J : Nat → Nat → Int64) : KX9_please_1 N d n a0 a1 a2 z (mkh X I J) = if z = nI 0 then some (.int (-1), (mkh X (u2 I 135 0 (nI 2)) J)) else am_cI (am_G am_prog (N + 30) (d + 2) 190 [.long a2.toInt64, .long (lN 0), .long (lN 9)] (mkh X I J)) (KX9_please_2 N d n a0 a1 a2) := by
  rfl
set_option maxHeartbeats 4000000 in
set_option maxRecDepth 100000 in
theorem kX9_please_2 (N d n : Nat) {X : lt_X} (a0 : Int32) (a1 : Int32) (a2 : Int32) (z : Int32) (I : Nat → Nat → Int32) (J : Nat → Nat → Int64) : KX9_please_2 N d n a0 a1 a2 z (mkh X I J) = if z = nI 0 then some (.int (-1), (mkh X (u2 I 135 0 (nI 5)) J)) else am_cI (am_G am_prog (N + 30) (d + 2) 269 [.ref 135, .int a0, .int a1] (mkh X I J)) (KX9_please_3 N d n a0 a1 a2) := by
  rfl
set_option maxHeartbeats 4000000 in
set_option maxRecDepth 100000 in
theorem kX9_please_3 (N d n : Nat) {X : lt_X} (a0 : Int32) (a1 : Int32) (a2 : Int32) (z : Int32) (I : Nat → Nat → Int32) (J : Nat → Nat → Int64) : KX9_please_3 N d n a0 a1 a2 z (mkh X I J) = am_cI (am_G am_prog (N + 30) (d + 2) 283 [.ref 135, .int (((nI 121) + ((nI 6) * a0)) + a1), .int a2] (mkh X I J)) (KX9_please_4 N d n z) := by
  rfl
set_option maxHeartbeats 4000000 in
set_option maxRecDepth 100000 in
theorem kX9_please_4 (N d n : Nat) {X : lt_X} (a0 : Int32) (z : Int32) (I : Nat → Nat → Int32) (J : Nat → Nat → Int64) : KX9_please_4 N d n a0 z (mkh X I J) = if z = nI 0 then some (.int (-1), (mkh X (u2 I 135 0 (nI 9)) J)) else some (.int a0, (mkh X I J)) := by
  rfl
theorem fX9_please (N d : Nat) {X : lt_X} (x1 : Int32) (x2 : Int32) (x3 : Int32) (I : Nat → Nat → Int32) (J : Nat → Nat → Int64) : am_G am_prog N (d + 1) 289 [.ref 135, .int x1, .int x2, .int x3] (mkh X I J) = am_run (am_G am_prog N d) eX9_please uX9_please N 0 [(0, .ref 135), (1, .int x1), (2, .int x2), (3, .int x3)] [] (mkh X I J) := by
  refine (am_G_at N d 289 mX9_please _ _ rfl).trans ?_
  rfl
theorem gX9_please (N d : Nat) {X : lt_X} (x1 : Int32) (x2 : Int32) (x3 : Int32) (I : Nat → Nat → Int32) (J : Nat → Nat → Int64) : am_G am_prog (N + 30) (d + 3) 289 [.ref 135, .int x1, .int x2, .int x3] (mkh X I J) = RX9_please_0 N d (N + 30) X x1 x2 x3 I J := fX9_please (N + 30) (d + 2) x1 x2 x3 I J
def RX9_teach_0 (N d n : Nat) (X : lt_X) (x1 : Int32) (x2 : Int32) (I : Nat → Nat → Int32) (J : Nat → Nat → Int64) : am_O := am_run (am_G am_prog (N + 30) (d + 2)) eX9_teach uX9_teach n 0 [(0, .ref 135), (1, .int x1), (2, .int x2)] [] (mkh X I J)
def KX9_teach_0 (N d n : Nat) (a0 : Int32) (a1 : Int32) (z : Int32) (h : am_H) : am_O := if z = nI 0 then am_cI (am_G am_prog (N + 30) (d + 2) 188 [.ref 135, .int (nI 2)] h) (fun r2 h1 => some (.int r2, h1)) else am_cI (am_G am_prog (N + 30) (d + 2) 258 [.ref 135, .long a1.toInt64] h) (fun r4 h3 => if r4 = nI 0 then am_cI (am_G am_prog (N + 30) (d + 2) 188 [.ref 135, .int (nI 2)] h3) (fun r6 h5 => some (.int r6, h5)) else am_gR h3 9 135 20 (fun y7 => am_lI h3 10 y7 ((nI 19) + a0) (fun y8 => if y8 = (nI 8) then am_cI (am_G am_prog (N + 30) (d + 2) 188 [.ref 135, .int (nI 7)] h3) (fun r10 h9 => some (.int r10, h9)) else am_gR h3 9 135 20 (fun y11 => am_tI h3 y11 (((nI 73) + ((nI 8) * a0)) + y8) a1 (fun h12 => am_gR h12 9 135 20 (fun y13 => am_lI h12 10 y13 ((nI 19) + a0) (fun y14 => am_tI h12 y13 ((nI 19) + a0) (y14 + (nI 1)) (fun h15 => some (.int (y8 + (nI 1)), h15)))))))))
def KX9_teach_1 (N d n : Nat) (a0 : Int32) (a1 : Int32) (z : Int32) (h : am_H) : am_O := if z = nI 0 then am_cI (am_G am_prog (N + 30) (d + 2) 188 [.ref 135, .int (nI 2)] h) (fun r2 h1 => some (.int r2, h1)) else am_gR h 9 135 20 (fun y3 => am_lI h 10 y3 ((nI 19) + a0) (fun y4 => if y4 = (nI 8) then am_cI (am_G am_prog (N + 30) (d + 2) 188 [.ref 135, .int (nI 7)] h) (fun r6 h5 => some (.int r6, h5)) else am_gR h 9 135 20 (fun y7 => am_tI h y7 (((nI 73) + ((nI 8) * a0)) + y4) a1 (fun h8 => am_gR h8 9 135 20 (fun y9 => am_lI h8 10 y9 ((nI 19) + a0) (fun y10 => am_tI h8 y9 ((nI 19) + a0) (y10 + (nI 1)) (fun h11 => some (.int (y4 + (nI 1)), h11))))))))
set_option maxHeartbeats 4000000 in
set_option maxRecDepth 100000 in
theorem sX9_teach_0 (N d n : Nat) {X : lt_X} (x1 : Int32) (x2 : Int32) (I : Nat → Nat → Int32) (J : Nat → Nat → Int64) : RX9_teach_0 N d (n + 1) X x1 x2 I J = am_cI (am_G am_prog (N + 30) (d + 2) 259 [.ref 135, .int x1] (mkh X (u2 (u2 I 135 1 (nI 0)) 135 0 (nI 0)) J)) (KX9_teach_0 N d n x1 x2) := by
  rfl
set_option maxHeartbeats 4000000 in
set_option maxRecDepth 100000 in
theorem kX9_teach_0 (N d n : Nat) {X : lt_X} (a0 : Int32) (a1 : Int32) (z : Int32) (I : Nat → Nat → Int32) (J : Nat → Nat → Int64) : KX9_teach_0 N d n a0 a1 z (mkh X I J) = if z = nI 0 then some (.int (-1), (mkh X (u2 I 135 0 (nI 2)) J)) else am_cI (am_G am_prog (N + 30) (d + 2) 258 [.ref 135, .long a1.toInt64] (mkh X I J)) (KX9_teach_1 N d n a0 a1) := by
  rfl
theorem fX9_teach (N d : Nat) {X : lt_X} (x1 : Int32) (x2 : Int32) (I : Nat → Nat → Int32) (J : Nat → Nat → Int64) : am_G am_prog N (d + 1) 290 [.ref 135, .int x1, .int x2] (mkh X I J) = am_run (am_G am_prog N d) eX9_teach uX9_teach N 0 [(0, .ref 135), (1, .int x1), (2, .int x2)] [] (mkh X I J) := by
  refine (am_G_at N d 290 mX9_teach _ _ rfl).trans ?_
  rfl
theorem gX9_teach (N d : Nat) {X : lt_X} (x1 : Int32) (x2 : Int32) (I : Nat → Nat → Int32) (J : Nat → Nat → Int64) : am_G am_prog (N + 30) (d + 3) 290 [.ref 135, .int x1, .int x2] (mkh X I J) = RX9_teach_0 N d (N + 30) X x1 x2 I J := fX9_teach (N + 30) (d + 2) x1 x2 I J
def RX9_rule_0 (N d n : Nat) (X : lt_X) (x1 : Int32) (I : Nat → Nat → Int32) (J : Nat → Nat → Int64) : am_O := am_run (am_G am_prog (N + 30) (d + 1)) eX9_rule uX9_rule n 0 [(0, .ref 135), (1, .int x1)] [] (mkh X I J)
def KX9_rule_0 (N d n : Nat) (a0 : Int32) (z : Int32) (h : am_H) : am_O := if z = nI 0 then am_cI (am_G am_prog (N + 30) (d + 1) 189 [.ref 135, .int (nI 5)] h) (fun r2 h1 => am_nb r2 (some (.int r2, h1))) else am_gR h 9 135 20 (fun y3 => am_tI h y3 (nI 4) a0 (fun h4 => some (.int (nI 1), h4)))
set_option maxHeartbeats 4000000 in
set_option maxRecDepth 100000 in
theorem sX9_rule_0 (N d n : Nat) {X : lt_X} (x1 : Int32) (I : Nat → Nat → Int32) (J : Nat → Nat → Int64) : RX9_rule_0 N d (n + 1) X x1 I J = am_cI (am_G am_prog (N + 30) (d + 1) 190 [.long x1.toInt64, .long (lN 0), .long (lN 16)] (mkh X (u2 (u2 I 135 1 (nI 0)) 135 0 (nI 0)) J)) (KX9_rule_0 N d n x1) := by
  rfl
set_option maxHeartbeats 4000000 in
set_option maxRecDepth 100000 in
theorem kX9_rule_0 (N d n : Nat) {X : lt_X} (a0 : Int32) (z : Int32) (I : Nat → Nat → Int32) (J : Nat → Nat → Int64) : KX9_rule_0 N d n a0 z (mkh X I J) = if z = nI 0 then some (.int (nI 0), (mkh X (u2 I 135 0 (nI 5)) J)) else some (.int (nI 1), (mkh X (u2 I 140 4 a0) J)) := by
  rfl
theorem fX9_rule (N d : Nat) {X : lt_X} (x1 : Int32) (I : Nat → Nat → Int32) (J : Nat → Nat → Int64) : am_G am_prog N (d + 1) 291 [.ref 135, .int x1] (mkh X I J) = am_run (am_G am_prog N d) eX9_rule uX9_rule N 0 [(0, .ref 135), (1, .int x1)] [] (mkh X I J) := by
  refine (am_G_at N d 291 mX9_rule _ _ rfl).trans ?_
  rfl
theorem gX9_rule (N d : Nat) {X : lt_X} (x1 : Int32) (I : Nat → Nat → Int32) (J : Nat → Nat → Int64) : am_G am_prog (N + 30) (d + 2) 291 [.ref 135, .int x1] (mkh X I J) = RX9_rule_0 N d (N + 30) X x1 I J := fX9_rule (N + 30) (d + 1) x1 I J
def RX9_saysIn_0 (N d n : Nat) (X : lt_X) (x1 : Int32) (x2 : Int32) (I : Nat → Nat → Int32) (J : Nat → Nat → Int64) : am_O := am_run (am_G am_prog (N + 30) (d + 2)) eX9_saysIn uX9_saysIn n 0 [(0, .ref 135), (1, .int x1), (2, .int x2)] [] (mkh X I J)
def KX9_saysIn_0 (N d n : Nat) (a0 : Int32) (a1 : Int32) (z : Int32) (h : am_H) : am_O := if z = nI 0 then am_cI (am_G am_prog (N + 30) (d + 2) 188 [.ref 135, .int (nI 2)] h) (fun r2 h1 => some (.int r2, h1)) else am_cI (am_G am_prog (N + 30) (d + 2) 190 [.long a1.toInt64, .long (lN 0), .long (lN 999)] h) (fun r4 h3 => if r4 = nI 0 then am_cI (am_G am_prog (N + 30) (d + 2) 188 [.ref 135, .int (nI 5)] h3) (fun r6 h5 => some (.int r6, h5)) else am_gR h3 9 135 20 (fun y7 => am_lI h3 10 y7 (nI 5) (fun y8 => am_cI (am_G am_prog (N + 30) (d + 2) 273 [.ref 135, .int a0, .int (y8 + a1)] h3) (fun r10 h9 => if r10 < nI 0 then am_cI (am_G am_prog (N + 30) (d + 2) 188 [.ref 135, .int (nI 8)] h9) (fun r12 h11 => some (.int r12, h11)) else some (.int r10, h9)))))
def KX9_saysIn_1 (N d n : Nat) (a0 : Int32) (a1 : Int32) (z : Int32) (h : am_H) : am_O := if z = nI 0 then am_cI (am_G am_prog (N + 30) (d + 2) 188 [.ref 135, .int (nI 5)] h) (fun r2 h1 => some (.int r2, h1)) else am_gR h 9 135 20 (fun y3 => am_lI h 10 y3 (nI 5) (fun y4 => am_cI (am_G am_prog (N + 30) (d + 2) 273 [.ref 135, .int a0, .int (y4 + a1)] h) (fun r6 h5 => if r6 < nI 0 then am_cI (am_G am_prog (N + 30) (d + 2) 188 [.ref 135, .int (nI 8)] h5) (fun r8 h7 => some (.int r8, h7)) else some (.int r6, h5))))
def KX9_saysIn_2 (N d n : Nat) (z : Int32) (h : am_H) : am_O := if z < nI 0 then am_cI (am_G am_prog (N + 30) (d + 2) 188 [.ref 135, .int (nI 8)] h) (fun r2 h1 => some (.int r2, h1)) else some (.int z, h)
set_option maxHeartbeats 4000000 in
set_option maxRecDepth 100000 in
theorem sX9_saysIn_0 (N d n : Nat) {X : lt_X} (x1 : Int32) (x2 : Int32) (I : Nat → Nat → Int32) (J : Nat → Nat → Int64) : RX9_saysIn_0 N d (n + 1) X x1 x2 I J = am_cI (am_G am_prog (N + 30) (d + 2) 259 [.ref 135, .int x1] (mkh X (u2 (u2 I 135 1 (nI 0)) 135 0 (nI 0)) J)) (KX9_saysIn_0 N d n x1 x2) := by
  rfl
set_option maxHeartbeats 4000000 in
set_option maxRecDepth 100000 in
theorem kX9_saysIn_0 (N d n : Nat) {X : lt_X} (a0 : Int32) (a1 : Int32) (z : Int32) (I : Nat → Nat → Int32) (J : Nat → Nat → Int64) : KX9_saysIn_0 N d n a0 a1 z (mkh X I J) = if z = nI 0 then some (.int (-1), (mkh X (u2 I 135 0 (nI 2)) J)) else am_cI (am_G am_prog (N + 30) (d + 2) 190 [.long a1.toInt64, .long (lN 0), .long (lN 999)] (mkh X I J)) (KX9_saysIn_1 N d n a0 a1) := by
  rfl
set_option maxHeartbeats 4000000 in
set_option maxRecDepth 100000 in
theorem kX9_saysIn_1 (N d n : Nat) {X : lt_X} (a0 : Int32) (a1 : Int32) (z : Int32) (I : Nat → Nat → Int32) (J : Nat → Nat → Int64) : KX9_saysIn_1 N d n a0 a1 z (mkh X I J) = if z = nI 0 then some (.int (-1), (mkh X (u2 I 135 0 (nI 5)) J)) else am_cI (am_G am_prog (N + 30) (d + 2) 273 [.ref 135, .int a0, .int ((I 140 5) + a1)] (mkh X I J)) (KX9_saysIn_2 N d n ) := by
  rfl
set_option maxHeartbeats 4000000 in
set_option maxRecDepth 100000 in
theorem kX9_saysIn_2 (N d n : Nat) {X : lt_X} (z : Int32) (I : Nat → Nat → Int32) (J : Nat → Nat → Int64) : KX9_saysIn_2 N d n z (mkh X I J) = if z < nI 0 then some (.int (-1), (mkh X (u2 I 135 0 (nI 8)) J)) else some (.int z, (mkh X I J)) := by
  rfl
theorem fX9_saysIn (N d : Nat) {X : lt_X} (x1 : Int32) (x2 : Int32) (I : Nat → Nat → Int32) (J : Nat → Nat → Int64) : am_G am_prog N (d + 1) 292 [.ref 135, .int x1, .int x2] (mkh X I J) = am_run (am_G am_prog N d) eX9_saysIn uX9_saysIn N 0 [(0, .ref 135), (1, .int x1), (2, .int x2)] [] (mkh X I J) := by
  refine (am_G_at N d 292 mX9_saysIn _ _ rfl).trans ?_
  rfl
theorem gX9_saysIn (N d : Nat) {X : lt_X} (x1 : Int32) (x2 : Int32) (I : Nat → Nat → Int32) (J : Nat → Nat → Int64) : am_G am_prog (N + 30) (d + 3) 292 [.ref 135, .int x1, .int x2] (mkh X I J) = RX9_saysIn_0 N d (N + 30) X x1 x2 I J := fX9_saysIn (N + 30) (d + 2) x1 x2 I J
def RX9_hearsIn_0 (N d n : Nat) (X : lt_X) (x1 : Int32) (x2 : Int32) (I : Nat → Nat → Int32) (J : Nat → Nat → Int64) : am_O := am_run (am_G am_prog (N + 30) (d + 2)) eX9_hearsIn uX9_hearsIn n 0 [(0, .ref 135), (1, .int x1), (2, .int x2)] [] (mkh X I J)
def KX9_hearsIn_0 (N d n : Nat) (a0 : Int32) (a1 : Int32) (z : Int32) (h : am_H) : am_O := if z = nI 0 then am_cI (am_G am_prog (N + 30) (d + 2) 188 [.ref 135, .int (nI 2)] h) (fun r2 h1 => some (.int r2, h1)) else am_cI (am_G am_prog (N + 30) (d + 2) 190 [.long a1.toInt64, .long (lN 0), .long (lN 999)] h) (fun r4 h3 => if r4 = nI 0 then am_cI (am_G am_prog (N + 30) (d + 2) 188 [.ref 135, .int (nI 5)] h3) (fun r6 h5 => some (.int r6, h5)) else am_gR h3 9 135 20 (fun y7 => am_lI h3 10 y7 (nI 5) (fun y8 => am_cI (am_G am_prog (N + 30) (d + 2) 275 [.ref 135, .int a0, .int (y8 + a1)] h3) (fun r10 h9 => some (.int r10, h9)))))
def KX9_hearsIn_1 (N d n : Nat) (a0 : Int32) (a1 : Int32) (z : Int32) (h : am_H) : am_O := if z = nI 0 then am_cI (am_G am_prog (N + 30) (d + 2) 188 [.ref 135, .int (nI 5)] h) (fun r2 h1 => some (.int r2, h1)) else am_gR h 9 135 20 (fun y3 => am_lI h 10 y3 (nI 5) (fun y4 => am_cI (am_G am_prog (N + 30) (d + 2) 275 [.ref 135, .int a0, .int (y4 + a1)] h) (fun r6 h5 => some (.int r6, h5))))
def KX9_hearsIn_2 (N d n : Nat) (z : Int32) (h : am_H) : am_O := some (.int z, h)
set_option maxHeartbeats 4000000 in
set_option maxRecDepth 100000 in
theorem sX9_hearsIn_0 (N d n : Nat) {X : lt_X} (x1 : Int32) (x2 : Int32) (I : Nat → Nat → Int32) (J : Nat → Nat → Int64) : RX9_hearsIn_0 N d (n + 1) X x1 x2 I J = am_cI (am_G am_prog (N + 30) (d + 2) 260 [.ref 135, .long x1.toInt64] (mkh X (u2 (u2 I 135 1 (nI 0)) 135 0 (nI 0)) J)) (KX9_hearsIn_0 N d n x1 x2) := by
  rfl
set_option maxHeartbeats 4000000 in
set_option maxRecDepth 100000 in
theorem kX9_hearsIn_0 (N d n : Nat) {X : lt_X} (a0 : Int32) (a1 : Int32) (z : Int32) (I : Nat → Nat → Int32) (J : Nat → Nat → Int64) : KX9_hearsIn_0 N d n a0 a1 z (mkh X I J) = if z = nI 0 then some (.int (-1), (mkh X (u2 I 135 0 (nI 2)) J)) else am_cI (am_G am_prog (N + 30) (d + 2) 190 [.long a1.toInt64, .long (lN 0), .long (lN 999)] (mkh X I J)) (KX9_hearsIn_1 N d n a0 a1) := by
  rfl
set_option maxHeartbeats 4000000 in
set_option maxRecDepth 100000 in
theorem kX9_hearsIn_1 (N d n : Nat) {X : lt_X} (a0 : Int32) (a1 : Int32) (z : Int32) (I : Nat → Nat → Int32) (J : Nat → Nat → Int64) : KX9_hearsIn_1 N d n a0 a1 z (mkh X I J) = if z = nI 0 then some (.int (-1), (mkh X (u2 I 135 0 (nI 5)) J)) else am_cI (am_G am_prog (N + 30) (d + 2) 275 [.ref 135, .int a0, .int ((I 140 5) + a1)] (mkh X I J)) (KX9_hearsIn_2 N d n ) := by
  rfl
set_option maxHeartbeats 4000000 in
set_option maxRecDepth 100000 in
theorem kX9_hearsIn_2 (N d n : Nat) {X : lt_X} (z : Int32) (I : Nat → Nat → Int32) (J : Nat → Nat → Int64) : KX9_hearsIn_2 N d n z (mkh X I J) = some (.int z, (mkh X I J)) := by
  rfl
theorem fX9_hearsIn (N d : Nat) {X : lt_X} (x1 : Int32) (x2 : Int32) (I : Nat → Nat → Int32) (J : Nat → Nat → Int64) : am_G am_prog N (d + 1) 293 [.ref 135, .int x1, .int x2] (mkh X I J) = am_run (am_G am_prog N d) eX9_hearsIn uX9_hearsIn N 0 [(0, .ref 135), (1, .int x1), (2, .int x2)] [] (mkh X I J) := by
  refine (am_G_at N d 293 mX9_hearsIn _ _ rfl).trans ?_
  rfl
theorem gX9_hearsIn (N d : Nat) {X : lt_X} (x1 : Int32) (x2 : Int32) (I : Nat → Nat → Int32) (J : Nat → Nat → Int64) : am_G am_prog (N + 30) (d + 3) 293 [.ref 135, .int x1, .int x2] (mkh X I J) = RX9_hearsIn_0 N d (N + 30) X x1 x2 I J := fX9_hearsIn (N + 30) (d + 2) x1 x2 I J
def RX9_gladAfter_0 (N d n : Nat) (X : lt_X) (x1 : Int32) (x2 : Int32) (I : Nat → Nat → Int32) (J : Nat → Nat → Int64) : am_O := am_run (am_G am_prog (N + 30) (d + 0)) eX9_gladAfter uX9_gladAfter n 0 [(0, .ref 135), (1, .int x1), (2, .int x2)] [] (mkh X I J)
def RX9_gladAfter_13 (N d n : Nat) (X : lt_X) (x1 : Int32) (x2 : Int32) (x3 : Int32) (x4 : Int32) (I : Nat → Nat → Int32) (J : Nat → Nat → Int64) : am_O := am_run (am_G am_prog (N + 30) (d + 0)) eX9_gladAfter uX9_gladAfter n 13 [(0, .ref 135), (1, .int x1), (2, .int x2), (3, .int x3), (4, .int x4)] [] (mkh X I J)
def KX9_gladAfter_0 (N d n : Nat) (a0 : Int32) (a1 : Int32) (a2 : Int32) (a3 : Int32) (z : Int32) (h : am_H) : am_O := am_cI (am_G am_prog (N + 30) (d + 0) 276 [.ref 135, .int a0, .int z] h) (fun r2 h1 => am_run (am_G am_prog (N + 30) (d + 0)) eX9_gladAfter uX9_gladAfter n 13 [(0, .ref 135), (1, .int a0), (2, .int a1), (3, .int (a3 + r2)), (4, .int (a2 + (nI 1)))] [] h1)
def KX9_gladAfter_1 (N d n : Nat) (a0 : Int32) (a1 : Int32) (a2 : Int32) (a3 : Int32) (z : Int32) (h : am_H) : am_O := am_run (am_G am_prog (N + 30) (d + 0)) eX9_gladAfter uX9_gladAfter n 13 [(0, .ref 135), (1, .int a0), (2, .int a1), (3, .int (a3 + z)), (4, .int (a2 + (nI 1)))] [] h
set_option maxHeartbeats 4000000 in
set_option maxRecDepth 100000 in
theorem sX9_gladAfter_0 (N d n : Nat) {X : lt_X} (x1 : Int32) (x2 : Int32) (I : Nat → Nat → Int32) (J : Nat → Nat → Int64) : RX9_gladAfter_0 N d (n + 1) X x1 x2 I J = if am_in ((nI 43) + x1) 2145 then RX9_gladAfter_13 N d n X x1 x2 (I 140 (((nI 43) + x1).toNatClampNeg)) (nI 0) I J else none := by
  rfl
set_option maxHeartbeats 4000000 in
set_option maxRecDepth 100000 in
theorem sX9_gladAfter_13 (N d n : Nat) {X : lt_X} (x1 : Int32) (x2 : Int32) (x3 : Int32) (x4 : Int32) (I : Nat → Nat → Int32) (J : Nat → Nat → Int64) : RX9_gladAfter_13 N d (n + 1) X x1 x2 x3 x4 I J = if x4 < x2 then am_cI (am_G am_prog (N + 30) (d + 0) 275 [.ref 135, .int x1, .int ((I 140 5) + x4)] (mkh X I J)) (KX9_gladAfter_0 N d n x1 x2 x4 x3) else some (.int x3, (mkh X I J)) := by
  rfl
set_option maxHeartbeats 4000000 in
set_option maxRecDepth 100000 in
theorem kX9_gladAfter_0 (N d n : Nat) {X : lt_X} (a0 : Int32) (a1 : Int32) (a2 : Int32) (a3 : Int32) (z : Int32) (I : Nat → Nat → Int32) (J : Nat → Nat → Int64) : KX9_gladAfter_0 N d n a0 a1 a2 a3 z (mkh X I J) = am_cI (am_G am_prog (N + 30) (d + 0) 276 [.ref 135, .int a0, .int z] (mkh X I J)) (KX9_gladAfter_1 N d n a0 a1 a2 a3) := by
  rfl
set_option maxHeartbeats 4000000 in
set_option maxRecDepth 100000 in
theorem kX9_gladAfter_1 (N d n : Nat) {X : lt_X} (a0 : Int32) (a1 : Int32) (a2 : Int32) (a3 : Int32) (z : Int32) (I : Nat → Nat → Int32) (J : Nat → Nat → Int64) : KX9_gladAfter_1 N d n a0 a1 a2 a3 z (mkh X I J) = RX9_gladAfter_13 N d n X a0 a1 (a3 + z) (a2 + (nI 1)) I J := by
  rfl
theorem fX9_gladAfter (N d : Nat) {X : lt_X} (x1 : Int32) (x2 : Int32) (I : Nat → Nat → Int32) (J : Nat → Nat → Int64) : am_G am_prog N (d + 1) 294 [.ref 135, .int x1, .int x2] (mkh X I J) = am_run (am_G am_prog N d) eX9_gladAfter uX9_gladAfter N 0 [(0, .ref 135), (1, .int x1), (2, .int x2)] [] (mkh X I J) := by
  refine (am_G_at N d 294 mX9_gladAfter _ _ rfl).trans ?_
  rfl
theorem gX9_gladAfter (N d : Nat) {X : lt_X} (x1 : Int32) (x2 : Int32) (I : Nat → Nat → Int32) (J : Nat → Nat → Int64) : am_G am_prog (N + 30) (d + 1) 294 [.ref 135, .int x1, .int x2] (mkh X I J) = RX9_gladAfter_0 N d (N + 30) X x1 x2 I J := fX9_gladAfter (N + 30) (d + 0) x1 x2 I J
def RX9_gladIn_0 (N d n : Nat) (X : lt_X) (x1 : Int32) (x2 : Int32) (I : Nat → Nat → Int32) (J : Nat → Nat → Int64) : am_O := am_run (am_G am_prog (N + 30) (d + 2)) eX9_gladIn uX9_gladIn n 0 [(0, .ref 135), (1, .int x1), (2, .int x2)] [] (mkh X I J)
def KX9_gladIn_0 (N d n : Nat) (a0 : Int32) (a1 : Int32) (z : Int32) (h : am_H) : am_O := if z = nI 0 then am_cI (am_G am_prog (N + 30) (d + 2) 188 [.ref 135, .int (nI 2)] h) (fun r2 h1 => some (.int r2, h1)) else am_cI (am_G am_prog (N + 30) (d + 2) 190 [.long a1.toInt64, .long (lN 0), .long (lN 300)] h) (fun r4 h3 => if r4 = nI 0 then am_cI (am_G am_prog (N + 30) (d + 2) 188 [.ref 135, .int (nI 5)] h3) (fun r6 h5 => some (.int r6, h5)) else am_cI (am_G am_prog (N + 30) (d + 2) 294 [.ref 135, .int a0, .int a1] h3) (fun r8 h7 => some (.int r8, h7)))
def KX9_gladIn_1 (N d n : Nat) (a0 : Int32) (a1 : Int32) (z : Int32) (h : am_H) : am_O := if z = nI 0 then am_cI (am_G am_prog (N + 30) (d + 2) 188 [.ref 135, .int (nI 5)] h) (fun r2 h1 => some (.int r2, h1)) else am_cI (am_G am_prog (N + 30) (d + 2) 294 [.ref 135, .int a0, .int a1] h) (fun r4 h3 => some (.int r4, h3))
def KX9_gladIn_2 (N d n : Nat) (z : Int32) (h : am_H) : am_O := some (.int z, h)
set_option maxHeartbeats 4000000 in
set_option maxRecDepth 100000 in
theorem sX9_gladIn_0 (N d n : Nat) {X : lt_X} (x1 : Int32) (x2 : Int32) (I : Nat → Nat → Int32) (J : Nat → Nat → Int64) : RX9_gladIn_0 N d (n + 1) X x1 x2 I J = am_cI (am_G am_prog (N + 30) (d + 2) 260 [.ref 135, .long x1.toInt64] (mkh X (u2 (u2 I 135 1 (nI 0)) 135 0 (nI 0)) J)) (KX9_gladIn_0 N d n x1 x2) := by
  rfl
set_option maxHeartbeats 4000000 in
set_option maxRecDepth 100000 in
theorem kX9_gladIn_0 (N d n : Nat) {X : lt_X} (a0 : Int32) (a1 : Int32) (z : Int32) (I : Nat → Nat → Int32) (J : Nat → Nat → Int64) : KX9_gladIn_0 N d n a0 a1 z (mkh X I J) = if z = nI 0 then some (.int (-1), (mkh X (u2 I 135 0 (nI 2)) J)) else am_cI (am_G am_prog (N + 30) (d + 2) 190 [.long a1.toInt64, .long (lN 0), .long (lN 300)] (mkh X I J)) (KX9_gladIn_1 N d n a0 a1) := by
  rfl
set_option maxHeartbeats 4000000 in
set_option maxRecDepth 100000 in
theorem kX9_gladIn_1 (N d n : Nat) {X : lt_X} (a0 : Int32) (a1 : Int32) (z : Int32) (I : Nat → Nat → Int32) (J : Nat → Nat → Int64) : KX9_gladIn_1 N d n a0 a1 z (mkh X I J) = if z = nI 0 then some (.int (-1), (mkh X (u2 I 135 0 (nI 5)) J)) else am_cI (am_G am_prog (N + 30) (d + 2) 294 [.ref 135, .int a0, .int a1] (mkh X I J)) (KX9_gladIn_2 N d n ) := by
  rfl
set_option maxHeartbeats 4000000 in
set_option maxRecDepth 100000 in
theorem kX9_gladIn_2 (N d n : Nat) {X : lt_X} (z : Int32) (I : Nat → Nat → Int32) (J : Nat → Nat → Int64) : KX9_gladIn_2 N d n z (mkh X I J) = some (.int z, (mkh X I J)) := by
  rfl
theorem fX9_gladIn (N d : Nat) {X : lt_X} (x1 : Int32) (x2 : Int32) (I : Nat → Nat → Int32) (J : Nat → Nat → Int64) : am_G am_prog N (d + 1) 295 [.ref 135, .int x1, .int x2] (mkh X I J) = am_run (am_G am_prog N d) eX9_gladIn uX9_gladIn N 0 [(0, .ref 135), (1, .int x1), (2, .int x2)] [] (mkh X I J) := by
  refine (am_G_at N d 295 mX9_gladIn _ _ rfl).trans ?_
  rfl
theorem gX9_gladIn (N d : Nat) {X : lt_X} (x1 : Int32) (x2 : Int32) (I : Nat → Nat → Int32) (J : Nat → Nat → Int64) : am_G am_prog (N + 30) (d + 3) 295 [.ref 135, .int x1, .int x2] (mkh X I J) = RX9_gladIn_0 N d (N + 30) X x1 x2 I J := fX9_gladIn (N + 30) (d + 2) x1 x2 I J
def RX9_gladBy_0 (N d n : Nat) (X : lt_X) (x1 : Int32) (x2 : Int32) (I : Nat → Nat → Int32) (J : Nat → Nat → Int64) : am_O := am_run (am_G am_prog (N + 30) (d + 2)) eX9_gladBy uX9_gladBy n 0 [(0, .ref 135), (1, .int x1), (2, .int x2)] [] (mkh X I J)
def RX9_gladBy_56 (N d n : Nat) (X : lt_X) (x1 : Int32) (x2 : Int32) (x3 : Int32) (x4 : Int32) (I : Nat → Nat → Int32) (J : Nat → Nat → Int64) : am_O := am_run (am_G am_prog (N + 30) (d + 2)) eX9_gladBy uX9_gladBy n 56 [(0, .ref 135), (1, .int x1), (2, .int x2), (3, .int x3), (4, .int x4)] [] (mkh X I J)
def KX9_gladBy_0 (N d n : Nat) (a0 : Int32) (a1 : Int32) (z : Int32) (h : am_H) : am_O := if z = nI 0 then am_cI (am_G am_prog (N + 30) (d + 2) 188 [.ref 135, .int (nI 2)] h) (fun r2 h1 => some (.int r2, h1)) else am_cI (am_G am_prog (N + 30) (d + 2) 190 [.long a1.toInt64, .long (lN 0), .long (lN 9999)] h) (fun r4 h3 => if r4 = nI 0 then am_cI (am_G am_prog (N + 30) (d + 2) 188 [.ref 135, .int (nI 5)] h3) (fun r6 h5 => some (.int r6, h5)) else am_gR h3 9 135 20 (fun y7 => am_lI h3 10 y7 ((nI 43) + a0) (fun y8 => am_run (am_G am_prog (N + 30) (d + 2)) eX9_gladBy uX9_gladBy n 56 [(0, .ref 135), (1, .int a0), (2, .int a1), (3, .int y8), (4, .int (nI 0))] [] h3)))
def KX9_gladBy_1 (N d n : Nat) (a0 : Int32) (a1 : Int32) (a2 : Int32) (a3 : Int32) (z : Int32) (h : am_H) : am_O := am_cI (am_G am_prog (N + 30) (d + 2) 276 [.ref 135, .int a0, .int z] h) (fun r2 h1 => am_run (am_G am_prog (N + 30) (d + 2)) eX9_gladBy uX9_gladBy n 56 [(0, .ref 135), (1, .int a0), (2, .int a1), (3, .int (a3 + r2)), (4, .int (a2 + (nI 1)))] [] h1)
def KX9_gladBy_2 (N d n : Nat) (a0 : Int32) (a1 : Int32) (z : Int32) (h : am_H) : am_O := if z = nI 0 then am_cI (am_G am_prog (N + 30) (d + 2) 188 [.ref 135, .int (nI 5)] h) (fun r2 h1 => some (.int r2, h1)) else am_gR h 9 135 20 (fun y3 => am_lI h 10 y3 ((nI 43) + a0) (fun y4 => am_run (am_G am_prog (N + 30) (d + 2)) eX9_gladBy uX9_gladBy n 56 [(0, .ref 135), (1, .int a0), (2, .int a1), (3, .int y4), (4, .int (nI 0))] [] h))
def KX9_gladBy_3 (N d n : Nat) (a0 : Int32) (a1 : Int32) (a2 : Int32) (a3 : Int32) (z : Int32) (h : am_H) : am_O := am_run (am_G am_prog (N + 30) (d + 2)) eX9_gladBy uX9_gladBy n 56 [(0, .ref 135), (1, .int a0), (2, .int a1), (3, .int (a3 + z)), (4, .int (a2 + (nI 1)))] [] h
set_option maxHeartbeats 4000000 in
set_option maxRecDepth 100000 in
theorem sX9_gladBy_0 (N d n : Nat) {X : lt_X} (x1 : Int32) (x2 : Int32) (I : Nat → Nat → Int32) (J : Nat → Nat → Int64) : RX9_gladBy_0 N d (n + 1) X x1 x2 I J = am_cI (am_G am_prog (N + 30) (d + 2) 260 [.ref 135, .long x1.toInt64] (mkh X (u2 (u2 I 135 1 (nI 0)) 135 0 (nI 0)) J)) (KX9_gladBy_0 N d n x1 x2) := by
  rfl
set_option maxHeartbeats 4000000 in
set_option maxRecDepth 100000 in
theorem sX9_gladBy_56 (N d n : Nat) {X : lt_X} (x1 : Int32) (x2 : Int32) (x3 : Int32) (x4 : Int32) (I : Nat → Nat → Int32) (J : Nat → Nat → Int64) : RX9_gladBy_56 N d (n + 1) X x1 x2 x3 x4 I J = if (nI 300) < x4 then some (.int (-1), (mkh X (u2 I 135 0 (nI 8)) J)) else if x3 < x2 then am_cI (am_G am_prog (N + 30) (d + 2) 275 [.ref 135, .int x1, .int ((I 140 5) + x4)] (mkh X I J)) (KX9_gladBy_1 N d n x1 x2 x4 x3) else some (.int x4, (mkh X I J)) := by
  rfl
set_option maxHeartbeats 4000000 in
set_option maxRecDepth 100000 in
theorem kX9_gladBy_0 (N d n : Nat) {X : lt_X} (a0 : Int32) (a1 : Int32) (z : Int32) (I : Nat → Nat → Int32) (J : Nat → Nat → Int64) : KX9_gladBy_0 N d n a0 a1 z (mkh X I J) = if z = nI 0 then some (.int (-1), (mkh X (u2 I 135 0 (nI 2)) J)) else am_cI (am_G am_prog (N + 30) (d + 2) 190 [.long a1.toInt64, .long (lN 0), .long (lN 9999)] (mkh X I J)) (KX9_gladBy_2 N d n a0 a1) := by
  rfl
set_option maxHeartbeats 4000000 in
set_option maxRecDepth 100000 in
theorem kX9_gladBy_1 (N d n : Nat) {X : lt_X} (a0 : Int32) (a1 : Int32) (a2 : Int32) (a3 : Int32) (z : Int32) (I : Nat → Nat → Int32) (J : Nat → Nat → Int64) : KX9_gladBy_1 N d n a0 a1 a2 a3 z (mkh X I J) = am_cI (am_G am_prog (N + 30) (d + 2) 276 [.ref 135, .int a0, .int z] (mkh X I J)) (KX9_gladBy_3 N d n a0 a1 a2 a3) := by
  rfl
set_option maxHeartbeats 4000000 in
set_option maxRecDepth 100000 in
theorem kX9_gladBy_2 (N d n : Nat) {X : lt_X} (a0 : Int32) (a1 : Int32) (z : Int32) (I : Nat → Nat → Int32) (J : Nat → Nat → Int64) : KX9_gladBy_2 N d n a0 a1 z (mkh X I J) = if z = nI 0 then some (.int (-1), (mkh X (u2 I 135 0 (nI 5)) J)) else if am_in ((nI 43) + a0) 2145 then RX9_gladBy_56 N d n X a0 a1 (I 140 (((nI 43) + a0).toNatClampNeg)) (nI 0) I J else none := by
  rfl
set_option maxHeartbeats 4000000 in
set_option maxRecDepth 100000 in
theorem kX9_gladBy_3 (N d n : Nat) {X : lt_X} (a0 : Int32) (a1 : Int32) (a2 : Int32) (a3 : Int32) (z : Int32) (I : Nat → Nat → Int32) (J : Nat → Nat → Int64) : KX9_gladBy_3 N d n a0 a1 a2 a3 z (mkh X I J) = RX9_gladBy_56 N d n X a0 a1 (a3 + z) (a2 + (nI 1)) I J := by
  rfl
theorem fX9_gladBy (N d : Nat) {X : lt_X} (x1 : Int32) (x2 : Int32) (I : Nat → Nat → Int32) (J : Nat → Nat → Int64) : am_G am_prog N (d + 1) 296 [.ref 135, .int x1, .int x2] (mkh X I J) = am_run (am_G am_prog N d) eX9_gladBy uX9_gladBy N 0 [(0, .ref 135), (1, .int x1), (2, .int x2)] [] (mkh X I J) := by
  refine (am_G_at N d 296 mX9_gladBy _ _ rfl).trans ?_
  rfl
theorem gX9_gladBy (N d : Nat) {X : lt_X} (x1 : Int32) (x2 : Int32) (I : Nat → Nat → Int32) (J : Nat → Nat → Int64) : am_G am_prog (N + 30) (d + 3) 296 [.ref 135, .int x1, .int x2] (mkh X I J) = RX9_gladBy_0 N d (N + 30) X x1 x2 I J := fX9_gladBy (N + 30) (d + 2) x1 x2 I J
def RX9_lonelyIn_0 (N d n : Nat) (X : lt_X) (x1 : Int32) (I : Nat → Nat → Int32) (J : Nat → Nat → Int64) : am_O := am_run (am_G am_prog (N + 30) (d + 2)) eX9_lonelyIn uX9_lonelyIn n 0 [(0, .ref 135), (1, .int x1)] [] (mkh X I J)
def RX9_lonelyIn_27 (N d n : Nat) (X : lt_X) (x1 : Int32) (x2 : Int32) (I : Nat → Nat → Int32) (J : Nat → Nat → Int64) : am_O := am_run (am_G am_prog (N + 30) (d + 2)) eX9_lonelyIn uX9_lonelyIn n 27 [(0, .ref 135), (1, .int x1), (2, .int x2)] [] (mkh X I J)
def KX9_lonelyIn_0 (N d n : Nat) (a0 : Int32) (z : Int32) (h : am_H) : am_O := if z = nI 0 then am_cI (am_G am_prog (N + 30) (d + 2) 188 [.ref 135, .int (nI 2)] h) (fun r2 h1 => some (.int r2, h1)) else am_run (am_G am_prog (N + 30) (d + 2)) eX9_lonelyIn uX9_lonelyIn n 27 [(0, .ref 135), (1, .int a0), (2, .int (nI 0))] [] h
def KX9_lonelyIn_1 (N d n : Nat) (a0 : Int32) (a1 : Int32) (z : Int32) (h : am_H) : am_O := if z = nI 0 then some (.int a1, h) else am_run (am_G am_prog (N + 30) (d + 2)) eX9_lonelyIn uX9_lonelyIn n 27 [(0, .ref 135), (1, .int a0), (2, .int (a1 + (nI 1)))] [] h
set_option maxHeartbeats 4000000 in
set_option maxRecDepth 100000 in
theorem sX9_lonelyIn_0 (N d n : Nat) {X : lt_X} (x1 : Int32) (I : Nat → Nat → Int32) (J : Nat → Nat → Int64) : RX9_lonelyIn_0 N d (n + 1) X x1 I J = am_cI (am_G am_prog (N + 30) (d + 2) 260 [.ref 135, .long x1.toInt64] (mkh X (u2 (u2 I 135 1 (nI 0)) 135 0 (nI 0)) J)) (KX9_lonelyIn_0 N d n x1) := by
  rfl
set_option maxHeartbeats 4000000 in
set_option maxRecDepth 100000 in
theorem sX9_lonelyIn_27 (N d n : Nat) {X : lt_X} (x1 : Int32) (x2 : Int32) (I : Nat → Nat → Int32) (J : Nat → Nat → Int64) : RX9_lonelyIn_27 N d (n + 1) X x1 x2 I J = if x2 < (nI 300) then am_cI (am_G am_prog (N + 30) (d + 2) 275 [.ref 135, .int x1, .int ((I 140 5) + x2)] (mkh X I J)) (KX9_lonelyIn_1 N d n x1 x2) else some (.int (-1), (mkh X (u2 I 135 0 (nI 8)) J)) := by
  rfl
set_option maxHeartbeats 4000000 in
set_option maxRecDepth 100000 in
theorem kX9_lonelyIn_0 (N d n : Nat) {X : lt_X} (a0 : Int32) (z : Int32) (I : Nat → Nat → Int32) (J : Nat → Nat → Int64) : KX9_lonelyIn_0 N d n a0 z (mkh X I J) = if z = nI 0 then some (.int (-1), (mkh X (u2 I 135 0 (nI 2)) J)) else RX9_lonelyIn_27 N d n X a0 (nI 0) I J := by
  rfl
set_option maxHeartbeats 4000000 in
set_option maxRecDepth 100000 in
theorem kX9_lonelyIn_1 (N d n : Nat) {X : lt_X} (a0 : Int32) (a1 : Int32) (z : Int32) (I : Nat → Nat → Int32) (J : Nat → Nat → Int64) : KX9_lonelyIn_1 N d n a0 a1 z (mkh X I J) = if z = nI 0 then some (.int a1, (mkh X I J)) else RX9_lonelyIn_27 N d n X a0 (a1 + (nI 1)) I J := by
  rfl
theorem fX9_lonelyIn (N d : Nat) {X : lt_X} (x1 : Int32) (I : Nat → Nat → Int32) (J : Nat → Nat → Int64) : am_G am_prog N (d + 1) 297 [.ref 135, .int x1] (mkh X I J) = am_run (am_G am_prog N d) eX9_lonelyIn uX9_lonelyIn N 0 [(0, .ref 135), (1, .int x1)] [] (mkh X I J) := by
  refine (am_G_at N d 297 mX9_lonelyIn _ _ rfl).trans ?_
  rfl
theorem gX9_lonelyIn (N d : Nat) {X : lt_X} (x1 : Int32) (I : Nat → Nat → Int32) (J : Nat → Nat → Int64) : am_G am_prog (N + 30) (d + 3) 297 [.ref 135, .int x1] (mkh X I J) = RX9_lonelyIn_0 N d (N + 30) X x1 I J := fX9_lonelyIn (N + 30) (d + 2) x1 I J
def RX9_diesIn_0 (N d n : Nat) (X : lt_X) (x1 : Int32) (I : Nat → Nat → Int32) (J : Nat → Nat → Int64) : am_O := am_run (am_G am_prog (N + 30) (d + 2)) eX9_diesIn uX9_diesIn n 0 [(0, .ref 135), (1, .int x1)] [] (mkh X I J)
def KX9_diesIn_0 (N d n : Nat) (a0 : Int32) (z : Int32) (h : am_H) : am_O := if z = nI 0 then am_cI (am_G am_prog (N + 30) (d + 2) 188 [.ref 135, .int (nI 2)] h) (fun r2 h1 => some (.int r2, h1)) else am_gR h 9 135 20 (fun y3 => am_lI h 10 y3 ((nI 25) + a0) (fun y4 => if y4 = nI 0 then am_cI (am_G am_prog (N + 30) (d + 2) 188 [.ref 135, .int (nI 8)] h) (fun r6 h5 => some (.int r6, h5)) else am_gR h 9 135 20 (fun y7 => am_lI h 10 y7 ((nI 13) + a0) (fun y8 => am_gR h 9 135 20 (fun y9 => am_lI h 10 y9 ((nI 7) + a0) (fun y10 => some (.int (if (nI 1) < (y8 - y10) then (y8 - y10) else (nI 1)), h)))))))
set_option maxHeartbeats 4000000 in
set_option maxRecDepth 100000 in
theorem sX9_diesIn_0 (N d n : Nat) {X : lt_X} (x1 : Int32) (I : Nat → Nat → Int32) (J : Nat → Nat → Int64) : RX9_diesIn_0 N d (n + 1) X x1 I J = am_cI (am_G am_prog (N + 30) (d + 2) 259 [.ref 135, .int x1] (mkh X (u2 (u2 I 135 1 (nI 0)) 135 0 (nI 0)) J)) (KX9_diesIn_0 N d n x1) := by
  rfl
theorem fX9_diesIn (N d : Nat) {X : lt_X} (x1 : Int32) (I : Nat → Nat → Int32) (J : Nat → Nat → Int64) : am_G am_prog N (d + 1) 298 [.ref 135, .int x1] (mkh X I J) = am_run (am_G am_prog N d) eX9_diesIn uX9_diesIn N 0 [(0, .ref 135), (1, .int x1)] [] (mkh X I J) := by
  refine (am_G_at N d 298 mX9_diesIn _ _ rfl).trans ?_
  rfl
theorem gX9_diesIn (N d : Nat) {X : lt_X} (x1 : Int32) (I : Nat → Nat → Int32) (J : Nat → Nat → Int64) : am_G am_prog (N + 30) (d + 3) 298 [.ref 135, .int x1] (mkh X I J) = RX9_diesIn_0 N d (N + 30) X x1 I J := fX9_diesIn (N + 30) (d + 2) x1 I J
def RX9_crowdOf_0 (N d n : Nat) (X : lt_X) (x1 : Int32) (I : Nat → Nat → Int32) (J : Nat → Nat → Int64) : am_O := am_run (am_G am_prog (N + 30) (d + 0)) eX9_crowdOf uX9_crowdOf n 0 [(0, .ref 135), (1, .int x1)] [] (mkh X I J)
def RX9_crowdOf_4 (N d n : Nat) (X : lt_X) (x1 : Int32) (x2 : Int32) (x3 : Int32) (I : Nat → Nat → Int32) (J : Nat → Nat → Int64) : am_O := am_run (am_G am_prog (N + 30) (d + 0)) eX9_crowdOf uX9_crowdOf n 4 [(0, .ref 135), (1, .int x1), (2, .int x2), (3, .int x3)] [] (mkh X I J)
def RX9_crowdOf_52 (N d n : Nat) (X : lt_X) (x1 : Int32) (x2 : Int32) (x3 : Int32) (I : Nat → Nat → Int32) (J : Nat → Nat → Int64) : am_O := am_run (am_G am_prog (N + 30) (d + 0)) eX9_crowdOf uX9_crowdOf n 52 [(0, .ref 135), (1, .int x1), (2, .int x2), (3, .int x3)] [] (mkh X I J)
set_option maxHeartbeats 4000000 in
set_option maxRecDepth 100000 in
theorem sX9_crowdOf_0 (N d n : Nat) {X : lt_X} (x1 : Int32) (I : Nat → Nat → Int32) (J : Nat → Nat → Int64) : RX9_crowdOf_0 N d (n + 1) X x1 I J = RX9_crowdOf_4 N d n X x1 (nI 0) (nI 0) I J := by
  rfl
set_option maxHeartbeats 4000000 in
set_option maxRecDepth 100000 in
theorem sX9_crowdOf_4 (N d n : Nat) {X : lt_X} (x1 : Int32) (x2 : Int32) (x3 : Int32) (I : Nat → Nat → Int32) (J : Nat → Nat → Int64) : RX9_crowdOf_4 N d (n + 1) X x1 x2 x3 I J = if x3 < (I 140 3) then if am_in ((nI 67) + x3) 2145 then if (I 140 (((nI 67) + x3).toNatClampNeg)) < nI 0 then RX9_crowdOf_4 N d n X x1 x2 (x3 + (nI 1)) I J else if am_in ((nI 55) + x3) 2145 then if (I 140 (((nI 55) + x3).toNatClampNeg)) = x1 then RX9_crowdOf_52 N d n X x1 x2 x3 I J else if am_in ((nI 61) + x3) 2145 then if (I 140 (((nI 61) + x3).toNatClampNeg)) = x1 then RX9_crowdOf_52 N d n X x1 x2 x3 I J else RX9_crowdOf_4 N d n X x1 x2 (x3 + (nI 1)) I J else none else none else none else some (.int x2, (mkh X I J)) := by
  rfl
set_option maxHeartbeats 4000000 in
set_option maxRecDepth 100000 in
theorem sX9_crowdOf_52 (N d n : Nat) {X : lt_X} (x1 : Int32) (x2 : Int32) (x3 : Int32) (I : Nat → Nat → Int32) (J : Nat → Nat → Int64) : RX9_crowdOf_52 N d (n + 1) X x1 x2 x3 I J = if am_in ((nI 67) + x3) 2145 then RX9_crowdOf_4 N d n X x1 (x2 ||| ((nI 1) <<< ((I 140 (((nI 67) + x3).toNatClampNeg)) &&& 31))) (x3 + (nI 1)) I J else none := by
  rfl
theorem fX9_crowdOf (N d : Nat) {X : lt_X} (x1 : Int32) (I : Nat → Nat → Int32) (J : Nat → Nat → Int64) : am_G am_prog N (d + 1) 299 [.ref 135, .int x1] (mkh X I J) = am_run (am_G am_prog N d) eX9_crowdOf uX9_crowdOf N 0 [(0, .ref 135), (1, .int x1)] [] (mkh X I J) := by
  refine (am_G_at N d 299 mX9_crowdOf _ _ rfl).trans ?_
  rfl
theorem gX9_crowdOf (N d : Nat) {X : lt_X} (x1 : Int32) (I : Nat → Nat → Int32) (J : Nat → Nat → Int64) : am_G am_prog (N + 30) (d + 1) 299 [.ref 135, .int x1] (mkh X I J) = RX9_crowdOf_0 N d (N + 30) X x1 I J := fX9_crowdOf (N + 30) (d + 0) x1 I J
def RX9_crowd_0 (N d n : Nat) (X : lt_X) (x1 : Int32) (I : Nat → Nat → Int32) (J : Nat → Nat → Int64) : am_O := am_run (am_G am_prog (N + 30) (d + 2)) eX9_crowd uX9_crowd n 0 [(0, .ref 135), (1, .int x1)] [] (mkh X I J)
def KX9_crowd_0 (N d n : Nat) (a0 : Int32) (z : Int32) (h : am_H) : am_O := if z = nI 0 then am_cI (am_G am_prog (N + 30) (d + 2) 188 [.ref 135, .int (nI 2)] h) (fun r2 h1 => some (.int r2, h1)) else am_cI (am_G am_prog (N + 30) (d + 2) 299 [.ref 135, .int a0] h) (fun r4 h3 => some (.int r4, h3))
def KX9_crowd_1 (N d n : Nat) (z : Int32) (h : am_H) : am_O := some (.int z, h)
set_option maxHeartbeats 4000000 in
set_option maxRecDepth 100000 in
theorem sX9_crowd_0 (N d n : Nat) {X : lt_X} (x1 : Int32) (I : Nat → Nat → Int32) (J : Nat → Nat → Int64) : RX9_crowd_0 N d (n + 1) X x1 I J = am_cI (am_G am_prog (N + 30) (d + 2) 259 [.ref 135, .int x1] (mkh X (u2 (u2 I 135 1 (nI 0)) 135 0 (nI 0)) J)) (KX9_crowd_0 N d n x1) := by
  rfl
set_option maxHeartbeats 4000000 in
set_option maxRecDepth 100000 in
theorem kX9_crowd_0 (N d n : Nat) {X : lt_X} (a0 : Int32) (z : Int32) (I : Nat → Nat → Int32) (J : Nat → Nat → Int64) : KX9_crowd_0 N d n a0 z (mkh X I J) = if z = nI 0 then some (.int (-1), (mkh X (u2 I 135 0 (nI 2)) J)) else am_cI (am_G am_prog (N + 30) (d + 2) 299 [.ref 135, .int a0] (mkh X I J)) (KX9_crowd_1 N d n ) := by
  rfl
set_option maxHeartbeats 4000000 in
set_option maxRecDepth 100000 in
theorem kX9_crowd_1 (N d n : Nat) {X : lt_X} (z : Int32) (I : Nat → Nat → Int32) (J : Nat → Nat → Int64) : KX9_crowd_1 N d n z (mkh X I J) = some (.int z, (mkh X I J)) := by
  rfl
theorem fX9_crowd (N d : Nat) {X : lt_X} (x1 : Int32) (I : Nat → Nat → Int32) (J : Nat → Nat → Int64) : am_G am_prog N (d + 1) 300 [.ref 135, .int x1] (mkh X I J) = am_run (am_G am_prog N d) eX9_crowd uX9_crowd N 0 [(0, .ref 135), (1, .int x1)] [] (mkh X I J) := by
  refine (am_G_at N d 300 mX9_crowd _ _ rfl).trans ?_
  rfl
theorem gX9_crowd (N d : Nat) {X : lt_X} (x1 : Int32) (I : Nat → Nat → Int32) (J : Nat → Nat → Int64) : am_G am_prog (N + 30) (d + 3) 300 [.ref 135, .int x1] (mkh X I J) = RX9_crowd_0 N d (N + 30) X x1 I J := fX9_crowd (N + 30) (d + 2) x1 I J
def RX9_worthOf_0 (N d n : Nat) (X : lt_X) (x1 : Int32) (x2 : Int32) (I : Nat → Nat → Int32) (J : Nat → Nat → Int64) : am_O := am_run (am_G am_prog (N + 30) (d + 0)) eX9_worthOf uX9_worthOf n 0 [(0, .ref 135), (1, .int x1), (2, .int x2)] [] (mkh X I J)
def RX9_worthOf_5 (N d n : Nat) (X : lt_X) (x1 : Int32) (x2 : Int32) (x3 : Int32) (x4 : Int32) (I : Nat → Nat → Int32) (J : Nat → Nat → Int64) : am_O := am_run (am_G am_prog (N + 30) (d + 0)) eX9_worthOf uX9_worthOf n 5 [(0, .ref 135), (1, .int x1), (2, .int x2), (3, .int x3), (4, .int x4)] [] (mkh X I J)
def KX9_worthOf_0 (N d n : Nat) (a0 : Int32) (a1 : Int32) (a2 : Int32) (a3 : Int32) (z : Int32) (h : am_H) : am_O := am_cI (am_G am_prog (N + 30) (d + 0) 276 [.ref 135, .int a0, .int z] h) (fun r2 h1 => am_run (am_G am_prog (N + 30) (d + 0)) eX9_worthOf uX9_worthOf n 5 [(0, .ref 135), (1, .int a0), (2, .int a1), (3, .int (a3 + r2)), (4, .int (a2 + (nI 1)))] [] h1)
def KX9_worthOf_1 (N d n : Nat) (a0 : Int32) (a1 : Int32) (a2 : Int32) (a3 : Int32) (z : Int32) (h : am_H) : am_O := am_run (am_G am_prog (N + 30) (d + 0)) eX9_worthOf uX9_worthOf n 5 [(0, .ref 135), (1, .int a0), (2, .int a1), (3, .int (a3 + z)), (4, .int (a2 + (nI 1)))] [] h
set_option maxHeartbeats 4000000 in
set_option maxRecDepth 100000 in
theorem sX9_worthOf_0 (N d n : Nat) {X : lt_X} (x1 : Int32) (x2 : Int32) (I : Nat → Nat → Int32) (J : Nat → Nat → Int64) : RX9_worthOf_0 N d (n + 1) X x1 x2 I J = RX9_worthOf_5 N d n X x1 x2 (nI 0) (nI 0) I J := by
  rfl
set_option maxHeartbeats 4000000 in
set_option maxRecDepth 100000 in
theorem sX9_worthOf_5 (N d n : Nat) {X : lt_X} (x1 : Int32) (x2 : Int32) (x3 : Int32) (x4 : Int32) (I : Nat → Nat → Int32) (J : Nat → Nat → Int64) : RX9_worthOf_5 N d (n + 1) X x1 x2 x3 x4 I J = if x4 < (nI 12) then am_cI (am_G am_prog (N + 30) (d + 0) 274 [.ref 135, .int x2, .int ((I 140 5) + x4)] (mkh X I J)) (KX9_worthOf_0 N d n x1 x2 x4 x3) else some (.int x3, (mkh X I J)) := by
  rfl
set_option maxHeartbeats 4000000 in
set_option maxRecDepth 100000 in
theorem kX9_worthOf_0 (N d n : Nat) {X : lt_X} (a0 : Int32) (a1 : Int32) (a2 : Int32) (a3 : Int32) (z : Int32) (I : Nat → Nat → Int32) (J : Nat → Nat → Int64) : KX9_worthOf_0 N d n a0 a1 a2 a3 z (mkh X I J) = am_cI (am_G am_prog (N + 30) (d + 0) 276 [.ref 135, .int a0, .int z] (mkh X I J)) (KX9_worthOf_1 N d n a0 a1 a2 a3) := by
  rfl
set_option maxHeartbeats 4000000 in
set_option maxRecDepth 100000 in
theorem kX9_worthOf_1 (N d n : Nat) {X : lt_X} (a0 : Int32) (a1 : Int32) (a2 : Int32) (a3 : Int32) (z : Int32) (I : Nat → Nat → Int32) (J : Nat → Nat → Int64) : KX9_worthOf_1 N d n a0 a1 a2 a3 z (mkh X I J) = RX9_worthOf_5 N d n X a0 a1 (a3 + z) (a2 + (nI 1)) I J := by
  rfl
theorem fX9_worthOf (N d : Nat) {X : lt_X} (x1 : Int32) (x2 : Int32) (I : Nat → Nat → Int32) (J : Nat → Nat → Int64) : am_G am_prog N (d + 1) 301 [.ref 135, .int x1, .int x2] (mkh X I J) = am_run (am_G am_prog N d) eX9_worthOf uX9_worthOf N 0 [(0, .ref 135), (1, .int x1), (2, .int x2)] [] (mkh X I J) := by
  refine (am_G_at N d 301 mX9_worthOf _ _ rfl).trans ?_
  rfl
theorem gX9_worthOf (N d : Nat) {X : lt_X} (x1 : Int32) (x2 : Int32) (I : Nat → Nat → Int32) (J : Nat → Nat → Int64) : am_G am_prog (N + 30) (d + 1) 301 [.ref 135, .int x1, .int x2] (mkh X I J) = RX9_worthOf_0 N d (N + 30) X x1 x2 I J := fX9_worthOf (N + 30) (d + 0) x1 x2 I J
def RX9_worth_0 (N d n : Nat) (X : lt_X) (x1 : Int32) (x2 : Int32) (I : Nat → Nat → Int32) (J : Nat → Nat → Int64) : am_O := am_run (am_G am_prog (N + 30) (d + 2)) eX9_worth uX9_worth n 0 [(0, .ref 135), (1, .int x1), (2, .int x2)] [] (mkh X I J)
def KX9_worth_0 (N d n : Nat) (a0 : Int32) (a1 : Int32) (z : Int32) (h : am_H) : am_O := if z = nI 0 then am_cI (am_G am_prog (N + 30) (d + 2) 188 [.ref 135, .int (nI 2)] h) (fun r2 h1 => some (.int r2, h1)) else am_cI (am_G am_prog (N + 30) (d + 2) 261 [.ref 135, .int a1] h) (fun r4 h3 => if r4 = nI 0 then am_cI (am_G am_prog (N + 30) (d + 2) 188 [.ref 135, .int (nI 2)] h3) (fun r6 h5 => some (.int r6, h5)) else am_cI (am_G am_prog (N + 30) (d + 2) 301 [.ref 135, .int a0, .int a1] h3) (fun r8 h7 => some (.int r8, h7)))
def KX9_worth_1 (N d n : Nat) (a0 : Int32) (a1 : Int32) (z : Int32) (h : am_H) : am_O := if z = nI 0 then am_cI (am_G am_prog (N + 30) (d + 2) 188 [.ref 135, .int (nI 2)] h) (fun r2 h1 => some (.int r2, h1)) else am_cI (am_G am_prog (N + 30) (d + 2) 301 [.ref 135, .int a0, .int a1] h) (fun r4 h3 => some (.int r4, h3))
def KX9_worth_2 (N d n : Nat) (z : Int32) (h : am_H) : am_O := some (.int z, h)
set_option maxHeartbeats 4000000 in
set_option maxRecDepth 100000 in
theorem sX9_worth_0 (N d n : Nat) {X : lt_X} (x1 : Int32) (x2 : Int32) (I : Nat → Nat → Int32) (J : Nat → Nat → Int64) : RX9_worth_0 N d (n + 1) X x1 x2 I J = am_cI (am_G am_prog (N + 30) (d + 2) 260 [.ref 135, .long x1.toInt64] (mkh X (u2 (u2 I 135 1 (nI 0)) 135 0 (nI 0)) J)) (KX9_worth_0 N d n x1 x2) := by
  rfl
set_option maxHeartbeats 4000000 in
set_option maxRecDepth 100000 in
theorem kX9_worth_0 (N d n : Nat) {X : lt_X} (a0 : Int32) (a1 : Int32) (z : Int32) (I : Nat → Nat → Int32) (J : Nat → Nat → Int64) : KX9_worth_0 N d n a0 a1 z (mkh X I J) = if z = nI 0 then some (.int (-1), (mkh X (u2 I 135 0 (nI 2)) J)) else am_cI (am_G am_prog (N + 30) (d + 2) 261 [.ref 135, .int a1] (mkh X I J)) (KX9_worth_1 N d n a0 a1) := by
  rfl
set_option maxHeartbeats 4000000 in
set_option maxRecDepth 100000 in
theorem kX9_worth_1 (N d n : Nat) {X : lt_X} (a0 : Int32) (a1 : Int32) (z : Int32) (I : Nat → Nat → Int32) (J : Nat → Nat → Int64) : KX9_worth_1 N d n a0 a1 z (mkh X I J) = if z = nI 0 then some (.int (-1), (mkh X (u2 I 135 0 (nI 2)) J)) else am_cI (am_G am_prog (N + 30) (d + 2) 301 [.ref 135, .int a0, .int a1] (mkh X I J)) (KX9_worth_2 N d n ) := by
  rfl
set_option maxHeartbeats 4000000 in
set_option maxRecDepth 100000 in
theorem kX9_worth_2 (N d n : Nat) {X : lt_X} (z : Int32) (I : Nat → Nat → Int32) (J : Nat → Nat → Int64) : KX9_worth_2 N d n z (mkh X I J) = some (.int z, (mkh X I J)) := by
  rfl
theorem fX9_worth (N d : Nat) {X : lt_X} (x1 : Int32) (x2 : Int32) (I : Nat → Nat → Int32) (J : Nat → Nat → Int64) : am_G am_prog N (d + 1) 302 [.ref 135, .int x1, .int x2] (mkh X I J) = am_run (am_G am_prog N d) eX9_worth uX9_worth N 0 [(0, .ref 135), (1, .int x1), (2, .int x2)] [] (mkh X I J) := by
  refine (am_G_at N d 302 mX9_worth _ _ rfl).trans ?_
  rfl
theorem gX9_worth (N d : Nat) {X : lt_X} (x1 : Int32) (x2 : Int32) (I : Nat → Nat → Int32) (J : Nat → Nat → Int64) : am_G am_prog (N + 30) (d + 3) 302 [.ref 135, .int x1, .int x2] (mkh X I J) = RX9_worth_0 N d (N + 30) X x1 x2 I J := fX9_worth (N + 30) (d + 2) x1 x2 I J
def RX9_laysWorths_0 (N d n : Nat) (X : lt_X) (I : Nat → Nat → Int32) (J : Nat → Nat → Int64) : am_O := am_run (am_G am_prog (N + 30) (d + 0)) eX9_laysWorths uX9_laysWorths n 0 [(0, .ref 135)] [] (mkh X I J)
def RX9_laysWorths_2 (N d n : Nat) (X : lt_X) (x1 : Int32) (I : Nat → Nat → Int32) (J : Nat → Nat → Int64) : am_O := am_run (am_G am_prog (N + 30) (d + 0)) eX9_laysWorths uX9_laysWorths n 2 [(0, .ref 135), (1, .int x1)] [] (mkh X I J)
def RX9_laysWorths_14 (N d n : Nat) (X : lt_X) (x1 : Int32) (x2 : Int32) (I : Nat → Nat → Int32) (J : Nat → Nat → Int64) : am_O := am_run (am_G am_prog (N + 30) (d + 0)) eX9_laysWorths uX9_laysWorths n 14 [(0, .ref 135), (1, .int x1), (2, .int x2)] [] (mkh X I J)
def KX9_laysWorths_0 (N d n : Nat) (a0 : Int32) (a1 : Int32) (a2 : Int32) (z : Int32) (h : am_H) : am_O := am_tI h 143 a2 z (fun h1 => am_run (am_G am_prog (N + 30) (d + 0)) eX9_laysWorths uX9_laysWorths n 14 [(0, .ref 135), (1, .int a0), (2, .int (a1 + (nI 1)))] [] h1)
set_option maxHeartbeats 4000000 in
set_option maxRecDepth 100000 in
theorem sX9_laysWorths_0 (N d n : Nat) {X : lt_X} (I : Nat → Nat → Int32) (J : Nat → Nat → Int64) : RX9_laysWorths_0 N d (n + 1) X I J = RX9_laysWorths_2 N d n X (nI 0) I J := by
  rfl
set_option maxHeartbeats 4000000 in
set_option maxRecDepth 100000 in
theorem sX9_laysWorths_2 (N d n : Nat) {X : lt_X} (x1 : Int32) (I : Nat → Nat → Int32) (J : Nat → Nat → Int64) : RX9_laysWorths_2 N d (n + 1) X x1 I J = if x1 < (I 140 2) then RX9_laysWorths_14 N d n X x1 (nI 0) I J else some (.null, (mkh X I J)) := by
  rfl
set_option maxHeartbeats 4000000 in
set_option maxRecDepth 100000 in
theorem sX9_laysWorths_14 (N d n : Nat) {X : lt_X} (x1 : Int32) (x2 : Int32) (I : Nat → Nat → Int32) (J : Nat → Nat → Int64) : RX9_laysWorths_14 N d (n + 1) X x1 x2 I J = if x2 < (I 140 3) then am_cI (am_G am_prog (N + 30) (d + 0) 301 [.ref 135, .int x1, .int x2] (mkh X I J)) (KX9_laysWorths_0 N d n x1 x2 (((nI 6) * x1) + x2)) else RX9_laysWorths_2 N d n X (x1 + (nI 1)) I J := by
  rfl
set_option maxHeartbeats 4000000 in
set_option maxRecDepth 100000 in
theorem kX9_laysWorths_0 (N d n : Nat) {X : lt_X} (a0 : Int32) (a1 : Int32) (a2 : Int32) (z : Int32) (I : Nat → Nat → Int32) (J : Nat → Nat → Int64) : KX9_laysWorths_0 N d n a0 a1 a2 z (mkh X I J) = if am_in a2 36 then RX9_laysWorths_14 N d n X a0 (a1 + (nI 1)) (u2 I 143 a2.toNatClampNeg z) J else none := by
  rfl
theorem fX9_laysWorths (N d : Nat) {X : lt_X} (I : Nat → Nat → Int32) (J : Nat → Nat → Int64) : am_G am_prog N (d + 1) 303 [.ref 135] (mkh X I J) = am_run (am_G am_prog N d) eX9_laysWorths uX9_laysWorths N 0 [(0, .ref 135)] [] (mkh X I J) := by
  refine (am_G_at N d 303 mX9_laysWorths _ _ rfl).trans ?_
  rfl
theorem gX9_laysWorths (N d : Nat) {X : lt_X} (I : Nat → Nat → Int32) (J : Nat → Nat → Int64) : am_G am_prog (N + 30) (d + 1) 303 [.ref 135] (mkh X I J) = RX9_laysWorths_0 N d (N + 30) X I J := fX9_laysWorths (N + 30) (d + 0) I J
def RX9_shares_0 (N d n : Nat) (X : lt_X) (x1 : Int32) (x2 : Int32) (x3 : Int32) (x4 : Int32) (I : Nat → Nat → Int32) (J : Nat → Nat → Int64) : am_O := am_run (am_G am_prog (N + 30) (d + 1)) eX9_shares uX9_shares n 0 [(0, .ref 135), (1, .int x1), (2, .int x2), (3, .int x3), (4, .int x4)] [] (mkh X I J)
def RX9_shares_29 (N d n : Nat) (X : lt_X) (x5 : Int32) (I : Nat → Nat → Int32) (J : Nat → Nat → Int64) : am_O := am_run (am_G am_prog (N + 30) (d + 1)) eX9_shares uX9_shares n 29 [(0, .ref 135), (5, .int x5)] [] (mkh X I J)
def RX9_shares_60 (N d n : Nat) (X : lt_X) (x1 : Int32) (x2 : Int32) (x3 : Int32) (x4 : Int32) (x5 : Int32) (I : Nat → Nat → Int32) (J : Nat → Nat → Int64) : am_O := am_run (am_G am_prog (N + 30) (d + 1)) eX9_shares uX9_shares n 60 [(0, .ref 135), (1, .int x1), (2, .int x2), (3, .int x3), (4, .int x4), (5, .int x5)] [] (mkh X I J)
def RX9_shares_134 (N d n : Nat) (X : lt_X) (x1 : Int32) (x2 : Int32) (x3 : Int32) (x4 : Int32) (I : Nat → Nat → Int32) (J : Nat → Nat → Int64) : am_O := am_run (am_G am_prog (N + 30) (d + 1)) eX9_shares uX9_shares n 134 [(0, .ref 135), (1, .int x1), (2, .int x2), (3, .int x3), (4, .int x4)] [] (mkh X I J)
def KX9_shares_0 (N d n : Nat) (a0 : Int32) (a1 : Int32) (a2 : Int32) (a3 : Int32) (a4 : Int32) (z : Int32) (h : am_H) : am_O := if z = nI 0 then am_run (am_G am_prog (N + 30) (d + 1)) eX9_shares uX9_shares n 134 [(0, .ref 135), (1, .int a0), (2, .int a1), (3, .int a2), (4, .int a3)] [] h else am_cI (am_G am_prog (N + 30) (d + 1) 201 [.int a2, .int a4] h) (fun r2 h1 => if r2 = nI 0 then am_gR h1 9 135 27 (fun y3 => am_tI h1 y3 a1 a4 (fun h4 => am_gR h4 9 135 26 (fun y5 => am_lI h4 10 y5 (((nI 6) * a1) + a4) (fun y6 => am_cV (am_G am_prog (N + 30) (d + 1) 304 [.ref 135, .int a0, .int (a1 + (nI 1)), .int (a2 ||| ((nI 1) <<< (a4 &&& 31))), .int (a3 + y6)] h4) (fun h7 => am_run (am_G am_prog (N + 30) (d + 1)) eX9_shares uX9_shares n 60 [(0, .ref 135), (1, .int a0), (2, .int a1), (3, .int a2), (4, .int a3), (5, .int (a4 + (nI 1)))] [] h7))))) else am_run (am_G am_prog (N + 30) (d + 1)) eX9_shares uX9_shares n 60 [(0, .ref 135), (1, .int a0), (2, .int a1), (3, .int a2), (4, .int a3), (5, .int (a4 + (nI 1)))] [] h1)
def KX9_shares_1 (N d n : Nat) (h : am_H) : am_O := some (.null, h)
def KX9_shares_2 (N d n : Nat) (a0 : Int32) (a1 : Int32) (a2 : Int32) (a3 : Int32) (a4 : Int32) (z : Int32) (h : am_H) : am_O := if z = nI 0 then am_gR h 9 135 27 (fun y1 => am_tI h y1 a1 a4 (fun h2 => am_gR h2 9 135 26 (fun y3 => am_lI h2 10 y3 (((nI 6) * a1) + a4) (fun y4 => am_cV (am_G am_prog (N + 30) (d + 1) 304 [.ref 135, .int a0, .int (a1 + (nI 1)), .int (a2 ||| ((nI 1) <<< (a4 &&& 31))), .int (a3 + y4)] h2) (fun h5 => am_run (am_G am_prog (N + 30) (d + 1)) eX9_shares uX9_shares n 60 [(0, .ref 135), (1, .int a0), (2, .int a1), (3, .int a2), (4, .int a3), (5, .int (a4 + (nI 1)))] [] h5))))) else am_run (am_G am_prog (N + 30) (d + 1)) eX9_shares uX9_shares n 60 [(0, .ref 135), (1, .int a0), (2, .int a1), (3, .int a2), (4, .int a3), (5, .int (a4 + (nI 1)))] [] h
def KX9_shares_3 (N d n : Nat) (a0 : Int32) (a1 : Int32) (a2 : Int32) (a3 : Int32) (a4 : Int32) (h : am_H) : am_O := am_run (am_G am_prog (N + 30) (d + 1)) eX9_shares uX9_shares n 60 [(0, .ref 135), (1, .int a0), (2, .int a1), (3, .int a2), (4, .int a3), (5, .int (a4 + (nI 1)))] [] h
set_option maxHeartbeats 4000000 in
set_option maxRecDepth 100000 in
theorem sX9_shares_0 (N d n : Nat) {X : lt_X} (x1 : Int32) (x2 : Int32) (x3 : Int32) (x4 : Int32) (I : Nat → Nat → Int32) (J : Nat → Nat → Int64) : RX9_shares_0 N d (n + 1) X x1 x2 x3 x4 I J = if x2 = (I 140 2) then if (I 135 29) < x4 then RX9_shares_29 N d n X (nI 0) (u2 I 135 29 x4) J else some (.null, (mkh X I J)) else RX9_shares_60 N d n X x1 x2 x3 x4 (nI 0) I J := by
  rfl
set_option maxHeartbeats 4000000 in
set_option maxRecDepth 100000 in
theorem sX9_shares_29 (N d n : Nat) {X : lt_X} (x5 : Int32) (I : Nat → Nat → Int32) (J : Nat → Nat → Int64) : RX9_shares_29 N d (n + 1) X x5 I J = if x5 < (nI 6) then if am_in x5 6 then if am_in x5 6 then RX9_shares_29 N d n X (x5 + (nI 1)) (u2 I 145 x5.toNatClampNeg (I 144 x5.toNatClampNeg)) J else none else none else some (.null, (mkh X I J)) := by
  rfl
set_option maxHeartbeats 4000000 in
set_option maxRecDepth 100000 in
theorem sX9_shares_60 (N d n : Nat) {X : lt_X} (x1 : Int32) (x2 : Int32) (x3 : Int32) (x4 : Int32) (x5 : Int32) (I : Nat → Nat → Int32) (J : Nat → Nat → Int64) : RX9_shares_60 N d (n + 1) X x1 x2 x3 x4 x5 I J = if x5 < (I 140 3) then am_cI (am_G am_prog (N + 30) (d + 1) 201 [.int x1, .int x2] (mkh X I J)) (KX9_shares_0 N d n x1 x2 x3 x4 x5) else RX9_shares_134 N d n X x1 x2 x3 x4 I J := by
  rfl
set_option maxHeartbeats 4000000 in
set_option maxRecDepth 100000 in
theorem sX9_shares_134 (N d n : Nat) {X : lt_X} (x1 : Int32) (x2 : Int32) (x3 : Int32) (x4 : Int32) (I : Nat → Nat → Int32) (J : Nat → Nat → Int64) : RX9_shares_134 N d (n + 1) X x1 x2 x3 x4 I J = if am_in x2 6 then am_cV (am_G am_prog (N + 30) (d + 1) 304 [.ref 135, .int x1, .int (x2 + (nI 1)), .int x3, .int x4] (mkh X (u2 I 144 x2.toNatClampNeg (-1)) J)) (KX9_shares_1 N d n ) else none := by
  rfl
set_option maxHeartbeats 4000000 in
set_option maxRecDepth 100000 in
theorem kX9_shares_0 (N d n : Nat) {X : lt_X} (a0 : Int32) (a1 : Int32) (a2 : Int32) (a3 : Int32) (a4 : Int32) (z : Int32) (I : Nat → Nat → Int32) (J : Nat → Nat → Int64) : KX9_shares_0 N d n a0 a1 a2 a3 a4 z (mkh X I J) = if z = nI 0 then RX9_shares_134 N d n X a0 a1 a2 a3 I J else am_cI (am_G am_prog (N + 30) (d + 1) 201 [.int a2, .int a4] (mkh X I J)) (KX9_shares_2 N d n a0 a1 a2 a3 a4) := by
  rfl
set_option maxHeartbeats 4000000 in
set_option maxRecDepth 100000 in
theorem kX9_shares_1 (N d n : Nat) {X : lt_X} (I : Nat → Nat → Int32) (J : Nat → Nat → Int64) : KX9_shares_1 N d n (mkh X I J) = some (.null, (mkh X I J)) := by
  rfl
set_option maxHeartbeats 4000000 in
set_option maxRecDepth 100000 in
theorem kX9_shares_3 (N d n : Nat) {X : lt_X} (a0 : Int32) (a1 : Int32) (a2 : Int32) (a3 : Int32) (a4 : Int32) (I : Nat → Nat → Int32) (J : Nat → Nat → Int64) : KX9_shares_3 N d n a0 a1 a2 a3 a4 (mkh X I J) = RX9_shares_60 N d n X a0 a1 a2 a3 (a4 + (nI 1)) I J := by
  rfl
theorem fX9_shares (N d : Nat) {X : lt_X} (x1 : Int32) (x2 : Int32) (x3 : Int32) (x4 : Int32) (I : Nat → Nat → Int32) (J : Nat → Nat → Int64) : am_G am_prog N (d + 1) 304 [.ref 135, .int x1, .int x2, .int x3, .int x4] (mkh X I J) = am_run (am_G am_prog N d) eX9_shares uX9_shares N 0 [(0, .ref 135), (1, .int x1), (2, .int x2), (3, .int x3), (4, .int x4)] [] (mkh X I J) := by
  refine (am_G_at N d 304 mX9_shares _ _ rfl).trans ?_
  rfl
theorem gX9_shares (N d : Nat) {X : lt_X} (x1 : Int32) (x2 : Int32) (x3 : Int32) (x4 : Int32) (I : Nat → Nat → Int32) (J : Nat → Nat → Int64) : am_G am_prog (N + 30) (d + 2) 304 [.ref 135, .int x1, .int x2, .int x3, .int x4] (mkh X I J) = RX9_shares_0 N d (N + 30) X x1 x2 x3 x4 I J := fX9_shares (N + 30) (d + 1) x1 x2 x3 x4 I J
