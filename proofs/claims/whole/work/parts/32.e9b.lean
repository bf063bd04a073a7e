/-! printed by wip/whole/eqs4.py (sym4.py) -/
def RX9_year_0 (N d n : Nat) (X : lt_X) (x1 : Int32) (I : Nat → Nat → Int32) (J : Nat → Nat → Int64) : am_O := am_run (am_G am_prog (N + 30) (d + 1)) eX9_year uX9_year n 0 [(0, .ref 135), (1, .int x1)] [] (mkh X I J)
def RX9_year_54 (N d n : Nat) (X : lt_X) (x1 : Int32) (x2 : Int32) (x3 : Int32) (I : Nat → Nat → Int32) (J : Nat → Nat → Int64) : am_O := am_run (am_G am_prog (N + 30) (d + 1)) eX9_year uX9_year n 54 [(0, .ref 135), (1, .int x1), (2, .int x2), (3, .int x3)] [] (mkh X I J)
def KX9_year_0 (N d n : Nat) (a0 : Int32) (z : Int32) (h : am_H) : am_O := if z = nI 0 then am_cI (am_G am_prog (N + 30) (d + 1) 188 [.ref 135, .int (nI 5)] h) (fun r2 h1 => some (.int r2, h1)) else am_gR h 9 135 20 (fun y3 => am_lI h 10 y3 (nI 6) (fun y4 => if (nI 999) < (y4 + a0) then am_cI (am_G am_prog (N + 30) (d + 1) 188 [.ref 135, .int (nI 7)] h) (fun r6 h5 => some (.int r6, h5)) else am_run (am_G am_prog (N + 30) (d + 1)) eX9_year uX9_year n 54 [(0, .ref 135), (1, .int a0), (2, .int (nI 0)), (3, .int (nI 0))] [] h))
def KX9_year_1 (N d n : Nat) (a0 : Int32) (a1 : Int32) (a2 : Int32) (z : Int32) (h : am_H) : am_O := am_run (am_G am_prog (N + 30) (d + 1)) eX9_year uX9_year n 54 [(0, .ref 135), (1, .int a0), (2, .int (a2 ||| z)), (3, .int (a1 + (nI 1)))] [] h
set_option maxHeartbeats 4000000 in
set_option maxRecDepth 100000 in
theorem sX9_year_0 (N d n : Nat) {X : lt_X} (x1 : Int32) (I : Nat → Nat → Int32) (J : Nat → Nat → Int64) : RX9_year_0 N d (n + 1) X x1 I J = am_cI (am_G am_prog (N + 30) (d + 1) 190 [.long x1.toInt64, .long (lN 1), .long (lN 99)] (mkh X (u2 (u2 I 135 1 (nI 0)) 135 0 (nI 0)) J)) (KX9_year_0 N d n x1) := by
  rfl
set_option maxHeartbeats 4000000 in
set_option maxRecDepth 100000 in
theorem sX9_year_54 (N d n : Nat) {X : lt_X} (x1 : Int32) (x2 : Int32) (x3 : Int32) (I : Nat → Nat → Int32) (J : Nat → Nat → Int64) : RX9_year_54 N d (n + 1) X x1 x2 x3 I J = if x3 < x1 then am_cI (am_G am_prog (N + 30) (d + 1) 279 [.ref 135] (mkh X I J)) (KX9_year_1 N d n x1 x3 x2) else some (.int x2, (mkh X I J)) := by
  rfl
set_option maxHeartbeats 4000000 in
set_option maxRecDepth 100000 in
theorem kX9_year_0 (N d n : Nat) {X : lt_X} (a0 : Int32) (z : Int32) (I : Nat → Nat → Int32) (J : Nat → Nat → Int64) : KX9_year_0 N d n a0 z (mkh X I J) = if z = nI 0 then some (.int (-1), (mkh X (u2 I 135 0 (nI 5)) J)) else if (nI 999) < ((I 140 6) + a0) then some (.int (-1), (mkh X (u2 I 135 0 (nI 7)) J)) else RX9_year_54 N d n X a0 (nI 0) (nI 0) I J := by
  rfl
set_option maxHeartbeats 4000000 in
set_option maxRecDepth 100000 in
theorem kX9_year_1 (N d n : Nat) {X : lt_X} (a0 : Int32) (a1 : Int32) (a2 : Int32) (z : Int32) (I : Nat → Nat → Int32) (J : Nat → Nat → Int64) : KX9_year_1 N d n a0 a1 a2 z (mkh X I J) = RX9_year_54 N d n X a0 (a2 ||| z) (a1 + (nI 1)) I J := by
  rfl
theorem fX9_year (N d : Nat) {X : lt_X} (x1 : Int32) (I : Nat → Nat → Int32) (J : Nat → Nat → Int64) : am_G am_prog N (d + 1) 280 [.ref 135, .int x1] (mkh X I J) = am_run (am_G am_prog N d) eX9_year uX9_year N 0 [(0, .ref 135), (1, .int x1)] [] (mkh X I J) := by
  refine (am_G_at N d 280 mX9_year _ _ rfl).trans ?_
  rfl
theorem gX9_year (N d : Nat) {X : lt_X} (x1 : Int32) (I : Nat → Nat → Int32) (J : Nat → Nat → Int64) : am_G am_prog (N + 30) (d + 2) 280 [.ref 135, .int x1] (mkh X I J) = RX9_year_0 N d (N + 30) X x1 I J := fX9_year (N + 30) (d + 1) x1 I J
def RX9_sells_0 (N d n : Nat) (X : lt_X) (x1 : Int32) (x2 : Int32) (x3 : Int32) (I : Nat → Nat → Int32) (J : Nat → Nat → Int64) : am_O := am_run (am_G am_prog (N + 30) (d + 0)) eX9_sells uX9_sells n 0 [(0, .ref 135), (1, .int x1), (2, .int x2), (3, .int x3)] [] (mkh X I J)
set_option maxHeartbeats 4000000 in
set_option maxRecDepth 100000 in
theorem sX9_sells_0 (N d n : Nat) {X : lt_X} (x1 : Int32) (x2 : Int32) (x3 : Int32) (I : Nat → Nat → Int32) (J : Nat → Nat → Int64) : RX9_sells_0 N d (n + 1) X x1 x2 x3 I J = if am_in ((nI 67) + x1) 2145 then if (I 140 (((nI 67) + x1).toNatClampNeg)) < nI 0 then some (.int (nI 0), (mkh X I J)) else if (I 140 (((nI 67) + x1).toNatClampNeg)) = x2 then some (.int (nI 0), (mkh X I J)) else if am_in ((nI 37) + x2) 2145 then if (I 140 (((nI 37) + x2).toNatClampNeg)) < x3 then some (.int (nI 0), (mkh X I J)) else if am_in ((nI 37) + (I 140 (((nI 67) + x1).toNatClampNeg))) 2145 then if (nI 9999) < ((I 140 (((nI 37) + (I 140 (((nI 67) + x1).toNatClampNeg))).toNatClampNeg)) + x3) then some (.int (nI 0), (mkh X I J)) else if am_in ((nI 37) + (I 140 (((nI 67) + x1).toNatClampNeg))) 2145 then if am_in ((nI 37) + (I 140 (((nI 67) + x1).toNatClampNeg))) 2145 then if am_in ((nI 37) + x2) 2145 then if am_in ((nI 37) + x2) 2145 then if am_in ((nI 67) + x1) 2145 then some (.int (nI 1), (mkh X (u2 (u2 (u2 I 140 (((nI 37) + (I 140 (((nI 67) + x1).toNatClampNeg))).toNatClampNeg) ((I 140 (((nI 37) + (I 140 (((nI 67) + x1).toNatClampNeg))).toNatClampNeg)) + x3)) 140 (((nI 37) + x2).toNatClampNeg) (((u2 I 140 (((nI 37) + (I 140 (((nI 67) + x1).toNatClampNeg))).toNatClampNeg) ((I 140 (((nI 37) + (I 140 (((nI 67) + x1).toNatClampNeg))).toNatClampNeg)) + x3)) 140 (((nI 37) + x2).toNatClampNeg)) - x3)) 140 (((nI 67) + x1).toNatClampNeg) x2) J)) else none else none else none else none else none else none else none else none := by
  rfl
theorem fX9_sells (N d : Nat) {X : lt_X} (x1 : Int32) (x2 : Int32) (x3 : Int32) (I : Nat → Nat → Int32) (J : Nat → Nat → Int64) : am_G am_prog N (d + 1) 281 [.ref 135, .int x1, .int x2, .int x3] (mkh X I J) = am_run (am_G am_prog N d) eX9_sells uX9_sells N 0 [(0, .ref 135), (1, .int x1), (2, .int x2), (3, .int x3)] [] (mkh X I J) := by
  refine (am_G_at N d 281 mX9_sells _ _ rfl).trans ?_
  rfl
theorem gX9_sells (N d : Nat) {X : lt_X} (x1 : Int32) (x2 : Int32) (x3 : Int32) (I : Nat → Nat → Int32) (J : Nat → Nat → Int64) : am_G am_prog (N + 30) (d + 1) 281 [.ref 135, .int x1, .int x2, .int x3] (mkh X I J) = RX9_sells_0 N d (N + 30) X x1 x2 x3 I J := fX9_sells (N + 30) (d + 0) x1 x2 x3 I J
def RX9_sell_0 (N d n : Nat) (X : lt_X) (x1 : Int32) (x2 : Int32) (x3 : Int32) (I : Nat → Nat → Int32) (J : Nat → Nat → Int64) : am_O := am_run (am_G am_prog (N + 30) (d + 2)) eX9_sell uX9_sell n 0 [(0, .ref 135), (1, .int x1), (2, .int x2), (3, .int x3)] [] (mkh X I J)
def KX9_sell_0 (N d n : Nat) (a0 : Int32) (a1 : Int32) (a2 : Int32) (z : Int32) (h : am_H) : am_O := if z = nI 0 then am_cI (am_G am_prog (N + 30) (d + 2) 188 [.ref 135, .int (nI 2)] h) (fun r2 h1 => some (.int r2, h1)) else am_cI (am_G am_prog (N + 30) (d + 2) 260 [.ref 135, .long a1.toInt64] h) (fun r4 h3 => if r4 = nI 0 then am_cI (am_G am_prog (N + 30) (d + 2) 188 [.ref 135, .int (nI 2)] h3) (fun r6 h5 => some (.int r6, h5)) else am_cI (am_G am_prog (N + 30) (d + 2) 190 [.long a2.toInt64, .long (lN 0), .long (lN 999)] h3) (fun r8 h7 => if r8 = nI 0 then am_cI (am_G am_prog (N + 30) (d + 2) 188 [.ref 135, .int (nI 5)] h7) (fun r10 h9 => some (.int r10, h9)) else am_cI (am_G am_prog (N + 30) (d + 2) 281 [.ref 135, .int a0, .int a1, .int a2] h7) (fun r12 h11 => if r12 = nI 0 then am_cI (am_G am_prog (N + 30) (d + 2) 188 [.ref 135, .int (nI 9)] h11) (fun r14 h13 => some (.int r14, h13)) else am_gR h11 9 135 20 (fun y15 => am_lI h11 10 y15 ((nI 37) + a1) (fun y16 => some (.int y16, h11))))))
def KX9_sell_1 (N d n : Nat) (a0 : Int32) (a1 : Int32) (a2 : Int32) (z : Int32) (h : am_H) : am_O := if z = nI 0 then am_cI (am_G am_prog (N + 30) (d + 2) 188 [.ref 135, .int (nI 2)] h) (fun r2 h1 => some (.int r2, h1)) else am_cI (am_G am_prog (N + 30) (d + 2) 190 [.long a2.toInt64, .long (lN 0), .long (lN 999)] h) (fun r4 h3 => if r4 = nI 0 then am_cI (am_G am_prog (N + 30) (d + 2) 188 [.ref 135, .int (nI 5)] h3) (fun r6 h5 => some (.int r6, h5)) else am_cI (am_G am_prog (N + 30) (d + 2) 281 [.ref 135, .int a0, .int a1, .int a2] h3) (fun r8 h7 => if r8 = nI 0 then am_cI (am_G am_prog (N + 30) (d + 2) 188 [.ref 135, .int (nI 9)] h7) (fun r10 h9 => some (.int r10, h9)) else am_gR h7 9 135 20 (fun y11 => am_lI h7 10 y11 ((nI 37) + a1) (fun y12 => some (.int y12, h7)))))
def KX9_sell_2 (N d n : Nat) (a0 : Int32) (a1 : Int32) (a2 : Int32) (z : Int32) (h : am_H) : am_O := if z = nI 0 then am_cI (am_G am_prog (N + 30) (d + 2) 188 [.ref 135, .int (nI 5)] h) (fun r2 h1 => some (.int r2, h1)) else am_cI (am_G am_prog (N + 30) (d + 2) 281 [.ref 135, .int a0, .int a1, .int a2] h) (fun r4 h3 => if r4 = nI 0 then am_cI (am_G am_prog (N + 30) (d + 2) 188 [.ref 135, .int (nI 9)] h3) (fun r6 h5 => some (.int r6, h5)) else am_gR h3 9 135 20 (fun y7 => am_lI h3 10 y7 ((nI 37) + a1) (fun y8 => some (.int y8, h3))))
def KX9_sell_3 (N d n : Nat) (a0 : Int32) (z : Int32) (h : am_H) : am_O := if z = nI 0 then am_cI (am_G am_prog (N + 30) (d + 2) 188 [.ref 135, .int (nI 9)] h) (fun r2 h1 => some (.int r2, h1)) else am_gR h 9 135 20 (fun y3 => am_lI h 10 y3 ((nI 37) + a0) (fun y4 => some (.int y4, h)))
set_option maxHeartbeats 4000000 in
set_option maxRecDepth 100000 in
theorem sX9_sell_0 (N d n : Nat) {X : lt_X} (x1 : Int32) (x2 : Int32) (x3 : Int32) (I : Nat → Nat → Int32) (J : Nat → Nat → Int64) : RX9_sell_0 N d (n + 1) X x1 x2 x3 I J = am_cI (am_G am_prog (N + 30) (d + 2) 261 [.ref 135, .int x1] (mkh X (u2 (u2 I 135 1 (nI 0)) 135 0 (nI 0)) J)) (KX9_sell_0 N d n x1 x2 x3) := by
  rfl
set_option maxHeartbeats 4000000 in
set_option maxRecDepth 100000 in
theorem kX9_sell_0 (N d n : Nat) {X : lt_X} (a0 : Int32) (a1 : Int32) (a2 : Int32) (z : Int32) (I : Nat → Nat → Int32) (J : Nat → Nat → Int64) : KX9_sell_0 N d n a0 a1 a2 z (mkh X I J) = if z = nI 0 then some (.int (-1), (mkh X (u2 I 135 0 (nI 2)) J)) else am_cI (am_G am_prog (N + 30) (d + 2) 260 [.ref 135, .long a1.toInt64] (mkh X I J)) (KX9_sell_1 N d n a0 a1 a2) := by
  rfl
set_option maxHeartbeats 4000000 in
set_option maxRecDepth 100000 in
theorem kX9_sell_1 (N d n : Nat) {X : lt_X} (a0 : Int32) (a1 : Int32) (a2 : Int32) (z : Int32) (I : Nat → Nat → Int32) (J : Nat → Nat → Int64) : KX9_sell_1 N d n a0 a1 a2 z (mkh X I J) = if z = nI 0 then some (.int (-1), (mkh X (u2 I 135 0 (nI 2)) J)) else am_cI (am_G am_prog (N + 30) (d + 2) 190 [.long a2.toInt64, .long (lN 0), .long (lN 999)] (mkh X I J)) (KX9_sell_2 N d n a0 a1 a2) := by
  rfl
set_option maxHeartbeats 4000000 in
set_option maxRecDepth 100000 in
theorem kX9_sell_2 (N d n : Nat) {X : lt_X} (a0 : Int32) (a1 : Int32) (a2 : Int32) (z : Int32) (I : Nat → Nat → Int32) (J : Nat → Nat → Int64) : KX9_sell_2 N d n a0 a1 a2 z (mkh X I J) = if z = nI 0 then some (.int (-1), (mkh X (u2 I 135 0 (nI 5)) J)) else am_cI (am_G am_prog (N + 30) (d + 2) 281 [.ref 135, .int a0, .int a1, .int a2] (mkh X I J)) (KX9_sell_3 N d n a1) := by
  rfl
set_option maxHeartbeats 4000000 in
set_option maxRecDepth 100000 in
theorem kX9_sell_3 (N d n : Nat) {X : lt_X} (a0 : Int32) (z : Int32) (I : Nat → Nat → Int32) (J : Nat → Nat → Int64) : KX9_sell_3 N d n a0 z (mkh X I J) = if z = nI 0 then some (.int (-1), (mkh X (u2 I 135 0 (nI 9)) J)) else if am_in ((nI 37) + a0) 2145 then some (.int (I 140 (((nI 37) + a0).toNatClampNeg)), (mkh X I J)) else none := by
  rfl
theorem fX9_sell (N d : Nat) {X : lt_X} (x1 : Int32) (x2 : Int32) (x3 : Int32) (I : Nat → Nat → Int32) (J : Nat → Nat → Int64) : am_G am_prog N (d + 1) 282 [.ref 135, .int x1, .int x2, .int x3] (mkh X I J) = am_run (am_G am_prog N d) eX9_sell uX9_sell N 0 [(0, .ref 135), (1, .int x1), (2, .int x2), (3, .int x3)] [] (mkh X I J) := by
  refine (am_G_at N d 282 mX9_sell _ _ rfl).trans ?_
  rfl
theorem gX9_sell (N d : Nat) {X : lt_X} (x1 : Int32) (x2 : Int32) (x3 : Int32) (I : Nat → Nat → Int32) (J : Nat → Nat → Int64) : am_G am_prog (N + 30) (d + 3) 282 [.ref 135, .int x1, .int x2, .int x3] (mkh X I J) = RX9_sell_0 N d (N + 30) X x1 x2 x3 I J := fX9_sell (N + 30) (d + 2) x1 x2 x3 I J
def RX9_becomes_0 (N d n : Nat) (X : lt_X) (x1 : Int32) (x2 : Int32) (I : Nat → Nat → Int32) (J : Nat → Nat → Int64) : am_O := am_run (am_G am_prog (N + 30) (d + 0)) eX9_becomes uX9_becomes n 0 [(0, .ref 135), (1, .int x1), (2, .int x2)] [] (mkh X I J)
set_option maxHeartbeats 4000000 in
set_option maxRecDepth 100000 in
theorem sX9_becomes_0 (N d n : Nat) {X : lt_X} (x1 : Int32) (x2 : Int32) (I : Nat → Nat → Int32) (J : Nat → Nat → Int64) : RX9_becomes_0 N d (n + 1) X x1 x2 I J = if am_in x1 2145 then if (I 140 x1.toNatClampNeg) = x2 then some (.int (nI 0), (mkh X I J)) else if am_in x1 2145 then some (.int (nI 1), (mkh X (u2 I 140 x1.toNatClampNeg x2) J)) else none else none := by
  rfl
theorem fX9_becomes (N d : Nat) {X : lt_X} (x1 : Int32) (x2 : Int32) (I : Nat → Nat → Int32) (J : Nat → Nat → Int64) : am_G am_prog N (d + 1) 283 [.ref 135, .int x1, .int x2] (mkh X I J) = am_run (am_G am_prog N d) eX9_becomes uX9_becomes N 0 [(0, .ref 135), (1, .int x1), (2, .int x2)] [] (mkh X I J) := by
  refine (am_G_at N d 283 mX9_becomes _ _ rfl).trans ?_
  rfl
theorem gX9_becomes (N d : Nat) {X : lt_X} (x1 : Int32) (x2 : Int32) (I : Nat → Nat → Int32) (J : Nat → Nat → Int64) : am_G am_prog (N + 30) (d + 1) 283 [.ref 135, .int x1, .int x2] (mkh X I J) = RX9_becomes_0 N d (N + 30) X x1 x2 I J := fX9_becomes (N + 30) (d + 0) x1 x2 I J
def RX9_give_0 (N d n : Nat) (X : lt_X) (x1 : Int32) (x2 : Int32) (I : Nat → Nat → Int32) (J : Nat → Nat → Int64) : am_O := am_run (am_G am_prog (N + 30) (d + 2)) eX9_give uX9_give n 0 [(0, .ref 135), (1, .int x1), (2, .int x2)] [] (mkh X I J)
def KX9_give_0 (N d n : Nat) (a0 : Int32) (a1 : Int32) (z : Int32) (h : am_H) : am_O := if z = nI 0 then am_cI (am_G am_prog (N + 30) (d + 2) 188 [.ref 135, .int (nI 2)] h) (fun r2 h1 => some (.int r2, h1)) else am_cI (am_G am_prog (N + 30) (d + 2) 260 [.ref 135, .long a1.toInt64] h) (fun r4 h3 => if r4 = nI 0 then am_cI (am_G am_prog (N + 30) (d + 2) 188 [.ref 135, .int (nI 2)] h3) (fun r6 h5 => some (.int r6, h5)) else am_cI (am_G am_prog (N + 30) (d + 2) 283 [.ref 135, .int ((nI 67) + a0), .int a1] h3) (fun r8 h7 => if r8 = nI 0 then am_cI (am_G am_prog (N + 30) (d + 2) 188 [.ref 135, .int (nI 9)] h7) (fun r10 h9 => some (.int r10, h9)) else am_cI (am_G am_prog (N + 30) (d + 2) 262 [.ref 135, .int a1] h7) (fun r12 h11 => am_cI (am_G am_prog (N + 30) (d + 2) 202 [.int r12] h11) (fun r14 h13 => some (.int r14, h13)))))
def KX9_give_1 (N d n : Nat) (a0 : Int32) (a1 : Int32) (z : Int32) (h : am_H) : am_O := if z = nI 0 then am_cI (am_G am_prog (N + 30) (d + 2) 188 [.ref 135, .int (nI 2)] h) (fun r2 h1 => some (.int r2, h1)) else am_cI (am_G am_prog (N + 30) (d + 2) 283 [.ref 135, .int ((nI 67) + a0), .int a1] h) (fun r4 h3 => if r4 = nI 0 then am_cI (am_G am_prog (N + 30) (d + 2) 188 [.ref 135, .int (nI 9)] h3) (fun r6 h5 => some (.int r6, h5)) else am_cI (am_G am_prog (N + 30) (d + 2) 262 [.ref 135, .int a1] h3) (fun r8 h7 => am_cI (am_G am_prog (N + 30) (d + 2) 202 [.int r8] h7) (fun r10 h9 => some (.int r10, h9))))
def KX9_give_2 (N d n : Nat) (a0 : Int32) (z : Int32) (h : am_H) : am_O := if z = nI 0 then am_cI (am_G am_prog (N + 30) (d + 2) 188 [.ref 135, .int (nI 9)] h) (fun r2 h1 => some (.int r2, h1)) else am_cI (am_G am_prog (N + 30) (d + 2) 262 [.ref 135, .int a0] h) (fun r4 h3 => am_cI (am_G am_prog (N + 30) (d + 2) 202 [.int r4] h3) (fun r6 h5 => some (.int r6, h5)))
def KX9_give_3 (N d n : Nat) (z : Int32) (h : am_H) : am_O := am_cI (am_G am_prog (N + 30) (d + 2) 202 [.int z] h) (fun r2 h1 => some (.int r2, h1))
def KX9_give_4 (N d n : Nat) (z : Int32) (h : am_H) : am_O := some (.int z, h)
set_option maxHeartbeats 4000000 in
set_option maxRecDepth 100000 in
theorem sX9_give_0 (N d n : Nat) {X : lt_X} (x1 : Int32) (x2 : Int32) (I : Nat → Nat → Int32) (J : Nat → Nat → Int64) : RX9_give_0 N d (n + 1) X x1 x2 I J = am_cI (am_G am_prog (N + 30) (d + 2) 261 [.ref 135, .int x1] (mkh X (u2 (u2 I 135 1 (nI 0)) 135 0 (nI 0)) J)) (KX9_give_0 N d n x1 x2) := by
  rfl
set_option maxHeartbeats 4000000 in
set_option maxRecDepth 100000 in
theorem kX9_give_0 (N d n : Nat) {X : lt_X} (a0 : Int32) (a1 : Int32) (z : Int32) (I : Nat → Nat → Int32) (J : Nat → Nat → Int64) : KX9_give_0 N d n a0 a1 z (mkh X I J) = if z = nI 0 then some (.int (-1), (mkh X (u2 I 135 0 (nI 2)) J)) else am_cI (am_G am_prog (N + 30) (d + 2) 260 [.ref 135, .long a1.toInt64] (mkh X I J)) (KX9_give_1 N d n a0 a1) := by
  rfl
set_option maxHeartbeats 4000000 in
set_option maxRecDepth 100000 in
theorem kX9_give_1 (N d n : Nat) {X : lt_X} (a0 : Int32) (a1 : Int32) (z : Int32) (I : Nat → Nat → Int32) (J : Nat → Nat → Int64) : KX9_give_1 N d n a0 a1 z (mkh X I J) = if z = nI 0 then some (.int (-1), (mkh X (u2 I 135 0 (nI 2)) J)) else am_cI (am_G am_prog (N + 30) (d + 2) 283 [.ref 135, .int ((nI 67) + a0), .int a1] (mkh X I J)) (KX9_give_2 N d n a1) := by
  rfl
set_option maxHeartbeats 4000000 in
set_option maxRecDepth 100000 in
theorem kX9_give_2 (N d n : Nat) {X : lt_X} (a0 : Int32) (z : Int32) (I : Nat → Nat → Int32) (J : Nat → Nat → Int64) : KX9_give_2 N d n a0 z (mkh X I J) = if z = nI 0 then some (.int (-1), (mkh X (u2 I 135 0 (nI 9)) J)) else am_cI (am_G am_prog (N + 30) (d + 2) 262 [.ref 135, .int a0] (mkh X I J)) (KX9_give_3 N d n ) := by
  rfl
set_option maxHeartbeats 4000000 in
set_option maxRecDepth 100000 in
theorem kX9_give_3 (N d n : Nat) {X : lt_X} (z : Int32) (I : Nat → Nat → Int32) (J : Nat → Nat → Int64) : KX9_give_3 N d n z (mkh X I J) = am_cI (am_G am_prog (N + 30) (d + 2) 202 [.int z] (mkh X I J)) (KX9_give_4 N d n ) := by
  rfl
set_option maxHeartbeats 4000000 in
set_option maxRecDepth 100000 in
theorem kX9_give_4 (N d n : Nat) {X : lt_X} (z : Int32) (I : Nat → Nat → Int32) (J : Nat → Nat → Int64) : KX9_give_4 N d n z (mkh X I J) = some (.int z, (mkh X I J)) := by
  rfl
theorem fX9_give (N d : Nat) {X : lt_X} (x1 : Int32) (x2 : Int32) (I : Nat → Nat → Int32) (J : Nat → Nat → Int64) : am_G am_prog N (d + 1) 284 [.ref 135, .int x1, .int x2] (mkh X I J) = am_run (am_G am_prog N d) eX9_give uX9_give N 0 [(0, .ref 135), (1, .int x1), (2, .int x2)] [] (mkh X I J) := by
  refine (am_G_at N d 284 mX9_give _ _ rfl).trans ?_
  rfl
theorem gX9_give (N d : Nat) {X : lt_X} (x1 : Int32) (x2 : Int32) (I : Nat → Nat → Int32) (J : Nat → Nat → Int64) : am_G am_prog (N + 30) (d + 3) 284 [.ref 135, .int x1, .int x2] (mkh X I J) = RX9_give_0 N d (N + 30) X x1 x2 I J := fX9_give (N + 30) (d + 2) x1 x2 I J
def RX9_dump_0 (N d n : Nat) (X : lt_X) (x1 : Int32) (I : Nat → Nat → Int32) (J : Nat → Nat → Int64) : am_O := am_run (am_G am_prog (N + 30) (d + 2)) eX9_dump uX9_dump n 0 [(0, .ref 135), (1, .int x1)] [] (mkh X I J)
def KX9_dump_0 (N d n : Nat) (a0 : Int32) (z : Int32) (h : am_H) : am_O := if z = nI 0 then am_cI (am_G am_prog (N + 30) (d + 2) 188 [.ref 135, .int (nI 2)] h) (fun r2 h1 => some (.int r2, h1)) else am_gR h 9 135 20 (fun y3 => am_lI h 10 y3 ((nI 67) + a0) (fun y4 => am_cI (am_G am_prog (N + 30) (d + 2) 283 [.ref 135, .int ((nI 67) + a0), .int (-1)] h) (fun r6 h5 => if r6 = nI 0 then am_cI (am_G am_prog (N + 30) (d + 2) 188 [.ref 135, .int (nI 8)] h5) (fun r8 h7 => some (.int r8, h7)) else some (.int y4, h5))))
def KX9_dump_1 (N d n : Nat) (a0 : Int32) (z : Int32) (h : am_H) : am_O := if z = nI 0 then am_cI (am_G am_prog (N + 30) (d + 2) 188 [.ref 135, .int (nI 8)] h) (fun r2 h1 => some (.int r2, h1)) else some (.int a0, h)
set_option maxHeartbeats 4000000 in
set_option maxRecDepth 100000 in
theorem sX9_dump_0 (N d n : Nat) {X : lt_X} (x1 : Int32) (I : Nat → Nat → Int32) (J : Nat → Nat → Int64) : RX9_dump_0 N d (n + 1) X x1 I J = am_cI (am_G am_prog (N + 30) (d + 2) 261 [.ref 135, .int x1] (mkh X (u2 (u2 I 135 1 (nI 0)) 135 0 (nI 0)) J)) (KX9_dump_0 N d n x1) := by
  rfl
set_option maxHeartbeats 4000000 in
set_option maxRecDepth 100000 in
theorem kX9_dump_0 (N d n : Nat) {X : lt_X} (a0 : Int32) (z : Int32) (I : Nat → Nat → Int32) (J : Nat → Nat → Int64) : KX9_dump_0 N d n a0 z (mkh X I J) = if z = nI 0 then some (.int (-1), (mkh X (u2 I 135 0 (nI 2)) J)) else if am_in ((nI 67) + a0) 2145 then am_cI (am_G am_prog (N + 30) (d + 2) 283 [.ref 135, .int ((nI 67) + a0), .int (-1)] (mkh X I J)) (KX9_dump_1 N d n (I 140 (((nI 67) + a0).toNatClampNeg))) else none := by
  rfl
set_option maxHeartbeats 4000000 in
set_option maxRecDepth 100000 in
theorem kX9_dump_1 (N d n : Nat) {X : lt_X} (a0 : Int32) (z : Int32) (I : Nat → Nat → Int32) (J : Nat → Nat → Int64) : KX9_dump_1 N d n a0 z (mkh X I J) = if z = nI 0 then some (.int (-1), (mkh X (u2 I 135 0 (nI 8)) J)) else some (.int a0, (mkh X I J)) := by
  rfl
theorem fX9_dump (N d : Nat) {X : lt_X} (x1 : Int32) (I : Nat → Nat → Int32) (J : Nat → Nat → Int64) : am_G am_prog N (d + 1) 285 [.ref 135, .int x1] (mkh X I J) = am_run (am_G am_prog N d) eX9_dump uX9_dump N 0 [(0, .ref 135), (1, .int x1)] [] (mkh X I J) := by
  refine (am_G_at N d 285 mX9_dump _ _ rfl).trans ?_
  rfl
theorem gX9_dump (N d : Nat) {X : lt_X} (x1 : Int32) (I : Nat → Nat → Int32) (J : Nat → Nat → Int64) : am_G am_prog (N + 30) (d + 3) 285 [.ref 135, .int x1] (mkh X I J) = RX9_dump_0 N d (N + 30) X x1 I J := fX9_dump (N + 30) (d + 2) x1 I J
def RX9_chills_0 (N d n : Nat) (X : lt_X) (x1 : Int32) (x2 : Int32) (I : Nat → Nat → Int32) (J : Nat → Nat → Int64) : am_O := am_run (am_G am_prog (N + 30) (d + 0)) eX9_chills uX9_chills n 0 [(0, .ref 135), (1, .int x1), (2, .int x2)] [] (mkh X I J)
def RX9_chills_17 (N d n : Nat) (X : lt_X) (x1 : Int32) (x2 : Int32) (I : Nat → Nat → Int32) (J : Nat → Nat → Int64) : am_O := am_run (am_G am_prog (N + 30) (d + 0)) eX9_chills uX9_chills n 17 [(0, .ref 135), (1, .int x1), (2, .int x2)] [] (mkh X I J)
def KX9_chills_0 (N d n : Nat) (z : Int32) (h : am_H) : am_O := if z = nI 0 then some (.int (nI 0), h) else some (.int (nI 1), h)
set_option maxHeartbeats 4000000 in
set_option maxRecDepth 100000 in
theorem sX9_chills_0 (N d n : Nat) {X : lt_X} (x1 : Int32) (x2 : Int32) (I : Nat → Nat → Int32) (J : Nat → Nat → Int64) : RX9_chills_0 N d (n + 1) X x1 x2 I J = if x2 = nI 0 then RX9_chills_17 N d n X x1 x2 I J else if am_in ((nI 25) + x1) 2145 then if (I 140 (((nI 25) + x1).toNatClampNeg)) = (nI 1) then RX9_chills_17 N d n X x1 x2 I J else some (.int (nI 0), (mkh X I J)) else none := by
  rfl
set_option maxHeartbeats 4000000 in
set_option maxRecDepth 100000 in
theorem sX9_chills_17 (N d n : Nat) {X : lt_X} (x1 : Int32) (x2 : Int32) (I : Nat → Nat → Int32) (J : Nat → Nat → Int64) : RX9_chills_17 N d (n + 1) X x1 x2 I J = if x2 = nI 0 then am_cI (am_G am_prog (N + 30) (d + 0) 283 [.ref 135, .int ((nI 31) + x1), .int (nI 0)] (mkh X I J)) (KX9_chills_0 N d n ) else am_cI (am_G am_prog (N + 30) (d + 0) 283 [.ref 135, .int ((nI 31) + x1), .int (nI 1)] (mkh X I J)) (KX9_chills_0 N d n ) := by
  rfl
set_option maxHeartbeats 4000000 in
set_option maxRecDepth 100000 in
theorem kX9_chills_0 (N d n : Nat) {X : lt_X} (z : Int32) (I : Nat → Nat → Int32) (J : Nat → Nat → Int64) : KX9_chills_0 N d n z (mkh X I J) = if z = nI 0 then some (.int (nI 0), (mkh X I J)) else some (.int (nI 1), (mkh X I J)) := by
  rfl
theorem fX9_chills (N d : Nat) {X : lt_X} (x1 : Int32) (x2 : Int32) (I : Nat → Nat → Int32) (J : Nat → Nat → Int64) : am_G am_prog N (d + 1) 286 [.ref 135, .int x1, .int x2] (mkh X I J) = am_run (am_G am_prog N d) eX9_chills uX9_chills N 0 [(0, .ref 135), (1, .int x1), (2, .int x2)] [] (mkh X I J) := by
  refine (am_G_at N d 286 mX9_chills _ _ rfl).trans ?_
  rfl
theorem gX9_chills (N d : Nat) {X : lt_X} (x1 : Int32) (x2 : Int32) (I : Nat → Nat → Int32) (J : Nat → Nat → Int64) : am_G am_prog (N + 30) (d + 1) 286 [.ref 135, .int x1, .int x2] (mkh X I J) = RX9_chills_0 N d (N + 30) X x1 x2 I J := fX9_chills (N + 30) (d + 0) x1 x2 I J
def RX9_cold_0 (N d n : Nat) (X : lt_X) (x1 : Int32) (x2 : Int32) (I : Nat → Nat → Int32) (J : Nat → Nat → Int64) : am_O := am_run (am_G am_prog (N + 30) (d + 2)) eX9_cold uX9_cold n 0 [(0, .ref 135), (1, .int x1), (2, .int x2)] [] (mkh X I J)
def KX9_cold_0 (N d n : Nat) (a0 : Int32) (a1 : Int32) (z : Int32) (h : am_H) : am_O := if z = nI 0 then am_cI (am_G am_prog (N + 30) (d + 2) 189 [.ref 135, .int (nI 2)] h) (fun r2 h1 => am_nb r2 (some (.int r2, h1))) else am_cI (am_G am_prog (N + 30) (d + 2) 286 [.ref 135, .int a0, .int a1] h) (fun r4 h3 => if r4 = nI 0 then am_cI (am_G am_prog (N + 30) (d + 2) 189 [.ref 135, .int (nI 9)] h3) (fun r6 h5 => if r6 = nI 0 then some (.int (nI 0), h5) else some (.int (nI 1), h5)) else some (.int (nI 1), h3))
def KX9_cold_1 (N d n : Nat) (z : Int32) (h : am_H) : am_O := if z = nI 0 then am_cI (am_G am_prog (N + 30) (d + 2) 189 [.ref 135, .int (nI 9)] h) (fun r2 h1 => if r2 = nI 0 then some (.int (nI 0), h1) else some (.int (nI 1), h1)) else some (.int (nI 1), h)
set_option maxHeartbeats 4000000 in
set_option maxRecDepth 100000 in
theorem sX9_cold_0 (N d n : Nat) {X : lt_X} (x1 : Int32) (x2 : Int32) (I : Nat → Nat → Int32) (J : Nat → Nat → Int64) : RX9_cold_0 N d (n + 1) X x1 x2 I J = am_cI (am_G am_prog (N + 30) (d + 2) 259 [.ref 135, .int x1] (mkh X (u2 (u2 I 135 1 (nI 0)) 135 0 (nI 0)) J)) (KX9_cold_0 N d n x1 x2) := by
  rfl
set_option maxHeartbeats 4000000 in
set_option maxRecDepth 100000 in
theorem kX9_cold_0 (N d n : Nat) {X : lt_X} (a0 : Int32) (a1 : Int32) (z : Int32) (I : Nat → Nat → Int32) (J : Nat → Nat → Int64) : KX9_cold_0 N d n a0 a1 z (mkh X I J) = if z = nI 0 then some (.int (nI 0), (mkh X (u2 I 135 0 (nI 2)) J)) else am_cI (am_G am_prog (N + 30) (d + 2) 286 [.ref 135, .int a0, .int a1] (mkh X I J)) (KX9_cold_1 N d n ) := by
  rfl
set_option maxHeartbeats 4000000 in
set_option maxRecDepth 100000 in
theorem kX9_cold_1 (N d n : Nat) {X : lt_X} (z : Int32) (I : Nat → Nat → Int32) (J : Nat → Nat → Int64) : KX9_cold_1 N d n z (mkh X I J) = if z = nI 0 then some (.int (nI 0), (mkh X (u2 I 135 0 (nI 9)) J)) else some (.int (nI 1), (mkh X I J)) := by
  rfl
theorem fX9_cold (N d : Nat) {X : lt_X} (x1 : Int32) (x2 : Int32) (I : Nat → Nat → Int32) (J : Nat → Nat → Int64) : am_G am_prog N (d + 1) 287 [.ref 135, .int x1, .int x2] (mkh X I J) = am_run (am_G am_prog N d) eX9_cold uX9_cold N 0 [(0, .ref 135), (1, .int x1), (2, .int x2)] [] (mkh X I J) := by
  refine (am_G_at N d 287 mX9_cold _ _ rfl).trans ?_
  rfl
theorem gX9_cold (N d : Nat) {X : lt_X} (x1 : Int32) (x2 : Int32) (I : Nat → Nat → Int32) (J : Nat → Nat → Int64) : am_G am_prog (N + 30) (d + 3) 287 [.ref 135, .int x1, .int x2] (mkh X I J) = RX9_cold_0 N d (N + 30) X x1 x2 I J := fX9_cold (N + 30) (d + 2) x1 x2 I J
def RX9_flaw_0 (N d n : Nat) (X : lt_X) (x1 : Int32) (x2 : Int32) (I : Nat → Nat → Int32) (J : Nat → Nat → Int64) : am_O := am_run (am_G am_prog (N + 30) (d + 2)) eX9_flaw uX9_flaw n 0 [(0, .ref 135), (1, .int x1), (2, .int x2)] [] (mkh X I J)
def RX9_flaw_38 (N d n : Nat) (X : lt_X) (x1 : Int32) (x2 : Int32) (I : Nat → Nat → Int32) (J : Nat → Nat → Int64) : am_O := am_run (am_G am_prog (N + 30) (d + 2)) eX9_flaw uX9_flaw n 38 [(0, .ref 135), (1, .int x1), (2, .int x2)] [] (mkh X I J)
def RX9_flaw_67 (N d n : Nat) (X : lt_X) (s0 : Int32) (s1 : Int32) (s2 : Nat) (I : Nat → Nat → Int32) (J : Nat → Nat → Int64) : am_O := am_run (am_G am_prog (N + 30) (d + 2)) eX9_flaw uX9_flaw n 67 [(0, .ref 135)] [.int s0, .int s1, .ref s2] (mkh X I J)
def KX9_flaw_0 (N d n : Nat) (a0 : Int32) (a1 : Int32) (z : Int32) (h : am_H) : am_O := if z = nI 0 then am_cI (am_G am_prog (N + 30) (d + 2) 189 [.ref 135, .int (nI 2)] h) (fun r2 h1 => am_nb r2 (some (.int r2, h1))) else if a1 = (nI 6) then am_run (am_G am_prog (N + 30) (d + 2)) eX9_flaw uX9_flaw n 38 [(0, .ref 135), (1, .int a0), (2, .int a1)] [] h else am_cI (am_G am_prog (N + 30) (d + 2) 259 [.ref 135, .int a1] h) (fun r4 h3 => if r4 = nI 0 then am_cI (am_G am_prog (N + 30) (d + 2) 189 [.ref 135, .int (nI 2)] h3) (fun r6 h5 => am_nb r6 (some (.int r6, h5))) else am_run (am_G am_prog (N + 30) (d + 2)) eX9_flaw uX9_flaw n 38 [(0, .ref 135), (1, .int a0), (2, .int a1)] [] h3)
def KX9_flaw_1 (N d n : Nat) (z : Int32) (h : am_H) : am_O := if z = nI 0 then am_cI (am_G am_prog (N + 30) (d + 2) 189 [.ref 135, .int (nI 9)] h) (fun r2 h1 => if r2 = nI 0 then some (.int (nI 0), h1) else some (.int (nI 1), h1)) else some (.int (nI 1), h)
def KX9_flaw_2 (N d n : Nat) (a0 : Int32) (a1 : Int32) (z : Int32) (h : am_H) : am_O := if z = nI 0 then am_cI (am_G am_prog (N + 30) (d + 2) 189 [.ref 135, .int (nI 2)] h) (fun r2 h1 => am_nb r2 (some (.int r2, h1))) else am_run (am_G am_prog (N + 30) (d + 2)) eX9_flaw uX9_flaw n 38 [(0, .ref 135), (1, .int a0), (2, .int a1)] [] h
set_option maxHeartbeats 4000000 in
set_option maxRecDepth 100000 in
theorem sX9_flaw_0 (N d n : Nat) {X : lt_X} (x1 : Int32) (x2 : Int32) (I : Nat → Nat → Int32) (J : Nat → Nat → Int64) : RX9_flaw_0 N d (n + 1) X x1 x2 I J = am_cI (am_G am_prog (N + 30) (d + 2) 261 [.ref 135, .int x1] (mkh X (u2 (u2 I 135 1 (nI 0)) 135 0 (nI 0)) J)) (KX9_flaw_0 N d n x1 x2) := by
  rfl
set_option maxHeartbeats 4000000 in
set_option maxRecDepth 100000 in
theorem sX9_flaw_38 (N d n : Nat) {X : lt_X} (x1 : Int32) (x2 : Int32) (I : Nat → Nat → Int32) (J : Nat → Nat → Int64) : RX9_flaw_38 N d (n + 1) X x1 x2 I J = if am_in ((nI 55) + x1) 2145 then if x2 = (I 140 (((nI 55) + x1).toNatClampNeg)) then some (.int (nI 0), (mkh X (u2 I 135 0 (nI 9)) J)) else if x2 = (nI 6) then am_run (am_G am_prog (N + 30) (d + 2)) eX9_flaw uX9_flaw n 67 [(0, .ref 135)] [.int (-1), .int ((nI 61) + x1), .ref 135] (mkh X I J) else am_run (am_G am_prog (N + 30) (d + 2)) eX9_flaw uX9_flaw n 67 [(0, .ref 135)] [.int x2, .int ((nI 61) + x1), .ref 135] (mkh X I J) else none := by
  rfl
set_option maxHeartbeats 4000000 in
set_option maxRecDepth 100000 in
theorem sX9_flaw_67 (N d n : Nat) {X : lt_X} (s0 : Int32) (s1 : Int32) (s2 : Nat) (I : Nat → Nat → Int32) (J : Nat → Nat → Int64) : RX9_flaw_67 N d (n + 1) X s0 s1 s2 I J = am_cI (am_G am_prog (N + 30) (d + 2) 283 [.ref s2, .int s1, .int s0] (mkh X I J)) (KX9_flaw_1 N d n ) := by
  rfl
set_option maxHeartbeats 4000000 in
set_option maxRecDepth 100000 in
theorem kX9_flaw_0 (N d n : Nat) {X : lt_X} (a0 : Int32) (a1 : Int32) (z : Int32) (I : Nat → Nat → Int32) (J : Nat → Nat → Int64) : KX9_flaw_0 N d n a0 a1 z (mkh X I J) = if z = nI 0 then some (.int (nI 0), (mkh X (u2 I 135 0 (nI 2)) J)) else if a1 = (nI 6) then RX9_flaw_38 N d n X a0 a1 I J else am_cI (am_G am_prog (N + 30) (d + 2) 259 [.ref 135, .int a1] (mkh X I J)) (KX9_flaw_2 N d n a0 a1) := by
  rfl
set_option maxHeartbeats 4000000 in
set_option maxRecDepth 100000 in
theorem kX9_flaw_1 (N d n : Nat) {X : lt_X} (z : Int32) (I : Nat → Nat → Int32) (J : Nat → Nat → Int64) : KX9_flaw_1 N d n z (mkh X I J) = if z = nI 0 then some (.int (nI 0), (mkh X (u2 I 135 0 (nI 9)) J)) else some (.int (nI 1), (mkh X I J)) := by
  rfl
set_option maxHeartbeats 4000000 in
set_option maxRecDepth 100000 in
theorem kX9_flaw_2 (N d n : Nat) {X : lt_X} (a0 : Int32) (a1 : Int32) (z : Int32) (I : Nat → Nat → Int32) (J : Nat → Nat → Int64) : KX9_flaw_2 N d n a0 a1 z (mkh X I J) = if z = nI 0 then some (.int (nI 0), (mkh X (u2 I 135 0 (nI 2)) J)) else RX9_flaw_38 N d n X a0 a1 I J := by
  rfl
theorem fX9_flaw (N d : Nat) {X : lt_X} (x1 : Int32) (x2 : Int32) (I : Nat → Nat → Int32) (J : Nat → Nat → Int64) : am_G am_prog N (d + 1) 288 [.ref 135, .int x1, .int x2] (mkh X I J) = am_run (am_G am_prog N d) eX9_flaw uX9_flaw N 0 [(0, .ref 135), (1, .int x1), (2, .int x2)] [] (mkh X I J) := by
  refine (am_G_at N d 288 mX9_flaw _ _ rfl).trans ?_
  rfl
theorem gX9_flaw (N d : Nat) {X : lt_X} (x1 : Int32) (x2 : Int32) (I : Nat → Nat → Int32) (J : Nat → Nat → Int64) : am_G am_prog (N + 30) (d + 3) 288 [.ref 135, .int x1, .int x2] (mkh X I J) = RX9_flaw_0 N d (N + 30) X x1 x2 I J := fX9_flaw (N + 30) (d + 2) x1 x2 I J
def RX9_please_0 (N d n : Nat) (X : lt_X) (x1 : Int32) (x2 : Int32) (x3 : Int32) (I : Nat → Nat → Int32) (J : Nat → Nat → Int64) : am_O := am_run (am_G am_prog (N + 30) (d + 2)) eX9_please uX9_please n 0 [(0, .ref 135), (1, .int x1), (2, .int x2), (3, .int x3)] [] (mkh X I J)
def KX9_please_0 (N d n : Nat) (a0 : Int32) (a1 : Int32) (a2 : Int32) (z : Int32) (h : am_H) : am_O := if z = nI 0 then am_cI (am_G am_prog (N + 30) (d + 2) 188 [.ref 135, .int (nI 2)] h) (fun r2 h1 => some (.int r2, h1)) else am_cI (am_G am_prog (N + 30) (d + 2) 258 [.ref 135, .long a1.toInt64] h) (fun r4 h3 => if r4 = nI 0 then am_cI (am_G am_prog (N + 30) (d + 2) 188 [.ref 135, .int (nI 2)] h3) (fun r6 h5 => some (.int r6, h5)) else am_cI (am_G am_prog (N + 30) (d + 2) 190 [.long a2.toInt64, .long (lN 0), .long (lN 9)] h3) (fun r8 h7 => if r8 = nI 0 then am_cI (am_G am_prog (N + 30) (d + 2) 188 [.ref 135, .int (nI 5)] h7) (fun r10 h9 => some (.int r10, h9)) else am_cI (am_G am_prog (N + 30) (d + 2) 269 [.ref 135, .int a0, .int a1] h7) (fun r12 h11 => am_cI (am_G am_prog (N + 30) (d + 2) 283 [.ref 135, .int (((nI 121) + ((nI 6) * a0)) + a1), .int a2] h11) (fun r14 h13 => if r14 = nI 0 then am_cI (am_G am_prog (N + 30) (d + 2) 188 [.ref 135, .int (nI 9)] h13) (fun r16 h15 => some (.int r16, h15)) else some (.int r12, h13)))))
def KX9_please_1 (N d n : Nat) (a0 : Int32) (a1 : Int32) (a2 : Int32) (z : Int32) (h : am_H) : am_O := if z = nI 0 then am_cI (am_G am_prog (N + 30) (d + 2) 188 [.ref 135, .int (nI 2)] h) (fun r2 h1 => some (.int r2, h1)) else am_cI (am_G am_prog (N + 30) (d + 2) 190 [.long a2.toInt64, .long (lN 0), .long (lN 9)] h) (fun r4 h3 => if r4 = nI 0 then am_cI (am_G am_prog (N + 30) (d + 2) 188 [.ref 135, .int (nI 5)] h3) (fun r6 h5 => some (.int r6, h5)) else am_cI (am_G am_prog (N + 30) (d + 2) 269 [.ref 135, .int a0, .int a1] h3) (fun r8 h7 => am_cI (am_G am_prog (N + 30) (d + 2) 283 [.ref 135, .int (((nI 121) + ((nI 6) * a0)) + a1), .int a2] h7) (fun r10 h9 => if r10 = nI 0 then am_cI (am_G am_prog (N + 30) (d + 2) 188 [.ref 135, .int (nI 9)] h9) (fun r12 h11 => some (.int r12, h11)) else some (.int r8, h9))))
def KX9_please_2 (N d n : Nat) (a0 : Int32) (a1 : Int32) (a2 : Int32) (z : Int32) (h : am_H) : am_O := if z = nI 0 then am_cI (am_G am_prog (N + 30) (d + 2) 188 [.ref 135, .int (nI 5)] h) (fun r2 h1 => some (.int r2, h1)) else am_cI (am_G am_prog (N + 30) (d + 2) 269 [.ref 135, .int a0, .int a1] h) (fun r4 h3 => am_cI (am_G am_prog (N + 30) (d + 2) 283 [.ref 135, .int (((nI 121) + ((nI 6) * a0)) + a1), .int a2] h3) (fun r6 h5 => if r6 = nI 0 then am_cI (am_G am_prog (N + 30) (d + 2) 188 [.ref 135, .int (nI 9)] h5) (fun r8 h7 => some (.int r8, h7)) else some (.int r4, h5)))
def KX9_please_3 (N d n : Nat) (a0 : Int32) (a1 : Int32) (a2 : Int32) (z : Int32) (h : am_H) : am_O := am_cI (am_G am_prog (N + 30) (d + 2) 283 [.ref 135, .int (((nI 121) + ((nI 6) * a0)) + a1), .int a2] h) (fun r2 h1 => if r2 = nI 0 then am_cI (am_G am_prog (N + 30) (d + 2) 188 [.ref 135, .int (nI 9)] h1) (fun r4 h3 => some (.int r4, h3)) else some (.int z, h1))
def KX9_please_4 (N d n : Nat) (a0 : Int32) (z : Int32) (h : am_H) : am_O := if z = nI 0 then am_cI (am_G am_prog (N + 30) (d + 2) 188 [.ref 135, .int (nI 9)] h) (fun r2 h1 => some (.int r2, h1)) else some (.int a0, h)
set_option maxHeartbeats 4000000 in
set_option maxRecDepth 100000 in
theorem sX9_please_0 (N d n : Nat) {X : lt_X} (x1 : Int32) (x2 : Int32) (x3 : Int32) (I : Nat → Nat → Int32) (J : Nat → Nat → Int64) : RX9_please_0 N d (n + 1) X x1 x2 x3 I J = am_cI (am_G am_prog (N + 30) (d + 2) 260 [.ref 135, .long x1.toInt64] (mkh X (u2 (u2 I 135 1 (nI 0)) 135 0 (nI 0)) J)) (KX9_please_0 N d n x1 x2 x3) := by
  rfl
set_option maxHeartbeats 4000000 in
set_option maxRecDepth 100000 in
theorem kX9_please_0 (N d n : Nat) {X : lt_X} (a0 : Int32) (a1 : Int32) (a2 : Int32) (z : Int32) (I : Nat → Nat → Int32) (J : Nat → Nat → Int64) : KX9_please_0 N d n a0 a1 a2 z (mkh X I J) = if z = nI 0 then some (.int (-1), (mkh X (u2 I 135 0 (nI 2)) J)) else am_cI (am_G am_prog (N + 30) (d + 2) 258 [.ref 135, .long a1.toInt64] (mkh X I J)) (KX9_please_1 N d n a0 a1 a2) := by
  rfl
set_option maxHeartbeats 4000000 in
set_option maxRecDepth 100000 in
theorem kX9_please_1 (N d n : Nat) {X : lt_X} (a0 : Int32) (a1 : Int32) (a2 : Int32) (z : Int32) (I : Nat → Nat → Int32) (J : Nat → Nat → Int64) : KX9_please_1 N d n a0 a1 a2 z (mkh X I J) = if z = nI 0 then some (.int (-1), (mkh X (u2 I 135 0 (nI 2)) J)) else am_cI (am_G am_prog (N + 30) (d + 2) 190 [.long a2.toInt64, .long (lN 0), .long (lN 9)] (mkh X I J)) (KX9_please_2 N d n a0 a1 a2) := by
  rfl
set_option maxHeartbeats 4000000 in
set_option maxRecDepth 100000 in
theorem kX9_please_2 (N d n : Nat) {X : lt_X} (a0 : Int32) (a1 : Int32) (a2 : Int32) (z : Int32) (I : Nat → Nat → Int32) (J : Nat → Nat → Int64) : KX9_please_2 N d n a0 a1 a2 z (mkh X I J) = if z = nI 0 then some (.int (-1), (mkh X (u2 I 135 0 (nI 5)) J)) else am_cI (am_G am_prog (N + 30) (d + 2) 269 [.ref 135, .int a0, .int a1] (mkh X I J)) (KX9_please_3 N d n a0 a1 a2) := by
  rfl
set_option maxHeartbeats 4000000 in
set_option maxRecDepth 100000 in
theorem kX9_please_3 (N d n : Nat) {X : lt_X} (a0 : Int32) (a1 : Int32) (a2 : Int32) (z : Int32) (I : Nat → Nat → Int32) (J : Nat → Nat → Int64) : KX9_please_3 N d n a0 a1 a2 z (mkh X I J) = am_cI (am_G am_prog (N + 30) (d + 2) 283 [.ref 135, .int (((nI 121) + ((nI 6) * a0)) + a1), .int a2] (mkh X I J)) (KX9_please_4 N d n z) := by
  rfl
set_option maxHeartbeats 4000000 in
set_option maxRecDepth 100000 in
theorem kX9_please_4 (N d n : Nat) {X : lt_X} (a0 : Int32) (z : Int32) (I : Nat → Nat → Int32) (J : Nat → Nat → Int64) : KX9_please_4 N d n a0 z (mkh X I J) = if z = nI 0 then some (.int (-1), (mkh X (u2 I 135 0 (nI 9)) J)) else some (.int a0, (mkh X I J)) := by
  rfl
theorem fX9_please (N d : Nat) {X : lt_X} (x1 : Int32) (x2 : Int32) (x3 : Int32) (I : Nat → Nat → Int32) (J : Nat → Nat → Int64) : am_G am_prog N (d + 1) 289 [.ref 135, .int x1, .int x2, .int x3] (mkh X I J) = am_run (am_G am_prog N d) eX9_please uX9_please N 0 [(0, .ref 135), (1, .int x1), (2, .int x2), (3, .int x3)] [] (mkh X I J) := by
  refine (am_G_at N d 289 mX9_please _ _ rfl).trans ?_
  rfl
theorem gX9_please (N d : Nat) {X : lt_X} (x1 : Int32) (x2 : Int32) (x3 : Int32) (I : Nat → Nat → Int32) (J : Nat → Nat → Int64) : am_G am_prog (N + 30) (d + 3) 289 [.ref 135, .int x1, .int x2, .int x3] (mkh X I J) = RX9_please_0 N d (N + 30) X x1 x2 x3 I J := fX9_please (N + 30) (d + 2) x1 x2 x3 I J
def RX9_teach_0 (N d n : Nat) (X : lt_X) (x1 : Int32) (x2 : Int32) (I : Nat → Nat → Int32) (J : Nat → Nat → Int64) : am_O := am_run (am_G am_prog (N + 30) (d + 2)) eX9_teach uX9_teach n 0 [(0, .ref 135), (1, .int x1), (2, .int x2)] [] (mkh X I J)
def KX9_teach_0 (N d n : Nat) (a0 : Int32) (a1 : Int32) (z : Int32) (h : am_H) : am_O := if z = nI 0 then am_cI (am_G am_prog (N + 30) (d + 2) 188 [.ref 135, .int (nI 2)] h) (fun r2 h1 => some (.int r2, h1)) else am_cI (am_G am_prog (N + 30) (d + 2) 258 [.ref 135, .long a1.toInt64] h) (fun r4 h3 => if r4 = nI 0 then am_cI (am_G am_prog (N + 30) (d + 2) 188 [.ref 135, .int (nI 2)] h3) (fun r6 h5 => some (.int r6, h5)) else am_gR h3 9 135 20 (fun y7 => am_lI h3 10 y7 ((nI 19) + a0) (fun y8 => if y8 = (nI 8) then am_cI (am_G am_prog (N + 30) (d + 2) 188 [.ref 135, .int (nI 7)] h3) (fun r10 h9 => some (.int r10, h9)) else am_gR h3 9 135 20 (fun y11 => am_tI h3 y11 (((nI 73) + ((nI 8) * a0)) + y8) a1 (fun h12 => am_gR h12 9 135 20 (fun y13 => am_lI h12 10 y13 ((nI 19) + a0) (fun y14 => am_tI h12 y13 ((nI 19) + a0) (y14 + (nI 1)) (fun h15 => some (.int (y8 + (nI 1)), h15)))))))))
def KX9_teach_1 (N d n : Nat) (a0 : Int32) (a1 : Int32) (z : Int32) (h : am_H) : am_O := if z = nI 0 then am_cI (am_G am_prog (N + 30) (d + 2) 188 [.ref 135, .int (nI 2)] h) (fun r2 h1 => some (.int r2, h1)) else am_gR h 9 135 20 (fun y3 => am_lI h 10 y3 ((nI 19) + a0) (fun y4 => if y4 = (nI 8) then am_cI (am_G am_prog (N + 30) (d + 2) 188 [.ref 135, .int (nI 7)] h) (fun r6 h5 => some (.int r6, h5)) else am_gR h 9 135 20 (fun y7 => am_tI h y7 (((nI 73) + ((nI 8) * a0)) + y4) a1 (fun h8 => am_gR h8 9 135 20 (fun y9 => am_lI h8 10 y9 ((nI 19) + a0) (fun y10 => am_tI h8 y9 ((nI 19) + a0) (y10 + (nI 1)) (fun h11 => some (.int (y4 + (nI 1)), h11))))))))
set_option maxHeartbeats 4000000 in
set_option maxRecDepth 100000 in
theorem sX9_teach_0 (N d n : Nat) {X : lt_X} (x1 : Int32) (x2 : Int32) (I : Nat → Nat → Int32) (J : Nat → Nat → Int64) : RX9_teach_0 N d (n + 1) X x1 x2 I J = am_cI (am_G am_prog (N + 30) (d + 2) 259 [.ref 135, .int x1] (mkh X (u2 (u2 I 135 1 (nI 0)) 135 0 (nI 0)) J)) (KX9_teach_0 N d n x1 x2) := by
  rfl
set_option maxHeartbeats 4000000 in
set_option maxRecDepth 100000 in
theorem kX9_teach_0 (N d n : Nat) {X : lt_X} (a0 : Int32) (a1 : Int32) (z : Int32) (I : Nat → Nat → Int32) (J : Nat → Nat → Int64) : KX9_teach_0 N d n a0 a1 z (mkh X I J) = if z = nI 0 then some (.int (-1), (mkh X (u2 I 135 0 (nI 2)) J)) else am_cI (am_G am_prog (N + 30) (d + 2) 258 [.ref 135, .long a1.toInt64] (mkh X I J)) (KX9_teach_1 N d n a0 a1) := by
  rfl
set_option maxHeartbeats 4000000 in
set_option maxRecDepth 100000 in
theorem kX9_teach_1 (N d n : Nat) {X : lt_X} (a0 : Int32) (a1 : Int32) (z : Int32) (I : Nat → Nat → Int32) (J : Nat → Nat → Int64) : KX9_teach_1 N d n a0 a1 z (mkh X I J) = if z = nI 0 then some (.int (-1), (mkh X (u2 I 135 0 (nI 2)) J)) else if am_in ((nI 19) + a0) 2145 then if (I 140 (((nI 19) + a0).toNatClampNeg)) = (nI 8) then some (.int (-1), (mkh X (u2 I 135 0 (nI 7)) J)) else if am_in (((nI 73) + ((nI 8) * a0)) + (I 140 (((nI 19) + a0).toNatClampNeg))) 2145 then if am_in ((nI 19) + a0) 2145 then if am_in ((nI 19) + a0) 2145 then some (.int ((I 140 (((nI 19) + a0).toNatClampNeg)) + (nI 1)), (mkh X (u2 (u2 I 140 ((((nI 73) + ((nI 8) * a0)) + (I 140 (((nI 19) + a0).toNatClampNeg))).toNatClampNeg) a1) 140 (((nI 19) + a0).toNatClampNeg) (((u2 I 140 ((((nI 73) + ((nI 8) * a0)) + (I 140 (((nI 19) + a0).toNatClampNeg))).toNatClampNeg) a1) 140 (((nI 19) + a0).toNatClampNeg)) + (nI 1))) J)) else none else none else none else none := by
  rfl
theorem fX9_teach (N d : Nat) {X : lt_X} (x1 : Int32) (x2 : Int32) (I : Nat → Nat → Int32) (J : Nat → Nat → Int64) : am_G am_prog N (d + 1) 290 [.ref 135, .int x1, .int x2] (mkh X I J) = am_run (am_G am_prog N d) eX9_teach uX9_teach N 0 [(0, .ref 135), (1, .int x1), (2, .int x2)] [] (mkh X I J) := by
  refine (am_G_at N d 290 mX9_teach _ _ rfl).trans ?_
  rfl
theorem gX9_teach (N d : Nat) {X : lt_X} (x1 : Int32) (x2 : Int32) (I : Nat → Nat → Int32) (J : Nat → Nat → Int64) : am_G am_prog (N + 30) (d + 3) 290 [.ref 135, .int x1, .int x2] (mkh X I J) = RX9_teach_0 N d (N + 30) X x1 x2 I J := fX9_teach (N + 30) (d + 2) x1 x2 I J
def RX9_rule_0 (N d n : Nat) (X : lt_X) (x1 : Int32) (I : Nat → Nat → Int32) (J : Nat → Nat → Int64) : am_O := am_run (am_G am_prog (N + 30) (d + 1)) eX9_rule uX9_rule n 0 [(0, .ref 135), (1, .int x1)] [] (mkh X I J)
def KX9_rule_0 (N d n : Nat) (a0 : Int32) (z : Int32) (h : am_H) : am_O := if z = nI 0 then am_cI (am_G am_prog (N + 30) (d + 1) 189 [.ref 135, .int (nI 5)] h) (fun r2 h1 => am_nb r2 (some (.int r2, h1))) else am_gR h 9 135 20 (fun y3 => am_tI h y3 (nI 4) a0 (fun h4 => some (.int (nI 1), h4)))
set_option maxHeartbeats 4000000 in
set_option maxRecDepth 100000 in
theorem sX9_rule_0 (N d n : Nat) {X : lt_X} (x1 : Int32) (I : Nat → Nat → Int32) (J : Nat → Nat → Int64) : RX9_rule_0 N d (n + 1) X x1 I J = am_cI (am_G am_prog (N + 30) (d + 1) 190 [.long x1.toInt64, .long (lN 0), .long (lN 16)] (mkh X (u2 (u2 I 135 1 (nI 0)) 135 0 (nI 0)) J)) (KX9_rule_0 N d n x1) := by
  rfl
set_option maxHeartbeats 4000000 in
set_option maxRecDepth 100000 in
theorem kX9_rule_0 (N d n : Nat) {X : lt_X} (a0 : Int32) (z : Int32) (I : Nat → Nat → Int32) (J : Nat → Nat → Int64) : KX9_rule_0 N d n a0 z (mkh X I J) = if z = nI 0 then some (.int (nI 0), (mkh X (u2 I 135 0 (nI 5)) J)) else some (.int (nI 1), (mkh X (u2 I 140 4 a0) J)) := by
  rfl
theorem fX9_rule (N d : Nat) {X : lt_X} (x1 : Int32) (I : Nat → Nat → Int32) (J : Nat → Nat → Int64) : am_G am_prog N (d + 1) 291 [.ref 135, .int x1] (mkh X I J) = am_run (am_G am_prog N d) eX9_rule uX9_rule N 0 [(0, .ref 135), (1, .int x1)] [] (mkh X I J) := by
  refine (am_G_at N d 291 mX9_rule _ _ rfl).trans ?_
  rfl
theorem gX9_rule (N d : Nat) {X : lt_X} (x1 : Int32) (I : Nat → Nat → Int32) (J : Nat → Nat → Int64) : am_G am_prog (N + 30) (d + 2) 291 [.ref 135, .int x1] (mkh X I J) = RX9_rule_0 N d (N + 30) X x1 I J := fX9_rule (N + 30) (d + 1) x1 I J
def RX9_saysIn_0 (N d n : Nat) (X : lt_X) (x1 : Int32) (x2 : Int32) (I : Nat → Nat → Int32) (J : Nat → Nat → Int64) : am_O := am_run (am_G am_prog (N + 30) (d + 2)) eX9_saysIn uX9_saysIn n 0 [(0, .ref 135), (1, .int x1), (2, .int x2)] [] (mkh X I J)
def KX9_saysIn_0 (N d n : Nat) (a0 : Int32) (a1 : Int32) (z : Int32) (h : am_H) : am_O := if z = nI 0 then am_cI (am_G am_prog (N + 30) (d + 2) 188 [.ref 135, .int (nI 2)] h) (fun r2 h1 => some (.int r2, h1)) else am_cI (am_G am_prog (N + 30) (d + 2) 190 [.long a1.toInt64, .long (lN 0), .long (lN 999)] h) (fun r4 h3 => if r4 = nI 0 then am_cI (am_G am_prog (N + 30) (d + 2) 188 [.ref 135, .int (nI 5)] h3) (fun r6 h5 => some (.int r6, h5)) else am_gR h3 9 135 20 (fun y7 => am_lI h3 10 y7 (nI 5) (fun y8 => am_cI (am_G am_prog (N + 30) (d + 2) 273 [.ref 135, .int a0, .int (y8 + a1)] h3) (fun r10 h9 => if r10 < nI 0 then am_cI (am_G am_prog (N + 30) (d + 2) 188 [.ref 135, .int (nI 8)] h9) (fun r12 h11 => some (.int r12, h11)) else some (.int r10, h9)))))
def KX9_saysIn_1 (N d n : Nat) (a0 : Int32) (a1 : Int32) (z : Int32) (h : am_H) : am_O := if z = nI 0 then am_cI (am_G am_prog (N + 30) (d + 2) 188 [.ref 135, .int (nI 5)] h) (fun r2 h1 => some (.int r2, h1)) else am_gR h 9 135 20 (fun y3 => am_lI h 10 y3 (nI 5) (fun y4 => am_cI (am_G am_prog (N + 30) (d + 2) 273 [.ref 135, .int a0, .int (y4 + a1)] h) (fun r6 h5 => if r6 < nI 0 then am_cI (am_G am_prog (N + 30) (d + 2) 188 [.ref 135, .int (nI 8)] h5) (fun r8 h7 => some (.int r8, h7)) else some (.int r6, h5))))
def KX9_saysIn_2 (N d n : Nat) (z : Int32) (h : am_H) : am_O := if z < nI 0 then am_cI (am_G am_prog (N + 30) (d + 2) 188 [.ref 135, .int (nI 8)] h) (fun r2 h1 => some (.int r2, h1)) else some (.int z, h)
set_option maxHeartbeats 4000000 in
set_option maxRecDepth 100000 in
theorem sX9_saysIn_0 (N d n : Nat) {X : lt_X} (x1 : Int32) (x2 : Int32) (I : Nat → Nat → Int32) (J : Nat → Nat → Int64) : RX9_saysIn_0 N d (n + 1) X x1 x2 I J = am_cI (am_G am_prog (N + 30) (d + 2) 259 [.ref 135, .int x1] (mkh X (u2 (u2 I 135 1 (nI 0)) 135 0 (nI 0)) J)) (KX9_saysIn_0 N d n x1 x2) := by
  rfl
set_option maxHeartbeats 4000000 in
set_option maxRecDepth 100000 in
theorem kX9_saysIn_0 (N d n : Nat) {X : lt_X} (a0 : Int32) (a1 : Int32) (z : Int32) (I : Nat → Nat → Int32) (J : Nat → Nat → Int64) : KX9_saysIn_0 N d n a0 a1 z (mkh X I J) = if z = nI 0 then some (.int (-1), (mkh X (u2 I 135 0 (nI 2)) J)) else am_cI (am_G am_prog (N + 30) (d + 2) 190 [.long a1.toInt64, .long (lN 0), .long (lN 999)] (mkh X I J)) (KX9_saysIn_1 N d n a0 a1) := by
  rfl
set_option maxHeartbeats 4000000 in
set_option maxRecDepth 100000 in
theorem kX9_saysIn_1 (N d n : Nat) {X : lt_X} (a0 : Int32) (a1 : Int32) (z : Int32) (I : Nat → Nat → Int32) (J : Nat → Nat → Int64) : KX9_saysIn_1 N d n a0 a1 z (mkh X I J) = if z = nI 0 then some (.int (-1), (mkh X (u2 I 135 0 (nI 5)) J)) else am_cI (am_G am_prog (N + 30) (d + 2) 273 [.ref 135, .int a0, .int ((I 140 5) + a1)] (mkh X I J)) (KX9_saysIn_2 N d n ) := by
  rfl
set_option maxHeartbeats 4000000 in
set_option maxRecDepth 100000 in
theorem kX9_saysIn_2 (N d n : Nat) {X : lt_X} (z : Int32) (I : Nat → Nat → Int32) (J : Nat → Nat → Int64) : KX9_saysIn_2 N d n z (mkh X I J) = if z < nI 0 then some (.int (-1), (mkh X (u2 I 135 0 (nI 8)) J)) else some (.int z, (mkh X I J)) := by
  rfl
theorem fX9_saysIn (N d : Nat) {X : lt_X} (x1 : Int32) (x2 : Int32) (I : Nat → Nat → Int32) (J : Nat → Nat → Int64) : am_G am_prog N (d + 1) 292 [.ref 135, .int x1, .int x2] (mkh X I J) = am_run (am_G am_prog N d) eX9_saysIn uX9_saysIn N 0 [(0, .ref 135), (1, .int x1), (2, .int x2)] [] (mkh X I J) := by
  refine (am_G_at N d 292 mX9_saysIn _ _ rfl).trans ?_
  rfl
theorem gX9_saysIn (N d : Nat) {X : lt_X} (x1 : Int32) (x2 : Int32) (I : Nat → Nat → Int32) (J : Nat → Nat → Int64) : am_G am_prog (N + 30) (d + 3) 292 [.ref 135, .int x1, .int x2] (mkh X I J) = RX9_saysIn_0 N d (N + 30) X x1 x2 I J := fX9_saysIn (N + 30) (d + 2) x1 x2 I J
def RX9_hearsIn_0 (N d n : Nat) (X : lt_X) (x1 : Int32) (x2 : Int32) (I : Nat → Nat → Int32) (J : Nat → Nat → Int64) : am_O := am_run (am_G am_prog (N + 30) (d + 2)) eX9_hearsIn uX9_hearsIn n 0 [(0, .ref 135), (1, .int x1), (2, .int x2)] [] (mkh X I J)
def KX9_hearsIn_0 (N d n : Nat) (a0 : Int32) (a1 : Int32) (z : Int32) (h : am_H) : am_O := if z = nI 0 then am_cI (am_G am_prog (N + 30) (d + 2) 188 [.ref 135, .int (nI 2)] h) (fun r2 h1 => some (.int r2, h1)) else am_cI (am_G am_prog (N + 30) (d + 2) 190 [.long a1.toInt64, .long (lN 0), .long (lN 999)] h) (fun r4 h3 => if r4 = nI 0 then am_cI (am_G am_prog (N + 30) (d + 2) 188 [.ref 135, .int (nI 5)] h3) (fun r6 h5 => some (.int r6, h5)) else am_gR h3 9 135 20 (fun y7 => am_lI h3 10 y7 (nI 5) (fun y8 => am_cI (am_G am_prog (N + 30) (d + 2) 275 [.ref 135, .int a0, .int (y8 + a1)] h3) (fun r10 h9 => some (.int r10, h9)))))
def KX9_hearsIn_1 (N d n : Nat) (a0 : Int32) (a1 : Int32) (z : Int32) (h : am_H) : am_O := if z = nI 0 then am_cI (am_G am_prog (N + 30) (d + 2) 188 [.ref 135, .int (nI 5)] h) (fun r2 h1 => some (.int r2, h1)) else am_gR h 9 135 20 (fun y3 => am_lI h 10 y3 (nI 5) (fun y4 => am_cI (am_G am_prog (N + 30) (d + 2) 275 [.ref 135, .int a0, .int (y4 + a1)] h) (fun r6 h5 => some (.int r6, h5))))
def KX9_hearsIn_2 (N d n : Nat) (z : Int32) (h : am_H) : am_O := some (.int z, h)
set_option maxHeartbeats 4000000 in
set_option maxRecDepth 100000 in
theorem sX9_hearsIn_0 (N d n : Nat) {X : lt_X} (x1 : Int32) (x2 : Int32) (I : Nat → Nat → Int32) (J : Nat → Nat → Int64) : RX9_hearsIn_0 N d (n + 1) X x1 x2 I J = am_cI (am_G am_prog (N + 30) (d + 2) 260 [.ref 135, .long x1.toInt64] (mkh X (u2 (u2 I 135 1 (nI 0)) 135 0 (nI 0)) J)) (KX9_hearsIn_0 N d n x1 x2) := by
  rfl
set_option maxHeartbeats 4000000 in
set_option maxRecDepth 100000 in
theorem kX9_hearsIn_0 (N d n : Nat) {X : lt_X} (a0 : Int32) (a1 : Int32) (z : Int32) (I : Nat → Nat → Int32) (J : Nat → Nat → Int64) : KX9_hearsIn_0 N d n a0 a1 z (mkh X I J) = if z = nI 0 then some (.int (-1), (mkh X (u2 I 135 0 (nI 2)) J)) else am_cI (am_G am_prog (N + 30) (d + 2) 190 [.long a1.toInt64, .long (lN 0), .long (lN 999)] (mkh X I J)) (KX9_hearsIn_1 N d n a0 a1) := by
  rfl
set_option maxHeartbeats 4000000 in
set_option maxRecDepth 100000 in
theorem kX9_hearsIn_1 (N d n : Nat) {X : lt_X} (a0 : Int32) (a1 : Int32) (z : Int32) (I : Nat → Nat → Int32) (J : Nat → Nat → Int64) : KX9_hearsIn_1 N d n a0 a1 z (mkh X I J) = if z = nI 0 then some (.int (-1), (mkh X (u2 I 135 0 (nI 5)) J)) else am_cI (am_G am_prog (N + 30) (d + 2) 275 [.ref 135, .int a0, .int ((I 140 5) + a1)] (mkh X I J)) (KX9_hearsIn_2 N d n ) := by
  rfl
set_option maxHeartbeats 4000000 in
set_option maxRecDepth 100000 in
theorem kX9_hearsIn_2 (N d n : Nat) {X : lt_X} (z : Int32) (I : Nat → Nat → Int32) (J : Nat → Nat → Int64) : KX9_hearsIn_2 N d n z (mkh X I J) = some (.int z, (mkh X I J)) := by
  rfl
theorem fX9_hearsIn (N d : Nat) {X : lt_X} (x1 : Int32) (x2 : Int32) (I : Nat → Nat → Int32) (J : Nat → Nat → Int64) : am_G am_prog N (d + 1) 293 [.ref 135, .int x1, .int x2] (mkh X I J) = am_run (am_G am_prog N d) eX9_hearsIn uX9_hearsIn N 0 [(0, .ref 135), (1, .int x1), (2, .int x2)] [] (mkh X I J) := by
  refine (am_G_at N d 293 mX9_hearsIn _ _ rfl).trans ?_
  rfl
theorem gX9_hearsIn (N d : Nat) {X : lt_X} (x1 : Int32) (x2 : Int32) (I : Nat → Nat → Int32) (J : Nat → Nat → Int64) : am_G am_prog (N + 30) (d + 3) 293 [.ref 135, .int x1, .int x2] (mkh X I J) = RX9_hearsIn_0 N d (N + 30) X x1 x2 I J := fX9_hearsIn (N + 30) (d + 2) x1 x2 I J
def RX9_gladAfter_0 (N d n : Nat) (X : lt_X) (x1 : Int32) (x2 : Int32) (I : Nat → Nat → Int32) (J : Nat → Nat → Int64) : am_O := am_run (am_G am_prog (N + 30) (d + 0)) eX9_gladAfter uX9_gladAfter n 0 [(0, .ref 135), (1, .int x1), (2, .int x2)] [] (mkh X I J)
def RX9_gladAfter_13 (N d n : Nat) (X : lt_X) (x1 : Int32) (x2 : Int32) (x3 : Int32) (x4 : Int32) (I : Nat → Nat → Int32) (J : Nat → Nat → Int64) : am_O := am_run (am_G am_prog (N + 30) (d + 0)) eX9_gladAfter uX9_gladAfter n 13 [(0, .ref 135), (1, .int x1), (2, .int x2), (3, .int x3), (4, .int x4)] [] (mkh X I J)
def KX9_gladAfter_0 (N d n : Nat) (a0 : Int32) (a1 : Int32) (a2 : Int32) (a3 : Int32) (z : Int32) (h : am_H) : am_O := am_cI (am_G am_prog (N + 30) (d + 0) 276 [.ref 135, .int a0, .int z] h) (fun r2 h1 => am_run (am_G am_prog (N + 30) (d + 0)) eX9_gladAfter uX9_gladAfter n 13 [(0, .ref 135), (1, .int a0), (2, .int a1), (3, .int (a3 + r2)), (4, .int (a2 + (nI 1)))] [] h1)
def KX9_gladAfter_1 (N d n : Nat) (a0 : Int32) (a1 : Int32) (a2 : Int32) (a3 : Int32) (z : Int32) (h : am_H) : am_O := am_run (am_G am_prog (N + 30) (d + 0)) eX9_gladAfter uX9_gladAfter n 13 [(0, .ref 135), (1, .int a0), (2, .int a1), (3, .int (a3 + z)), (4, .int (a2 + (nI 1)))] [] h
set_option maxHeartbeats 4000000 in
set_option maxRecDepth 100000 in
theorem sX9_gladAfter_0 (N d n : Nat) {X : lt_X} (x1 : Int32) (x2 : Int32) (I : Nat → Nat → Int32) (J : Nat → Nat → Int64) : RX9_gladAfter_0 N d (n + 1) X x1 x2 I J = if am_in ((nI 43) + x1) 2145 then RX9_gladAfter_13 N d n X x1 x2 (I 140 (((nI 43) + x1).toNatClampNeg)) (nI 0) I J else none := by
  rfl
set_option maxHeartbeats 4000000 in
set_option maxRecDepth 100000 in
theorem sX9_gladAfter_13 (N d n : Nat) {X : lt_X} (x1 : Int32) (x2 : Int32) (x3 : Int32) (x4 : Int32) (I : Nat → Nat → Int32) (J : Nat → Nat → Int64) : RX9_gladAfter_13 N d (n + 1) X x1 x2 x3 x4 I J = if x4 < x2 then am_cI (am_G am_prog (N + 30) (d + 0) 275 [.ref 135, .int x1, .int ((I 140 5) + x4)] (mkh X I J)) (KX9_gladAfter_0 N d n x1 x2 x4 x3) else some (.int x3, (mkh X I J)) := by
  rfl
set_option maxHeartbeats 4000000 in
set_option maxRecDepth 100000 in
theorem kX9_gladAfter_0 (N d n : Nat) {X : lt_X} (a0 : Int32) (a1 : Int32) (a2 : Int32) (a3 : Int32) (z : Int32) (I : Nat → Nat → Int32) (J : Nat → Nat → Int64) : KX9_gladAfter_0 N d n a0 a1 a2 a3 z (mkh X I J) = am_cI (am_G am_prog (N + 30) (d + 0) 276 [.ref 135, .int a0, .int z] (mkh X I J)) (KX9_gladAfter_1 N d n a0 a1 a2 a3) := by
  rfl
set_option maxHeartbeats 4000000 in
set_option maxRecDepth 100000 in
theorem kX9_gladAfter_1 (N d n : Nat) {X : lt_X} (a0 : Int32) (a1 : Int32) (a2 : Int32) (a3 : Int32) (z : Int32) (I : Nat → Nat → Int32) (J : Nat → Nat → Int64) : KX9_gladAfter_1 N d n a0 a1 a2 a3 z (mkh X I J) = RX9_gladAfter_13 N d n X a0 a1 (a3 + z) (a2 + (nI 1)) I J := by
  rfl
theorem fX9_gladAfter (N d : Nat) {X : lt_X} (x1 : Int32) (x2 : Int32) (I : Nat → Nat → Int32) (J : Nat → Nat → Int64) : am_G am_prog N (d + 1) 294 [.ref 135, .int x1, .int x2] (mkh X I J) = am_run (am_G am_prog N d) eX9_gladAfter uX9_gladAfter N 0 [(0, .ref 135), (1, .int x1), (2, .int x2)] [] (mkh X I J) := by
  refine (am_G_at N d 294 mX9_gladAfter _ _ rfl).trans ?_
  rfl
theorem gX9_gladAfter (N d : Nat) {X : lt_X} (x1 : Int32) (x2 : Int32) (I : Nat → Nat → Int32) (J : Nat → Nat → Int64) : am_G am_prog (N + 30) (d + 1) 294 [.ref 135, .int x1, .int x2] (mkh X I J) = RX9_gladAfter_0 N d (N + 30) X x1 x2 I J := fX9_gladAfter (N + 30) (d + 0) x1 x2 I J
def RX9_gladIn_0 (N d n : Nat) (X : lt_X) (x1 : Int32) (x2 : Int32) (I : Nat → Nat → Int32) (J : Nat → Nat → Int64) : am_O := am_run (am_G am_prog (N + 30) (d + 2)) eX9_gladIn uX9_gladIn n 0 [(0, .ref 135), (1, .int x1), (2, .int x2)] [] (mkh X I J)
def KX9_gladIn_0 (N d n : Nat) (a0 : Int32) (a1 : Int32) (z : Int32) (h : am_H) : am_O := if z = nI 0 then am_cI (am_G am_prog (N + 30) (d + 2) 188 [.ref 135, .int (nI 2)] h) (fun r2 h1 => some (.int r2, h1)) else am_cI (am_G am_prog (N + 30) (d + 2) 190 [.long a1.toInt64, .long (lN 0), .long (lN 300)] h) (fun r4 h3 => if r4 = nI 0 then am_cI (am_G am_prog (N + 30) (d + 2) 188 [.ref 135, .int (nI 5)] h3) (fun r6 h5 => some (.int r6, h5)) else am_cI (am_G am_prog (N + 30) (d + 2) 294 [.ref 135, .int a0, .int a1] h3) (fun r8 h7 => some (.int r8, h7)))
def KX9_gladIn_1 (N d n : Nat) (a0 : Int32) (a1 : Int32) (z : Int32) (h : am_H) : am_O := if z = nI 0 then am_cI (am_G am_prog (N + 30) (d + 2) 188 [.ref 135, .int (nI 5)] h) (fun r2 h1 => some (.int r2, h1)) else am_cI (am_G am_prog (N + 30) (d + 2) 294 [.ref 135, .int a0, .int a1] h) (fun r4 h3 => some (.int r4, h3))
def KX9_gladIn_2 (N d n : Nat) (z : Int32) (h : am_H) : am_O := some (.int z, h)
set_option maxHeartbeats 4000000 in
set_option maxRecDepth 100000 in
theorem sX9_gladIn_0 (N d n : Nat) {X : lt_X} (x1 : Int32) (x2 : Int32) (I : Nat → Nat → Int32) (J : Nat → Nat → Int64) : RX9_gladIn_0 N d (n + 1) X x1 x2 I J = am_cI (am_G am_prog (N + 30) (d + 2) 260 [.ref 135, .long x1.toInt64] (mkh X (u2 (u2 I 135 1 (nI 0)) 135 0 (nI 0)) J)) (KX9_gladIn_0 N d n x1 x2) := by
  rfl
set_option maxHeartbeats 4000000 in
set_option maxRecDepth 100000 in
theorem kX9_gladIn_0 (N d n : Nat) {X : lt_X} (a0 : Int32) (a1 : Int32) (z : Int32) (I : Nat → Nat → Int32) (J : Nat → Nat → Int64) : KX9_gladIn_0 N d n a0 a1 z (mkh X I J) = if z = nI 0 then some (.int (-1), (mkh X (u2 I 135 0 (nI 2)) J)) else am_cI (am_G am_prog (N + 30) (d + 2) 190 [.long a1.toInt64, .long (lN 0), .long (lN 300)] (mkh X I J)) (KX9_gladIn_1 N d n a0 a1) := by
  rfl
set_option maxHeartbeats 4000000 in
set_option maxRecDepth 100000 in
theorem kX9_gladIn_1 (N d n : Nat) {X : lt_X} (a0 : Int32) (a1 : Int32) (z : Int32) (I : Nat → Nat → Int32) (J : Nat → Nat → Int64) : KX9_gladIn_1 N d n a0 a1 z (mkh X I J) = if z = nI 0 then some (.int (-1), (mkh X (u2 I 135 0 (nI 5)) J)) else am_cI (am_G am_prog (N + 30) (d + 2) 294 [.ref 135, .int a0, .int a1] (mkh X I J)) (KX9_gladIn_2 N d n ) := by
  rfl
set_option maxHeartbeats 4000000 in
set_option maxRecDepth 100000 in
theorem kX9_gladIn_2 (N d n : Nat) {X : lt_X} (z : Int32) (I : Nat → Nat → Int32) (J : Nat → Nat → Int64) : KX9_gladIn_2 N d n z (mkh X I J) = some (.int z, (mkh X I J)) := by
  rfl
theorem fX9_gladIn (N d : Nat) {X : lt_X} (x1 : Int32) (x2 : Int32) (I : Nat → Nat → Int32) (J : Nat → Nat → Int64) : am_G am_prog N (d + 1) 295 [.ref 135, .int x1, .int x2] (mkh X I J) = am_run (am_G am_prog N d) eX9_gladIn uX9_gladIn N 0 [(0, .ref 135), (1, .int x1), (2, .int x2)] [] (mkh X I J) := by
  refine (am_G_at N d 295 mX9_gladIn _ _ rfl).trans ?_
  rfl
theorem gX9_gladIn (N d : Nat) {X : lt_X} (x1 : Int32) (x2 : Int32) (I : Nat → Nat → Int32) (J : Nat → Nat → Int64) : am_G am_prog (N + 30) (d + 3) 295 [.ref 135, .int x1, .int x2] (mkh X I J) = RX9_gladIn_0 N d (N + 30) X x1 x2 I J := fX9_gladIn (N + 30) (d + 2) x1 x2 I J
def RX9_gladBy_0 (N d n : Nat) (X : lt_X) (x1 : Int32) (x2 : Int32) (I : Nat → Nat → Int32) (J : Nat → Nat → Int64) : am_O := am_run (am_G am_prog (N + 30) (d + 2)) eX9_gladBy uX9_gladBy n 0 [(0, .ref 135), (1, .int x1), (2, .int x2)] [] (mkh X I J)
def RX9_gladBy_56 (N d n : Nat) (X : lt_X) (x1 : Int32) (x2 : Int32) (x3 : Int32) (x4 : Int32) (I : Nat → Nat → Int32) (J : Nat → Nat → Int64) : am_O := am_run (am_G am_prog (N + 30) (d + 2)) eX9_gladBy uX9_gladBy n 56 [(0, .ref 135), (1, .int x1), (2, .int x2), (3, .int x3), (4, .int x4)] [] (mkh X I J)
def KX9_gladBy_0 (N d n : Nat) (a0 : Int32) (a1 : Int32) (z : Int32) (h : am_H) : am_O := if z = nI 0 then am_cI (am_G am_prog (N + 30) (d + 2) 188 [.ref 135, .int (nI 2)] h) (fun r2 h1 => some (.int r2, h1)) else am_cI (am_G am_prog (N + 30) (d + 2) 190 [.long a1.toInt64, .long (lN 0), .long (lN 9999)] h) (fun r4 h3 => if r4 = nI 0 then am_cI (am_G am_prog (N + 30) (d + 2) 188 [.ref 135, .int (nI 5)] h3) (fun r6 h5 => some (.int r6, h5)) else am_gR h3 9 135 20 (fun y7 => am_lI h3 10 y7 ((nI 43) + a0) (fun y8 => am_run (am_G am_prog (N + 30) (d + 2)) eX9_gladBy uX9_gladBy n 56 [(0, .ref 135), (1, .int a0), (2, .int a1), (3, .int y8), (4, .int (nI 0))] [] h3)))
def KX9_gladBy_1 (N d n : Nat) (a0 : Int32) (a1 : Int32) (a2 : Int32) (a3 : Int32) (z : Int32) (h : am_H) : am_O := am_cI (am_G am_prog (N + 30) (d + 2) 276 [.ref 135, .int a0, .int z] h) (fun r2 h1 => am_run (am_G am_prog (N + 30) (d + 2)) eX9_gladBy uX9_gladBy n 56 [(0, .ref 135), (1, .int a0), (2, .int a1), (3, .int (a3 + r2)), (4, .int (a2 + (nI 1)))] [] h1)
def KX9_gladBy_2 (N d n : Nat) (a0 : Int32) (a1 : Int32) (z : Int32) (h : am_H) : am_O := if z = nI 0 then am_cI (am_G am_prog (N + 30) (d + 2) 188 [.ref 135, .int (nI 5)] h) (fun r2 h1 => some (.int r2, h1)) else am_gR h 9 135 20 (fun y3 => am_lI h 10 y3 ((nI 43) + a0) (fun y4 => am_run (am_G am_prog (N + 30) (d + 2)) eX9_gladBy uX9_gladBy n 56 [(0, .ref 135), (1, .int a0), (2, .int a1), (3, .int y4), (4, .int (nI 0))] [] h))
def KX9_gladBy_3 (N d n : Nat) (a0 : Int32) (a1 : Int32) (a2 : Int32) (a3 : Int32) (z : Int32) (h : am_H) : am_O := am_run (am_G am_prog (N + 30) (d + 2)) eX9_gladBy uX9_gladBy n 56 [(0, .ref 135), (1, .int a0), (2, .int a1), (3, .int (a3 + z)), (4, .int (a2 + (nI 1)))] [] h
set_option maxHeartbeats 4000000 in
set_option maxRecDepth 100000 in
theorem sX9_gladBy_0 (N d n : Nat) {X : lt_X} (x1 : Int32) (x2 : Int32) (I : Nat → Nat → Int32) (J : Nat → Nat → Int64) : RX9_gladBy_0 N d (n + 1) X x1 x2 I J = am_cI (am_G am_prog (N + 30) (d + 2) 260 [.ref 135, .long x1.toInt64] (mkh X (u2 (u2 I 135 1 (nI 0)) 135 0 (nI 0)) J)) (KX9_gladBy_0 N d n x1 x2) := by
  rfl
set_option maxHeartbeats 4000000 in
set_option maxRecDepth 100000 in
theorem sX9_gladBy_56 (N d n : Nat) {X : lt_X} (x1 : Int32) (x2 : Int32) (x3 : Int32) (x4 : Int32) (I : Nat → Nat → Int32) (J : Nat → Nat → Int64) : RX9_gladBy_56 N d (n + 1) X x1 x2 x3 x4 I J = if (nI 300) < x4 then some (.int (-1), (mkh X (u2 I 135 0 (nI 8)) J)) else if x3 < x2 then am_cI (am_G am_prog (N + 30) (d + 2) 275 [.ref 135, .int x1, .int ((I 140 5) + x4)] (mkh X I J)) (KX9_gladBy_1 N d n x1 x2 x4 x3) else some (.int x4, (mkh X I J)) := by
  rfl
set_option maxHeartbeats 4000000 in
set_option maxRecDepth 100000 in
theorem kX9_gladBy_0 (N d n : Nat) {X : lt_X} (a0 : Int32) (a1 : Int32) (z : Int32) (I : Nat → Nat → Int32) (J : Nat → Nat → Int64) : KX9_gladBy_0 N d n a0 a1 z (mkh X I J) = if z = nI 0 then some (.int (-1), (mkh X (u2 I 135 0 (nI 2)) J)) else am_cI (am_G am_prog (N + 30) (d + 2) 190 [.long a1.toInt64, .long (lN 0), .long (lN 9999)] (mkh X I J)) (KX9_gladBy_2 N d n a0 a1) := by
  rfl
set_option maxHeartbeats 4000000 in
set_option maxRecDepth 100000 in
theorem kX9_gladBy_1 (N d n : Nat) {X : lt_X} (a0 : Int32) (a1 : Int32) (a2 : Int32) (a3 : Int32) (z : Int32) (I : Nat → Nat → Int32) (J : Nat → Nat → Int64) : KX9_gladBy_1 N d n a0 a1 a2 a3 z (mkh X I J) = am_cI (am_G am_prog (N + 30) (d + 2) 276 [.ref 135, .int a0, .int z] (mkh X I J)) (KX9_gladBy_3 N d n a0 a1 a2 a3) := by
  rfl
set_option maxHeartbeats 4000000 in
set_option maxRecDepth 100000 in
theorem kX9_gladBy_2 (N d n : Nat) {X : lt_X} (a0 : Int32) (a1 : Int32) (z : Int32) (I : Nat → Nat → Int32) (J : Nat → Nat → Int64) : KX9_gladBy_2 N d n a0 a1 z (mkh X I J) = if z = nI 0 then some (.int (-1), (mkh X (u2 I 135 0 (nI 5)) J)) else if am_in ((nI 43) + a0) 2145 then RX9_gladBy_56 N d n X a0 a1 (I 140 (((nI 43) + a0).toNatClampNeg)) (nI 0) I J else none := by
  rfl
set_option maxHeartbeats 4000000 in
set_option maxRecDepth 100000 in
theorem kX9_gladBy_3 (N d n : Nat) {X : lt_X} (a0 : Int32) (a1 : Int32) (a2 : Int32) (a3 : Int32) (z : Int32) (I : Nat → Nat → Int32) (J : Nat → Nat → Int64) : KX9_gladBy_3 N d n a0 a1 a2 a3 z (mkh X I J) = RX9_gladBy_56 N d n X a0 a1 (a3 + z) (a2 + (nI 1)) I J := by
  rfl
theorem fX9_gladBy (N d : Nat) {X : lt_X} (x1 : Int32) (x2 : Int32) (I : Nat → Nat → Int32) (J : Nat → Nat → Int64) : am_G am_prog N (d + 1) 296 [.ref 135, .int x1, .int x2] (mkh X I J) = am_run (am_G am_prog N d) eX9_gladBy uX9_gladBy N 0 [(0, .ref 135), (1, .int x1), (2, .int x2)] [] (mkh X I J) := by
  refine (am_G_at N d 296 mX9_gladBy _ _ rfl).trans ?_
  rfl
theorem gX9_gladBy (N d : Nat) {X : lt_X} (x1 : Int32) (x2 : Int32) (I : Nat → Nat → Int32) (J : Nat → Nat → Int64) : am_G am_prog (N + 30) (d + 3) 296 [.ref 135, .int x1, .int x2] (mkh X I J) = RX9_gladBy_0 N d (N + 30) X x1 x2 I J := fX9_gladBy (N + 30) (d + 2) x1 x2 I J
def RX9_lonelyIn_0 (N d n : Nat) (X : lt_X) (x1 : Int32) (I : Nat → Nat → Int32) (J : Nat → Nat → Int64) : am_O := am_run (am_G am_prog (N + 30) (d + 2)) eX9_lonelyIn uX9_lonelyIn n 0 [(0, .ref 135), (1, .int x1)] [] (mkh X I J)
def RX9_lonelyIn_27 (N d n : Nat) (X : lt_X) (x1 : Int32) (x2 : Int32) (I : Nat → Nat → Int32) (J : Nat → Nat → Int64) : am_O := am_run (am_G am_prog (N + 30) (d + 2)) eX9_lonelyIn uX9_lonelyIn n 27 [(0, .ref 135), (1, .int x1), (2, .int x2)] [] (mkh X I J)
def KX9_lonelyIn_0 (N d n : Nat) (a0 : Int32) (z : Int32) (h : am_H) : am_O := if z = nI 0 then am_cI (am_G am_prog (N + 30) (d + 2) 188 [.ref 135, .int (nI 2)] h) (fun r2 h1 => some (.int r2, h1)) else am_run (am_G am_prog (N + 30) (d + 2)) eX9_lonelyIn uX9_lonelyIn n 27 [(0, .ref 135), (1, .int a0), (2, .int (nI 0))] [] h
def KX9_lonelyIn_1 (N d n : Nat) (a0 : Int32) (a1 : Int32) (z : Int32) (h : am_H) : am_O := if z = nI 0 then some (.int a1, h) else am_run (am_G am_prog (N + 30) (d + 2)) eX9_lonelyIn uX9_lonelyIn n 27 [(0, .ref 135), (1, .int a0), (2, .int (a1 + (nI 1)))] [] h
set_option maxHeartbeats 4000000 in
set_option maxRecDepth 100000 in
theorem sX9_lonelyIn_0 (N d n : Nat) {X : lt_X} (x1 : Int32) (I : Nat → Nat → Int32) (J : Nat → Nat → Int64) : RX9_lonelyIn_0 N d (n + 1) X x1 I J = am_cI (am_G am_prog (N + 30) (d + 2) 260 [.ref 135, .long x1.toInt64] (mkh X (u2 (u2 I 135 1 (nI 0)) 135 0 (nI 0)) J)) (KX9_lonelyIn_0 N d n x1) := by
  rfl
set_option maxHeartbeats 4000000 in
set_option maxRecDepth 100000 in
theorem sX9_lonelyIn_27 (N d n : Nat) {X : lt_X} (x1 : Int32) (x2 : Int32) (I : Nat → Nat → Int32) (J : Nat → Nat → Int64) : RX9_lonelyIn_27 N d (n + 1) X x1 x2 I J = if x2 < (nI 300) then am_cI (am_G am_prog (N + 30) (d + 2) 275 [.ref 135, .int x1, .int ((I 140 5) + x2)] (mkh X I J)) (KX9_lonelyIn_1 N d n x1 x2) else some (.int (-1), (mkh X (u2 I 135 0 (nI 8)) J)) := by
  rfl
set_option maxHeartbeats 4000000 in
set_option maxRecDepth 100000 in
theorem kX9_lonelyIn_0 (N d n : Nat) {X : lt_X} (a0 : Int32) (z : Int32) (I : Nat → Nat → Int32) (J : Nat → Nat → Int64) : KX9_lonelyIn_0 N d n a0 z (mkh X I J) = if z = nI 0 then some (.int (-1), (mkh X (u2 I 135 0 (nI 2)) J)) else RX9_lonelyIn_27 N d n X a0 (nI 0) I J := by
  rfl
set_option maxHeartbeats 4000000 in
set_option maxRecDepth 100000 in
theorem kX9_lonelyIn_1 (N d n : Nat) {X : lt_X} (a0 : Int32) (a1 : Int32) (z : Int32) (I : Nat → Nat → Int32) (J : Nat → Nat → Int64) : KX9_lonelyIn_1 N d n a0 a1 z (mkh X I J) = if z = nI 0 then some (.int a1, (mkh X I J)) else RX9_lonelyIn_27 N d n X a0 (a1 + (nI 1)) I J := by
  rfl
theorem fX9_lonelyIn (N d : Nat) {X : lt_X} (x1 : Int32) (I : Nat → Nat → Int32) (J : Nat → Nat → Int64) : am_G am_prog N (d + 1) 297 [.ref 135, .int x1] (mkh X I J) = am_run (am_G am_prog N d) eX9_lonelyIn uX9_lonelyIn N 0 [(0, .ref 135), (1, .int x1)] [] (mkh X I J) := by
  refine (am_G_at N d 297 mX9_lonelyIn _ _ rfl).trans ?_
  rfl
theorem gX9_lonelyIn (N d : Nat) {X : lt_X} (x1 : Int32) (I : Nat → Nat → Int32) (J : Nat → Nat → Int64) : am_G am_prog (N + 30) (d + 3) 297 [.ref 135, .int x1] (mkh X I J) = RX9_lonelyIn_0 N d (N + 30) X x1 I J := fX9_lonelyIn (N + 30) (d + 2) x1 I J
def RX9_diesIn_0 (N d n : Nat) (X : lt_X) (x1 : Int32) (I : Nat → Nat → Int32) (J : Nat → Nat → Int64) : am_O := am_run (am_G am_prog (N + 30) (d + 2)) eX9_diesIn uX9_diesIn n 0 [(0, .ref 135), (1, .int x1)] [] (mkh X I J)
def KX9_diesIn_0 (N d n : Nat) (a0 : Int32) (z : Int32) (h : am_H) : am_O := if z = nI 0 then am_cI (am_G am_prog (N + 30) (d + 2) 188 [.ref 135, .int (nI 2)] h) (fun r2 h1 => some (.int r2, h1)) else am_gR h 9 135 20 (fun y3 => am_lI h 10 y3 ((nI 25) + a0) (fun y4 => if y4 = nI 0 then am_cI (am_G am_prog (N + 30) (d + 2) 188 [.ref 135, .int (nI 8)] h) (fun r6 h5 => some (.int r6, h5)) else am_gR h 9 135 20 (fun y7 => am_lI h 10 y7 ((nI 13) + a0) (fun y8 => am_gR h 9 135 20 (fun y9 => am_lI h 10 y9 ((nI 7) + a0) (fun y10 => some (.int (if (nI 1) < (y8 - y10) then (y8 - y10) else (nI 1)), h)))))))
set_option maxHeartbeats 4000000 in
set_option maxRecDepth 100000 in
theorem sX9_diesIn_0 (N d n : Nat) {X : lt_X} (x1 : Int32) (I : Nat → Nat → Int32) (J : Nat → Nat → Int64) : RX9_diesIn_0 N d (n + 1) X x1 I J = am_cI (am_G am_prog (N + 30) (d + 2) 259 [.ref 135, .int x1] (mkh X (u2 (u2 I 135 1 (nI 0)) 135 0 (nI 0)) J)) (KX9_diesIn_0 N d n x1) := by
  rfl
set_option maxHeartbeats 4000000 in
set_option maxRecDepth 100000 in
theorem kX9_diesIn_0 (N d n : Nat) {X : lt_X} (a0 : Int32) (z : Int32) (I : Nat → Nat → Int32) (J : Nat → Nat → Int64) : KX9_diesIn_0 N d n a0 z (mkh X I J) = if z = nI 0 then some (.int (-1), (mkh X (u2 I 135 0 (nI 2)) J)) else if am_in ((nI 25) + a0) 2145 then if (I 140 (((nI 25) + a0).toNatClampNeg)) = nI 0 then some (.int (-1), (mkh X (u2 I 135 0 (nI 8)) J)) else if am_in ((nI 13) + a0) 2145 then if am_in ((nI 7) + a0) 2145 then some (.int (if (nI 1) < ((I 140 (((nI 13) + a0).toNatClampNeg)) - (I 140 (((nI 7) + a0).toNatClampNeg))) then ((I 140 (((nI 13) + a0).toNatClampNeg)) - (I 140 (((nI 7) + a0).toNatClampNeg))) else (nI 1)), (mkh X I J)) else none else none else none := by
  rfl
theorem fX9_diesIn (N d : Nat) {X : lt_X} (x1 : Int32) (I : Nat → Nat → Int32) (J : Nat → Nat → Int64) : am_G am_prog N (d + 1) 298 [.ref 135, .int x1] (mkh X I J) = am_run (am_G am_prog N d) eX9_diesIn uX9_diesIn N 0 [(0, .ref 135), (1, .int x1)] [] (mkh X I J) := by
  refine (am_G_at N d 298 mX9_diesIn _ _ rfl).trans ?_
  rfl
theorem gX9_diesIn (N d : Nat) {X : lt_X} (x1 : Int32) (I : Nat → Nat → Int32) (J : Nat → Nat → Int64) : am_G am_prog (N + 30) (d + 3) 298 [.ref 135, .int x1] (mkh X I J) = RX9_diesIn_0 N d (N + 30) X x1 I J := fX9_diesIn (N + 30) (d + 2) x1 I J
def RX9_crowdOf_0 (N d n : Nat) (X : lt_X) (x1 : Int32) (I : Nat → Nat → Int32) (J : Nat → Nat → Int64) : am_O := am_run (am_G am_prog (N + 30) (d + 0)) eX9_crowdOf uX9_crowdOf n 0 [(0, .ref 135), (1, .int x1)] [] (mkh X I J)
def RX9_crowdOf_4 (N d n : Nat) (X : lt_X) (x1 : Int32) (x2 : Int32) (x3 : Int32) (I : Nat → Nat → Int32) (J : Nat → Nat → Int64) : am_O := am_run (am_G am_prog (N + 30) (d + 0)) eX9_crowdOf uX9_crowdOf n 4 [(0, .ref 135), (1, .int x1), (2, .int x2), (3, .int x3)] [] (mkh X I J)
def RX9_crowdOf_52 (N d n : Nat) (X : lt_X) (x1 : Int32) (x2 : Int32) (x3 : Int32) (I : Nat → Nat → Int32) (J : Nat → Nat → Int64) : am_O := am_run (am_G am_prog (N + 30) (d + 0)) eX9_crowdOf uX9_crowdOf n 52 [(0, .ref 135), (1, .int x1), (2, .int x2), (3, .int x3)] [] (mkh X I J)
set_option maxHeartbeats 4000000 in
set_option maxRecDepth 100000 in
theorem sX9_crowdOf_0 (N d n : Nat) {X : lt_X} (x1 : Int32) (I : Nat → Nat → Int32) (J : Nat → Nat → Int64) : RX9_crowdOf_0 N d (n + 1) X x1 I J = RX9_crowdOf_4 N d n X x1 (nI 0) (nI 0) I J := by
  rfl
set_option maxHeartbeats 4000000 in
set_option maxRecDepth 100000 in
theorem sX9_crowdOf_4 (N d n : Nat) {X : lt_X} (x1 : Int32) (x2 : Int32) (x3 : Int32) (I : Nat → Nat → Int32) (J : Nat → Nat → Int64) : RX9_crowdOf_4 N d (n + 1) X x1 x2 x3 I J = if x3 < (I 140 3) then if am_in ((nI 67) + x3) 2145 then if (I 140 (((nI 67) + x3).toNatClampNeg)) < nI 0 then RX9_crowdOf_4 N d n X x1 x2 (x3 + (nI 1)) I J else if am_in ((nI 55) + x3) 2145 then if (I 140 (((nI 55) + x3).toNatClampNeg)) = x1 then RX9_crowdOf_52 N d n X x1 x2 x3 I J else if am_in ((nI 61) + x3) 2145 then if (I 140 (((nI 61) + x3).toNatClampNeg)) = x1 then RX9_crowdOf_52 N d n X x1 x2 x3 I J else RX9_crowdOf_4 N d n X x1 x2 (x3 + (nI 1)) I J else none else none else none else some (.int x2, (mkh X I J)) := by
  rfl
set_option maxHeartbeats 4000000 in
set_option maxRecDepth 100000 in
theorem sX9_crowdOf_52 (N d n : Nat) {X : lt_X} (x1 : Int32) (x2 : Int32) (x3 : Int32) (I : Nat → Nat → Int32) (J : Nat → Nat → Int64) : RX9_crowdOf_52 N d (n + 1) X x1 x2 x3 I J = if am_in ((nI 67) + x3) 2145 then RX9_crowdOf_4 N d n X x1 (x2 ||| ((nI 1) <<< ((I 140 (((nI 67) + x3).toNatClampNeg)) &&& 31))) (x3 + (nI 1)) I J else none := by
  rfl
theorem fX9_crowdOf (N d : Nat) {X : lt_X} (x1 : Int32) (I : Nat → Nat → Int32) (J : Nat → Nat → Int64) : am_G am_prog N (d + 1) 299 [.ref 135, .int x1] (mkh X I J) = am_run (am_G am_prog N d) eX9_crowdOf uX9_crowdOf N 0 [(0, .ref 135), (1, .int x1)] [] (mkh X I J) := by
  refine (am_G_at N d 299 mX9_crowdOf _ _ rfl).trans ?_
  rfl
theorem gX9_crowdOf (N d : Nat) {X : lt_X} (x1 : Int32) (I : Nat → Nat → Int32) (J : Nat → Nat → Int64) : am_G am_prog (N + 30) (d + 1) 299 [.ref 135, .int x1] (mkh X I J) = RX9_crowdOf_0 N d (N + 30) X x1 I J := fX9_crowdOf (N + 30) (d + 0) x1 I J
def RX9_crowd_0 (N d n : Nat) (X : lt_X) (x1 : Int32) (I : Nat → Nat → Int32) (J : Nat → Nat → Int64) : am_O := am_run (am_G am_prog (N + 30) (d + 2)) eX9_crowd uX9_crowd n 0 [(0, .ref 135), (1, .int x1)] [] (mkh X I J)
def KX9_crowd_0 (N d n : Nat) (a0 : Int32) (z : Int32) (h : am_H) : am_O := if z = nI 0 then am_cI (am_G am_prog (N + 30) (d + 2) 188 [.ref 135, .int (nI 2)] h) (fun r2 h1 => some (.int r2, h1)) else am_cI (am_G am_prog (N + 30) (d + 2) 299 [.ref 135, .int a0] h) (fun r4 h3 => some (.int r4, h3))
def KX9_crowd_1 (N d n : Nat) (z : Int32) (h : am_H) : am_O := some (.int z, h)
set_option maxHeartbeats 4000000 in
set_option maxRecDepth 100000 in
theorem sX9_crowd_0 (N d n : Nat) {X : lt_X} (x1 : Int32) (I : Nat → Nat → Int32) (J : Nat → Nat → Int64) : RX9_crowd_0 N d (n + 1) X x1 I J = am_cI (am_G am_prog (N + 30) (d + 2) 259 [.ref 135, .int x1] (mkh X (u2 (u2 I 135 1 (nI 0)) 135 0 (nI 0)) J)) (KX9_crowd_0 N d n x1) := by
  rfl
set_option maxHeartbeats 4000000 in
set_option maxRecDepth 100000 in
theorem kX9_crowd_0 (N d n : Nat) {X : lt_X} (a0 : Int32) (z : Int32) (I : Nat → Nat → Int32) (J : Nat → Nat → Int64) : KX9_crowd_0 N d n a0 z (mkh X I J) = if z = nI 0 then some (.int (-1), (mkh X (u2 I 135 0 (nI 2)) J)) else am_cI (am_G am_prog (N + 30) (d + 2) 299 [.ref 135, .int a0] (mkh X I J)) (KX9_crowd_1 N d n ) := by
  rfl
set_option maxHeartbeats 4000000 in
set_option maxRecDepth 100000 in
theorem kX9_crowd_1 (N d n : Nat) {X : lt_X} (z : Int32) (I : Nat → Nat → Int32) (J : Nat → Nat → Int64) : KX9_crowd_1 N d n z (mkh X I J) = some (.int z, (mkh X I J)) := by
  rfl
theorem fX9_crowd (N d : Nat) {X : lt_X} (x1 : Int32) (I : Nat → Nat → Int32) (J : Nat → Nat → Int64) : am_G am_prog N (d + 1) 300 [.ref 135, .int x1] (mkh X I J) = am_run (am_G am_prog N d) eX9_crowd uX9_crowd N 0 [(0, .ref 135), (1, .int x1)] [] (mkh X I J) := by
  refine (am_G_at N d 300 mX9_crowd _ _ rfl).trans ?_
  rfl
theorem gX9_crowd (N d : Nat) {X : lt_X} (x1 : Int32) (I : Nat → Nat → Int32) (J : Nat → Nat → Int64) : am_G am_prog (N + 30) (d + 3) 300 [.ref 135, .int x1] (mkh X I J) = RX9_crowd_0 N d (N + 30) X x1 I J := fX9_crowd (N + 30) (d + 2) x1 I J
def RX9_worthOf_0 (N d n : Nat) (X : lt_X) (x1 : Int32) (x2 : Int32) (I : Nat → Nat → Int32) (J : Nat → Nat → Int64) : am_O := am_run (am_G am_prog (N + 30) (d + 0)) eX9_worthOf uX9_worthOf n 0 [(0, .ref 135), (1, .int x1), (2, .int x2)] [] (mkh X I J)
def RX9_worthOf_5 (N d n : Nat) (X : lt_X) (x1 : Int32) (x2 : Int32) (x3 : Int32) (x4 : Int32) (I : Nat → Nat → Int32) (J : Nat → Nat → Int64) : am_O := am_run (am_G am_prog (N + 30) (d + 0)) eX9_worthOf uX9_worthOf n 5 [(0, .ref 135), (1, .int x1), (2, .int x2), (3, .int x3), (4, .int x4)] [] (mkh X I J)
def KX9_worthOf_0 (N d n : Nat) (a0 : Int32) (a1 : Int32) (a2 : Int32) (a3 : Int32) (z : Int32) (h : am_H) : am_O := am_cI (am_G am_prog (N + 30) (d + 0) 276 [.ref 135, .int a0, .int z] h) (fun r2 h1 => am_run (am_G am_prog (N + 30) (d + 0)) eX9_worthOf uX9_worthOf n 5 [(0, .ref 135), (1, .int a0), (2, .int a1), (3, .int (a3 + r2)), (4, .int (a2 + (nI 1)))] [] h1)
def KX9_worthOf_1 (N d n : Nat) (a0 : Int32) (a1 : Int32) (a2 : Int32) (a3 : Int32) (z : Int32) (h : am_H) : am_O := am_run (am_G am_prog (N + 30) (d + 0)) eX9_worthOf uX9_worthOf n 5 [(0, .ref 135), (1, .int a0), (2, .int a1), (3, .int (a3 + z)), (4, .int (a2 + (nI 1)))] [] h
set_option maxHeartbeats 4000000 in
set_option maxRecDepth 100000 in
theorem sX9_worthOf_0 (N d n : Nat) {X : lt_X} (x1 : Int32) (x2 : Int32) (I : Nat → Nat → Int32) (J : Nat → Nat → Int64) : RX9_worthOf_0 N d (n + 1) X x1 x2 I J = RX9_worthOf_5 N d n X x1 x2 (nI 0) (nI 0) I J := by
  rfl
set_option maxHeartbeats 4000000 in
set_option maxRecDepth 100000 in
theorem sX9_worthOf_5 (N d n : Nat) {X : lt_X} (x1 : Int32) (x2 : Int32) (x3 : Int32) (x4 : Int32) (I : Nat → Nat → Int32) (J : Nat → Nat → Int64) : RX9_worthOf_5 N d (n + 1) X x1 x2 x3 x4 I J = if x4 < (nI 12) then am_cI (am_G am_prog (N + 30) (d + 0) 274 [.ref 135, .int x2, .int ((I 140 5) + x4)] (mkh X I J)) (KX9_worthOf_0 N d n x1 x2 x4 x3) else some (.int x3, (mkh X I J)) := by
  rfl
set_option maxHeartbeats 4000000 in
set_option maxRecDepth 100000 in
theorem kX9_worthOf_0 (N d n : Nat) {X : lt_X} (a0 : Int32) (a1 : Int32) (a2 : Int32) (a3 : Int32) (z : Int32) (I : Nat → Nat → Int32) (J : Nat → Nat → Int64) : KX9_worthOf_0 N d n a0 a1 a2 a3 z (mkh X I J) = am_cI (am_G am_prog (N + 30) (d + 0) 276 [.ref 135, .int a0, .int z] (mkh X I J)) (KX9_worthOf_1 N d n a0 a1 a2 a3) := by
  rfl
set_option maxHeartbeats 4000000 in
set_option maxRecDepth 100000 in
theorem kX9_worthOf_1 (N d n : Nat) {X : lt_X} (a0 : Int32) (a1 : Int32) (a2 : Int32) (a3 : Int32) (z : Int32) (I : Nat → Nat → Int32) (J : Nat → Nat → Int64) : KX9_worthOf_1 N d n a0 a1 a2 a3 z (mkh X I J) = RX9_worthOf_5 N d n X a0 a1 (a3 + z) (a2 + (nI 1)) I J := by
  rfl
theorem fX9_worthOf (N d : Nat) {X : lt_X} (x1 : Int32) (x2 : Int32) (I : Nat → Nat → Int32) (J : Nat → Nat → Int64) : am_G am_prog N (d + 1) 301 [.ref 135, .int x1, .int x2] (mkh X I J) = am_run (am_G am_prog N d) eX9_worthOf uX9_worthOf N 0 [(0, .ref 135), (1, .int x1), (2, .int x2)] [] (mkh X I J) := by
  refine (am_G_at N d 301 mX9_worthOf _ _ rfl).trans ?_
  rfl
theorem gX9_worthOf (N d : Nat) {X : lt_X} (x1 : Int32) (x2 : Int32) (I : Nat → Nat → Int32) (J : Nat → Nat → Int64) : am_G am_prog (N + 30) (d + 1) 301 [.ref 135, .int x1, .int x2] (mkh X I J) = RX9_worthOf_0 N d (N + 30) X x1 x2 I J := fX9_worthOf (N + 30) (d + 0) x1 x2 I J
def RX9_worth_0 (N d n : Nat) (X : lt_X) (x1 : Int32) (x2 : Int32) (I : Nat → Nat → Int32) (J : Nat → Nat → Int64) : am_O := am_run (am_G am_prog (N + 30) (d + 2)) eX9_worth uX9_worth n 0 [(0, .ref 135), (1, .int x1), (2, .int x2)] [] (mkh X I J)
def KX9_worth_0 (N d n : Nat) (a0 : Int32) (a1 : Int32) (z : Int32) (h : am_H) : am_O := if z = nI 0 then am_cI (am_G am_prog (N + 30) (d + 2) 188 [.ref 135, .int (nI 2)] h) (fun r2 h1 => some (.int r2, h1)) else am_cI (am_G am_prog (N + 30) (d + 2) 261 [.ref 135, .int a1] h) (fun r4 h3 => if r4 = nI 0 then am_cI (am_G am_prog (N + 30) (d + 2) 188 [.ref 135, .int (nI 2)] h3) (fun r6 h5 => some (.int r6, h5)) else am_cI (am_G am_prog (N + 30) (d + 2) 301 [.ref 135, .int a0, .int a1] h3) (fun r8 h7 => some (.int r8, h7)))
def KX9_worth_1 (N d n : Nat) (a0 : Int32) (a1 : Int32) (z : Int32) (h : am_H) : am_O := if z = nI 0 then am_cI (am_G am_prog (N + 30) (d + 2) 188 [.ref 135, .int (nI 2)] h) (fun r2 h1 => some (.int r2, h1)) else am_cI (am_G am_prog (N + 30) (d + 2) 301 [.ref 135, .int a0, .int a1] h) (fun r4 h3 => some (.int r4, h3))
def KX9_worth_2 (N d n : Nat) (z : Int32) (h : am_H) : am_O := some (.int z, h)
set_option maxHeartbeats 4000000 in
set_option maxRecDepth 100000 in
theorem sX9_worth_0 (N d n : Nat) {X : lt_X} (x1 : Int32) (x2 : Int32) (I : Nat → Nat → Int32) (J : Nat → Nat → Int64) : RX9_worth_0 N d (n + 1) X x1 x2 I J = am_cI (am_G am_prog (N + 30) (d + 2) 260 [.ref 135, .long x1.toInt64] (mkh X (u2 (u2 I 135 1 (nI 0)) 135 0 (nI 0)) J)) (KX9_worth_0 N d n x1 x2) := by
  rfl
set_option maxHeartbeats 4000000 in
set_option maxRecDepth 100000 in
theorem kX9_worth_0 (N d n : Nat) {X : lt_X} (a0 : Int32) (a1 : Int32) (z : Int32) (I : Nat → Nat → Int32) (J : Nat → Nat → Int64) : KX9_worth_0 N d n a0 a1 z (mkh X I J) = if z = nI 0 then some (.int (-1), (mkh X (u2 I 135 0 (nI 2)) J)) else am_cI (am_G am_prog (N + 30) (d + 2) 261 [.ref 135, .int a1] (mkh X I J)) (KX9_worth_1 N d n a0 a1) := by
  rfl
set_option maxHeartbeats 4000000 in
set_option maxRecDepth 100000 in
theorem kX9_worth_1 (N d n : Nat) {X : lt_X} (a0 : Int32) (a1 : Int32) (z : Int32) (I : Nat → Nat → Int32) (J : Nat → Nat → Int64) : KX9_worth_1 N d n a0 a1 z (mkh X I J) = if z = nI 0 then some (.int (-1), (mkh X (u2 I 135 0 (nI 2)) J)) else am_cI (am_G am_prog (N + 30) (d + 2) 301 [.ref 135, .int a0, .int a1] (mkh X I J)) (KX9_worth_2 N d n ) := by
  rfl
set_option maxHeartbeats 4000000 in
set_option maxRecDepth 100000 in
theorem kX9_worth_2 (N d n : Nat) {X : lt_X} (z : Int32) (I : Nat → Nat → Int32) (J : Nat → Nat → Int64) : KX9_worth_2 N d n z (mkh X I J) = some (.int z, (mkh X I J)) := by
  rfl
theorem fX9_worth (N d : Nat) {X : lt_X} (x1 : Int32) (x2 : Int32) (I : Nat → Nat → Int32) (J : Nat → Nat → Int64) : am_G am_prog N (d + 1) 302 [.ref 135, .int x1, .int x2] (mkh X I J) = am_run (am_G am_prog N d) eX9_worth uX9_worth N 0 [(0, .ref 135), (1, .int x1), (2, .int x2)] [] (mkh X I J) := by
  refine (am_G_at N d 302 mX9_worth _ _ rfl).trans ?_
  rfl
theorem gX9_worth (N d : Nat) {X : lt_X} (x1 : Int32) (x2 : Int32) (I : Nat → Nat → Int32) (J : Nat → Nat → Int64) : am_G am_prog (N + 30) (d + 3) 302 [.ref 135, .int x1, .int x2] (mkh X I J) = RX9_worth_0 N d (N + 30) X x1 x2 I J := fX9_worth (N + 30) (d + 2) x1 x2 I J
def RX9_laysWorths_0 (N d n : Nat) (X : lt_X) (I : Nat → Nat → Int32) (J : Nat → Nat → Int64) : am_O := am_run (am_G am_prog (N + 30) (d + 0)) eX9_laysWorths uX9_laysWorths n 0 [(0, .ref 135)] [] (mkh X I J)
def RX9_laysWorths_2 (N d n : Nat) (X : lt_X) (x1 : Int32) (I : Nat → Nat → Int32) (J : Nat → Nat → Int64) : am_O := am_run (am_G am_prog (N + 30) (d + 0)) eX9_laysWorths uX9_laysWorths n 2 [(0, .ref 135), (1, .int x1)] [] (mkh X I J)
def RX9_laysWorths_14 (N d n : Nat) (X : lt_X) (x1 : Int32) (x2 : Int32) (I : Nat → Nat → Int32) (J : Nat → Nat → Int64) : am_O := am_run (am_G am_prog (N + 30) (d + 0)) eX9_laysWorths uX9_laysWorths n 14 [(0, .ref 135), (1, .int x1), (2, .int x2)] [] (mkh X I J)
def KX9_laysWorths_0 (N d n : Nat) (a0 : Int32) (a1 : Int32) (a2 : Int32) (z : Int32) (h : am_H) : am_O := am_tI h 143 a2 z (fun h1 => am_run (am_G am_prog (N + 30) (d + 0)) eX9_laysWorths uX9_laysWorths n 14 [(0, .ref 135), (1, .int a0), (2, .int (a1 + (nI 1)))] [] h1)
set_option maxHeartbeats 4000000 in
set_option maxRecDepth 100000 in
theorem sX9_laysWorths_0 (N d n : Nat) {X : lt_X} (I : Nat → Nat → Int32) (J : Nat → Nat → Int64) : RX9_laysWorths_0 N d (n + 1) X I J = RX9_laysWorths_2 N d n X (nI 0) I J := by
  rfl
set_option maxHeartbeats 4000000 in
set_option maxRecDepth 100000 in
theorem sX9_laysWorths_2 (N d n : Nat) {X : lt_X} (x1 : Int32) (I : Nat → Nat → Int32) (J : Nat → Nat → Int64) : RX9_laysWorths_2 N d (n + 1) X x1 I J = if x1 < (I 140 2) then RX9_laysWorths_14 N d n X x1 (nI 0) I J else some (.null, (mkh X I J)) := by
  rfl
set_option maxHeartbeats 4000000 in
set_option maxRecDepth 100000 in
theorem sX9_laysWorths_14 (N d n : Nat) {X : lt_X} (x1 : Int32) (x2 : Int32) (I : Nat → Nat → Int32) (J : Nat → Nat → Int64) : RX9_laysWorths_14 N d (n + 1) X x1 x2 I J = if x2 < (I 140 3) then am_cI (am_G am_prog (N + 30) (d + 0) 301 [.ref 135, .int x1, .int x2] (mkh X I J)) (KX9_laysWorths_0 N d n x1 x2 (((nI 6) * x1) + x2)) else RX9_laysWorths_2 N d n X (x1 + (nI 1)) I J := by
  rfl
set_option maxHeartbeats 4000000 in
set_option maxRecDepth 100000 in
theorem kX9_laysWorths_0 (N d n : Nat) {X : lt_X} (a0 : Int32) (a1 : Int32) (a2 : Int32) (z : Int32) (I : Nat → Nat → Int32) (J : Nat → Nat → Int64) : KX9_laysWorths_0 N d n a0 a1 a2 z (mkh X I J) = if am_in a2 36 then RX9_laysWorths_14 N d n X a0 (a1 + (nI 1)) (u2 I 143 a2.toNatClampNeg z) J else none := by
  rfl
theorem fX9_laysWorths (N d : Nat) {X : lt_X} (I : Nat → Nat → Int32) (J : Nat → Nat → Int64) : am_G am_prog N (d + 1) 303 [.ref 135] (mkh X I J) = am_run (am_G am_prog N d) eX9_laysWorths uX9_laysWorths N 0 [(0, .ref 135)] [] (mkh X I J) := by
  refine (am_G_at N d 303 mX9_laysWorths _ _ rfl).trans ?_
  rfl
theorem gX9_laysWorths (N d : Nat) {X : lt_X} (I : Nat → Nat → Int32) (J : Nat → Nat → Int64) : am_G am_prog (N + 30) (d + 1) 303 [.ref 135] (mkh X I J) = RX9_laysWorths_0 N d (N + 30) X I J := fX9_laysWorths (N + 30) (d + 0) I J
def RX9_shares_0 (N d n : Nat) (X : lt_X) (x1 : Int32) (x2 : Int32) (x3 : Int32) (x4 : Int32) (I : Nat → Nat → Int32) (J : Nat → Nat → Int64) : am_O := am_run (am_G am_prog (N + 30) (d + 1)) eX9_shares uX9_shares n 0 [(0, .ref 135), (1, .int x1), (2, .int x2), (3, .int x3), (4, .int x4)] [] (mkh X I J)
def RX9_shares_29 (N d n : Nat) (X : lt_X) (x5 : Int32) (I : Nat → Nat → Int32) (J : Nat → Nat → Int64) : am_O := am_run (am_G am_prog (N + 30) (d + 1)) eX9_shares uX9_shares n 29 [(0, .ref 135), (5, .int x5)] [] (mkh X I J)
def RX9_shares_60 (N d n : Nat) (X : lt_X) (x1 : Int32) (x2 : Int32) (x3 : Int32) (x4 : Int32) (x5 : Int32) (I : Nat → Nat → Int32) (J : Nat → Nat → Int64) : am_O := am_run (am_G am_prog (N + 30) (d + 1)) eX9_shares uX9_shares n 60 [(0, .ref 135), (1, .int x1), (2, .int x2), (3, .int x3), (4, .int x4), (5, .int x5)] [] (mkh X I J)
def RX9_shares_134 (N d n : Nat) (X : lt_X) (x1 : Int32) (x2 : Int32) (x3 : Int32) (x4 : Int32) (I : Nat → Nat → Int32) (J : Nat → Nat → Int64) : am_O := am_run (am_G am_prog (N + 30) (d + 1)) eX9_shares uX9_shares n 134 [(0, .ref 135), (1, .int x1), (2, .int x2), (3, .int x3), (4, .int x4)] [] (mkh X I J)
def KX9_shares_0 (N d n : Nat) (a0 : Int32) (a1 : Int32) (a2 : Int32) (a3 : Int32) (a4 : Int32) (z : Int32) (h : am_H) : am_O := if z = nI 0 then am_run (am_G am_prog (N + 30) (d + 1)) eX9_shares uX9_shares n 134 [(0, .ref 135), (1, .int a0), (2, .int a1), (3, .int a2), (4, .int a3)] [] h else am_cI (am_G am_prog (N + 30) (d + 1) 201 [.int a2, .int a4] h) (fun r2 h1 => if r2 = nI 0 then am_gR h1 9 135 27 (fun y3 => am_tI h1 y3 a1 a4 (fun h4 => am_gR h4 9 135 26 (fun y5 => am_lI h4 10 y5 (((nI 6) * a1) + a4) (fun y6 => am_cV (am_G am_prog (N + 30) (d + 1) 304 [.ref 135, .int a0, .int (a1 + (nI 1)), .int (a2 ||| ((nI 1) <<< (a4 &&& 31))), .int (a3 + y6)] h4) (fun h7 => am_run (am_G am_prog (N + 30) (d + 1)) eX9_shares uX9_shares n 60 [(0, .ref 135), (1, .int a0), (2, .int a1), (3, .int a2), (4, .int a3), (5, .int (a4 + (nI 1)))] [] h7))))) else am_run (am_G am_prog (N + 30) (d + 1)) eX9_shares uX9_shares n 60 [(0, .ref 135), (1, .int a0), (2, .int a1), (3, .int a2), (4, .int a3), (5, .int (a4 + (nI 1)))] [] h1)
def KX9_shares_1 (N d n : Nat) (h : am_H) : am_O := some (.null, h)
def KX9_shares_2 (N d n : Nat) (a0 : Int32) (a1 : Int32) (a2 : Int32) (a3 : Int32) (a4 : Int32) (z : Int32) (h : am_H) : am_O := if z = nI 0 then am_gR h 9 135 27 (fun y1 => am_tI h y1 a1 a4 (fun h2 => am_gR h2 9 135 26 (fun y3 => am_lI h2 10 y3 (((nI 6) * a1) + a4) (fun y4 => am_cV (am_G am_prog (N + 30) (d + 1) 304 [.ref 135, .int a0, .int (a1 + (nI 1)), .int (a2 ||| ((nI 1) <<< (a4 &&& 31))), .int (a3 + y4)] h2) (fun h5 => am_run (am_G am_prog (N + 30) (d + 1)) eX9_shares uX9_shares n 60 [(0, .ref 135), (1, .int a0), (2, .int a1), (3, .int a2), (4, .int a3), (5, .int (a4 + (nI 1)))] [] h5))))) else am_run (am_G am_prog (N + 30) (d + 1)) eX9_shares uX9_shares n 60 [(0, .ref 135), (1, .int a0), (2, .int a1), (3, .int a2), (4, .int a3), (5, .int (a4 + (nI 1)))] [] h
def KX9_shares_3 (N d n : Nat) (a0 : Int32) (a1 : Int32) (a2 : Int32) (a3 : Int32) (a4 : Int32) (h : am_H) : am_O := am_run (am_G am_prog (N + 30) (d + 1)) eX9_shares uX9_shares n 60 [(0, .ref 135), (1, .int a0), (2, .int a1), (3, .int a2), (4, .int a3), (5, .int (a4 + (nI 1)))] [] h
set_option maxHeartbeats 4000000 in
set_option maxRecDepth 100000 in
theorem sX9_shares_0 (N d n : Nat) {X : lt_X} (x1 : Int32) (x2 : Int32) (x3 : Int32) (x4 : Int32) (I : Nat → Nat → Int32) (J : Nat → Nat → Int64) : RX9_shares_0 N d (n + 1) X x1 x2 x3 x4 I J = if x2 = (I 140 2) then if (I 135 29) < x4 then RX9_shares_29 N d n X (nI 0) (u2 I 135 29 x4) J else some (.null, (mkh X I J)) else RX9_shares_60 N d n X x1 x2 x3 x4 (nI 0) I J := by
  rfl
set_option maxHeartbeats 4000000 in
set_option maxRecDepth 100000 in
theorem sX9_shares_29 (N d n : Nat) {X : lt_X} (x5 : Int32) (I : Nat → Nat → Int32) (J : Nat → Nat → Int64) : RX9_shares_29 N d (n + 1) X x5 I J = if x5 < (nI 6) then if am_in x5 6 then if am_in x5 6 then RX9_shares_29 N d n X (x5 + (nI 1)) (u2 I 145 x5.toNatClampNeg (I 144 x5.toNatClampNeg)) J else none else none else some (.null, (mkh X I J)) := by
  rfl
set_option maxHeartbeats 4000000 in
set_option maxRecDepth 100000 in
theorem sX9_shares_60 (N d n : Nat) {X : lt_X} (x1 : Int32) (x2 : Int32) (x3 : Int32) (x4 : Int32) (x5 : Int32) (I : Nat → Nat → Int32) (J : Nat → Nat → Int64) : RX9_shares_60 N d (n + 1) X x1 x2 x3 x4 x5 I J = if x5 < (I 140 3) then am_cI (am_G am_prog (N + 30) (d + 1) 201 [.int x1, .int x2] (mkh X I J)) (KX9_shares_0 N d n x1 x2 x3 x4 x5) else RX9_shares_134 N d n X x1 x2 x3 x4 I J := by
  rfl
set_option maxHeartbeats 4000000 in
set_option maxRecDepth 100000 in
theorem sX9_shares_134 (N d n : Nat) {X : lt_X} (x1 : Int32) (x2 : Int32) (x3 : Int32) (x4 : Int32) (I : Nat → Nat → Int32) (J : Nat → Nat → Int64) : RX9_shares_134 N d (n + 1) X x1 x2 x3 x4 I J = if am_in x2 6 then am_cV (am_G am_prog (N + 30) (d + 1) 304 [.ref 135, .int x1, .int (x2 + (nI 1)), .int x3, .int x4] (mkh X (u2 I 144 x2.toNatClampNeg (-1)) J)) (KX9_shares_1 N d n ) else none := by
  rfl
set_option maxHeartbeats 4000000 in
set_option maxRecDepth 100000 in
theorem kX9_shares_0 (N d n : Nat) {X : lt_X} (a0 : Int32) (a1 : Int32) (a2 : Int32) (a3 : Int32) (a4 : Int32) (z : Int32) (I : Nat → Nat → Int32) (J : Nat → Nat → Int64) : KX9_shares_0 N d n a0 a1 a2 a3 a4 z (mkh X I J) = if z = nI 0 then RX9_shares_134 N d n X a0 a1 a2 a3 I J else am_cI (am_G am_prog (N + 30) (d + 1) 201 [.int a2, .int a4] (mkh X I J)) (KX9_shares_2 N d n a0 a1 a2 a3 a4) := by
  rfl
set_option maxHeartbeats 4000000 in
set_option maxRecDepth 100000 in
theorem kX9_shares_1 (N d n : Nat) {X : lt_X} (I : Nat → Nat → Int32) (J : Nat → Nat → Int64) : KX9_shares_1 N d n (mkh X I J) = some (.null, (mkh X I J)) := by
  rfl
set_option maxHeartbeats 4000000 in
set_option maxRecDepth 100000 in
theorem kX9_shares_2 (N d n : Nat) {X : lt_X} (a0 : Int32) (a1 : Int32) (a2 : Int32) (a3 : Int32) (a4 : Int32) (z : Int32) (I : Nat → Nat → Int32) (J : Nat → Nat → Int64) : KX9_shares_2 N d n a0 a1 a2 a3 a4 z (mkh X I J) = if z = nI 0 then if am_in a1 6 then if am_in (((nI 6) * a1) + a4) 36 then am_cV (am_G am_prog (N + 30) (d + 1) 304 [.ref 135, .int a0, .int (a1 + (nI 1)), .int (a2 ||| ((nI 1) <<< (a4 &&& 31))), .int (a3 + (I 143 ((((nI 6) * a1) + a4).toNatClampNeg)))] (mkh X (u2 I 144 a1.toNatClampNeg a4) J)) (KX9_shares_3 N d n a0 a1 a2 a3 a4) else none else none else RX9_shares_60 N d n X a0 a1 a2 a3 (a4 + (nI 1)) I J := by
  rfl
set_option maxHeartbeats 4000000 in
set_option maxRecDepth 100000 in
theorem kX9_shares_3 (N d n : Nat) {X : lt_X} (a0 : Int32) (a1 : Int32) (a2 : Int32) (a3 : Int32) (a4 : Int32) (I : Nat → Nat → Int32) (J : Nat → Nat → Int64) : KX9_shares_3 N d n a0 a1 a2 a3 a4 (mkh X I J) = RX9_shares_60 N d n X a0 a1 a2 a3 (a4 + (nI 1)) I J := by
  rfl
theorem fX9_shares (N d : Nat) {X : lt_X} (x1 : Int32) (x2 : Int32) (x3 : Int32) (x4 : Int32) (I : Nat → Nat → Int32) (J : Nat → Nat → Int64) : am_G am_prog N (d + 1) 304 [.ref 135, .int x1, .int x2, .int x3, .int x4] (mkh X I J) = am_run (am_G am_prog N d) eX9_shares uX9_shares N 0 [(0, .ref 135), (1, .int x1), (2, .int x2), (3, .int x3), (4, .int x4)] [] (mkh X I J) := by
  refine (am_G_at N d 304 mX9_shares _ _ rfl).trans ?_
  rfl
theorem gX9_shares (N d : Nat) {X : lt_X} (x1 : Int32) (x2 : Int32) (x3 : Int32) (x4 : Int32) (I : Nat → Nat → Int32) (J : Nat → Nat → Int64) : am_G am_prog (N + 30) (d + 2) 304 [.ref 135, .int x1, .int x2, .int x3, .int x4] (mkh X I J) = RX9_shares_0 N d (N + 30) X x1 x2 x3 x4 I J := fX9_shares (N + 30) (d + 1) x1 x2 x3 x4 I J
def RX9_laysBest_0 (N d n : Nat) (X : lt_X) (x1 : Int32) (I : Nat → Nat → Int32) (J : Nat → Nat → Int64) : am_O := am_run (am_G am_prog (N + 30) (d + 0)) eX9_laysBest uX9_laysBest n 0 [(0, .ref 135), (1, .int x1)] [] (mkh X I J)
def KX9_laysBest_0 (N d n : Nat) (a0 : Int32) (h : am_H) : am_O := am_pI h 9 135 29 (-1) (fun h1 => am_cV (am_G am_prog (N + 30) (d + 0) 304 [.ref 135, .int a0, .int (nI 0), .int (nI 0), .int (nI 0)] h1) (fun h2 => some (.null, h2)))
def KX9_laysBest_1 (N d n : Nat) (h : am_H) : am_O := some (.null, h)
set_option maxHeartbeats 4000000 in
set_option maxRecDepth 100000 in
theorem sX9_laysBest_0 (N d n : Nat) {X : lt_X} (x1 : Int32) (I : Nat → Nat → Int32) (J : Nat → Nat → Int64) : RX9_laysBest_0 N d (n + 1) X x1 I J = am_cV (am_G am_prog (N + 30) (d + 0) 303 [.ref 135] (mkh X I J)) (KX9_laysBest_0 N d n x1) := by
  rfl
set_option maxHeartbeats 4000000 in
set_option maxRecDepth 100000 in
theorem kX9_laysBest_0 (N d n : Nat) {X : lt_X} (a0 : Int32) (I : Nat → Nat → Int32) (J : Nat → Nat → Int64) : KX9_laysBest_0 N d n a0 (mkh X I J) = am_cV (am_G am_prog (N + 30) (d + 0) 304 [.ref 135, .int a0, .int (nI 0), .int (nI 0), .int (nI 0)] (mkh X (u2 I 135 29 (-1)) J)) (KX9_laysBest_1 N d n ) := by
  rfl
set_option maxHeartbeats 4000000 in
set_option maxRecDepth 100000 in
theorem kX9_laysBest_1 (N d n : Nat) {X : lt_X} (I : Nat → Nat → Int32) (J : Nat → Nat → Int64) : KX9_laysBest_1 N d n (mkh X I J) = some (.null, (mkh X I J)) := by
  rfl
theorem fX9_laysBest (N d : Nat) {X : lt_X} (x1 : Int32) (I : Nat → Nat → Int32) (J : Nat → Nat → Int64) : am_G am_prog N (d + 1) 305 [.ref 135, .int x1] (mkh X I J) = am_run (am_G am_prog N d) eX9_laysBest uX9_laysBest N 0 [(0, .ref 135), (1, .int x1)] [] (mkh X I J) := by
  refine (am_G_at N d 305 mX9_laysBest _ _ rfl).trans ?_
  rfl
theorem gX9_laysBest (N d : Nat) {X : lt_X} (x1 : Int32) (I : Nat → Nat → Int32) (J : Nat → Nat → Int64) : am_G am_prog (N + 30) (d + 1) 305 [.ref 135, .int x1] (mkh X I J) = RX9_laysBest_0 N d (N + 30) X x1 I J := fX9_laysBest (N + 30) (d + 0) x1 I J
def RX9_arePeople_0 (N d n : Nat) (X : lt_X) (x1 : Int32) (I : Nat → Nat → Int32) (J : Nat → Nat → Int64) : am_O := am_run (am_G am_prog (N + 30) (d + 1)) eX9_arePeople uX9_arePeople n 0 [(0, .ref 135), (1, .int x1)] [] (mkh X I J)
def KX9_arePeople_0 (N d n : Nat) (z : Int32) (h : am_H) : am_O := am_nb z (some (.int z, h))
set_option maxHeartbeats 4000000 in
set_option maxRecDepth 100000 in
theorem sX9_arePeople_0 (N d n : Nat) {X : lt_X} (x1 : Int32) (I : Nat → Nat → Int32) (J : Nat → Nat → Int64) : RX9_arePeople_0 N d (n + 1) X x1 I J = am_cI (am_G am_prog (N + 30) (d + 1) 190 [.long x1.toInt64, .long (lN 0), .long ((((nI 1) <<< ((I 140 2) &&& 31)) - (nI 1)).toInt64)] (mkh X I J)) (KX9_arePeople_0 N d n ) := by
  rfl
set_option maxHeartbeats 4000000 in
set_option maxRecDepth 100000 in
theorem kX9_arePeople_0 (N d n : Nat) {X : lt_X} (z : Int32) (I : Nat → Nat → Int32) (J : Nat → Nat → Int64) : KX9_arePeople_0 N d n z (mkh X I J) = am_nb z (some (.int z, (mkh X I J))) := by
  rfl
theorem fX9_arePeople (N d : Nat) {X : lt_X} (x1 : Int32) (I : Nat → Nat → Int32) (J : Nat → Nat → Int64) : am_G am_prog N (d + 1) 306 [.ref 135, .int x1] (mkh X I J) = am_run (am_G am_prog N d) eX9_arePeople uX9_arePeople N 0 [(0, .ref 135), (1, .int x1)] [] (mkh X I J) := by
  refine (am_G_at N d 306 mX9_arePeople _ _ rfl).trans ?_
  rfl
theorem gX9_arePeople (N d : Nat) {X : lt_X} (x1 : Int32) (I : Nat → Nat → Int32) (J : Nat → Nat → Int64) : am_G am_prog (N + 30) (d + 2) 306 [.ref 135, .int x1] (mkh X I J) = RX9_arePeople_0 N d (N + 30) X x1 I J := fX9_arePeople (N + 30) (d + 1) x1 I J
def RX9_best_0 (N d n : Nat) (X : lt_X) (x1 : Int32) (I : Nat → Nat → Int32) (J : Nat → Nat → Int64) : am_O := am_run (am_G am_prog (N + 30) (d + 2)) eX9_best uX9_best n 0 [(0, .ref 135), (1, .int x1)] [] (mkh X I J)
def KX9_best_0 (N d n : Nat) (a0 : Int32) (z : Int32) (h : am_H) : am_O := if z = nI 0 then am_cI (am_G am_prog (N + 30) (d + 2) 188 [.ref 135, .int (nI 5)] h) (fun r2 h1 => some (.int r2, h1)) else am_cV (am_G am_prog (N + 30) (d + 2) 305 [.ref 135, .int a0] h) (fun h3 => am_gI h3 9 135 29 (fun y4 => some (.int y4, h3)))
def KX9_best_1 (N d n : Nat) (h : am_H) : am_O := am_gI h 9 135 29 (fun y1 => some (.int y1, h))
set_option maxHeartbeats 4000000 in
set_option maxRecDepth 100000 in
theorem sX9_best_0 (N d n : Nat) {X : lt_X} (x1 : Int32) (I : Nat → Nat → Int32) (J : Nat → Nat → Int64) : RX9_best_0 N d (n + 1) X x1 I J = am_cI (am_G am_prog (N + 30) (d + 2) 306 [.ref 135, .int x1] (mkh X (u2 (u2 I 135 1 (nI 0)) 135 0 (nI 0)) J)) (KX9_best_0 N d n x1) := by
  rfl
set_option maxHeartbeats 4000000 in
set_option maxRecDepth 100000 in
theorem kX9_best_0 (N d n : Nat) {X : lt_X} (a0 : Int32) (z : Int32) (I : Nat → Nat → Int32) (J : Nat → Nat → Int64) : KX9_best_0 N d n a0 z (mkh X I J) = if z = nI 0 then some (.int (-1), (mkh X (u2 I 135 0 (nI 5)) J)) else am_cV (am_G am_prog (N + 30) (d + 2) 305 [.ref 135, .int a0] (mkh X I J)) (KX9_best_1 N d n ) := by
  rfl
set_option maxHeartbeats 4000000 in
set_option maxRecDepth 100000 in
theorem kX9_best_1 (N d n : Nat) {X : lt_X} (I : Nat → Nat → Int32) (J : Nat → Nat → Int64) : KX9_best_1 N d n (mkh X I J) = some (.int (I 135 29), (mkh X I J)) := by
  rfl
theorem fX9_best (N d : Nat) {X : lt_X} (x1 : Int32) (I : Nat → Nat → Int32) (J : Nat → Nat → Int64) : am_G am_prog N (d + 1) 307 [.ref 135, .int x1] (mkh X I J) = am_run (am_G am_prog N d) eX9_best uX9_best N 0 [(0, .ref 135), (1, .int x1)] [] (mkh X I J) := by
  refine (am_G_at N d 307 mX9_best _ _ rfl).trans ?_
  rfl
theorem gX9_best (N d : Nat) {X : lt_X} (x1 : Int32) (I : Nat → Nat → Int32) (J : Nat → Nat → Int64) : am_G am_prog (N + 30) (d + 3) 307 [.ref 135, .int x1] (mkh X I J) = RX9_best_0 N d (N + 30) X x1 I J := fX9_best (N + 30) (d + 2) x1 I J
def RX9_bestSet_0 (N d n : Nat) (X : lt_X) (x1 : Int32) (x2 : Int32) (I : Nat → Nat → Int32) (J : Nat → Nat → Int64) : am_O := am_run (am_G am_prog (N + 30) (d + 2)) eX9_bestSet uX9_bestSet n 0 [(0, .ref 135), (1, .int x1), (2, .int x2)] [] (mkh X I J)
def KX9_bestSet_0 (N d n : Nat) (a0 : Int32) (a1 : Int32) (z : Int32) (h : am_H) : am_O := if z = nI 0 then am_cI (am_G am_prog (N + 30) (d + 2) 188 [.ref 135, .int (nI 2)] h) (fun r2 h1 => some (.int r2, h1)) else am_cI (am_G am_prog (N + 30) (d + 2) 306 [.ref 135, .int a0] h) (fun r4 h3 => if r4 = nI 0 then am_cI (am_G am_prog (N + 30) (d + 2) 188 [.ref 135, .int (nI 5)] h3) (fun r6 h5 => some (.int r6, h5)) else am_cI (am_G am_prog (N + 30) (d + 2) 201 [.int a0, .int a1] h3) (fun r8 h7 => if r8 = nI 0 then am_cI (am_G am_prog (N + 30) (d + 2) 188 [.ref 135, .int (nI 5)] h7) (fun r10 h9 => some (.int r10, h9)) else am_cV (am_G am_prog (N + 30) (d + 2) 305 [.ref 135, .int a0] h7) (fun h11 => am_gR h11 9 135 28 (fun y12 => am_lI h11 10 y12 a1 (fun y13 => if y13 < nI 0 then am_cI (am_G am_prog (N + 30) (d + 2) 188 [.ref 135, .int (nI 8)] h11) (fun r15 h14 => some (.int r15, h14)) else am_gR h11 9 135 28 (fun y16 => am_lI h11 10 y16 a1 (fun y17 => some (.int y17, h11))))))))
def KX9_bestSet_1 (N d n : Nat) (a0 : Int32) (a1 : Int32) (z : Int32) (h : am_H) : am_O := if z = nI 0 then am_cI (am_G am_prog (N + 30) (d + 2) 188 [.ref 135, .int (nI 5)] h) (fun r2 h1 => some (.int r2, h1)) else am_cI (am_G am_prog (N + 30) (d + 2) 201 [.int a0, .int a1] h) (fun r4 h3 => if r4 = nI 0 then am_cI (am_G am_prog (N + 30) (d + 2) 188 [.ref 135, .int (nI 5)] h3) (fun r6 h5 => some (.int r6, h5)) else am_cV (am_G am_prog (N + 30) (d + 2) 305 [.ref 135, .int a0] h3) (fun h7 => am_gR h7 9 135 28 (fun y8 => am_lI h7 10 y8 a1 (fun y9 => if y9 < nI 0 then am_cI (am_G am_prog (N + 30) (d + 2) 188 [.ref 135, .int (nI 8)] h7) (fun r11 h10 => some (.int r11, h10)) else am_gR h7 9 135 28 (fun y12 => am_lI h7 10 y12 a1 (fun y13 => some (.int y13, h7)))))))
def KX9_bestSet_2 (N d n : Nat) (a0 : Int32) (a1 : Int32) (z : Int32) (h : am_H) : am_O := if z = nI 0 then am_cI (am_G am_prog (N + 30) (d + 2) 188 [.ref 135, .int (nI 5)] h) (fun r2 h1 => some (.int r2, h1)) else am_cV (am_G am_prog (N + 30) (d + 2) 305 [.ref 135, .int a0] h) (fun h3 => am_gR h3 9 135 28 (fun y4 => am_lI h3 10 y4 a1 (fun y5 => if y5 < nI 0 then am_cI (am_G am_prog (N + 30) (d + 2) 188 [.ref 135, .int (nI 8)] h3) (fun r7 h6 => some (.int r7, h6)) else am_gR h3 9 135 28 (fun y8 => am_lI h3 10 y8 a1 (fun y9 => some (.int y9, h3))))))
def KX9_bestSet_3 (N d n : Nat) (a0 : Int32) (h : am_H) : am_O := am_gR h 9 135 28 (fun y1 => am_lI h 10 y1 a0 (fun y2 => if y2 < nI 0 then am_cI (am_G am_prog (N + 30) (d + 2) 188 [.ref 135, .int (nI 8)] h) (fun r4 h3 => some (.int r4, h3)) else am_gR h 9 135 28 (fun y5 => am_lI h 10 y5 a0 (fun y6 => some (.int y6, h)))))
set_option maxHeartbeats 4000000 in
set_option maxRecDepth 100000 in
theorem sX9_bestSet_0 (N d n : Nat) {X : lt_X} (x1 : Int32) (x2 : Int32) (I : Nat → Nat → Int32) (J : Nat → Nat → Int64) : RX9_bestSet_0 N d (n + 1) X x1 x2 I J = am_cI (am_G am_prog (N + 30) (d + 2) 260 [.ref 135, .long x2.toInt64] (mkh X (u2 (u2 I 135 1 (nI 0)) 135 0 (nI 0)) J)) (KX9_bestSet_0 N d n x1 x2) := by
  rfl
set_option maxHeartbeats 4000000 in
set_option maxRecDepth 100000 in
theorem kX9_bestSet_0 (N d n : Nat) {X : lt_X} (a0 : Int32) (a1 : Int32) (z : Int32) (I : Nat → Nat → Int32) (J : Nat → Nat → Int64) : KX9_bestSet_0 N d n a0 a1 z (mkh X I J) = if z = nI 0 then some (.int (-1), (mkh X (u2 I 135 0 (nI 2)) J)) else am_cI (am_G am_prog (N + 30) (d + 2) 306 [.ref 135, .int a0] (mkh X I J)) (KX9_bestSet_1 N d n a0 a1) := by
  rfl
set_option maxHeartbeats 4000000 in
set_option maxRecDepth 100000 in
theorem kX9_bestSet_1 (N d n : Nat) {X : lt_X} (a0 : Int32) (a1 : Int32) (z : Int32) (I : Nat → Nat → Int32) (J : Nat → Nat → Int64) : KX9_bestSet_1 N d n a0 a1 z (mkh X I J) = if z = nI 0 then some (.int (-1), (mkh X (u2 I 135 0 (nI 5)) J)) else am_cI (am_G am_prog (N + 30) (d + 2) 201 [.int a0, .int a1] (mkh X I J)) (KX9_bestSet_2 N d n a0 a1) := by
  rfl
set_option maxHeartbeats 4000000 in
set_option maxRecDepth 100000 in
theorem kX9_bestSet_2 (N d n : Nat) {X : lt_X} (a0 : Int32) (a1 : Int32) (z : Int32) (I : Nat → Nat → Int32) (J : Nat → Nat → Int64) : KX9_bestSet_2 N d n a0 a1 z (mkh X I J) = if z = nI 0 then some (.int (-1), (mkh X (u2 I 135 0 (nI 5)) J)) else am_cV (am_G am_prog (N + 30) (d + 2) 305 [.ref 135, .int a0] (mkh X I J)) (KX9_bestSet_3 N d n a1) := by
  rfl
set_option maxHeartbeats 4000000 in
set_option maxRecDepth 100000 in
theorem kX9_bestSet_3 (N d n : Nat) {X : lt_X} (a0 : Int32) (I : Nat → Nat → Int32) (J : Nat → Nat → Int64) : KX9_bestSet_3 N d n a0 (mkh X I J) = if am_in a0 6 then if (I 145 a0.toNatClampNeg) < nI 0 then some (.int (-1), (mkh X (u2 I 135 0 (nI 8)) J)) else if am_in a0 6 then some (.int (I 145 a0.toNatClampNeg), (mkh X I J)) else none else none := by
  rfl
theorem fX9_bestSet (N d : Nat) {X : lt_X} (x1 : Int32) (x2 : Int32) (I : Nat → Nat → Int32) (J : Nat → Nat → Int64) : am_G am_prog N (d + 1) 308 [.ref 135, .int x1, .int x2] (mkh X I J) = am_run (am_G am_prog N d) eX9_bestSet uX9_bestSet N 0 [(0, .ref 135), (1, .int x1), (2, .int x2)] [] (mkh X I J) := by
  refine (am_G_at N d 308 mX9_bestSet _ _ rfl).trans ?_
  rfl
theorem gX9_bestSet (N d : Nat) {X : lt_X} (x1 : Int32) (x2 : Int32) (I : Nat → Nat → Int32) (J : Nat → Nat → Int64) : am_G am_prog (N + 30) (d + 3) 308 [.ref 135, .int x1, .int x2] (mkh X I J) = RX9_bestSet_0 N d (N + 30) X x1 x2 I J := fX9_bestSet (N + 30) (d + 2) x1 x2 I J
def RX9_firstOf_0 (N d n : Nat) (X : lt_X) (x1 : Int32) (I : Nat → Nat → Int32) (J : Nat → Nat → Int64) : am_O := am_run (am_G am_prog (N + 30) (d + 0)) eX9_firstOf uX9_firstOf n 0 [(0, .ref 135), (1, .int x1)] [] (mkh X I J)
def RX9_firstOf_2 (N d n : Nat) (X : lt_X) (x1 : Int32) (x2 : Int32) (I : Nat → Nat → Int32) (J : Nat → Nat → Int64) : am_O := am_run (am_G am_prog (N + 30) (d + 0)) eX9_firstOf uX9_firstOf n 2 [(0, .ref 135), (1, .int x1), (2, .int x2)] [] (mkh X I J)
set_option maxHeartbeats 4000000 in
set_option maxRecDepth 100000 in
theorem sX9_firstOf_0 (N d n : Nat) {X : lt_X} (x1 : Int32) (I : Nat → Nat → Int32) (J : Nat → Nat → Int64) : RX9_firstOf_0 N d (n + 1) X x1 I J = RX9_firstOf_2 N d n X x1 (nI 0) I J := by
  rfl
set_option maxHeartbeats 4000000 in
set_option maxRecDepth 100000 in
theorem sX9_firstOf_2 (N d n : Nat) {X : lt_X} (x1 : Int32) (x2 : Int32) (I : Nat → Nat → Int32) (J : Nat → Nat → Int64) : RX9_firstOf_2 N d (n + 1) X x1 x2 I J = if x2 < (I 140 3) then if am_in ((nI 67) + x2) 2145 then if (I 140 (((nI 67) + x2).toNatClampNeg)) = x1 then some (.int x2, (mkh X I J)) else RX9_firstOf_2 N d n X x1 (x2 + (nI 1)) I J else none else some (.int (-1), (mkh X I J)) := by
  rfl
theorem fX9_firstOf (N d : Nat) {X : lt_X} (x1 : Int32) (I : Nat → Nat → Int32) (J : Nat → Nat → Int64) : am_G am_prog N (d + 1) 309 [.ref 135, .int x1] (mkh X I J) = am_run (am_G am_prog N d) eX9_firstOf uX9_firstOf N 0 [(0, .ref 135), (1, .int x1)] [] (mkh X I J) := by
  refine (am_G_at N d 309 mX9_firstOf _ _ rfl).trans ?_
  rfl
theorem gX9_firstOf (N d : Nat) {X : lt_X} (x1 : Int32) (I : Nat → Nat → Int32) (J : Nat → Nat → Int64) : am_G am_prog (N + 30) (d + 1) 309 [.ref 135, .int x1] (mkh X I J) = RX9_firstOf_0 N d (N + 30) X x1 I J := fX9_firstOf (N + 30) (d + 0) x1 I J
def RX9_pointsTo_0 (N d n : Nat) (X : lt_X) (x1 : Int32) (I : Nat → Nat → Int32) (J : Nat → Nat → Int64) : am_O := am_run (am_G am_prog (N + 30) (d + 1)) eX9_pointsTo uX9_pointsTo n 0 [(0, .ref 135), (1, .int x1)] [] (mkh X I J)
def RX9_pointsTo_4 (N d n : Nat) (X : lt_X) (x1 : Int32) (x2 : Int32) (x3 : Int32) (I : Nat → Nat → Int32) (J : Nat → Nat → Int64) : am_O := am_run (am_G am_prog (N + 30) (d + 1)) eX9_pointsTo uX9_pointsTo n 4 [(0, .ref 135), (1, .int x1), (2, .int x2), (3, .int x3)] [] (mkh X I J)
def KX9_pointsTo_0 (N d n : Nat) (a0 : Int32) (a1 : Int32) (a2 : Int32) (z : Int32) (h : am_H) : am_O := if z = nI 0 then am_run (am_G am_prog (N + 30) (d + 1)) eX9_pointsTo uX9_pointsTo n 4 [(0, .ref 135), (1, .int a0), (2, .int a1), (3, .int (a2 + (nI 1)))] [] h else am_gR h 9 135 26 (fun y1 => am_gR h 9 135 27 (fun y2 => am_lI h 10 y2 a2 (fun y3 => am_lI h 10 y1 (((nI 6) * a0) + y3) (fun y4 => am_gR h 9 135 26 (fun y5 => am_gR h 9 135 27 (fun y6 => am_lI h 10 y6 a1 (fun y7 => am_lI h 10 y5 (((nI 6) * a0) + y7) (fun y8 => if nI 0 < (y4 - y8) then am_run (am_G am_prog (N + 30) (d + 1)) eX9_pointsTo uX9_pointsTo n 4 [(0, .ref 135), (1, .int a0), (2, .int a2), (3, .int (a2 + (nI 1)))] [] h else if (y4 - y8) = nI 0 then if a1 = a0 then am_run (am_G am_prog (N + 30) (d + 1)) eX9_pointsTo uX9_pointsTo n 4 [(0, .ref 135), (1, .int a0), (2, .int a1), (3, .int (a2 + (nI 1)))] [] h else am_gR h 9 135 27 (fun y9 => am_lI h 10 y9 a2 (fun y10 => am_gR h 9 135 27 (fun y11 => am_lI h 10 y11 a1 (fun y12 => if y10 < y12 then am_run (am_G am_prog (N + 30) (d + 1)) eX9_pointsTo uX9_pointsTo n 4 [(0, .ref 135), (1, .int a0), (2, .int a2), (3, .int (a2 + (nI 1)))] [] h else am_run (am_G am_prog (N + 30) (d + 1)) eX9_pointsTo uX9_pointsTo n 4 [(0, .ref 135), (1, .int a0), (2, .int a1), (3, .int (a2 + (nI 1)))] [] h)))) else am_run (am_G am_prog (N + 30) (d + 1)) eX9_pointsTo uX9_pointsTo n 4 [(0, .ref 135), (1, .int a0), (2, .int a1), (3, .int (a2 + (nI 1)))] [] h))))))))
set_option maxHeartbeats 4000000 in
set_option maxRecDepth 100000 in
theorem sX9_pointsTo_0 (N d n : Nat) {X : lt_X} (x1 : Int32) (I : Nat → Nat → Int32) (J : Nat → Nat → Int64) : RX9_pointsTo_0 N d (n + 1) X x1 I J = RX9_pointsTo_4 N d n X x1 x1 (nI 0) I J := by
  rfl
set_option maxHeartbeats 4000000 in
set_option maxRecDepth 100000 in
theorem sX9_pointsTo_4 (N d n : Nat) {X : lt_X} (x1 : Int32) (x2 : Int32) (x3 : Int32) (I : Nat → Nat → Int32) (J : Nat → Nat → Int64) : RX9_pointsTo_4 N d (n + 1) X x1 x2 x3 I J = if x3 < (I 140 2) then am_cI (am_G am_prog (N + 30) (d + 1) 201 [.int (I 135 30), .int x3] (mkh X I J)) (KX9_pointsTo_0 N d n x1 x2 x3) else some (.int x2, (mkh X I J)) := by
  rfl
set_option maxHeartbeats 4000000 in
set_option maxRecDepth 100000 in
theorem kX9_pointsTo_0 (N d n : Nat) {X : lt_X} (a0 : Int32) (a1 : Int32) (a2 : Int32) (z : Int32) (I : Nat → Nat → Int32) (J : Nat → Nat → Int64) : KX9_pointsTo_0 N d n a0 a1 a2 z (mkh X I J) = if z = nI 0 then RX9_pointsTo_4 N d n X a0 a1 (a2 + (nI 1)) I J else if am_in a2 6 then if am_in (((nI 6) * a0) + (I 144 a2.toNatClampNeg)) 36 then if am_in a1 6 then if am_in (((nI 6) * a0) + (I 144 a1.toNatClampNeg)) 36 then if nI 0 < ((I 143 ((((nI 6) * a0) + (I 144 a2.toNatClampNeg)).toNatClampNeg)) - (I 143 ((((nI 6) * a0) + (I 144 a1.toNatClampNeg)).toNatClampNeg))) then RX9_pointsTo_4 N d n X a0 a2 (a2 + (nI 1)) I J else if ((I 143 ((((nI 6) * a0) + (I 144 a2.toNatClampNeg)).toNatClampNeg)) - (I 143 ((((nI 6) * a0) + (I 144 a1.toNatClampNeg)).toNatClampNeg))) = nI 0 then if a1 = a0 then RX9_pointsTo_4 N d n X a0 a1 (a2 + (nI 1)) I J else if am_in a2 6 then if am_in a1 6 then if (I 144 a2.toNatClampNeg) < (I 144 a1.toNatClampNeg) then RX9_pointsTo_4 N d n X a0 a2 (a2 + (nI 1)) I J else RX9_pointsTo_4 N d n X a0 a1 (a2 + (nI 1)) I J else none else none else RX9_pointsTo_4 N d n X a0 a1 (a2 + (nI 1)) I J else none else none else none else none := by
  rfl
theorem fX9_pointsTo (N d : Nat) {X : lt_X} (x1 : Int32) (I : Nat → Nat → Int32) (J : Nat → Nat → Int64) : am_G am_prog N (d + 1) 310 [.ref 135, .int x1] (mkh X I J) = am_run (am_G am_prog N d) eX9_pointsTo uX9_pointsTo N 0 [(0, .ref 135), (1, .int x1)] [] (mkh X I J) := by
  refine (am_G_at N d 310 mX9_pointsTo _ _ rfl).trans ?_
  rfl
theorem gX9_pointsTo (N d : Nat) {X : lt_X} (x1 : Int32) (I : Nat → Nat → Int32) (J : Nat → Nat → Int64) : am_G am_prog (N + 30) (d + 2) 310 [.ref 135, .int x1] (mkh X I J) = RX9_pointsTo_0 N d (N + 30) X x1 I J := fX9_pointsTo (N + 30) (d + 1) x1 I J
def RX9_goesRing_0 (N d n : Nat) (X : lt_X) (x1 : Int32) (I : Nat → Nat → Int32) (J : Nat → Nat → Int64) : am_O := am_run (am_G am_prog (N + 30) (d + 0)) eX9_goesRing uX9_goesRing n 0 [(0, .ref 135), (1, .int x1)] [] (mkh X I J)
def RX9_goesRing_2 (N d n : Nat) (X : lt_X) (x1 : Int32) (x2 : Int32) (I : Nat → Nat → Int32) (J : Nat → Nat → Int64) : am_O := am_run (am_G am_prog (N + 30) (d + 0)) eX9_goesRing uX9_goesRing n 2 [(0, .ref 135), (1, .int x1), (2, .int x2)] [] (mkh X I J)
def KX9_goesRing_0 (N d n : Nat) (a0 : Int32) (a1 : Int32) (z : Int32) (h : am_H) : am_O := am_gR h 9 135 28 (fun y1 => am_gR h 9 135 27 (fun y2 => am_lI h 10 y2 z (fun y3 => am_tI h y1 a1 y3 (fun h4 => if z = a0 then some (.null, h4) else am_run (am_G am_prog (N + 30) (d + 0)) eX9_goesRing uX9_goesRing n 2 [(0, .ref 135), (1, .int a0), (2, .int z)] [] h4))))
set_option maxHeartbeats 4000000 in
set_option maxRecDepth 100000 in
theorem sX9_goesRing_0 (N d n : Nat) {X : lt_X} (x1 : Int32) (I : Nat → Nat → Int32) (J : Nat → Nat → Int64) : RX9_goesRing_0 N d (n + 1) X x1 I J = RX9_goesRing_2 N d n X x1 x1 I J := by
  rfl
set_option maxHeartbeats 4000000 in
set_option maxRecDepth 100000 in
theorem sX9_goesRing_2 (N d n : Nat) {X : lt_X} (x1 : Int32) (x2 : Int32) (I : Nat → Nat → Int32) (J : Nat → Nat → Int64) : RX9_goesRing_2 N d (n + 1) X x1 x2 I J = am_cI (am_G am_prog (N + 30) (d + 0) 310 [.ref 135, .int x2] (mkh X I J)) (KX9_goesRing_0 N d n x1 x2) := by
  rfl
set_option maxHeartbeats 4000000 in
set_option maxRecDepth 100000 in
theorem kX9_goesRing_0 (N d n : Nat) {X : lt_X} (a0 : Int32) (a1 : Int32) (z : Int32) (I : Nat → Nat → Int32) (J : Nat → Nat → Int64) : KX9_goesRing_0 N d n a0 a1 z (mkh X I J) = if am_in z 6 then if am_in a1 6 then if z = a0 then some (.null, (mkh X (u2 I 145 a1.toNatClampNeg (I 144 z.toNatClampNeg)) J)) else RX9_goesRing_2 N d n X a0 z (u2 I 145 a1.toNatClampNeg (I 144 z.toNatClampNeg)) J else none else none := by
  rfl
theorem fX9_goesRing (N d : Nat) {X : lt_X} (x1 : Int32) (I : Nat → Nat → Int32) (J : Nat → Nat → Int64) : am_G am_prog N (d + 1) 311 [.ref 135, .int x1] (mkh X I J) = am_run (am_G am_prog N d) eX9_goesRing uX9_goesRing N 0 [(0, .ref 135), (1, .int x1)] [] (mkh X I J) := by
  refine (am_G_at N d 311 mX9_goesRing _ _ rfl).trans ?_
  rfl
theorem gX9_goesRing (N d : Nat) {X : lt_X} (x1 : Int32) (I : Nat → Nat → Int32) (J : Nat → Nat → Int64) : am_G am_prog (N + 30) (d + 1) 311 [.ref 135, .int x1] (mkh X I J) = RX9_goesRing_0 N d (N + 30) X x1 I J := fX9_goesRing (N + 30) (d + 0) x1 I J
def RX9_ringFrom_0 (N d n : Nat) (X : lt_X) (x1 : Int32) (I : Nat → Nat → Int32) (J : Nat → Nat → Int64) : am_O := am_run (am_G am_prog (N + 30) (d + 0)) eX9_ringFrom uX9_ringFrom n 0 [(0, .ref 135), (1, .int x1)] [] (mkh X I J)
def RX9_ringFrom_4 (N d n : Nat) (X : lt_X) (x2 : Int32) (x3 : Int32) (I : Nat → Nat → Int32) (J : Nat → Nat → Int64) : am_O := am_run (am_G am_prog (N + 30) (d + 0)) eX9_ringFrom uX9_ringFrom n 4 [(0, .ref 135), (2, .int x2), (3, .int x3)] [] (mkh X I J)
def KX9_ringFrom_0 (N d n : Nat) (a0 : Int32) (z : Int32) (h : am_H) : am_O := am_run (am_G am_prog (N + 30) (d + 0)) eX9_ringFrom uX9_ringFrom n 4 [(0, .ref 135), (2, .int z), (3, .int (a0 + (nI 1)))] [] h
set_option maxHeartbeats 4000000 in
set_option maxRecDepth 100000 in
theorem sX9_ringFrom_0 (N d n : Nat) {X : lt_X} (x1 : Int32) (I : Nat → Nat → Int32) (J : Nat → Nat → Int64) : RX9_ringFrom_0 N d (n + 1) X x1 I J = RX9_ringFrom_4 N d n X x1 (nI 0) I J := by
  rfl
set_option maxHeartbeats 4000000 in
set_option maxRecDepth 100000 in
theorem sX9_ringFrom_4 (N d n : Nat) {X : lt_X} (x2 : Int32) (x3 : Int32) (I : Nat → Nat → Int32) (J : Nat → Nat → Int64) : RX9_ringFrom_4 N d (n + 1) X x2 x3 I J = if x3 < (nI 6) then am_cI (am_G am_prog (N + 30) (d + 0) 310 [.ref 135, .int x2] (mkh X I J)) (KX9_ringFrom_0 N d n x3) else some (.int x2, (mkh X I J)) := by
  rfl
set_option maxHeartbeats 4000000 in
set_option maxRecDepth 100000 in
theorem kX9_ringFrom_0 (N d n : Nat) {X : lt_X} (a0 : Int32) (z : Int32) (I : Nat → Nat → Int32) (J : Nat → Nat → Int64) : KX9_ringFrom_0 N d n a0 z (mkh X I J) = RX9_ringFrom_4 N d n X z (a0 + (nI 1)) I J := by
  rfl
theorem fX9_ringFrom (N d : Nat) {X : lt_X} (x1 : Int32) (I : Nat → Nat → Int32) (J : Nat → Nat → Int64) : am_G am_prog N (d + 1) 312 [.ref 135, .int x1] (mkh X I J) = am_run (am_G am_prog N d) eX9_ringFrom uX9_ringFrom N 0 [(0, .ref 135), (1, .int x1)] [] (mkh X I J) := by
  refine (am_G_at N d 312 mX9_ringFrom _ _ rfl).trans ?_
  rfl
theorem gX9_ringFrom (N d : Nat) {X : lt_X} (x1 : Int32) (I : Nat → Nat → Int32) (J : Nat → Nat → Int64) : am_G am_prog (N + 30) (d + 1) 312 [.ref 135, .int x1] (mkh X I J) = RX9_ringFrom_0 N d (N + 30) X x1 I J := fX9_ringFrom (N + 30) (d + 0) x1 I J
def RX9_laysTrades_0 (N d n : Nat) (X : lt_X) (I : Nat → Nat → Int32) (J : Nat → Nat → Int64) : am_O := am_run (am_G am_prog (N + 30) (d + 1)) eX9_laysTrades uX9_laysTrades n 0 [(0, .ref 135)] [] (mkh X I J)
def RX9_laysTrades_11 (N d n : Nat) (X : lt_X) (x1 : Int32) (I : Nat → Nat → Int32) (J : Nat → Nat → Int64) : am_O := am_run (am_G am_prog (N + 30) (d + 1)) eX9_laysTrades uX9_laysTrades n 11 [(0, .ref 135), (1, .int x1)] [] (mkh X I J)
def RX9_laysTrades_70 (N d n : Nat) (X : lt_X) (I : Nat → Nat → Int32) (J : Nat → Nat → Int64) : am_O := am_run (am_G am_prog (N + 30) (d + 1)) eX9_laysTrades uX9_laysTrades n 70 [(0, .ref 135)] [] (mkh X I J)
def RX9_laysTrades_79 (N d n : Nat) (X : lt_X) (x1 : Int32) (I : Nat → Nat → Int32) (J : Nat → Nat → Int64) : am_O := am_run (am_G am_prog (N + 30) (d + 1)) eX9_laysTrades uX9_laysTrades n 79 [(0, .ref 135), (1, .int x1)] [] (mkh X I J)
def RX9_laysTrades_130 (N d n : Nat) (X : lt_X) (x1 : Int32) (I : Nat → Nat → Int32) (J : Nat → Nat → Int64) : am_O := am_run (am_G am_prog (N + 30) (d + 1)) eX9_laysTrades uX9_laysTrades n 130 [(0, .ref 135), (1, .int x1)] [] (mkh X I J)
def KX9_laysTrades_0 (N d n : Nat) (h : am_H) : am_O := am_pI h 9 135 30 (nI 0) (fun h1 => am_run (am_G am_prog (N + 30) (d + 1)) eX9_laysTrades uX9_laysTrades n 11 [(0, .ref 135), (1, .int (nI 0))] [] h1)
def KX9_laysTrades_1 (N d n : Nat) (a0 : Int32) (z : Int32) (h : am_H) : am_O := am_tI h 144 a0 z (fun h1 => am_gR h1 9 135 28 (fun y2 => am_tI h1 y2 a0 (-1) (fun h3 => am_gI h3 9 135 30 (fun y4 => am_gR h3 9 135 27 (fun y5 => am_lI h3 10 y5 a0 (fun y6 => if y6 < nI 0 then am_pI h3 9 135 30 (y4 ||| (nI 0)) (fun h7 => am_run (am_G am_prog (N + 30) (d + 1)) eX9_laysTrades uX9_laysTrades n 11 [(0, .ref 135), (1, .int (a0 + (nI 1)))] [] h7) else am_pI h3 9 135 30 (y4 ||| ((nI 1) <<< (a0 &&& 31))) (fun h8 => am_run (am_G am_prog (N + 30) (d + 1)) eX9_laysTrades uX9_laysTrades n 11 [(0, .ref 135), (1, .int (a0 + (nI 1)))] [] h8)))))))
def KX9_laysTrades_2 (N d n : Nat) (a0 : Int32) (z : Int32) (h : am_H) : am_O := if z = nI 0 then am_run (am_G am_prog (N + 30) (d + 1)) eX9_laysTrades uX9_laysTrades n 79 [(0, .ref 135), (1, .int (a0 + (nI 1)))] [] h else am_gR h 9 135 28 (fun y1 => am_cI (am_G am_prog (N + 30) (d + 1) 312 [.ref 135, .int a0] h) (fun r3 h2 => am_lI h2 10 y1 r3 (fun y4 => if y4 < nI 0 then am_cI (am_G am_prog (N + 30) (d + 1) 312 [.ref 135, .int a0] h2) (fun r6 h5 => am_cV (am_G am_prog (N + 30) (d + 1) 311 [.ref 135, .int r6] h5) (fun h7 => am_run (am_G am_prog (N + 30) (d + 1)) eX9_laysTrades uX9_laysTrades n 79 [(0, .ref 135), (1, .int (a0 + (nI 1)))] [] h7)) else am_run (am_G am_prog (N + 30) (d + 1)) eX9_laysTrades uX9_laysTrades n 79 [(0, .ref 135), (1, .int (a0 + (nI 1)))] [] h2)))
def KX9_laysTrades_3 (N d n : Nat) (a0 : Int32) (z : Int32) (h : am_H) : am_O := am_lI h 10 145 z (fun y1 => if y1 < nI 0 then am_cI (am_G am_prog (N + 30) (d + 1) 312 [.ref 135, .int a0] h) (fun r3 h2 => am_cV (am_G am_prog (N + 30) (d + 1) 311 [.ref 135, .int r3] h2) (fun h4 => am_run (am_G am_prog (N + 30) (d + 1)) eX9_laysTrades uX9_laysTrades n 79 [(0, .ref 135), (1, .int (a0 + (nI 1)))] [] h4)) else am_run (am_G am_prog (N + 30) (d + 1)) eX9_laysTrades uX9_laysTrades n 79 [(0, .ref 135), (1, .int (a0 + (nI 1)))] [] h)
def KX9_laysTrades_4 (N d n : Nat) (a0 : Int32) (z : Int32) (h : am_H) : am_O := am_cV (am_G am_prog (N + 30) (d + 1) 311 [.ref 135, .int z] h) (fun h1 => am_run (am_G am_prog (N + 30) (d + 1)) eX9_laysTrades uX9_laysTrades n 79 [(0, .ref 135), (1, .int (a0 + (nI 1)))] [] h1)
def KX9_laysTrades_5 (N d n : Nat) (a0 : Int32) (h : am_H) : am_O := am_run (am_G am_prog (N + 30) (d + 1)) eX9_laysTrades uX9_laysTrades n 79 [(0, .ref 135), (1, .int (a0 + (nI 1)))] [] h
set_option maxHeartbeats 4000000 in
set_option maxRecDepth 100000 in
theorem sX9_laysTrades_0 (N d n : Nat) {X : lt_X} (I : Nat → Nat → Int32) (J : Nat → Nat → Int64) : RX9_laysTrades_0 N d (n + 1) X I J = am_cV (am_G am_prog (N + 30) (d + 1) 303 [.ref 135] (mkh X I J)) (KX9_laysTrades_0 N d n ) := by
  rfl
set_option maxHeartbeats 4000000 in
set_option maxRecDepth 100000 in
theorem sX9_laysTrades_11 (N d n : Nat) {X : lt_X} (x1 : Int32) (I : Nat → Nat → Int32) (J : Nat → Nat → Int64) : RX9_laysTrades_11 N d (n + 1) X x1 I J = if x1 < (I 140 2) then am_cI (am_G am_prog (N + 30) (d + 1) 309 [.ref 135, .int x1] (mkh X I J)) (KX9_laysTrades_1 N d n x1) else RX9_laysTrades_70 N d n X I J := by
  rfl
set_option maxHeartbeats 4000000 in
set_option maxRecDepth 100000 in
theorem sX9_laysTrades_70 (N d n : Nat) {X : lt_X} (I : Nat → Nat → Int32) (J : Nat → Nat → Int64) : RX9_laysTrades_70 N d (n + 1) X I J = if (I 135 30) = nI 0 then some (.null, (mkh X I J)) else RX9_laysTrades_79 N d n X (nI 0) I J := by
  rfl
set_option maxHeartbeats 4000000 in
set_option maxRecDepth 100000 in
theorem sX9_laysTrades_79 (N d n : Nat) {X : lt_X} (x1 : Int32) (I : Nat → Nat → Int32) (J : Nat → Nat → Int64) : RX9_laysTrades_79 N d (n + 1) X x1 I J = if x1 < (I 140 2) then am_cI (am_G am_prog (N + 30) (d + 1) 201 [.int (I 135 30), .int x1] (mkh X I J)) (KX9_laysTrades_2 N d n x1) else RX9_laysTrades_130 N d n X (nI 0) I J := by
  rfl
set_option maxHeartbeats 4000000 in
set_option maxRecDepth 100000 in
theorem sX9_laysTrades_130 (N d n : Nat) {X : lt_X} (x1 : Int32) (I : Nat → Nat → Int32) (J : Nat → Nat → Int64) : RX9_laysTrades_130 N d (n + 1) X x1 I J = if x1 < (I 140 2) then if am_in x1 6 then if (I 145 x1.toNatClampNeg) < nI 0 then RX9_laysTrades_130 N d n X (x1 + (nI 1)) I J else RX9_laysTrades_130 N d n X (x1 + (nI 1)) (u2 I 135 30 ((I 135 30) &&& (((nI 1) <<< (x1 &&& 31)) ^^^ (-1)))) J else none else RX9_laysTrades_70 N d n X I J := by
  rfl
set_option maxHeartbeats 4000000 in
set_option maxRecDepth 100000 in
theorem kX9_laysTrades_0 (N d n : Nat) {X : lt_X} (I : Nat → Nat → Int32) (J : Nat → Nat → Int64) : KX9_laysTrades_0 N d n (mkh X I J) = RX9_laysTrades_11 N d n X (nI 0) (u2 I 135 30 (nI 0)) J := by
  rfl
set_option maxHeartbeats 4000000 in
set_option maxRecDepth 100000 in
theorem kX9_laysTrades_1 (N d n : Nat) {X : lt_X} (a0 : Int32) (z : Int32) (I : Nat → Nat → Int32) (J : Nat → Nat → Int64) : KX9_laysTrades_1 N d n a0 z (mkh X I J) = if am_in a0 6 then if am_in a0 6 then if am_in a0 6 then if ((u2 (u2 I 144 a0.toNatClampNeg z) 145 a0.toNatClampNeg (-1)) 144 a0.toNatClampNeg) < nI 0 then RX9_laysTrades_11 N d n X (a0 + (nI 1)) (u2 (u2 (u2 I 144 a0.toNatClampNeg z) 145 a0.toNatClampNeg (-1)) 135 30 ((I 135 30) ||| (nI 0))) J else RX9_laysTrades_11 N d n X (a0 + (nI 1)) (u2 (u2 (u2 I 144 a0.toNatClampNeg z) 145 a0.toNatClampNeg (-1)) 135 30 ((I 135 30) ||| ((nI 1) <<< (a0 &&& 31)))) J else none else none else none := by
  rfl
set_option maxHeartbeats 4000000 in
set_option maxRecDepth 100000 in
theorem kX9_laysTrades_2 (N d n : Nat) {X : lt_X} (a0 : Int32) (z : Int32) (I : Nat → Nat → Int32) (J : Nat → Nat → Int64) : KX9_laysTrades_2 N d n a0 z (mkh X I J) = if z = nI 0 then RX9_laysTrades_79 N d n X (a0 + (nI 1)) I J else am_cI (am_G am_prog (N + 30) (d + 1) 312 [.ref 135, .int a0] (mkh X I J)) (KX9_laysTrades_3 N d n a0) := by
  rfl
set_option maxHeartbeats 4000000 in
set_option maxRecDepth 100000 in
theorem kX9_laysTrades_3 (N d n : Nat) {X : lt_X} (a0 : Int32) (z : Int32) (I : Nat → Nat → Int32) (J : Nat → Nat → Int64) : KX9_laysTrades_3 N d n a0 z (mkh X I J) = if am_in z 6 then if (I 145 z.toNatClampNeg) < nI 0 then am_cI (am_G am_prog (N + 30) (d + 1) 312 [.ref 135, .int a0] (mkh X I J)) (KX9_laysTrades_4 N d n a0) else RX9_laysTrades_79 N d n X (a0 + (nI 1)) I J else none := by
  rfl
set_option maxHeartbeats 4000000 in
set_option maxRecDepth 100000 in
theorem kX9_laysTrades_4 (N d n : Nat) {X : lt_X} (a0 : Int32) (z : Int32) (I : Nat → Nat → Int32) (J : Nat → Nat → Int64) : KX9_laysTrades_4 N d n a0 z (mkh X I J) = am_cV (am_G am_prog (N + 30) (d + 1) 311 [.ref 135, .int z] (mkh X I J)) (KX9_laysTrades_5 N d n a0) := by
  rfl
set_option maxHeartbeats 4000000 in
set_option maxRecDepth 100000 in
theorem kX9_laysTrades_5 (N d n : Nat) {X : lt_X} (a0 : Int32) (I : Nat → Nat → Int32) (J : Nat → Nat → Int64) : KX9_laysTrades_5 N d n a0 (mkh X I J) = RX9_laysTrades_79 N d n X (a0 + (nI 1)) I J := by
  rfl
theorem fX9_laysTrades (N d : Nat) {X : lt_X} (I : Nat → Nat → Int32) (J : Nat → Nat → Int64) : am_G am_prog N (d + 1) 313 [.ref 135] (mkh X I J) = am_run (am_G am_prog N d) eX9_laysTrades uX9_laysTrades N 0 [(0, .ref 135)] [] (mkh X I J) := by
  refine (am_G_at N d 313 mX9_laysTrades _ _ rfl).trans ?_
  rfl
theorem gX9_laysTrades (N d : Nat) {X : lt_X} (I : Nat → Nat → Int32) (J : Nat → Nat → Int64) : am_G am_prog (N + 30) (d + 2) 313 [.ref 135] (mkh X I J) = RX9_laysTrades_0 N d (N + 30) X I J := fX9_laysTrades (N + 30) (d + 1) I J
def RX9_trade_0 (N d n : Nat) (X : lt_X) (x1 : Int32) (I : Nat → Nat → Int32) (J : Nat → Nat → Int64) : am_O := am_run (am_G am_prog (N + 30) (d + 2)) eX9_trade uX9_trade n 0 [(0, .ref 135), (1, .int x1)] [] (mkh X I J)
def KX9_trade_0 (N d n : Nat) (a0 : Int32) (z : Int32) (h : am_H) : am_O := if z = nI 0 then am_cI (am_G am_prog (N + 30) (d + 2) 188 [.ref 135, .int (nI 2)] h) (fun r2 h1 => some (.int r2, h1)) else am_cV (am_G am_prog (N + 30) (d + 2) 313 [.ref 135] h) (fun h3 => am_gR h3 9 135 28 (fun y4 => am_lI h3 10 y4 a0 (fun y5 => if y5 < nI 0 then am_cI (am_G am_prog (N + 30) (d + 2) 188 [.ref 135, .int (nI 8)] h3) (fun r7 h6 => some (.int r7, h6)) else am_gR h3 9 135 28 (fun y8 => am_lI h3 10 y8 a0 (fun y9 => some (.int y9, h3))))))
def KX9_trade_1 (N d n : Nat) (a0 : Int32) (h : am_H) : am_O := am_gR h 9 135 28 (fun y1 => am_lI h 10 y1 a0 (fun y2 => if y2 < nI 0 then am_cI (am_G am_prog (N + 30) (d + 2) 188 [.ref 135, .int (nI 8)] h) (fun r4 h3 => some (.int r4, h3)) else am_gR h 9 135 28 (fun y5 => am_lI h 10 y5 a0 (fun y6 => some (.int y6, h)))))
set_option maxHeartbeats 4000000 in
set_option maxRecDepth 100000 in
theorem sX9_trade_0 (N d n : Nat) {X : lt_X} (x1 : Int32) (I : Nat → Nat → Int32) (J : Nat → Nat → Int64) : RX9_trade_0 N d (n + 1) X x1 I J = am_cI (am_G am_prog (N + 30) (d + 2) 260 [.ref 135, .long x1.toInt64] (mkh X (u2 (u2 I 135 1 (nI 0)) 135 0 (nI 0)) J)) (KX9_trade_0 N d n x1) := by
  rfl
set_option maxHeartbeats 4000000 in
set_option maxRecDepth 100000 in
theorem kX9_trade_0 (N d n : Nat) {X : lt_X} (a0 : Int32) (z : Int32) (I : Nat → Nat → Int32) (J : Nat → Nat → Int64) : KX9_trade_0 N d n a0 z (mkh X I J) = if z = nI 0 then some (.int (-1), (mkh X (u2 I 135 0 (nI 2)) J)) else am_cV (am_G am_prog (N + 30) (d + 2) 313 [.ref 135] (mkh X I J)) (KX9_trade_1 N d n a0) := by
  rfl
set_option maxHeartbeats 4000000 in
set_option maxRecDepth 100000 in
theorem kX9_trade_1 (N d n : Nat) {X : lt_X} (a0 : Int32) (I : Nat → Nat → Int32) (J : Nat → Nat → Int64) : KX9_trade_1 N d n a0 (mkh X I J) = if am_in a0 6 then if (I 145 a0.toNatClampNeg) < nI 0 then some (.int (-1), (mkh X (u2 I 135 0 (nI 8)) J)) else if am_in a0 6 then some (.int (I 145 a0.toNatClampNeg), (mkh X I J)) else none else none := by
  rfl
theorem fX9_trade (N d : Nat) {X : lt_X} (x1 : Int32) (I : Nat → Nat → Int32) (J : Nat → Nat → Int64) : am_G am_prog N (d + 1) 314 [.ref 135, .int x1] (mkh X I J) = am_run (am_G am_prog N d) eX9_trade uX9_trade N 0 [(0, .ref 135), (1, .int x1)] [] (mkh X I J) := by
  refine (am_G_at N d 314 mX9_trade _ _ rfl).trans ?_
  rfl
theorem gX9_trade (N d : Nat) {X : lt_X} (x1 : Int32) (I : Nat → Nat → Int32) (J : Nat → Nat → Int64) : am_G am_prog (N + 30) (d + 3) 314 [.ref 135, .int x1] (mkh X I J) = RX9_trade_0 N d (N + 30) X x1 I J := fX9_trade (N + 30) (d + 2) x1 I J
def RX9_trades_0 (N d n : Nat) (X : lt_X) (I : Nat → Nat → Int32) (J : Nat → Nat → Int64) : am_O := am_run (am_G am_prog (N + 30) (d + 0)) eX9_trades uX9_trades n 0 [(0, .ref 135)] [] (mkh X I J)
def RX9_trades_18 (N d n : Nat) (X : lt_X) (x1 : Int32) (x2 : Int32) (I : Nat → Nat → Int32) (J : Nat → Nat → Int64) : am_O := am_run (am_G am_prog (N + 30) (d + 0)) eX9_trades uX9_trades n 18 [(0, .ref 135), (1, .int x1), (2, .int x2)] [] (mkh X I J)
def KX9_trades_0 (N d n : Nat) (h : am_H) : am_O := am_run (am_G am_prog (N + 30) (d + 0)) eX9_trades uX9_trades n 18 [(0, .ref 135), (1, .int (nI 0)), (2, .int (nI 0))] [] h
set_option maxHeartbeats 4000000 in
set_option maxRecDepth 100000 in
theorem sX9_trades_0 (N d n : Nat) {X : lt_X} (I : Nat → Nat → Int32) (J : Nat → Nat → Int64) : RX9_trades_0 N d (n + 1) X I J = am_cV (am_G am_prog (N + 30) (d + 0) 313 [.ref 135] (mkh X (u2 (u2 I 135 1 (nI 0)) 135 0 (nI 0)) J)) (KX9_trades_0 N d n ) := by
  rfl
set_option maxHeartbeats 4000000 in
set_option maxRecDepth 100000 in
theorem sX9_trades_18 (N d n : Nat) {X : lt_X} (x1 : Int32) (x2 : Int32) (I : Nat → Nat → Int32) (J : Nat → Nat → Int64) : RX9_trades_18 N d (n + 1) X x1 x2 I J = if x2 < (I 140 2) then if am_in x2 6 then if am_in x2 6 then if (I 145 x2.toNatClampNeg) = (I 144 x2.toNatClampNeg) then RX9_trades_18 N d n X (x1 + (nI 0)) (x2 + (nI 1)) I J else RX9_trades_18 N d n X (x1 + (nI 1)) (x2 + (nI 1)) I J else none else none else some (.int x1, (mkh X I J)) := by
  rfl
set_option maxHeartbeats 4000000 in
set_option maxRecDepth 100000 in
theorem kX9_trades_0 (N d n : Nat) {X : lt_X} (I : Nat → Nat → Int32) (J : Nat → Nat → Int64) : KX9_trades_0 N d n (mkh X I J) = RX9_trades_18 N d n X (nI 0) (nI 0) I J := by
  rfl
theorem fX9_trades (N d : Nat) {X : lt_X} (I : Nat → Nat → Int32) (J : Nat → Nat → Int64) : am_G am_prog N (d + 1) 315 [.ref 135] (mkh X I J) = am_run (am_G am_prog N d) eX9_trades uX9_trades N 0 [(0, .ref 135)] [] (mkh X I J) := by
  refine (am_G_at N d 315 mX9_trades _ _ rfl).trans ?_
  rfl
theorem gX9_trades (N d : Nat) {X : lt_X} (I : Nat → Nat → Int32) (J : Nat → Nat → Int64) : am_G am_prog (N + 30) (d + 1) 315 [.ref 135] (mkh X I J) = RX9_trades_0 N d (N + 30) X I J := fX9_trades (N + 30) (d + 0) I J
def RX9_bestOwned_0 (N d n : Nat) (X : lt_X) (x1 : Int32) (x2 : Int32) (I : Nat → Nat → Int32) (J : Nat → Nat → Int64) : am_O := am_run (am_G am_prog (N + 30) (d + 0)) eX9_bestOwned uX9_bestOwned n 0 [(0, .ref 135), (1, .int x1), (2, .int x2)] [] (mkh X I J)
def RX9_bestOwned_5 (N d n : Nat) (X : lt_X) (x1 : Int32) (x2 : Int32) (x3 : Int32) (x4 : Int32) (I : Nat → Nat → Int32) (J : Nat → Nat → Int64) : am_O := am_run (am_G am_prog (N + 30) (d + 0)) eX9_bestOwned uX9_bestOwned n 5 [(0, .ref 135), (1, .int x1), (2, .int x2), (3, .int x3), (4, .int x4)] [] (mkh X I J)
def KX9_bestOwned_0 (N d n : Nat) (a0 : Int32) (a1 : Int32) (a2 : Int32) (a3 : Int32) (z : Int32) (h : am_H) : am_O := am_run (am_G am_prog (N + 30) (d + 0)) eX9_bestOwned uX9_bestOwned n 5 [(0, .ref 135), (1, .int a0), (2, .int a1), (3, .int (if a3 < z then z else a3)), (4, .int (a2 + (nI 1)))] [] h
set_option maxHeartbeats 4000000 in
set_option maxRecDepth 100000 in
theorem sX9_bestOwned_0 (N d n : Nat) {X : lt_X} (x1 : Int32) (x2 : Int32) (I : Nat → Nat → Int32) (J : Nat → Nat → Int64) : RX9_bestOwned_0 N d (n + 1) X x1 x2 I J = RX9_bestOwned_5 N d n X x1 x2 (nI 0) (nI 0) I J := by
  rfl
set_option maxHeartbeats 4000000 in
set_option maxRecDepth 100000 in
theorem sX9_bestOwned_5 (N d n : Nat) {X : lt_X} (x1 : Int32) (x2 : Int32) (x3 : Int32) (x4 : Int32) (I : Nat → Nat → Int32) (J : Nat → Nat → Int64) : RX9_bestOwned_5 N d (n + 1) X x1 x2 x3 x4 I J = if x4 < (I 140 3) then if am_in ((nI 67) + x4) 2145 then if (I 140 (((nI 67) + x4).toNatClampNeg)) = x2 then am_cI (am_G am_prog (N + 30) (d + 0) 301 [.ref 135, .int x1, .int x4] (mkh X I J)) (KX9_bestOwned_0 N d n x1 x2 x4 x3) else RX9_bestOwned_5 N d n X x1 x2 x3 (x4 + (nI 1)) I J else none else some (.int x3, (mkh X I J)) := by
  rfl
set_option maxHeartbeats 4000000 in
set_option maxRecDepth 100000 in
theorem kX9_bestOwned_0 (N d n : Nat) {X : lt_X} (a0 : Int32) (a1 : Int32) (a2 : Int32) (a3 : Int32) (z : Int32) (I : Nat → Nat → Int32) (J : Nat → Nat → Int64) : KX9_bestOwned_0 N d n a0 a1 a2 a3 z (mkh X I J) = RX9_bestOwned_5 N d n X a0 a1 (if a3 < z then z else a3) (a2 + (nI 1)) I J := by
  rfl
theorem fX9_bestOwned (N d : Nat) {X : lt_X} (x1 : Int32) (x2 : Int32) (I : Nat → Nat → Int32) (J : Nat → Nat → Int64) : am_G am_prog N (d + 1) 316 [.ref 135, .int x1, .int x2] (mkh X I J) = am_run (am_G am_prog N d) eX9_bestOwned uX9_bestOwned N 0 [(0, .ref 135), (1, .int x1), (2, .int x2)] [] (mkh X I J) := by
  refine (am_G_at N d 316 mX9_bestOwned _ _ rfl).trans ?_
  rfl
theorem gX9_bestOwned (N d : Nat) {X : lt_X} (x1 : Int32) (x2 : Int32) (I : Nat → Nat → Int32) (J : Nat → Nat → Int64) : am_G am_prog (N + 30) (d + 1) 316 [.ref 135, .int x1, .int x2] (mkh X I J) = RX9_bestOwned_0 N d (N + 30) X x1 x2 I J := fX9_bestOwned (N + 30) (d + 0) x1 x2 I J
def RX9_envies_0 (N d n : Nat) (X : lt_X) (x1 : Int32) (x2 : Int32) (I : Nat → Nat → Int32) (J : Nat → Nat → Int64) : am_O := am_run (am_G am_prog (N + 30) (d + 2)) eX9_envies uX9_envies n 0 [(0, .ref 135), (1, .int x1), (2, .int x2)] [] (mkh X I J)
def KX9_envies_0 (N d n : Nat) (a0 : Int32) (a1 : Int32) (z : Int32) (h : am_H) : am_O := if z = nI 0 then am_cI (am_G am_prog (N + 30) (d + 2) 188 [.ref 135, .int (nI 2)] h) (fun r2 h1 => some (.int r2, h1)) else am_cI (am_G am_prog (N + 30) (d + 2) 260 [.ref 135, .long a1.toInt64] h) (fun r4 h3 => if r4 = nI 0 then am_cI (am_G am_prog (N + 30) (d + 2) 188 [.ref 135, .int (nI 2)] h3) (fun r6 h5 => some (.int r6, h5)) else if a0 = a1 then am_cI (am_G am_prog (N + 30) (d + 2) 188 [.ref 135, .int (nI 5)] h3) (fun r8 h7 => some (.int r8, h7)) else am_cI (am_G am_prog (N + 30) (d + 2) 316 [.ref 135, .int a0, .int a1] h3) (fun r10 h9 => am_cI (am_G am_prog (N + 30) (d + 2) 316 [.ref 135, .int a0, .int a0] h9) (fun r12 h11 => if r12 < r10 then some (.int (nI 1), h11) else some (.int (nI 0), h11))))
def KX9_envies_1 (N d n : Nat) (a0 : Int32) (a1 : Int32) (z : Int32) (h : am_H) : am_O := if z = nI 0 then am_cI (am_G am_prog (N + 30) (d + 2) 188 [.ref 135, .int (nI 2)] h) (fun r2 h1 => some (.int r2, h1)) else if a0 = a1 then am_cI (am_G am_prog (N + 30) (d + 2) 188 [.ref 135, .int (nI 5)] h) (fun r4 h3 => some (.int r4, h3)) else am_cI (am_G am_prog (N + 30) (d + 2) 316 [.ref 135, .int a0, .int a1] h) (fun r6 h5 => am_cI (am_G am_prog (N + 30) (d + 2) 316 [.ref 135, .int a0, .int a0] h5) (fun r8 h7 => if r8 < r6 then some (.int (nI 1), h7) else some (.int (nI 0), h7)))
def KX9_envies_2 (N d n : Nat) (a0 : Int32) (z : Int32) (h : am_H) : am_O := am_cI (am_G am_prog (N + 30) (d + 2) 316 [.ref 135, .int a0, .int a0] h) (fun r2 h1 => if r2 < z then some (.int (nI 1), h1) else some (.int (nI 0), h1))
def KX9_envies_3 (N d n : Nat) (a0 : Int32) (z : Int32) (h : am_H) : am_O := if z < a0 then some (.int (nI 1), h) else some (.int (nI 0), h)
set_option maxHeartbeats 4000000 in
set_option maxRecDepth 100000 in
theorem sX9_envies_0 (N d n : Nat) {X : lt_X} (x1 : Int32) (x2 : Int32) (I : Nat → Nat → Int32) (J : Nat → Nat → Int64) : RX9_envies_0 N d (n + 1) X x1 x2 I J = am_cI (am_G am_prog (N + 30) (d + 2) 260 [.ref 135, .long x1.toInt64] (mkh X (u2 (u2 I 135 1 (nI 0)) 135 0 (nI 0)) J)) (KX9_envies_0 N d n x1 x2) := by
  rfl
set_option maxHeartbeats 4000000 in
set_option maxRecDepth 100000 in
theorem kX9_envies_0 (N d n : Nat) {X : lt_X} (a0 : Int32) (a1 : Int32) (z : Int32) (I : Nat → Nat → Int32) (J : Nat → Nat → Int64) : KX9_envies_0 N d n a0 a1 z (mkh X I J) = if z = nI 0 then some (.int (-1), (mkh X (u2 I 135 0 (nI 2)) J)) else am_cI (am_G am_prog (N + 30) (d + 2) 260 [.ref 135, .long a1.toInt64] (mkh X I J)) (KX9_envies_1 N d n a0 a1) := by
  rfl
set_option maxHeartbeats 4000000 in
set_option maxRecDepth 100000 in
theorem kX9_envies_1 (N d n : Nat) {X : lt_X} (a0 : Int32) (a1 : Int32) (z : Int32) (I : Nat → Nat → Int32) (J : Nat → Nat → Int64) : KX9_envies_1 N d n a0 a1 z (mkh X I J) = if z = nI 0 then some (.int (-1), (mkh X (u2 I 135 0 (nI 2)) J)) else if a0 = a1 then some (.int (-1), (mkh X (u2 I 135 0 (nI 5)) J)) else am_cI (am_G am_prog (N + 30) (d + 2) 316 [.ref 135, .int a0, .int a1] (mkh X I J)) (KX9_envies_2 N d n a0) := by
  rfl
set_option maxHeartbeats 4000000 in
set_option maxRecDepth 100000 in
theorem kX9_envies_2 (N d n : Nat) {X : lt_X} (a0 : Int32) (z : Int32) (I : Nat → Nat → Int32) (J : Nat → Nat → Int64) : KX9_envies_2 N d n a0 z (mkh X I J) = am_cI (am_G am_prog (N + 30) (d + 2) 316 [.ref 135, .int a0, .int a0] (mkh X I J)) (KX9_envies_3 N d n z) := by
  rfl
set_option maxHeartbeats 4000000 in
set_option maxRecDepth 100000 in
theorem kX9_envies_3 (N d n : Nat) {X : lt_X} (a0 : Int32) (z : Int32) (I : Nat → Nat → Int32) (J : Nat → Nat → Int64) : KX9_envies_3 N d n a0 z (mkh X I J) = if z < a0 then some (.int (nI 1), (mkh X I J)) else some (.int (nI 0), (mkh X I J)) := by
  rfl
theorem fX9_envies (N d : Nat) {X : lt_X} (x1 : Int32) (x2 : Int32) (I : Nat → Nat → Int32) (J : Nat → Nat → Int64) : am_G am_prog N (d + 1) 317 [.ref 135, .int x1, .int x2] (mkh X I J) = am_run (am_G am_prog N d) eX9_envies uX9_envies N 0 [(0, .ref 135), (1, .int x1), (2, .int x2)] [] (mkh X I J) := by
  refine (am_G_at N d 317 mX9_envies _ _ rfl).trans ?_
  rfl
theorem gX9_envies (N d : Nat) {X : lt_X} (x1 : Int32) (x2 : Int32) (I : Nat → Nat → Int32) (J : Nat → Nat → Int64) : am_G am_prog (N + 30) (d + 3) 317 [.ref 135, .int x1, .int x2] (mkh X I J) = RX9_envies_0 N d (N + 30) X x1 x2 I J := fX9_envies (N + 30) (d + 2) x1 x2 I J
def RX9_whyNoPick_0 (N d n : Nat) (X : lt_X) (x1 : Int32) (x2 : Int32) (I : Nat → Nat → Int32) (J : Nat → Nat → Int64) : am_O := am_run (am_G am_prog (N + 30) (d + 2)) eX9_whyNoPick uX9_whyNoPick n 0 [(0, .ref 135), (1, .int x1), (2, .int x2)] [] (mkh X I J)
def RX9_whyNoPick_52 (N d n : Nat) (X : lt_X) (x1 : Int32) (x2 : Int32) (x3 : Int32) (x4 : Int32) (I : Nat → Nat → Int32) (J : Nat → Nat → Int64) : am_O := am_run (am_G am_prog (N + 30) (d + 2)) eX9_whyNoPick uX9_whyNoPick n 52 [(0, .ref 135), (1, .int x1), (2, .int x2), (3, .int x3), (4, .int x4)] [] (mkh X I J)
def KX9_whyNoPick_0 (N d n : Nat) (a0 : Int32) (a1 : Int32) (z : Int32) (h : am_H) : am_O := if z = nI 0 then some (.int (nI 1), h) else am_gR h 9 135 5 (fun y1 => am_lI h 10 y1 a0 (fun y2 => if y2 < nI 0 then some (.int (nI 3), h) else am_gR h 9 135 5 (fun y3 => am_lI h 10 y3 a0 (fun y4 => if y4 < a1 then some (.int (nI 4), h) else am_cI (am_G am_prog (N + 30) (d + 2) 190 [.long a1.toInt64, .long (lN 0), .long (lN 6)] h) (fun r6 h5 => if r6 = nI 0 then some (.int (nI 5), h5) else am_run (am_G am_prog (N + 30) (d + 2)) eX9_whyNoPick uX9_whyNoPick n 52 [(0, .ref 135), (1, .int a0), (2, .int a1), (3, .int (nI 0)), (4, .int (nI 0))] [] h5)))))
def KX9_whyNoPick_1 (N d n : Nat) (a0 : Int32) (a1 : Int32) (a2 : Int32) (a3 : Int32) (z : Int64) (h : am_H) : am_O := am_cI (am_G am_prog (N + 30) (d + 2) 260 [.ref 135, .long z] h) (fun r2 h1 => if r2 = nI 0 then some (.int (nI 5), h1) else am_cL (am_G am_prog (N + 30) (d + 2) 199 [.ref 135, .int a0, .int a3] h1) (fun r4 h3 => am_cI (am_G am_prog (N + 30) (d + 2) 201 [.int a2, .int r4.toInt32] h3) (fun r6 h5 => if r6 = nI 0 then am_cL (am_G am_prog (N + 30) (d + 2) 199 [.ref 135, .int a0, .int a3] h5) (fun r8 h7 => am_run (am_G am_prog (N + 30) (d + 2)) eX9_whyNoPick uX9_whyNoPick n 52 [(0, .ref 135), (1, .int a0), (2, .int a1), (3, .int (a2 ||| ((nI 1) <<< (r8.toInt32 &&& 31)))), (4, .int (a3 + (nI 1)))] [] h7) else some (.int (nI 5), h5))))
def KX9_whyNoPick_2 (N d n : Nat) (a0 : Int32) (a1 : Int32) (z : Int32) (h : am_H) : am_O := if z = nI 0 then some (.int (nI 5), h) else am_run (am_G am_prog (N + 30) (d + 2)) eX9_whyNoPick uX9_whyNoPick n 52 [(0, .ref 135), (1, .int a0), (2, .int a1), (3, .int (nI 0)), (4, .int (nI 0))] [] h
def KX9_whyNoPick_3 (N d n : Nat) (a0 : Int32) (a1 : Int32) (a2 : Int32) (a3 : Int32) (z : Int32) (h : am_H) : am_O := if z = nI 0 then some (.int (nI 5), h) else am_cL (am_G am_prog (N + 30) (d + 2) 199 [.ref 135, .int a0, .int a3] h) (fun r2 h1 => am_cI (am_G am_prog (N + 30) (d + 2) 201 [.int a2, .int r2.toInt32] h1) (fun r4 h3 => if r4 = nI 0 then am_cL (am_G am_prog (N + 30) (d + 2) 199 [.ref 135, .int a0, .int a3] h3) (fun r6 h5 => am_run (am_G am_prog (N + 30) (d + 2)) eX9_whyNoPick uX9_whyNoPick n 52 [(0, .ref 135), (1, .int a0), (2, .int a1), (3, .int (a2 ||| ((nI 1) <<< (r6.toInt32 &&& 31)))), (4, .int (a3 + (nI 1)))] [] h5) else some (.int (nI 5), h3)))
def KX9_whyNoPick_4 (N d n : Nat) (a0 : Int32) (a1 : Int32) (a2 : Int32) (a3 : Int32) (z : Int64) (h : am_H) : am_O := am_cI (am_G am_prog (N + 30) (d + 2) 201 [.int a2, .int z.toInt32] h) (fun r2 h1 => if r2 = nI 0 then am_cL (am_G am_prog (N + 30) (d + 2) 199 [.ref 135, .int a0, .int a3] h1) (fun r4 h3 => am_run (am_G am_prog (N + 30) (d + 2)) eX9_whyNoPick uX9_whyNoPick n 52 [(0, .ref 135), (1, .int a0), (2, .int a1), (3, .int (a2 ||| ((nI 1) <<< (r4.toInt32 &&& 31)))), (4, .int (a3 + (nI 1)))] [] h3) else some (.int (nI 5), h1))
def KX9_whyNoPick_5 (N d n : Nat) (a0 : Int32) (a1 : Int32) (a2 : Int32) (a3 : Int32) (z : Int32) (h : am_H) : am_O := if z = nI 0 then am_cL (am_G am_prog (N + 30) (d + 2) 199 [.ref 135, .int a0, .int a3] h) (fun r2 h1 => am_run (am_G am_prog (N + 30) (d + 2)) eX9_whyNoPick uX9_whyNoPick n 52 [(0, .ref 135), (1, .int a0), (2, .int a1), (3, .int (a2 ||| ((nI 1) <<< (r2.toInt32 &&& 31)))), (4, .int (a3 + (nI 1)))] [] h1) else some (.int (nI 5), h)
def KX9_whyNoPick_6 (N d n : Nat) (a0 : Int32) (a1 : Int32) (a2 : Int32) (a3 : Int32) (z : Int64) (h : am_H) : am_O := am_run (am_G am_prog (N + 30) (d + 2)) eX9_whyNoPick uX9_whyNoPick n 52 [(0, .ref 135), (1, .int a0), (2, .int a1), (3, .int (a3 ||| ((nI 1) <<< (z.toInt32 &&& 31)))), (4, .int (a2 + (nI 1)))] [] h
set_option maxHeartbeats 4000000 in
set_option maxRecDepth 100000 in
theorem sX9_whyNoPick_0 (N d n : Nat) {X : lt_X} (x1 : Int32) (x2 : Int32) (I : Nat → Nat → Int32) (J : Nat → Nat → Int64) : RX9_whyNoPick_0 N d (n + 1) X x1 x2 I J = am_cI (am_G am_prog (N + 30) (d + 2) 200 [.ref 135, .int x1] (mkh X I J)) (KX9_whyNoPick_0 N d n x1 x2) := by
  rfl
set_option maxHeartbeats 4000000 in
set_option maxRecDepth 100000 in
theorem sX9_whyNoPick_52 (N d n : Nat) {X : lt_X} (x1 : Int32) (x2 : Int32) (x3 : Int32) (x4 : Int32) (I : Nat → Nat → Int32) (J : Nat → Nat → Int64) : RX9_whyNoPick_52 N d (n + 1) X x1 x2 x3 x4 I J = if x4 < x2 then am_cL (am_G am_prog (N + 30) (d + 2) 199 [.ref 135, .int x1, .int x4] (mkh X I J)) (KX9_whyNoPick_1 N d n x1 x2 x3 x4) else some (.int (nI 0), (mkh X I J)) := by
  rfl
set_option maxHeartbeats 4000000 in
set_option maxRecDepth 100000 in
theorem kX9_whyNoPick_0 (N d n : Nat) {X : lt_X} (a0 : Int32) (a1 : Int32) (z : Int32) (I : Nat → Nat → Int32) (J : Nat → Nat → Int64) : KX9_whyNoPick_0 N d n a0 a1 z (mkh X I J) = if z = nI 0 then some (.int (nI 1), (mkh X I J)) else if am_in a0 4 then if (I 137 a0.toNatClampNeg) < nI 0 then some (.int (nI 3), (mkh X I J)) else if am_in a0 4 then if (I 137 a0.toNatClampNeg) < a1 then some (.int (nI 4), (mkh X I J)) else am_cI (am_G am_prog (N + 30) (d + 2) 190 [.long a1.toInt64, .long (lN 0), .long (lN 6)] (mkh X I J)) (KX9_whyNoPick_2 N d n a0 a1) else none else none := by
  rfl
set_option maxHeartbeats 4000000 in
set_option maxRecDepth 100000 in
theorem kX9_whyNoPick_1 (N d n : Nat) {X : lt_X} (a0 : Int32) (a1 : Int32) (a2 : Int32) (a3 : Int32) (z : Int64) (I : Nat → Nat → Int32) (J : Nat → Nat → Int64) : KX9_whyNoPick_1 N d n a0 a1 a2 a3 z (mkh X I J) = am_cI (am_G am_prog (N + 30) (d + 2) 260 [.ref 135, .long z] (mkh X I J)) (KX9_whyNoPick_3 N d n a0 a1 a2 a3) := by
  rfl
set_option maxHeartbeats 4000000 in
set_option maxRecDepth 100000 in
theorem kX9_whyNoPick_2 (N d n : Nat) {X : lt_X} (a0 : Int32) (a1 : Int32) (z : Int32) (I : Nat → Nat → Int32) (J : Nat → Nat → Int64) : KX9_whyNoPick_2 N d n a0 a1 z (mkh X I J) = if z = nI 0 then some (.int (nI 5), (mkh X I J)) else RX9_whyNoPick_52 N d n X a0 a1 (nI 0) (nI 0) I J := by
  rfl
set_option maxHeartbeats 4000000 in
set_option maxRecDepth 100000 in
theorem kX9_whyNoPick_3 (N d n : Nat) {X : lt_X} (a0 : Int32) (a1 : Int32) (a2 : Int32) (a3 : Int32) (z : Int32) (I : Nat → Nat → Int32) (J : Nat → Nat → Int64) : KX9_whyNoPick_3 N d n a0 a1 a2 a3 z (mkh X I J) = if z = nI 0 then some (.int (nI 5), (mkh X I J)) else am_cL (am_G am_prog (N + 30) (d + 2) 199 [.ref 135, .int a0, .int a3] (mkh X I J)) (KX9_whyNoPick_4 N d n a0 a1 a2 a3) := by
  rfl
set_option maxHeartbeats 4000000 in
set_option maxRecDepth 100000 in
theorem kX9_whyNoPick_4 (N d n : Nat) {X : lt_X} (a0 : Int32) (a1 : Int32) (a2 : Int32) (a3 : Int32) (z : Int64) (I : Nat → Nat → Int32) (J : Nat → Nat → Int64) : KX9_whyNoPick_4 N d n a0 a1 a2 a3 z (mkh X I J) = am_cI (am_G am_prog (N + 30) (d + 2) 201 [.int a2, .int z.toInt32] (mkh X I J)) (KX9_whyNoPick_5 N d n a0 a1 a2 a3) := by
  rfl
set_option maxHeartbeats 4000000 in
set_option maxRecDepth 100000 in
theorem kX9_whyNoPick_5 (N d n : Nat) {X : lt_X} (a0 : Int32) (a1 : Int32) (a2 : Int32) (a3 : Int32) (z : Int32) (I : Nat → Nat → Int32) (J : Nat → Nat → Int64) : KX9_whyNoPick_5 N d n a0 a1 a2 a3 z (mkh X I J) = if z = nI 0 then am_cL (am_G am_prog (N + 30) (d + 2) 199 [.ref 135, .int a0, .int a3] (mkh X I J)) (KX9_whyNoPick_6 N d n a0 a1 a3 a2) else some (.int (nI 5), (mkh X I J)) := by
  rfl
set_option maxHeartbeats 4000000 in
set_option maxRecDepth 100000 in
theorem kX9_whyNoPick_6 (N d n : Nat) {X : lt_X} (a0 : Int32) (a1 : Int32) (a2 : Int32) (a3 : Int32) (z : Int64) (I : Nat → Nat → Int32) (J : Nat → Nat → Int64) : KX9_whyNoPick_6 N d n a0 a1 a2 a3 z (mkh X I J) = RX9_whyNoPick_52 N d n X a0 a1 (a3 ||| ((nI 1) <<< (z.toInt32 &&& 31))) (a2 + (nI 1)) I J := by
  rfl
theorem fX9_whyNoPick (N d : Nat) {X : lt_X} (x1 : Int32) (x2 : Int32) (I : Nat → Nat → Int32) (J : Nat → Nat → Int64) : am_G am_prog N (d + 1) 318 [.ref 135, .int x1, .int x2] (mkh X I J) = am_run (am_G am_prog N d) eX9_whyNoPick uX9_whyNoPick N 0 [(0, .ref 135), (1, .int x1), (2, .int x2)] [] (mkh X I J) := by
  refine (am_G_at N d 318 mX9_whyNoPick _ _ rfl).trans ?_
  rfl
theorem gX9_whyNoPick (N d : Nat) {X : lt_X} (x1 : Int32) (x2 : Int32) (I : Nat → Nat → Int32) (J : Nat → Nat → Int64) : am_G am_prog (N + 30) (d + 3) 318 [.ref 135, .int x1, .int x2] (mkh X I J) = RX9_whyNoPick_0 N d (N + 30) X x1 x2 I J := fX9_whyNoPick (N + 30) (d + 2) x1 x2 I J
def RX9_pick_0 (N d n : Nat) (X : lt_X) (x1 : Int32) (x2 : Int32) (x3 : Int32) (I : Nat → Nat → Int32) (J : Nat → Nat → Int64) : am_O := am_run (am_G am_prog (N + 30) (d + 1)) eX9_pick uX9_pick n 0 [(0, .ref 135), (1, .int x1), (2, .int x2), (3, .int x3)] [] (mkh X I J)
def RX9_pick_57 (N d n : Nat) (X : lt_X) (x1 : Int32) (x3 : Int32) (x4 : Int32) (x5 : Int32) (x6 : Int32) (I : Nat → Nat → Int32) (J : Nat → Nat → Int64) : am_O := am_run (am_G am_prog (N + 30) (d + 1)) eX9_pick uX9_pick n 57 [(0, .ref 135), (1, .int x1), (3, .int x3), (4, .int x4), (5, .int x5), (6, .int x6)] [] (mkh X I J)
def RX9_pick_79 (N d n : Nat) (X : lt_X) (x1 : Int32) (x3 : Int32) (x4 : Int32) (x5 : Int32) (x6 : Int32) (x7 : Int32) (x8 : Int32) (I : Nat → Nat → Int32) (J : Nat → Nat → Int64) : am_O := am_run (am_G am_prog (N + 30) (d + 1)) eX9_pick uX9_pick n 79 [(0, .ref 135), (1, .int x1), (3, .int x3), (4, .int x4), (5, .int x5), (6, .int x6), (7, .int x7), (8, .int x8)] [] (mkh X I J)
def KX9_pick_0 (N d n : Nat) (a0 : Int32) (a1 : Int32) (a2 : Int32) (z : Int32) (h : am_H) : am_O := am_pI h 9 135 0 z (fun h1 => am_gI h1 9 135 0 (fun y2 => if nI 0 < y2 then some (.int (-1), h1) else am_cI (am_G am_prog (N + 30) (d + 1) 190 [.long a2.toInt64, .long (lN 0), .long ((a1 - (nI 1)).toInt64)] h1) (fun r4 h3 => if r4 = nI 0 then am_cI (am_G am_prog (N + 30) (d + 1) 188 [.ref 135, .int (nI 8)] h3) (fun r6 h5 => some (.int r6, h5)) else am_cV (am_G am_prog (N + 30) (d + 1) 303 [.ref 135] h3) (fun h7 => am_run (am_G am_prog (N + 30) (d + 1)) eX9_pick uX9_pick n 57 [(0, .ref 135), (1, .int a0), (3, .int a2), (4, .int (nI 0)), (5, .int (-1)), (6, .int (nI 0))] [] h7))))
def KX9_pick_1 (N d n : Nat) (a0 : Int32) (a1 : Int32) (a2 : Int32) (a3 : Int32) (z : Int64) (h : am_H) : am_O := am_run (am_G am_prog (N + 30) (d + 1)) eX9_pick uX9_pick n 79 [(0, .ref 135), (1, .int a0), (3, .int a1), (4, .int a2), (5, .int (-1)), (6, .int a3), (7, .int z.toInt32), (8, .int (nI 0))] [] h
def KX9_pick_2 (N d n : Nat) (a0 : Int32) (a1 : Int32) (a2 : Int32) (a3 : Int32) (a4 : Int32) (a5 : Int32) (a6 : Int32) (z : Int32) (h : am_H) : am_O := if z = nI 0 then if a3 < nI 0 then am_run (am_G am_prog (N + 30) (d + 1)) eX9_pick uX9_pick n 79 [(0, .ref 135), (1, .int a0), (3, .int a1), (4, .int a2), (5, .int a6), (6, .int a4), (7, .int a5), (8, .int (a6 + (nI 1)))] [] h else am_gR h 9 135 26 (fun y1 => am_lI h 10 y1 (((nI 6) * a5) + a6) (fun y2 => am_gR h 9 135 26 (fun y3 => am_lI h 10 y3 (((nI 6) * a5) + a3) (fun y4 => if y4 < y2 then am_run (am_G am_prog (N + 30) (d + 1)) eX9_pick uX9_pick n 79 [(0, .ref 135), (1, .int a0), (3, .int a1), (4, .int a2), (5, .int a6), (6, .int a4), (7, .int a5), (8, .int (a6 + (nI 1)))] [] h else am_run (am_G am_prog (N + 30) (d + 1)) eX9_pick uX9_pick n 79 [(0, .ref 135), (1, .int a0), (3, .int a1), (4, .int a2), (5, .int a3), (6, .int a4), (7, .int a5), (8, .int (a6 + (nI 1)))] [] h)))) else am_run (am_G am_prog (N + 30) (d + 1)) eX9_pick uX9_pick n 79 [(0, .ref 135), (1, .int a0), (3, .int a1), (4, .int a2), (5, .int a3), (6, .int a4), (7, .int a5), (8, .int (a6 + (nI 1)))] [] h
def KX9_pick_3 (N d n : Nat) (a0 : Int32) (a1 : Int32) (z : Int32) (h : am_H) : am_O := if z = nI 0 then am_cI (am_G am_prog (N + 30) (d + 1) 188 [.ref 135, .int (nI 8)] h) (fun r2 h1 => some (.int r2, h1)) else am_cV (am_G am_prog (N + 30) (d + 1) 303 [.ref 135] h) (fun h3 => am_run (am_G am_prog (N + 30) (d + 1)) eX9_pick uX9_pick n 57 [(0, .ref 135), (1, .int a0), (3, .int a1), (4, .int (nI 0)), (5, .int (-1)), (6, .int (nI 0))] [] h3)
def KX9_pick_4 (N d n : Nat) (a0 : Int32) (a1 : Int32) (h : am_H) : am_O := am_run (am_G am_prog (N + 30) (d + 1)) eX9_pick uX9_pick n 57 [(0, .ref 135), (1, .int a0), (3, .int a1), (4, .int (nI 0)), (5, .int (-1)), (6, .int (nI 0))] [] h
set_option maxHeartbeats 4000000 in
set_option maxRecDepth 100000 in
theorem sX9_pick_0 (N d n : Nat) {X : lt_X} (x1 : Int32) (x2 : Int32) (x3 : Int32) (I : Nat → Nat → Int32) (J : Nat → Nat → Int64) : RX9_pick_0 N d (n + 1) X x1 x2 x3 I J = am_cI (am_G am_prog (N + 30) (d + 1) 318 [.ref 135, .int x1, .int x2] (mkh X (u2 I 135 1 (nI 0)) J)) (KX9_pick_0 N d n x1 x2 x3) := by
  rfl
set_option maxHeartbeats 4000000 in
set_option maxRecDepth 100000 in
theorem sX9_pick_57 (N d n : Nat) {X : lt_X} (x1 : Int32) (x3 : Int32) (x4 : Int32) (x5 : Int32) (x6 : Int32) (I : Nat → Nat → Int32) (J : Nat → Nat → Int64) : RX9_pick_57 N d (n + 1) X x1 x3 x4 x5 x6 I J = if x3 < x6 then if x5 < nI 0 then some (.int (-1), (mkh X (u2 I 135 0 (nI 8)) J)) else some (.int x5, (mkh X I J)) else am_cL (am_G am_prog (N + 30) (d + 1) 199 [.ref 135, .int x1, .int x6] (mkh X I J)) (KX9_pick_1 N d n x1 x3 x4 x6) := by
  rfl
set_option maxHeartbeats 4000000 in
set_option maxRecDepth 100000 in
theorem sX9_pick_79 (N d n : Nat) {X : lt_X} (x1 : Int32) (x3 : Int32) (x4 : Int32) (x5 : Int32) (x6 : Int32) (x7 : Int32) (x8 : Int32) (I : Nat → Nat → Int32) (J : Nat → Nat → Int64) : RX9_pick_79 N d (n + 1) X x1 x3 x4 x5 x6 x7 x8 I J = if x8 < (I 140 3) then am_cI (am_G am_prog (N + 30) (d + 1) 201 [.int x4, .int x8] (mkh X I J)) (KX9_pick_2 N d n x1 x3 x4 x5 x6 x7 x8) else if x5 < nI 0 then RX9_pick_57 N d n X x1 x3 (x4 ||| (nI 0)) x5 (x6 + (nI 1)) I J else RX9_pick_57 N d n X x1 x3 (x4 ||| ((nI 1) <<< (x5 &&& 31))) x5 (x6 + (nI 1)) I J := by
  rfl
set_option maxHeartbeats 4000000 in
set_option maxRecDepth 100000 in
theorem kX9_pick_0 (N d n : Nat) {X : lt_X} (a0 : Int32) (a1 : Int32) (a2 : Int32) (z : Int32) (I : Nat → Nat → Int32) (J : Nat → Nat → Int64) : KX9_pick_0 N d n a0 a1 a2 z (mkh X I J) = if nI 0 < z then some (.int (-1), (mkh X (u2 I 135 0 z) J)) else am_cI (am_G am_prog (N + 30) (d + 1) 190 [.long a2.toInt64, .long (lN 0), .long ((a1 - (nI 1)).toInt64)] (mkh X (u2 I 135 0 z) J)) (KX9_pick_3 N d n a0 a2) := by
  rfl
set_option maxHeartbeats 4000000 in
set_option maxRecDepth 100000 in
theorem kX9_pick_1 (N d n : Nat) {X : lt_X} (a0 : Int32) (a1 : Int32) (a2 : Int32) (a3 : Int32) (z : Int64) (I : Nat → Nat → Int32) (J : Nat → Nat → Int64) : KX9_pick_1 N d n a0 a1 a2 a3 z (mkh X I J) = RX9_pick_79 N d n X a0 a1 a2 (-1) a3 z.toInt32 (nI 0) I J := by
  rfl
set_option maxHeartbeats 4000000 in
set_option maxRecDepth 100000 in
theorem kX9_pick_2 (N d n : Nat) {X : lt_X} (a0 : Int32) (a1 : Int32) (a2 : Int32) (a3 : Int32) (a4 : Int32) (a5 : Int32) (a6 : Int32) (z : Int32) (I : Nat → Nat → Int32) (J : Nat → Nat → Int64) : KX9_pick_2 N d n a0 a1 a2 a3 a4 a5 a6 z (mkh X I J) = if z = nI 0 then if a3 < nI 0 then RX9_pick_79 N d n X a0 a1 a2 a6 a4 a5 (a6 + (nI 1)) I J else if am_in (((nI 6) * a5) + a6) 36 then if am_in (((nI 6) * a5) + a3) 36 then if (I 143 ((((nI 6) * a5) + a3).toNatClampNeg)) < (I 143 ((((nI 6) * a5) + a6).toNatClampNeg)) then RX9_pick_79 N d n X a0 a1 a2 a6 a4 a5 (a6 + (nI 1)) I J else RX9_pick_79 N d n X a0 a1 a2 a3 a4 a5 (a6 + (nI 1)) I J else none else none else RX9_pick_79 N d n X a0 a1 a2 a3 a4 a5 (a6 + (nI 1)) I J := by
  rfl
set_option maxHeartbeats 4000000 in
set_option maxRecDepth 100000 in
theorem kX9_pick_3 (N d n : Nat) {X : lt_X} (a0 : Int32) (a1 : Int32) (z : Int32) (I : Nat → Nat → Int32) (J : Nat → Nat → Int64) : KX9_pick_3 N d n a0 a1 z (mkh X I J) = if z = nI 0 then some (.int (-1), (mkh X (u2 I 135 0 (nI 8)) J)) else am_cV (am_G am_prog (N + 30) (d + 1) 303 [.ref 135] (mkh X I J)) (KX9_pick_4 N d n a0 a1) := by
  rfl
set_option maxHeartbeats 4000000 in
set_option maxRecDepth 100000 in
theorem kX9_pick_4 (N d n : Nat) {X : lt_X} (a0 : Int32) (a1 : Int32) (I : Nat → Nat → Int32) (J : Nat → Nat → Int64) : KX9_pick_4 N d n a0 a1 (mkh X I J) = RX9_pick_57 N d n X a0 a1 (nI 0) (-1) (nI 0) I J := by
  rfl
theorem fX9_pick (N d : Nat) {X : lt_X} (x1 : Int32) (x2 : Int32) (x3 : Int32) (I : Nat → Nat → Int32) (J : Nat → Nat → Int64) : am_G am_prog N (d + 1) 319 [.ref 135, .int x1, .int x2, .int x3] (mkh X I J) = am_run (am_G am_prog N d) eX9_pick uX9_pick N 0 [(0, .ref 135), (1, .int x1), (2, .int x2), (3, .int x3)] [] (mkh X I J) := by
  refine (am_G_at N d 319 mX9_pick _ _ rfl).trans ?_
  rfl
theorem gX9_pick (N d : Nat) {X : lt_X} (x1 : Int32) (x2 : Int32) (x3 : Int32) (I : Nat → Nat → Int32) (J : Nat → Nat → Int64) : am_G am_prog (N + 30) (d + 2) 319 [.ref 135, .int x1, .int x2, .int x3] (mkh X I J) = RX9_pick_0 N d (N + 30) X x1 x2 x3 I J := fX9_pick (N + 30) (d + 1) x1 x2 x3 I J
def RX9_whyNotFits_0 (N d n : Nat) (X : lt_X) (x1 : Int32) (x2 : Int32) (I : Nat → Nat → Int32) (J : Nat → Nat → Int64) : am_O := am_run (am_G am_prog (N + 30) (d + 2)) eX9_whyNotFits uX9_whyNotFits n 0 [(0, .ref 135), (1, .int x1), (2, .int x2)] [] (mkh X I J)
def RX9_whyNotFits_56 (N d n : Nat) (X : lt_X) (x1 : Int32) (x2 : Int32) (x3 : Int32) (I : Nat → Nat → Int32) (J : Nat → Nat → Int64) : am_O := am_run (am_G am_prog (N + 30) (d + 2)) eX9_whyNotFits uX9_whyNotFits n 56 [(0, .ref 135), (1, .int x1), (2, .int x2), (3, .int x3)] [] (mkh X I J)
def KX9_whyNotFits_0 (N d n : Nat) (a0 : Int32) (a1 : Int32) (z : Int32) (h : am_H) : am_O := if z = nI 0 then some (.int (nI 1), h) else am_gR h 9 135 5 (fun y1 => am_lI h 10 y1 a0 (fun y2 => if y2 < nI 0 then some (.int (nI 3), h) else am_gR h 9 135 5 (fun y3 => am_lI h 10 y3 a0 (fun y4 => if (lg_cmp y4.toInt64 ((lN 2) * a1.toInt64)) < nI 0 then some (.int (nI 4), h) else am_cI (am_G am_prog (N + 30) (d + 2) 190 [.long a1.toInt64, .long (lN 0), .long (lN 20)] h) (fun r6 h5 => if r6 = nI 0 then some (.int (nI 5), h5) else am_run (am_G am_prog (N + 30) (d + 2)) eX9_whyNotFits uX9_whyNotFits n 56 [(0, .ref 135), (1, .int a0), (2, .int a1), (3, .int (nI 0))] [] h5)))))
def KX9_whyNotFits_1 (N d n : Nat) (a0 : Int32) (a1 : Int32) (a2 : Int32) (z : Int64) (h : am_H) : am_O := am_cI (am_G am_prog (N + 30) (d + 2) 190 [.long z, .long (lN 0), .long (lN 9999)] h) (fun r2 h1 => if r2 = nI 0 then some (.int (nI 5), h1) else am_cL (am_G am_prog (N + 30) (d + 2) 199 [.ref 135, .int a0, .int (((nI 2) * a2) + (nI 1))] h1) (fun r4 h3 => am_cI (am_G am_prog (N + 30) (d + 2) 258 [.ref 135, .long r4] h3) (fun r6 h5 => if r6 = nI 0 then some (.int (nI 5), h5) else am_run (am_G am_prog (N + 30) (d + 2)) eX9_whyNotFits uX9_whyNotFits n 56 [(0, .ref 135), (1, .int a0), (2, .int a1), (3, .int (a2 + (nI 1)))] [] h5)))
def KX9_whyNotFits_2 (N d n : Nat) (a0 : Int32) (a1 : Int32) (z : Int32) (h : am_H) : am_O := if z = nI 0 then some (.int (nI 5), h) else am_run (am_G am_prog (N + 30) (d + 2)) eX9_whyNotFits uX9_whyNotFits n 56 [(0, .ref 135), (1, .int a0), (2, .int a1), (3, .int (nI 0))] [] h
def KX9_whyNotFits_3 (N d n : Nat) (a0 : Int32) (a1 : Int32) (a2 : Int32) (z : Int32) (h : am_H) : am_O := if z = nI 0 then some (.int (nI 5), h) else am_cL (am_G am_prog (N + 30) (d + 2) 199 [.ref 135, .int a0, .int (((nI 2) * a2) + (nI 1))] h) (fun r2 h1 => am_cI (am_G am_prog (N + 30) (d + 2) 258 [.ref 135, .long r2] h1) (fun r4 h3 => if r4 = nI 0 then some (.int (nI 5), h3) else am_run (am_G am_prog (N + 30) (d + 2)) eX9_whyNotFits uX9_whyNotFits n 56 [(0, .ref 135), (1, .int a0), (2, .int a1), (3, .int (a2 + (nI 1)))] [] h3))
def KX9_whyNotFits_4 (N d n : Nat) (a0 : Int32) (a1 : Int32) (a2 : Int32) (z : Int64) (h : am_H) : am_O := am_cI (am_G am_prog (N + 30) (d + 2) 258 [.ref 135, .long z] h) (fun r2 h1 => if r2 = nI 0 then some (.int (nI 5), h1) else am_run (am_G am_prog (N + 30) (d + 2)) eX9_whyNotFits uX9_whyNotFits n 56 [(0, .ref 135), (1, .int a0), (2, .int a1), (3, .int (a2 + (nI 1)))] [] h1)
def KX9_whyNotFits_5 (N d n : Nat) (a0 : Int32) (a1 : Int32) (a2 : Int32) (z : Int32) (h : am_H) : am_O := if z = nI 0 then some (.int (nI 5), h) else am_run (am_G am_prog (N + 30) (d + 2)) eX9_whyNotFits uX9_whyNotFits n 56 [(0, .ref 135), (1, .int a0), (2, .int a1), (3, .int (a2 + (nI 1)))] [] h
set_option maxHeartbeats 4000000 in
set_option maxRecDepth 100000 in
theorem sX9_whyNotFits_0 (N d n : Nat) {X : lt_X} (x1 : Int32) (x2 : Int32) (I : Nat → Nat → Int32) (J : Nat → Nat → Int64) : RX9_whyNotFits_0 N d (n + 1) X x1 x2 I J = am_cI (am_G am_prog (N + 30) (d + 2) 200 [.ref 135, .int x1] (mkh X I J)) (KX9_whyNotFits_0 N d n x1 x2) := by
  rfl
set_option maxHeartbeats 4000000 in
set_option maxRecDepth 100000 in
theorem sX9_whyNotFits_56 (N d n : Nat) {X : lt_X} (x1 : Int32) (x2 : Int32) (x3 : Int32) (I : Nat → Nat → Int32) (J : Nat → Nat → Int64) : RX9_whyNotFits_56 N d (n + 1) X x1 x2 x3 I J = if x3 < x2 then am_cL (am_G am_prog (N + 30) (d + 2) 199 [.ref 135, .int x1, .int ((nI 2) * x3)] (mkh X I J)) (KX9_whyNotFits_1 N d n x1 x2 x3) else some (.int (nI 0), (mkh X I J)) := by
  rfl
set_option maxHeartbeats 4000000 in
set_option maxRecDepth 100000 in
theorem kX9_whyNotFits_0 (N d n : Nat) {X : lt_X} (a0 : Int32) (a1 : Int32) (z : Int32) (I : Nat → Nat → Int32) (J : Nat → Nat → Int64) : KX9_whyNotFits_0 N d n a0 a1 z (mkh X I J) = if z = nI 0 then some (.int (nI 1), (mkh X I J)) else if am_in a0 4 then if (I 137 a0.toNatClampNeg) < nI 0 then some (.int (nI 3), (mkh X I J)) else if am_in a0 4 then if (lg_cmp ((I 137 a0.toNatClampNeg).toInt64) ((lN 2) * a1.toInt64)) < nI 0 then some (.int (nI 4), (mkh X I J)) else am_cI (am_G am_prog (N + 30) (d + 2) 190 [.long a1.toInt64, .long (lN 0), .long (lN 20)] (mkh X I J)) (KX9_whyNotFits_2 N d n a0 a1) else none else none := by
  rfl
set_option maxHeartbeats 4000000 in
set_option maxRecDepth 100000 in
theorem kX9_whyNotFits_1 (N d n : Nat) {X : lt_X} (a0 : Int32) (a1 : Int32) (a2 : Int32) (z : Int64) (I : Nat → Nat → Int32) (J : Nat → Nat → Int64) : KX9_whyNotFits_1 N d n a0 a1 a2 z (mkh X I J) = am_cI (am_G am_prog (N + 30) (d + 2) 190 [.long z, .long (lN 0), .long (lN 9999)] (mkh X I J)) (KX9_whyNotFits_3 N d n a0 a1 a2) := by
  rfl
set_option maxHeartbeats 4000000 in
set_option maxRecDepth 100000 in
theorem kX9_whyNotFits_2 (N d n : Nat) {X : lt_X} (a0 : Int32) (a1 : Int32) (z : Int32) (I : Nat → Nat → Int32) (J : Nat → Nat → Int64) : KX9_whyNotFits_2 N d n a0 a1 z (mkh X I J) = if z = nI 0 then some (.int (nI 5), (mkh X I J)) else RX9_whyNotFits_56 N d n X a0 a1 (nI 0) I J := by
  rfl
set_option maxHeartbeats 4000000 in
set_option maxRecDepth 100000 in
theorem kX9_whyNotFits_3 (N d n : Nat) {X : lt_X} (a0 : Int32) (a1 : Int32) (a2 : Int32) (z : Int32) (I : Nat → Nat → Int32) (J : Nat → Nat → Int64) : KX9_whyNotFits_3 N d n a0 a1 a2 z (mkh X I J) = if z = nI 0 then some (.int (nI 5), (mkh X I J)) else am_cL (am_G am_prog (N + 30) (d + 2) 199 [.ref 135, .int a0, .int (((nI 2) * a2) + (nI 1))] (mkh X I J)) (KX9_whyNotFits_4 N d n a0 a1 a2) := by
  rfl
set_option maxHeartbeats 4000000 in
set_option maxRecDepth 100000 in
theorem kX9_whyNotFits_4 (N d n : Nat) {X : lt_X} (a0 : Int32) (a1 : Int32) (a2 : Int32) (z : Int64) (I : Nat → Nat → Int32) (J : Nat → Nat → Int64) : KX9_whyNotFits_4 N d n a0 a1 a2 z (mkh X I J) = am_cI (am_G am_prog (N + 30) (d + 2) 258 [.ref 135, .long z] (mkh X I J)) (KX9_whyNotFits_5 N d n a0 a1 a2) := by
  rfl
set_option maxHeartbeats 4000000 in
set_option maxRecDepth 100000 in
theorem kX9_whyNotFits_5 (N d n : Nat) {X : lt_X} (a0 : Int32) (a1 : Int32) (a2 : Int32) (z : Int32) (I : Nat → Nat → Int32) (J : Nat → Nat → Int64) : KX9_whyNotFits_5 N d n a0 a1 a2 z (mkh X I J) = if z = nI 0 then some (.int (nI 5), (mkh X I J)) else RX9_whyNotFits_56 N d n X a0 a1 (a2 + (nI 1)) I J := by
  rfl
theorem fX9_whyNotFits (N d : Nat) {X : lt_X} (x1 : Int32) (x2 : Int32) (I : Nat → Nat → Int32) (J : Nat → Nat → Int64) : am_G am_prog N (d + 1) 320 [.ref 135, .int x1, .int x2] (mkh X I J) = am_run (am_G am_prog N d) eX9_whyNotFits uX9_whyNotFits N 0 [(0, .ref 135), (1, .int x1), (2, .int x2)] [] (mkh X I J) := by
  refine (am_G_at N d 320 mX9_whyNotFits _ _ rfl).trans ?_
  rfl
theorem gX9_whyNotFits (N d : Nat) {X : lt_X} (x1 : Int32) (x2 : Int32) (I : Nat → Nat → Int32) (J : Nat → Nat → Int64) : am_G am_prog (N + 30) (d + 3) 320 [.ref 135, .int x1, .int x2] (mkh X I J) = RX9_whyNotFits_0 N d (N + 30) X x1 x2 I J := fX9_whyNotFits (N + 30) (d + 2) x1 x2 I J
def RX9_fitting_0 (N d n : Nat) (X : lt_X) (x1 : Int32) (x2 : Int32) (I : Nat → Nat → Int32) (J : Nat → Nat → Int64) : am_O := am_run (am_G am_prog (N + 30) (d + 1)) eX9_fitting uX9_fitting n 0 [(0, .ref 135), (1, .int x1), (2, .int x2)] [] (mkh X I J)
def RX9_fitting_5 (N d n : Nat) (X : lt_X) (x1 : Int32) (x2 : Int32) (x3 : Int32) (x4 : Int32) (I : Nat → Nat → Int32) (J : Nat → Nat → Int64) : am_O := am_run (am_G am_prog (N + 30) (d + 1)) eX9_fitting uX9_fitting n 5 [(0, .ref 135), (1, .int x1), (2, .int x2), (3, .int x3), (4, .int x4)] [] (mkh X I J)
def RX9_fitting_22 (N d n : Nat) (X : lt_X) (x1 : Int32) (x2 : Int32) (x3 : Int32) (x4 : Int32) (x5 : Int32) (x6 : Int32) (I : Nat → Nat → Int32) (J : Nat → Nat → Int64) : am_O := am_run (am_G am_prog (N + 30) (d + 1)) eX9_fitting uX9_fitting n 22 [(0, .ref 135), (1, .int x1), (2, .int x2), (3, .int x3), (4, .int x4), (5, .int x5), (6, .int x6)] [] (mkh X I J)
def RX9_fitting_78 (N d n : Nat) (X : lt_X) (x1 : Int32) (x2 : Int32) (x3 : Int32) (x4 : Int32) (x5 : Int32) (I : Nat → Nat → Int32) (J : Nat → Nat → Int64) : am_O := am_run (am_G am_prog (N + 30) (d + 1)) eX9_fitting uX9_fitting n 78 [(0, .ref 135), (1, .int x1), (2, .int x2), (3, .int x3), (4, .int x4), (5, .int x5)] [] (mkh X I J)
def KX9_fitting_0 (N d n : Nat) (a0 : Int32) (a1 : Int32) (a2 : Int32) (a3 : Int32) (a4 : Int32) (z : Int64) (h : am_H) : am_O := am_cI (am_G am_prog (N + 30) (d + 1) 272 [.ref 135, .int a3, .int z.toInt32] h) (fun r2 h1 => am_cL (am_G am_prog (N + 30) (d + 1) 199 [.ref 135, .int a0, .int (((nI 2) * a4) + (nI 1))] h1) (fun r4 h3 => if (lg_cmp r2.toInt64 r4) = nI 0 then am_run (am_G am_prog (N + 30) (d + 1)) eX9_fitting uX9_fitting n 22 [(0, .ref 135), (1, .int a0), (2, .int a1), (3, .int a2), (4, .int a3), (5, .int (nI 1)), (6, .int (a4 + (nI 1)))] [] h3 else am_run (am_G am_prog (N + 30) (d + 1)) eX9_fitting uX9_fitting n 22 [(0, .ref 135), (1, .int a0), (2, .int a1), (3, .int a2), (4, .int a3), (5, .int (nI 0)), (6, .int (a4 + (nI 1)))] [] h3))
def KX9_fitting_1 (N d n : Nat) (a0 : Int32) (a1 : Int32) (a2 : Int32) (a3 : Int32) (a4 : Int32) (z : Int32) (h : am_H) : am_O := am_cL (am_G am_prog (N + 30) (d + 1) 199 [.ref 135, .int a0, .int (((nI 2) * a4) + (nI 1))] h) (fun r2 h1 => if (lg_cmp z.toInt64 r2) = nI 0 then am_run (am_G am_prog (N + 30) (d + 1)) eX9_fitting uX9_fitting n 22 [(0, .ref 135), (1, .int a0), (2, .int a1), (3, .int a2), (4, .int a3), (5, .int (nI 1)), (6, .int (a4 + (nI 1)))] [] h1 else am_run (am_G am_prog (N + 30) (d + 1)) eX9_fitting uX9_fitting n 22 [(0, .ref 135), (1, .int a0), (2, .int a1), (3, .int a2), (4, .int a3), (5, .int (nI 0)), (6, .int (a4 + (nI 1)))] [] h1)
def KX9_fitting_2 (N d n : Nat) (a0 : Int32) (a1 : Int32) (a2 : Int32) (a3 : Int32) (a4 : Int32) (a5 : Int64) (z : Int64) (h : am_H) : am_O := if (lg_cmp a5 z) = nI 0 then am_run (am_G am_prog (N + 30) (d + 1)) eX9_fitting uX9_fitting n 22 [(0, .ref 135), (1, .int a0), (2, .int a1), (3, .int a2), (4, .int a3), (5, .int (nI 1)), (6, .int (a4 + (nI 1)))] [] h else am_run (am_G am_prog (N + 30) (d + 1)) eX9_fitting uX9_fitting n 22 [(0, .ref 135), (1, .int a0), (2, .int a1), (3, .int a2), (4, .int a3), (5, .int (nI 0)), (6, .int (a4 + (nI 1)))] [] h
set_option maxHeartbeats 4000000 in
set_option maxRecDepth 100000 in
theorem sX9_fitting_0 (N d n : Nat) {X : lt_X} (x1 : Int32) (x2 : Int32) (I : Nat → Nat → Int32) (J : Nat → Nat → Int64) : RX9_fitting_0 N d (n + 1) X x1 x2 I J = RX9_fitting_5 N d n X x1 x2 (nI 0) (nI 0) I J := by
  rfl
set_option maxHeartbeats 4000000 in
set_option maxRecDepth 100000 in
theorem sX9_fitting_5 (N d n : Nat) {X : lt_X} (x1 : Int32) (x2 : Int32) (x3 : Int32) (x4 : Int32) (I : Nat → Nat → Int32) (J : Nat → Nat → Int64) : RX9_fitting_5 N d (n + 1) X x1 x2 x3 x4 I J = if x4 < (I 140 1) then RX9_fitting_22 N d n X x1 x2 x3 x4 (nI 1) (nI 0) I J else some (.int x3, (mkh X I J)) := by
  rfl
set_option maxHeartbeats 4000000 in
set_option maxRecDepth 100000 in
theorem sX9_fitting_22 (N d n : Nat) {X : lt_X} (x1 : Int32) (x2 : Int32) (x3 : Int32) (x4 : Int32) (x5 : Int32) (x6 : Int32) (I : Nat → Nat → Int32) (J : Nat → Nat → Int64) : RX9_fitting_22 N d (n + 1) X x1 x2 x3 x4 x5 x6 I J = if x6 < x2 then if x5 = nI 0 then RX9_fitting_78 N d n X x1 x2 x3 x4 x5 I J else am_cL (am_G am_prog (N + 30) (d + 1) 199 [.ref 135, .int x1, .int ((nI 2) * x6)] (mkh X I J)) (KX9_fitting_0 N d n x1 x2 x3 x4 x6) else RX9_fitting_78 N d n X x1 x2 x3 x4 x5 I J := by
  rfl
set_option maxHeartbeats 4000000 in
set_option maxRecDepth 100000 in
theorem sX9_fitting_78 (N d n : Nat) {X : lt_X} (x1 : Int32) (x2 : Int32) (x3 : Int32) (x4 : Int32) (x5 : Int32) (I : Nat → Nat → Int32) (J : Nat → Nat → Int64) : RX9_fitting_78 N d (n + 1) X x1 x2 x3 x4 x5 I J = if x5 = nI 0 then RX9_fitting_5 N d n X x1 x2 (x3 ||| (nI 0)) (x4 + (nI 1)) I J else RX9_fitting_5 N d n X x1 x2 (x3 ||| ((nI 1) <<< (x4 &&& 31))) (x4 + (nI 1)) I J := by
  rfl
set_option maxHeartbeats 4000000 in
set_option maxRecDepth 100000 in
theorem kX9_fitting_0 (N d n : Nat) {X : lt_X} (a0 : Int32) (a1 : Int32) (a2 : Int32) (a3 : Int32) (a4 : Int32) (z : Int64) (I : Nat → Nat → Int32) (J : Nat → Nat → Int64) : KX9_fitting_0 N d n a0 a1 a2 a3 a4 z (mkh X I J) = am_cI (am_G am_prog (N + 30) (d + 1) 272 [.ref 135, .int a3, .int z.toInt32] (mkh X I J)) (KX9_fitting_1 N d n a0 a1 a2 a3 a4) := by
  rfl
set_option maxHeartbeats 4000000 in
set_option maxRecDepth 100000 in
theorem kX9_fitting_1 (N d n : Nat) {X : lt_X} (a0 : Int32) (a1 : Int32) (a2 : Int32) (a3 : Int32) (a4 : Int32) (z : Int32) (I : Nat → Nat → Int32) (J : Nat → Nat → Int64) : KX9_fitting_1 N d n a0 a1 a2 a3 a4 z (mkh X I J) = am_cL (am_G am_prog (N + 30) (d + 1) 199 [.ref 135, .int a0, .int (((nI 2) * a4) + (nI 1))] (mkh X I J)) (KX9_fitting_2 N d n a0 a1 a2 a3 a4 z.toInt64) := by
  rfl
set_option maxHeartbeats 4000000 in
set_option maxRecDepth 100000 in
theorem kX9_fitting_2 (N d n : Nat) {X : lt_X} (a0 : Int32) (a1 : Int32) (a2 : Int32) (a3 : Int32) (a4 : Int32) (a5 : Int64) (z : Int64) (I : Nat → Nat → Int32) (J : Nat → Nat → Int64) : KX9_fitting_2 N d n a0 a1 a2 a3 a4 a5 z (mkh X I J) = if (lg_cmp a5 z) = nI 0 then RX9_fitting_22 N d n X a0 a1 a2 a3 (nI 1) (a4 + (nI 1)) I J else RX9_fitting_22 N d n X a0 a1 a2 a3 (nI 0) (a4 + (nI 1)) I J := by
  rfl
theorem fX9_fitting (N d : Nat) {X : lt_X} (x1 : Int32) (x2 : Int32) (I : Nat → Nat → Int32) (J : Nat → Nat → Int64) : am_G am_prog N (d + 1) 321 [.ref 135, .int x1, .int x2] (mkh X I J) = am_run (am_G am_prog N d) eX9_fitting uX9_fitting N 0 [(0, .ref 135), (1, .int x1), (2, .int x2)] [] (mkh X I J) := by
  refine (am_G_at N d 321 mX9_fitting _ _ rfl).trans ?_
  rfl
theorem gX9_fitting (N d : Nat) {X : lt_X} (x1 : Int32) (x2 : Int32) (I : Nat → Nat → Int32) (J : Nat → Nat → Int64) : am_G am_prog (N + 30) (d + 2) 321 [.ref 135, .int x1, .int x2] (mkh X I J) = RX9_fitting_0 N d (N + 30) X x1 x2 I J := fX9_fitting (N + 30) (d + 1) x1 x2 I J
def RX9_fits_0 (N d n : Nat) (X : lt_X) (x1 : Int32) (x2 : Int32) (I : Nat → Nat → Int32) (J : Nat → Nat → Int64) : am_O := am_run (am_G am_prog (N + 30) (d + 0)) eX9_fits uX9_fits n 0 [(0, .ref 135), (1, .int x1), (2, .int x2)] [] (mkh X I J)
def KX9_fits_0 (N d n : Nat) (a0 : Int32) (a1 : Int32) (z : Int32) (h : am_H) : am_O := am_pI h 9 135 0 z (fun h1 => am_gI h1 9 135 0 (fun y2 => if nI 0 < y2 then some (.int (-1), h1) else am_cI (am_G am_prog (N + 30) (d + 0) 321 [.ref 135, .int a0, .int a1] h1) (fun r4 h3 => some (.int r4, h3))))
def KX9_fits_1 (N d n : Nat) (z : Int32) (h : am_H) : am_O := some (.int z, h)
set_option maxHeartbeats 4000000 in
set_option maxRecDepth 100000 in
theorem sX9_fits_0 (N d n : Nat) {X : lt_X} (x1 : Int32) (x2 : Int32) (I : Nat → Nat → Int32) (J : Nat → Nat → Int64) : RX9_fits_0 N d (n + 1) X x1 x2 I J = am_cI (am_G am_prog (N + 30) (d + 0) 320 [.ref 135, .int x1, .int x2] (mkh X (u2 I 135 1 (nI 0)) J)) (KX9_fits_0 N d n x1 x2) := by
  rfl
set_option maxHeartbeats 4000000 in
set_option maxRecDepth 100000 in
theorem kX9_fits_0 (N d n : Nat) {X : lt_X} (a0 : Int32) (a1 : Int32) (z : Int32) (I : Nat → Nat → Int32) (J : Nat → Nat → Int64) : KX9_fits_0 N d n a0 a1 z (mkh X I J) = if nI 0 < z then some (.int (-1), (mkh X (u2 I 135 0 z) J)) else am_cI (am_G am_prog (N + 30) (d + 0) 321 [.ref 135, .int a0, .int a1] (mkh X (u2 I 135 0 z) J)) (KX9_fits_1 N d n ) := by
  rfl
set_option maxHeartbeats 4000000 in
set_option maxRecDepth 100000 in
theorem kX9_fits_1 (N d n : Nat) {X : lt_X} (z : Int32) (I : Nat → Nat → Int32) (J : Nat → Nat → Int64) : KX9_fits_1 N d n z (mkh X I J) = some (.int z, (mkh X I J)) := by
  rfl
theorem fX9_fits (N d : Nat) {X : lt_X} (x1 : Int32) (x2 : Int32) (I : Nat → Nat → Int32) (J : Nat → Nat → Int64) : am_G am_prog N (d + 1) 322 [.ref 135, .int x1, .int x2] (mkh X I J) = am_run (am_G am_prog N d) eX9_fits uX9_fits N 0 [(0, .ref 135), (1, .int x1), (2, .int x2)] [] (mkh X I J) := by
  refine (am_G_at N d 322 mX9_fits _ _ rfl).trans ?_
  rfl
theorem gX9_fits (N d : Nat) {X : lt_X} (x1 : Int32) (x2 : Int32) (I : Nat → Nat → Int32) (J : Nat → Nat → Int64) : am_G am_prog (N + 30) (d + 1) 322 [.ref 135, .int x1, .int x2] (mkh X I J) = RX9_fits_0 N d (N + 30) X x1 x2 I J := fX9_fits (N + 30) (d + 0) x1 x2 I J
def RX9_alikeIn_0 (N d n : Nat) (X : lt_X) (x1 : Int32) (x2 : Int32) (I : Nat → Nat → Int32) (J : Nat → Nat → Int64) : am_O := am_run (am_G am_prog (N + 30) (d + 1)) eX9_alikeIn uX9_alikeIn n 0 [(0, .ref 135), (1, .int x1), (2, .int x2)] [] (mkh X I J)
def RX9_alikeIn_5 (N d n : Nat) (X : lt_X) (x1 : Int32) (x2 : Int32) (x3 : Int32) (x4 : Int32) (I : Nat → Nat → Int32) (J : Nat → Nat → Int64) : am_O := am_run (am_G am_prog (N + 30) (d + 1)) eX9_alikeIn uX9_alikeIn n 5 [(0, .ref 135), (1, .int x1), (2, .int x2), (3, .int x3), (4, .int x4)] [] (mkh X I J)
def RX9_alikeIn_22 (N d n : Nat) (X : lt_X) (x1 : Int32) (x2 : Int32) (x3 : Int32) (x4 : Int32) (x5 : Int32) (x6 : Int32) (I : Nat → Nat → Int32) (J : Nat → Nat → Int64) : am_O := am_run (am_G am_prog (N + 30) (d + 1)) eX9_alikeIn uX9_alikeIn n 22 [(0, .ref 135), (1, .int x1), (2, .int x2), (3, .int x3), (4, .int x4), (5, .int x5), (6, .int x6)] [] (mkh X I J)
def KX9_alikeIn_0 (N d n : Nat) (a0 : Int32) (a1 : Int32) (a2 : Int32) (a3 : Int32) (a4 : Int32) (a5 : Int32) (z : Int32) (h : am_H) : am_O := if z = nI 0 then am_run (am_G am_prog (N + 30) (d + 1)) eX9_alikeIn uX9_alikeIn n 22 [(0, .ref 135), (1, .int a0), (2, .int a1), (3, .int a2), (4, .int a3), (5, .int (a5 + (nI 0))), (6, .int (a4 + (nI 1)))] [] h else am_cI (am_G am_prog (N + 30) (d + 1) 272 [.ref 135, .int a4, .int a1] h) (fun r2 h1 => if r2 = a3 then am_run (am_G am_prog (N + 30) (d + 1)) eX9_alikeIn uX9_alikeIn n 22 [(0, .ref 135), (1, .int a0), (2, .int a1), (3, .int a2), (4, .int a3), (5, .int (a5 + (nI 1))), (6, .int (a4 + (nI 1)))] [] h1 else am_run (am_G am_prog (N + 30) (d + 1)) eX9_alikeIn uX9_alikeIn n 22 [(0, .ref 135), (1, .int a0), (2, .int a1), (3, .int a2), (4, .int a3), (5, .int (a5 + (nI 0))), (6, .int (a4 + (nI 1)))] [] h1)
def KX9_alikeIn_1 (N d n : Nat) (a0 : Int32) (a1 : Int32) (a2 : Int32) (a3 : Int32) (a4 : Int32) (a5 : Int32) (z : Int32) (h : am_H) : am_O := if z = a3 then am_run (am_G am_prog (N + 30) (d + 1)) eX9_alikeIn uX9_alikeIn n 22 [(0, .ref 135), (1, .int a0), (2, .int a1), (3, .int a2), (4, .int a3), (5, .int (a5 + (nI 1))), (6, .int (a4 + (nI 1)))] [] h else am_run (am_G am_prog (N + 30) (d + 1)) eX9_alikeIn uX9_alikeIn n 22 [(0, .ref 135), (1, .int a0), (2, .int a1), (3, .int a2), (4, .int a3), (5, .int (a5 + (nI 0))), (6, .int (a4 + (nI 1)))] [] h
set_option maxHeartbeats 4000000 in
set_option maxRecDepth 100000 in
theorem sX9_alikeIn_0 (N d n : Nat) {X : lt_X} (x1 : Int32) (x2 : Int32) (I : Nat → Nat → Int32) (J : Nat → Nat → Int64) : RX9_alikeIn_0 N d (n + 1) X x1 x2 I J = RX9_alikeIn_5 N d n X x1 x2 (nI 0) (nI 0) I J := by
  rfl
set_option maxHeartbeats 4000000 in
set_option maxRecDepth 100000 in
theorem sX9_alikeIn_5 (N d n : Nat) {X : lt_X} (x1 : Int32) (x2 : Int32) (x3 : Int32) (x4 : Int32) (I : Nat → Nat → Int32) (J : Nat → Nat → Int64) : RX9_alikeIn_5 N d (n + 1) X x1 x2 x3 x4 I J = if x4 < (I 140 0) then RX9_alikeIn_22 N d n X x1 x2 x3 x4 (nI 0) (nI 0) I J else some (.int x3, (mkh X I J)) := by
  rfl
set_option maxHeartbeats 4000000 in
set_option maxRecDepth 100000 in
theorem sX9_alikeIn_22 (N d n : Nat) {X : lt_X} (x1 : Int32) (x2 : Int32) (x3 : Int32) (x4 : Int32) (x5 : Int32) (x6 : Int32) (I : Nat → Nat → Int32) (J : Nat → Nat → Int64) : RX9_alikeIn_22 N d (n + 1) X x1 x2 x3 x4 x5 x6 I J = if x6 < (I 140 1) then am_cI (am_G am_prog (N + 30) (d + 1) 201 [.int x1, .int x6] (mkh X I J)) (KX9_alikeIn_0 N d n x1 x2 x3 x4 x6 x5) else RX9_alikeIn_5 N d n X x1 x2 (if x3 < x5 then x5 else x3) (x4 + (nI 1)) I J := by
  rfl
set_option maxHeartbeats 4000000 in
set_option maxRecDepth 100000 in
theorem kX9_alikeIn_0 (N d n : Nat) {X : lt_X} (a0 : Int32) (a1 : Int32) (a2 : Int32) (a3 : Int32) (a4 : Int32) (a5 : Int32) (z : Int32) (I : Nat → Nat → Int32) (J : Nat → Nat → Int64) : KX9_alikeIn_0 N d n a0 a1 a2 a3 a4 a5 z (mkh X I J) = if z = nI 0 then RX9_alikeIn_22 N d n X a0 a1 a2 a3 (a5 + (nI 0)) (a4 + (nI 1)) I J else am_cI (am_G am_prog (N + 30) (d + 1) 272 [.ref 135, .int a4, .int a1] (mkh X I J)) (KX9_alikeIn_1 N d n a0 a1 a2 a3 a4 a5) := by
  rfl
set_option maxHeartbeats 4000000 in
set_option maxRecDepth 100000 in
theorem kX9_alikeIn_1 (N d n : Nat) {X : lt_X} (a0 : Int32) (a1 : Int32) (a2 : Int32) (a3 : Int32) (a4 : Int32) (a5 : Int32) (z : Int32) (I : Nat → Nat → Int32) (J : Nat → Nat → Int64) : KX9_alikeIn_1 N d n a0 a1 a2 a3 a4 a5 z (mkh X I J) = if z = a3 then RX9_alikeIn_22 N d n X a0 a1 a2 a3 (a5 + (nI 1)) (a4 + (nI 1)) I J else RX9_alikeIn_22 N d n X a0 a1 a2 a3 (a5 + (nI 0)) (a4 + (nI 1)) I J := by
  rfl
theorem fX9_alikeIn (N d : Nat) {X : lt_X} (x1 : Int32) (x2 : Int32) (I : Nat → Nat → Int32) (J : Nat → Nat → Int64) : am_G am_prog N (d + 1) 323 [.ref 135, .int x1, .int x2] (mkh X I J) = am_run (am_G am_prog N d) eX9_alikeIn uX9_alikeIn N 0 [(0, .ref 135), (1, .int x1), (2, .int x2)] [] (mkh X I J) := by
  refine (am_G_at N d 323 mX9_alikeIn _ _ rfl).trans ?_
  rfl
theorem gX9_alikeIn (N d : Nat) {X : lt_X} (x1 : Int32) (x2 : Int32) (I : Nat → Nat → Int32) (J : Nat → Nat → Int64) : am_G am_prog (N + 30) (d + 2) 323 [.ref 135, .int x1, .int x2] (mkh X I J) = RX9_alikeIn_0 N d (N + 30) X x1 x2 I J := fX9_alikeIn (N + 30) (d + 1) x1 x2 I J
def RX9_ask_0 (N d n : Nat) (X : lt_X) (x1 : Int32) (x2 : Int32) (I : Nat → Nat → Int32) (J : Nat → Nat → Int64) : am_O := am_run (am_G am_prog (N + 30) (d + 1)) eX9_ask uX9_ask n 0 [(0, .ref 135), (1, .int x1), (2, .int x2)] [] (mkh X I J)
def RX9_ask_52 (N d n : Nat) (X : lt_X) (x3 : Int32) (x4 : Int32) (x5 : Int32) (I : Nat → Nat → Int32) (J : Nat → Nat → Int64) : am_O := am_run (am_G am_prog (N + 30) (d + 1)) eX9_ask uX9_ask n 52 [(0, .ref 135), (3, .int x3), (4, .int x4), (5, .int x5)] [] (mkh X I J)
def KX9_ask_0 (N d n : Nat) (a0 : Int32) (a1 : Int32) (z : Int32) (h : am_H) : am_O := am_pI h 9 135 0 z (fun h1 => am_gI h1 9 135 0 (fun y2 => if nI 0 < y2 then some (.int (-1), h1) else am_cI (am_G am_prog (N + 30) (d + 1) 321 [.ref 135, .int a0, .int a1] h1) (fun r4 h3 => am_cI (am_G am_prog (N + 30) (d + 1) 202 [.int r4] h3) (fun r6 h5 => if r6 < (nI 2) then am_cI (am_G am_prog (N + 30) (d + 1) 188 [.ref 135, .int (nI 8)] h5) (fun r8 h7 => some (.int r8, h7)) else am_run (am_G am_prog (N + 30) (d + 1)) eX9_ask uX9_ask n 52 [(0, .ref 135), (3, .int r4), (4, .int (nI 0)), (5, .int (nI 1))] [] h5))))
def KX9_ask_1 (N d n : Nat) (a0 : Int32) (a1 : Int32) (a2 : Int32) (z : Int32) (h : am_H) : am_O := am_cI (am_G am_prog (N + 30) (d + 1) 323 [.ref 135, .int a0, .int a1] h) (fun r2 h1 => if z < r2 then am_run (am_G am_prog (N + 30) (d + 1)) eX9_ask uX9_ask n 52 [(0, .ref 135), (3, .int a0), (4, .int a2), (5, .int (a2 + (nI 1)))] [] h1 else am_run (am_G am_prog (N + 30) (d + 1)) eX9_ask uX9_ask n 52 [(0, .ref 135), (3, .int a0), (4, .int a1), (5, .int (a2 + (nI 1)))] [] h1)
def KX9_ask_2 (N d n : Nat) (z : Int32) (h : am_H) : am_O := am_cI (am_G am_prog (N + 30) (d + 1) 202 [.int z] h) (fun r2 h1 => if r2 < (nI 2) then am_cI (am_G am_prog (N + 30) (d + 1) 188 [.ref 135, .int (nI 8)] h1) (fun r4 h3 => some (.int r4, h3)) else am_run (am_G am_prog (N + 30) (d + 1)) eX9_ask uX9_ask n 52 [(0, .ref 135), (3, .int z), (4, .int (nI 0)), (5, .int (nI 1))] [] h1)
def KX9_ask_3 (N d n : Nat) (a0 : Int32) (a1 : Int32) (a2 : Int32) (a3 : Int32) (z : Int32) (h : am_H) : am_O := if a3 < z then am_run (am_G am_prog (N + 30) (d + 1)) eX9_ask uX9_ask n 52 [(0, .ref 135), (3, .int a0), (4, .int a2), (5, .int (a2 + (nI 1)))] [] h else am_run (am_G am_prog (N + 30) (d + 1)) eX9_ask uX9_ask n 52 [(0, .ref 135), (3, .int a0), (4, .int a1), (5, .int (a2 + (nI 1)))] [] h
def KX9_ask_4 (N d n : Nat) (a0 : Int32) (z : Int32) (h : am_H) : am_O := if z < (nI 2) then am_cI (am_G am_prog (N + 30) (d + 1) 188 [.ref 135, .int (nI 8)] h) (fun r2 h1 => some (.int r2, h1)) else am_run (am_G am_prog (N + 30) (d + 1)) eX9_ask uX9_ask n 52 [(0, .ref 135), (3, .int a0), (4, .int (nI 0)), (5, .int (nI 1))] [] h
set_option maxHeartbeats 4000000 in
set_option maxRecDepth 100000 in
theorem sX9_ask_0 (N d n : Nat) {X : lt_X} (x1 : Int32) (x2 : Int32) (I : Nat → Nat → Int32) (J : Nat → Nat → Int64) : RX9_ask_0 N d (n + 1) X x1 x2 I J = am_cI (am_G am_prog (N + 30) (d + 1) 320 [.ref 135, .int x1, .int x2] (mkh X (u2 I 135 1 (nI 0)) J)) (KX9_ask_0 N d n x1 x2) := by
  rfl
set_option maxHeartbeats 4000000 in
set_option maxRecDepth 100000 in
theorem sX9_ask_52 (N d n : Nat) {X : lt_X} (x3 : Int32) (x4 : Int32) (x5 : Int32) (I : Nat → Nat → Int32) (J : Nat → Nat → Int64) : RX9_ask_52 N d (n + 1) X x3 x4 x5 I J = if (nI 99) < x5 then some (.int x4, (mkh X I J)) else am_cI (am_G am_prog (N + 30) (d + 1) 323 [.ref 135, .int x3, .int x5] (mkh X I J)) (KX9_ask_1 N d n x3 x4 x5) := by
  rfl
set_option maxHeartbeats 4000000 in
set_option maxRecDepth 100000 in
theorem kX9_ask_0 (N d n : Nat) {X : lt_X} (a0 : Int32) (a1 : Int32) (z : Int32) (I : Nat → Nat → Int32) (J : Nat → Nat → Int64) : KX9_ask_0 N d n a0 a1 z (mkh X I J) = if nI 0 < z then some (.int (-1), (mkh X (u2 I 135 0 z) J)) else am_cI (am_G am_prog (N + 30) (d + 1) 321 [.ref 135, .int a0, .int a1] (mkh X (u2 I 135 0 z) J)) (KX9_ask_2 N d n ) := by
  rfl
set_option maxHeartbeats 4000000 in
set_option maxRecDepth 100000 in
theorem kX9_ask_1 (N d n : Nat) {X : lt_X} (a0 : Int32) (a1 : Int32) (a2 : Int32) (z : Int32) (I : Nat → Nat → Int32) (J : Nat → Nat → Int64) : KX9_ask_1 N d n a0 a1 a2 z (mkh X I J) = am_cI (am_G am_prog (N + 30) (d + 1) 323 [.ref 135, .int a0, .int a1] (mkh X I J)) (KX9_ask_3 N d n a0 a1 a2 z) := by
  rfl
set_option maxHeartbeats 4000000 in
set_option maxRecDepth 100000 in
theorem kX9_ask_2 (N d n : Nat) {X : lt_X} (z : Int32) (I : Nat → Nat → Int32) (J : Nat → Nat → Int64) : KX9_ask_2 N d n z (mkh X I J) = am_cI (am_G am_prog (N + 30) (d + 1) 202 [.int z] (mkh X I J)) (KX9_ask_4 N d n z) := by
  rfl
set_option maxHeartbeats 4000000 in
set_option maxRecDepth 100000 in
theorem kX9_ask_3 (N d n : Nat) {X : lt_X} (a0 : Int32) (a1 : Int32) (a2 : Int32) (a3 : Int32) (z : Int32) (I : Nat → Nat → Int32) (J : Nat → Nat → Int64) : KX9_ask_3 N d n a0 a1 a2 a3 z (mkh X I J) = if a3 < z then RX9_ask_52 N d n X a0 a2 (a2 + (nI 1)) I J else RX9_ask_52 N d n X a0 a1 (a2 + (nI 1)) I J := by
  rfl
set_option maxHeartbeats 4000000 in
set_option maxRecDepth 100000 in
theorem kX9_ask_4 (N d n : Nat) {X : lt_X} (a0 : Int32) (z : Int32) (I : Nat → Nat → Int32) (J : Nat → Nat → Int64) : KX9_ask_4 N d n a0 z (mkh X I J) = if z < (nI 2) then some (.int (-1), (mkh X (u2 I 135 0 (nI 8)) J)) else RX9_ask_52 N d n X a0 (nI 0) (nI 1) I J := by
  rfl
theorem fX9_ask (N d : Nat) {X : lt_X} (x1 : Int32) (x2 : Int32) (I : Nat → Nat → Int32) (J : Nat → Nat → Int64) : am_G am_prog N (d + 1) 324 [.ref 135, .int x1, .int x2] (mkh X I J) = am_run (am_G am_prog N d) eX9_ask uX9_ask N 0 [(0, .ref 135), (1, .int x1), (2, .int x2)] [] (mkh X I J) := by
  refine (am_G_at N d 324 mX9_ask _ _ rfl).trans ?_
  rfl
theorem gX9_ask (N d : Nat) {X : lt_X} (x1 : Int32) (x2 : Int32) (I : Nat → Nat → Int32) (J : Nat → Nat → Int64) : am_G am_prog (N + 30) (d + 2) 324 [.ref 135, .int x1, .int x2] (mkh X I J) = RX9_ask_0 N d (N + 30) X x1 x2 I J := fX9_ask (N + 30) (d + 1) x1 x2 I J
def RX9_leastLike_0 (N d n : Nat) (X : lt_X) (x1 : Int32) (x2 : Int32) (I : Nat → Nat → Int32) (J : Nat → Nat → Int64) : am_O := am_run (am_G am_prog (N + 30) (d + 1)) eX9_leastLike uX9_leastLike n 0 [(0, .ref 135), (1, .int x1), (2, .int x2)] [] (mkh X I J)
def RX9_leastLike_7 (N d n : Nat) (X : lt_X) (x1 : Int32) (x2 : Int32) (x3 : Int32) (x4 : Int32) (I : Nat → Nat → Int32) (J : Nat → Nat → Int64) : am_O := am_run (am_G am_prog (N + 30) (d + 1)) eX9_leastLike uX9_leastLike n 7 [(0, .ref 135), (1, .int x1), (2, .int x2), (3, .int x3), (4, .int x4)] [] (mkh X I J)
def KX9_leastLike_0 (N d n : Nat) (a0 : Int32) (a1 : Int32) (a2 : Int32) (a3 : Int32) (z : Int32) (h : am_H) : am_O := if z = nI 0 then am_run (am_G am_prog (N + 30) (d + 1)) eX9_leastLike uX9_leastLike n 7 [(0, .ref 135), (1, .int a0), (2, .int a1), (3, .int a2), (4, .int (a3 + (nI 1)))] [] h else am_cI (am_G am_prog (N + 30) (d + 1) 269 [.ref 135, .int a3, .int a1] h) (fun r2 h1 => am_run (am_G am_prog (N + 30) (d + 1)) eX9_leastLike uX9_leastLike n 7 [(0, .ref 135), (1, .int a0), (2, .int a1), (3, .int (if r2 < a2 then r2 else a2)), (4, .int (a3 + (nI 1)))] [] h1)
def KX9_leastLike_1 (N d n : Nat) (a0 : Int32) (a1 : Int32) (a2 : Int32) (a3 : Int32) (z : Int32) (h : am_H) : am_O := am_run (am_G am_prog (N + 30) (d + 1)) eX9_leastLike uX9_leastLike n 7 [(0, .ref 135), (1, .int a0), (2, .int a1), (3, .int (if z < a3 then z else a3)), (4, .int (a2 + (nI 1)))] [] h
set_option maxHeartbeats 4000000 in
set_option maxRecDepth 100000 in
theorem sX9_leastLike_0 (N d n : Nat) {X : lt_X} (x1 : Int32) (x2 : Int32) (I : Nat → Nat → Int32) (J : Nat → Nat → Int64) : RX9_leastLike_0 N d (n + 1) X x1 x2 I J = RX9_leastLike_7 N d n X x1 x2 (nI 9999) (nI 0) I J := by
  rfl
set_option maxHeartbeats 4000000 in
set_option maxRecDepth 100000 in
theorem sX9_leastLike_7 (N d n : Nat) {X : lt_X} (x1 : Int32) (x2 : Int32) (x3 : Int32) (x4 : Int32) (I : Nat → Nat → Int32) (J : Nat → Nat → Int64) : RX9_leastLike_7 N d (n + 1) X x1 x2 x3 x4 I J = if x4 < (I 140 2) then am_cI (am_G am_prog (N + 30) (d + 1) 201 [.int x1, .int x4] (mkh X I J)) (KX9_leastLike_0 N d n x1 x2 x3 x4) else some (.int x3, (mkh X I J)) := by
  rfl
set_option maxHeartbeats 4000000 in
set_option maxRecDepth 100000 in
theorem kX9_leastLike_0 (N d n : Nat) {X : lt_X} (a0 : Int32) (a1 : Int32) (a2 : Int32) (a3 : Int32) (z : Int32) (I : Nat → Nat → Int32) (J : Nat → Nat → Int64) : KX9_leastLike_0 N d n a0 a1 a2 a3 z (mkh X I J) = if z = nI 0 then RX9_leastLike_7 N d n X a0 a1 a2 (a3 + (nI 1)) I J else am_cI (am_G am_prog (N + 30) (d + 1) 269 [.ref 135, .int a3, .int a1] (mkh X I J)) (KX9_leastLike_1 N d n a0 a1 a3 a2) := by
  rfl
set_option maxHeartbeats 4000000 in
set_option maxRecDepth 100000 in
theorem kX9_leastLike_1 (N d n : Nat) {X : lt_X} (a0 : Int32) (a1 : Int32) (a2 : Int32) (a3 : Int32) (z : Int32) (I : Nat → Nat → Int32) (J : Nat → Nat → Int64) : KX9_leastLike_1 N d n a0 a1 a2 a3 z (mkh X I J) = RX9_leastLike_7 N d n X a0 a1 (if z < a3 then z else a3) (a2 + (nI 1)) I J := by
  rfl
theorem fX9_leastLike (N d : Nat) {X : lt_X} (x1 : Int32) (x2 : Int32) (I : Nat → Nat → Int32) (J : Nat → Nat → Int64) : am_G am_prog N (d + 1) 325 [.ref 135, .int x1, .int x2] (mkh X I J) = am_run (am_G am_prog N d) eX9_leastLike uX9_leastLike N 0 [(0, .ref 135), (1, .int x1), (2, .int x2)] [] (mkh X I J) := by
  refine (am_G_at N d 325 mX9_leastLike _ _ rfl).trans ?_
  rfl
theorem gX9_leastLike (N d : Nat) {X : lt_X} (x1 : Int32) (x2 : Int32) (I : Nat → Nat → Int32) (J : Nat → Nat → Int64) : am_G am_prog (N + 30) (d + 2) 325 [.ref 135, .int x1, .int x2] (mkh X I J) = RX9_leastLike_0 N d (N + 30) X x1 x2 I J := fX9_leastLike (N + 30) (d + 1) x1 x2 I J
def RX9_allLike_0 (N d n : Nat) (X : lt_X) (x1 : Int32) (x2 : Int32) (I : Nat → Nat → Int32) (J : Nat → Nat → Int64) : am_O := am_run (am_G am_prog (N + 30) (d + 1)) eX9_allLike uX9_allLike n 0 [(0, .ref 135), (1, .int x1), (2, .int x2)] [] (mkh X I J)
def RX9_allLike_5 (N d n : Nat) (X : lt_X) (x1 : Int32) (x2 : Int32) (x3 : Int32) (x4 : Int32) (I : Nat → Nat → Int32) (J : Nat → Nat → Int64) : am_O := am_run (am_G am_prog (N + 30) (d + 1)) eX9_allLike uX9_allLike n 5 [(0, .ref 135), (1, .int x1), (2, .int x2), (3, .int x3), (4, .int x4)] [] (mkh X I J)
def KX9_allLike_0 (N d n : Nat) (a0 : Int32) (a1 : Int32) (a2 : Int32) (a3 : Int32) (z : Int32) (h : am_H) : am_O := if z = nI 0 then am_run (am_G am_prog (N + 30) (d + 1)) eX9_allLike uX9_allLike n 5 [(0, .ref 135), (1, .int a0), (2, .int a1), (3, .int (a3 + (nI 0))), (4, .int (a2 + (nI 1)))] [] h else am_cI (am_G am_prog (N + 30) (d + 1) 269 [.ref 135, .int a2, .int a1] h) (fun r2 h1 => am_run (am_G am_prog (N + 30) (d + 1)) eX9_allLike uX9_allLike n 5 [(0, .ref 135), (1, .int a0), (2, .int a1), (3, .int (a3 + r2)), (4, .int (a2 + (nI 1)))] [] h1)
def KX9_allLike_1 (N d n : Nat) (a0 : Int32) (a1 : Int32) (a2 : Int32) (a3 : Int32) (z : Int32) (h : am_H) : am_O := am_run (am_G am_prog (N + 30) (d + 1)) eX9_allLike uX9_allLike n 5 [(0, .ref 135), (1, .int a0), (2, .int a1), (3, .int (a3 + z)), (4, .int (a2 + (nI 1)))] [] h
set_option maxHeartbeats 4000000 in
set_option maxRecDepth 100000 in
theorem sX9_allLike_0 (N d n : Nat) {X : lt_X} (x1 : Int32) (x2 : Int32) (I : Nat → Nat → Int32) (J : Nat → Nat → Int64) : RX9_allLike_0 N d (n + 1) X x1 x2 I J = RX9_allLike_5 N d n X x1 x2 (nI 0) (nI 0) I J := by
  rfl
set_option maxHeartbeats 4000000 in
set_option maxRecDepth 100000 in
theorem sX9_allLike_5 (N d n : Nat) {X : lt_X} (x1 : Int32) (x2 : Int32) (x3 : Int32) (x4 : Int32) (I : Nat → Nat → Int32) (J : Nat → Nat → Int64) : RX9_allLike_5 N d (n + 1) X x1 x2 x3 x4 I J = if x4 < (I 140 2) then am_cI (am_G am_prog (N + 30) (d + 1) 201 [.int x1, .int x4] (mkh X I J)) (KX9_allLike_0 N d n x1 x2 x4 x3) else some (.int x3, (mkh X I J)) := by
  rfl
set_option maxHeartbeats 4000000 in
set_option maxRecDepth 100000 in
theorem kX9_allLike_0 (N d n : Nat) {X : lt_X} (a0 : Int32) (a1 : Int32) (a2 : Int32) (a3 : Int32) (z : Int32) (I : Nat → Nat → Int32) (J : Nat → Nat → Int64) : KX9_allLike_0 N d n a0 a1 a2 a3 z (mkh X I J) = if z = nI 0 then RX9_allLike_5 N d n X a0 a1 (a3 + (nI 0)) (a2 + (nI 1)) I J else am_cI (am_G am_prog (N + 30) (d + 1) 269 [.ref 135, .int a2, .int a1] (mkh X I J)) (KX9_allLike_1 N d n a0 a1 a2 a3) := by
  rfl
set_option maxHeartbeats 4000000 in
set_option maxRecDepth 100000 in
theorem kX9_allLike_1 (N d n : Nat) {X : lt_X} (a0 : Int32) (a1 : Int32) (a2 : Int32) (a3 : Int32) (z : Int32) (I : Nat → Nat → Int32) (J : Nat → Nat → Int64) : KX9_allLike_1 N d n a0 a1 a2 a3 z (mkh X I J) = RX9_allLike_5 N d n X a0 a1 (a3 + z) (a2 + (nI 1)) I J := by
  rfl
theorem fX9_allLike (N d : Nat) {X : lt_X} (x1 : Int32) (x2 : Int32) (I : Nat → Nat → Int32) (J : Nat → Nat → Int64) : am_G am_prog N (d + 1) 326 [.ref 135, .int x1, .int x2] (mkh X I J) = am_run (am_G am_prog N d) eX9_allLike uX9_allLike N 0 [(0, .ref 135), (1, .int x1), (2, .int x2)] [] (mkh X I J) := by
  refine (am_G_at N d 326 mX9_allLike _ _ rfl).trans ?_
  rfl
theorem gX9_allLike (N d : Nat) {X : lt_X} (x1 : Int32) (x2 : Int32) (I : Nat → Nat → Int32) (J : Nat → Nat → Int64) : am_G am_prog (N + 30) (d + 2) 326 [.ref 135, .int x1, .int x2] (mkh X I J) = RX9_allLike_0 N d (N + 30) X x1 x2 I J := fX9_allLike (N + 30) (d + 1) x1 x2 I J
def RX9_peaceful_0 (N d n : Nat) (X : lt_X) (x1 : Int32) (I : Nat → Nat → Int32) (J : Nat → Nat → Int64) : am_O := am_run (am_G am_prog (N + 30) (d + 0)) eX9_peaceful uX9_peaceful n 0 [(0, .ref 135), (1, .int x1)] [] (mkh X I J)
def RX9_peaceful_4 (N d n : Nat) (X : lt_X) (x1 : Int32) (x2 : Int32) (x3 : Int32) (I : Nat → Nat → Int32) (J : Nat → Nat → Int64) : am_O := am_run (am_G am_prog (N + 30) (d + 0)) eX9_peaceful uX9_peaceful n 4 [(0, .ref 135), (1, .int x1), (2, .int x2), (3, .int x3)] [] (mkh X I J)
def RX9_peaceful_35 (N d n : Nat) (X : lt_X) (x1 : Int32) (x2 : Int32) (x3 : Int32) (s0 : Int32) (I : Nat → Nat → Int32) (J : Nat → Nat → Int64) : am_O := am_run (am_G am_prog (N + 30) (d + 0)) eX9_peaceful uX9_peaceful n 35 [(0, .ref 135), (1, .int x1), (2, .int x2), (3, .int x3)] [.int s0] (mkh X I J)
def KX9_peaceful_0 (N d n : Nat) (a0 : Int32) (a1 : Int32) (a2 : Int32) (z : Int32) (h : am_H) : am_O := am_cI (am_G am_prog (N + 30) (d + 0) 325 [.ref 135, .int a0, .int a1] h) (fun r2 h1 => am_run (am_G am_prog (N + 30) (d + 0)) eX9_peaceful uX9_peaceful n 35 [(0, .ref 135), (1, .int a0), (2, .int a1), (3, .int a2)] [.int (z - r2)] h1)
def KX9_peaceful_1 (N d n : Nat) (a0 : Int32) (a1 : Int32) (a2 : Int32) (z : Int32) (h : am_H) : am_O := am_cI (am_G am_prog (N + 30) (d + 0) 326 [.ref 135, .int a0, .int a1] h) (fun r2 h1 => if r2 < z then am_run (am_G am_prog (N + 30) (d + 0)) eX9_peaceful uX9_peaceful n 4 [(0, .ref 135), (1, .int a0), (2, .int a2), (3, .int (a2 + (nI 1)))] [] h1 else am_run (am_G am_prog (N + 30) (d + 0)) eX9_peaceful uX9_peaceful n 4 [(0, .ref 135), (1, .int a0), (2, .int a1), (3, .int (a2 + (nI 1)))] [] h1)
def KX9_peaceful_2 (N d n : Nat) (a0 : Int32) (a1 : Int32) (a2 : Int32) (a3 : Int32) (z : Int32) (h : am_H) : am_O := am_run (am_G am_prog (N + 30) (d + 0)) eX9_peaceful uX9_peaceful n 35 [(0, .ref 135), (1, .int a0), (2, .int a1), (3, .int a2)] [.int (a3 - z)] h
def KX9_peaceful_3 (N d n : Nat) (a0 : Int32) (a1 : Int32) (a2 : Int32) (a3 : Int32) (z : Int32) (h : am_H) : am_O := if z < a3 then am_run (am_G am_prog (N + 30) (d + 0)) eX9_peaceful uX9_peaceful n 4 [(0, .ref 135), (1, .int a0), (2, .int a2), (3, .int (a2 + (nI 1)))] [] h else am_run (am_G am_prog (N + 30) (d + 0)) eX9_peaceful uX9_peaceful n 4 [(0, .ref 135), (1, .int a0), (2, .int a1), (3, .int (a2 + (nI 1)))] [] h
set_option maxHeartbeats 4000000 in
set_option maxRecDepth 100000 in
theorem sX9_peaceful_0 (N d n : Nat) {X : lt_X} (x1 : Int32) (I : Nat → Nat → Int32) (J : Nat → Nat → Int64) : RX9_peaceful_0 N d (n + 1) X x1 I J = RX9_peaceful_4 N d n X x1 (-1) (nI 0) I J := by
  rfl
set_option maxHeartbeats 4000000 in
set_option maxRecDepth 100000 in
theorem sX9_peaceful_4 (N d n : Nat) {X : lt_X} (x1 : Int32) (x2 : Int32) (x3 : Int32) (I : Nat → Nat → Int32) (J : Nat → Nat → Int64) : RX9_peaceful_4 N d (n + 1) X x1 x2 x3 I J = if x3 < (I 140 0) then if x2 < nI 0 then RX9_peaceful_35 N d n X x1 x2 x3 (nI 1) I J else am_cI (am_G am_prog (N + 30) (d + 0) 325 [.ref 135, .int x1, .int x3] (mkh X I J)) (KX9_peaceful_0 N d n x1 x2 x3) else some (.int x2, (mkh X I J)) := by
  rfl
set_option maxHeartbeats 4000000 in
set_option maxRecDepth 100000 in
theorem sX9_peaceful_35 (N d n : Nat) {X : lt_X} (x1 : Int32) (x2 : Int32) (x3 : Int32) (s0 : Int32) (I : Nat → Nat → Int32) (J : Nat → Nat → Int64) : RX9_peaceful_35 N d (n + 1) X x1 x2 x3 s0 I J = if nI 0 < s0 then RX9_peaceful_4 N d n X x1 x3 (x3 + (nI 1)) I J else if s0 = nI 0 then am_cI (am_G am_prog (N + 30) (d + 0) 326 [.ref 135, .int x1, .int x3] (mkh X I J)) (KX9_peaceful_1 N d n x1 x2 x3) else RX9_peaceful_4 N d n X x1 x2 (x3 + (nI 1)) I J := by
  rfl
set_option maxHeartbeats 4000000 in
set_option maxRecDepth 100000 in
theorem kX9_peaceful_0 (N d n : Nat) {X : lt_X} (a0 : Int32) (a1 : Int32) (a2 : Int32) (z : Int32) (I : Nat → Nat → Int32) (J : Nat → Nat → Int64) : KX9_peaceful_0 N d n a0 a1 a2 z (mkh X I J) = am_cI (am_G am_prog (N + 30) (d + 0) 325 [.ref 135, .int a0, .int a1] (mkh X I J)) (KX9_peaceful_2 N d n a0 a1 a2 z) := by
  rfl
set_option maxHeartbeats 4000000 in
set_option maxRecDepth 100000 in
theorem kX9_peaceful_1 (N d n : Nat) {X : lt_X} (a0 : Int32) (a1 : Int32) (a2 : Int32) (z : Int32) (I : Nat → Nat → Int32) (J : Nat → Nat → Int64) : KX9_peaceful_1 N d n a0 a1 a2 z (mkh X I J) = am_cI (am_G am_prog (N + 30) (d + 0) 326 [.ref 135, .int a0, .int a1] (mkh X I J)) (KX9_peaceful_3 N d n a0 a1 a2 z) := by
  rfl
set_option maxHeartbeats 4000000 in
set_option maxRecDepth 100000 in
theorem kX9_peaceful_2 (N d n : Nat) {X : lt_X} (a0 : Int32) (a1 : Int32) (a2 : Int32) (a3 : Int32) (z : Int32) (I : Nat → Nat → Int32) (J : Nat → Nat → Int64) : KX9_peaceful_2 N d n a0 a1 a2 a3 z (mkh X I J) = RX9_peaceful_35 N d n X a0 a1 a2 (a3 - z) I J := by
  rfl
set_option maxHeartbeats 4000000 in
set_option maxRecDepth 100000 in
theorem kX9_peaceful_3 (N d n : Nat) {X : lt_X} (a0 : Int32) (a1 : Int32) (a2 : Int32) (a3 : Int32) (z : Int32) (I : Nat → Nat → Int32) (J : Nat → Nat → Int64) : KX9_peaceful_3 N d n a0 a1 a2 a3 z (mkh X I J) = if z < a3 then RX9_peaceful_4 N d n X a0 a2 (a2 + (nI 1)) I J else RX9_peaceful_4 N d n X a0 a1 (a2 + (nI 1)) I J := by
  rfl
theorem fX9_peaceful (N d : Nat) {X : lt_X} (x1 : Int32) (I : Nat → Nat → Int32) (J : Nat → Nat → Int64) : am_G am_prog N (d + 1) 327 [.ref 135, .int x1] (mkh X I J) = am_run (am_G am_prog N d) eX9_peaceful uX9_peaceful N 0 [(0, .ref 135), (1, .int x1)] [] (mkh X I J) := by
  refine (am_G_at N d 327 mX9_peaceful _ _ rfl).trans ?_
  rfl
theorem gX9_peaceful (N d : Nat) {X : lt_X} (x1 : Int32) (I : Nat → Nat → Int32) (J : Nat → Nat → Int64) : am_G am_prog (N + 30) (d + 1) 327 [.ref 135, .int x1] (mkh X I J) = RX9_peaceful_0 N d (N + 30) X x1 I J := fX9_peaceful (N + 30) (d + 0) x1 I J
def RX9_peace_0 (N d n : Nat) (X : lt_X) (x1 : Int32) (I : Nat → Nat → Int32) (J : Nat → Nat → Int64) : am_O := am_run (am_G am_prog (N + 30) (d + 2)) eX9_peace uX9_peace n 0 [(0, .ref 135), (1, .int x1)] [] (mkh X I J)
def KX9_peace_0 (N d n : Nat) (a0 : Int32) (z : Int32) (h : am_H) : am_O := if z = nI 0 then am_cI (am_G am_prog (N + 30) (d + 2) 188 [.ref 135, .int (nI 5)] h) (fun r2 h1 => some (.int r2, h1)) else am_cI (am_G am_prog (N + 30) (d + 2) 327 [.ref 135, .int a0] h) (fun r4 h3 => if r4 < nI 0 then am_cI (am_G am_prog (N + 30) (d + 2) 188 [.ref 135, .int (nI 8)] h3) (fun r6 h5 => some (.int r6, h5)) else some (.int r4, h3))
def KX9_peace_1 (N d n : Nat) (z : Int32) (h : am_H) : am_O := if z < nI 0 then am_cI (am_G am_prog (N + 30) (d + 2) 188 [.ref 135, .int (nI 8)] h) (fun r2 h1 => some (.int r2, h1)) else some (.int z, h)
set_option maxHeartbeats 4000000 in
set_option maxRecDepth 100000 in
theorem sX9_peace_0 (N d n : Nat) {X : lt_X} (x1 : Int32) (I : Nat → Nat → Int32) (J : Nat → Nat → Int64) : RX9_peace_0 N d (n + 1) X x1 I J = if x1 = nI 0 then some (.int (-1), (mkh X (u2 (u2 (u2 I 135 1 (nI 0)) 135 0 (nI 0)) 135 0 (nI 5)) J)) else am_cI (am_G am_prog (N + 30) (d + 2) 306 [.ref 135, .int x1] (mkh X (u2 (u2 I 135 1 (nI 0)) 135 0 (nI 0)) J)) (KX9_peace_0 N d n x1) := by
  rfl
set_option maxHeartbeats 4000000 in
set_option maxRecDepth 100000 in
theorem kX9_peace_0 (N d n : Nat) {X : lt_X} (a0 : Int32) (z : Int32) (I : Nat → Nat → Int32) (J : Nat → Nat → Int64) : KX9_peace_0 N d n a0 z (mkh X I J) = if z = nI 0 then some (.int (-1), (mkh X (u2 I 135 0 (nI 5)) J)) else am_cI (am_G am_prog (N + 30) (d + 2) 327 [.ref 135, .int a0] (mkh X I J)) (KX9_peace_1 N d n ) := by
  rfl
set_option maxHeartbeats 4000000 in
set_option maxRecDepth 100000 in
theorem kX9_peace_1 (N d n : Nat) {X : lt_X} (z : Int32) (I : Nat → Nat → Int32) (J : Nat → Nat → Int64) : KX9_peace_1 N d n z (mkh X I J) = if z < nI 0 then some (.int (-1), (mkh X (u2 I 135 0 (nI 8)) J)) else some (.int z, (mkh X I J)) := by
  rfl
theorem fX9_peace (N d : Nat) {X : lt_X} (x1 : Int32) (I : Nat → Nat → Int32) (J : Nat → Nat → Int64) : am_G am_prog N (d + 1) 328 [.ref 135, .int x1] (mkh X I J) = am_run (am_G am_prog N d) eX9_peace uX9_peace N 0 [(0, .ref 135), (1, .int x1)] [] (mkh X I J) := by
  refine (am_G_at N d 328 mX9_peace _ _ rfl).trans ?_
  rfl
theorem gX9_peace (N d : Nat) {X : lt_X} (x1 : Int32) (I : Nat → Nat → Int32) (J : Nat → Nat → Int64) : am_G am_prog (N + 30) (d + 3) 328 [.ref 135, .int x1] (mkh X I J) = RX9_peace_0 N d (N + 30) X x1 I J := fX9_peace (N + 30) (d + 2) x1 I J
def RX9_peaceBy_0 (N d n : Nat) (X : lt_X) (x1 : Int32) (I : Nat → Nat → Int32) (J : Nat → Nat → Int64) : am_O := am_run (am_G am_prog (N + 30) (d + 2)) eX9_peaceBy uX9_peaceBy n 0 [(0, .ref 135), (1, .int x1)] [] (mkh X I J)
def KX9_peaceBy_0 (N d n : Nat) (a0 : Int32) (z : Int32) (h : am_H) : am_O := if z = nI 0 then am_cI (am_G am_prog (N + 30) (d + 2) 188 [.ref 135, .int (nI 5)] h) (fun r2 h1 => some (.int r2, h1)) else am_cI (am_G am_prog (N + 30) (d + 2) 327 [.ref 135, .int a0] h) (fun r4 h3 => if r4 < nI 0 then am_cI (am_G am_prog (N + 30) (d + 2) 188 [.ref 135, .int (nI 8)] h3) (fun r6 h5 => some (.int r6, h5)) else am_cI (am_G am_prog (N + 30) (d + 2) 325 [.ref 135, .int a0, .int r4] h3) (fun r8 h7 => some (.int r8, h7)))
def KX9_peaceBy_1 (N d n : Nat) (a0 : Int32) (z : Int32) (h : am_H) : am_O := if z < nI 0 then am_cI (am_G am_prog (N + 30) (d + 2) 188 [.ref 135, .int (nI 8)] h) (fun r2 h1 => some (.int r2, h1)) else am_cI (am_G am_prog (N + 30) (d + 2) 325 [.ref 135, .int a0, .int z] h) (fun r4 h3 => some (.int r4, h3))
def KX9_peaceBy_2 (N d n : Nat) (z : Int32) (h : am_H) : am_O := some (.int z, h)
set_option maxHeartbeats 4000000 in
set_option maxRecDepth 100000 in
theorem sX9_peaceBy_0 (N d n : Nat) {X : lt_X} (x1 : Int32) (I : Nat → Nat → Int32) (J : Nat → Nat → Int64) : RX9_peaceBy_0 N d (n + 1) X x1 I J = if x1 = nI 0 then some (.int (-1), (mkh X (u2 (u2 (u2 I 135 1 (nI 0)) 135 0 (nI 0)) 135 0 (nI 5)) J)) else am_cI (am_G am_prog (N + 30) (d + 2) 306 [.ref 135, .int x1] (mkh X (u2 (u2 I 135 1 (nI 0)) 135 0 (nI 0)) J)) (KX9_peaceBy_0 N d n x1) := by
  rfl
set_option maxHeartbeats 4000000 in
set_option maxRecDepth 100000 in
theorem kX9_peaceBy_0 (N d n : Nat) {X : lt_X} (a0 : Int32) (z : Int32) (I : Nat → Nat → Int32) (J : Nat → Nat → Int64) : KX9_peaceBy_0 N d n a0 z (mkh X I J) = if z = nI 0 then some (.int (-1), (mkh X (u2 I 135 0 (nI 5)) J)) else am_cI (am_G am_prog (N + 30) (d + 2) 327 [.ref 135, .int a0] (mkh X I J)) (KX9_peaceBy_1 N d n a0) := by
  rfl
set_option maxHeartbeats 4000000 in
set_option maxRecDepth 100000 in
theorem kX9_peaceBy_1 (N d n : Nat) {X : lt_X} (a0 : Int32) (z : Int32) (I : Nat → Nat → Int32) (J : Nat → Nat → Int64) : KX9_peaceBy_1 N d n a0 z (mkh X I J) = if z < nI 0 then some (.int (-1), (mkh X (u2 I 135 0 (nI 8)) J)) else am_cI (am_G am_prog (N + 30) (d + 2) 325 [.ref 135, .int a0, .int z] (mkh X I J)) (KX9_peaceBy_2 N d n ) := by
  rfl
set_option maxHeartbeats 4000000 in
set_option maxRecDepth 100000 in
theorem kX9_peaceBy_2 (N d n : Nat) {X : lt_X} (z : Int32) (I : Nat → Nat → Int32) (J : Nat → Nat → Int64) : KX9_peaceBy_2 N d n z (mkh X I J) = some (.int z, (mkh X I J)) := by
  rfl
theorem fX9_peaceBy (N d : Nat) {X : lt_X} (x1 : Int32) (I : Nat → Nat → Int32) (J : Nat → Nat → Int64) : am_G am_prog N (d + 1) 329 [.ref 135, .int x1] (mkh X I J) = am_run (am_G am_prog N d) eX9_peaceBy uX9_peaceBy N 0 [(0, .ref 135), (1, .int x1)] [] (mkh X I J) := by
  refine (am_G_at N d 329 mX9_peaceBy _ _ rfl).trans ?_
  rfl
theorem gX9_peaceBy (N d : Nat) {X : lt_X} (x1 : Int32) (I : Nat → Nat → Int32) (J : Nat → Nat → Int64) : am_G am_prog (N + 30) (d + 3) 329 [.ref 135, .int x1] (mkh X I J) = RX9_peaceBy_0 N d (N + 30) X x1 I J := fX9_peaceBy (N + 30) (d + 2) x1 I J
def RX9_fansOf_0 (N d n : Nat) (X : lt_X) (x1 : Int32) (x2 : Int32) (I : Nat → Nat → Int32) (J : Nat → Nat → Int64) : am_O := am_run (am_G am_prog (N + 30) (d + 1)) eX9_fansOf uX9_fansOf n 0 [(0, .ref 135), (1, .int x1), (2, .int x2)] [] (mkh X I J)
def RX9_fansOf_5 (N d n : Nat) (X : lt_X) (x1 : Int32) (x2 : Int32) (x3 : Int32) (x4 : Int32) (I : Nat → Nat → Int32) (J : Nat → Nat → Int64) : am_O := am_run (am_G am_prog (N + 30) (d + 1)) eX9_fansOf uX9_fansOf n 5 [(0, .ref 135), (1, .int x1), (2, .int x2), (3, .int x3), (4, .int x4)] [] (mkh X I J)
def KX9_fansOf_0 (N d n : Nat) (a0 : Int32) (a1 : Int32) (a2 : Int32) (a3 : Int32) (z : Int32) (h : am_H) : am_O := am_cI (am_G am_prog (N + 30) (d + 1) 201 [.int z, .int a2] h) (fun r2 h1 => if r2 = nI 0 then am_run (am_G am_prog (N + 30) (d + 1)) eX9_fansOf uX9_fansOf n 5 [(0, .ref 135), (1, .int a0), (2, .int a1), (3, .int (a3 + (nI 0))), (4, .int (a2 + (nI 1)))] [] h1 else am_cI (am_G am_prog (N + 30) (d + 1) 269 [.ref 135, .int a2, .int a1] h1) (fun r4 h3 => if r4 < (nI 5) then am_run (am_G am_prog (N + 30) (d + 1)) eX9_fansOf uX9_fansOf n 5 [(0, .ref 135), (1, .int a0), (2, .int a1), (3, .int (a3 + (nI 0))), (4, .int (a2 + (nI 1)))] [] h3 else am_run (am_G am_prog (N + 30) (d + 1)) eX9_fansOf uX9_fansOf n 5 [(0, .ref 135), (1, .int a0), (2, .int a1), (3, .int (a3 + (nI 1))), (4, .int (a2 + (nI 1)))] [] h3))
def KX9_fansOf_1 (N d n : Nat) (a0 : Int32) (a1 : Int32) (a2 : Int32) (a3 : Int32) (z : Int32) (h : am_H) : am_O := if z = nI 0 then am_run (am_G am_prog (N + 30) (d + 1)) eX9_fansOf uX9_fansOf n 5 [(0, .ref 135), (1, .int a0), (2, .int a1), (3, .int (a3 + (nI 0))), (4, .int (a2 + (nI 1)))] [] h else am_cI (am_G am_prog (N + 30) (d + 1) 269 [.ref 135, .int a2, .int a1] h) (fun r2 h1 => if r2 < (nI 5) then am_run (am_G am_prog (N + 30) (d + 1)) eX9_fansOf uX9_fansOf n 5 [(0, .ref 135), (1, .int a0), (2, .int a1), (3, .int (a3 + (nI 0))), (4, .int (a2 + (nI 1)))] [] h1 else am_run (am_G am_prog (N + 30) (d + 1)) eX9_fansOf uX9_fansOf n 5 [(0, .ref 135), (1, .int a0), (2, .int a1), (3, .int (a3 + (nI 1))), (4, .int (a2 + (nI 1)))] [] h1)
def KX9_fansOf_2 (N d n : Nat) (a0 : Int32) (a1 : Int32) (a2 : Int32) (a3 : Int32) (z : Int32) (h : am_H) : am_O := if z < (nI 5) then am_run (am_G am_prog (N + 30) (d + 1)) eX9_fansOf uX9_fansOf n 5 [(0, .ref 135), (1, .int a0), (2, .int a1), (3, .int (a3 + (nI 0))), (4, .int (a2 + (nI 1)))] [] h else am_run (am_G am_prog (N + 30) (d + 1)) eX9_fansOf uX9_fansOf n 5 [(0, .ref 135), (1, .int a0), (2, .int a1), (3, .int (a3 + (nI 1))), (4, .int (a2 + (nI 1)))] [] h
set_option maxHeartbeats 4000000 in
set_option maxRecDepth 100000 in
theorem sX9_fansOf_0 (N d n : Nat) {X : lt_X} (x1 : Int32) (x2 : Int32) (I : Nat → Nat → Int32) (J : Nat → Nat → Int64) : RX9_fansOf_0 N d (n + 1) X x1 x2 I J = RX9_fansOf_5 N d n X x1 x2 (nI 0) (nI 0) I J := by
  rfl
set_option maxHeartbeats 4000000 in
set_option maxRecDepth 100000 in
theorem sX9_fansOf_5 (N d n : Nat) {X : lt_X} (x1 : Int32) (x2 : Int32) (x3 : Int32) (x4 : Int32) (I : Nat → Nat → Int32) (J : Nat → Nat → Int64) : RX9_fansOf_5 N d (n + 1) X x1 x2 x3 x4 I J = if x4 < (I 140 2) then am_cI (am_G am_prog (N + 30) (d + 1) 299 [.ref 135, .int x1] (mkh X I J)) (KX9_fansOf_0 N d n x1 x2 x4 x3) else some (.int x3, (mkh X I J)) := by
  rfl
set_option maxHeartbeats 4000000 in
set_option maxRecDepth 100000 in
theorem kX9_fansOf_0 (N d n : Nat) {X : lt_X} (a0 : Int32) (a1 : Int32) (a2 : Int32) (a3 : Int32) (z : Int32) (I : Nat → Nat → Int32) (J : Nat → Nat → Int64) : KX9_fansOf_0 N d n a0 a1 a2 a3 z (mkh X I J) = am_cI (am_G am_prog (N + 30) (d + 1) 201 [.int z, .int a2] (mkh X I J)) (KX9_fansOf_1 N d n a0 a1 a2 a3) := by
  rfl
set_option maxHeartbeats 4000000 in
set_option maxRecDepth 100000 in
theorem kX9_fansOf_1 (N d n : Nat) {X : lt_X} (a0 : Int32) (a1 : Int32) (a2 : Int32) (a3 : Int32) (z : Int32) (I : Nat → Nat → Int32) (J : Nat → Nat → Int64) : KX9_fansOf_1 N d n a0 a1 a2 a3 z (mkh X I J) = if z = nI 0 then RX9_fansOf_5 N d n X a0 a1 (a3 + (nI 0)) (a2 + (nI 1)) I J else am_cI (am_G am_prog (N + 30) (d + 1) 269 [.ref 135, .int a2, .int a1] (mkh X I J)) (KX9_fansOf_2 N d n a0 a1 a2 a3) := by
  rfl
set_option maxHeartbeats 4000000 in
set_option maxRecDepth 100000 in
theorem kX9_fansOf_2 (N d n : Nat) {X : lt_X} (a0 : Int32) (a1 : Int32) (a2 : Int32) (a3 : Int32) (z : Int32) (I : Nat → Nat → Int32) (J : Nat → Nat → Int64) : KX9_fansOf_2 N d n a0 a1 a2 a3 z (mkh X I J) = if z < (nI 5) then RX9_fansOf_5 N d n X a0 a1 (a3 + (nI 0)) (a2 + (nI 1)) I J else RX9_fansOf_5 N d n X a0 a1 (a3 + (nI 1)) (a2 + (nI 1)) I J := by
  rfl
theorem fX9_fansOf (N d : Nat) {X : lt_X} (x1 : Int32) (x2 : Int32) (I : Nat → Nat → Int32) (J : Nat → Nat → Int64) : am_G am_prog N (d + 1) 330 [.ref 135, .int x1, .int x2] (mkh X I J) = am_run (am_G am_prog N d) eX9_fansOf uX9_fansOf N 0 [(0, .ref 135), (1, .int x1), (2, .int x2)] [] (mkh X I J) := by
  refine (am_G_at N d 330 mX9_fansOf _ _ rfl).trans ?_
  rfl
theorem gX9_fansOf (N d : Nat) {X : lt_X} (x1 : Int32) (x2 : Int32) (I : Nat → Nat → Int32) (J : Nat → Nat → Int64) : am_G am_prog (N + 30) (d + 2) 330 [.ref 135, .int x1, .int x2] (mkh X I J) = RX9_fansOf_0 N d (N + 30) X x1 x2 I J := fX9_fansOf (N + 30) (d + 1) x1 x2 I J
def RX9_popularOf_0 (N d n : Nat) (X : lt_X) (x1 : Int32) (I : Nat → Nat → Int32) (J : Nat → Nat → Int64) : am_O := am_run (am_G am_prog (N + 30) (d + 0)) eX9_popularOf uX9_popularOf n 0 [(0, .ref 135), (1, .int x1)] [] (mkh X I J)
def RX9_popularOf_4 (N d n : Nat) (X : lt_X) (x1 : Int32) (x2 : Int32) (x3 : Int32) (I : Nat → Nat → Int32) (J : Nat → Nat → Int64) : am_O := am_run (am_G am_prog (N + 30) (d + 0)) eX9_popularOf uX9_popularOf n 4 [(0, .ref 135), (1, .int x1), (2, .int x2), (3, .int x3)] [] (mkh X I J)
def KX9_popularOf_0 (N d n : Nat) (a0 : Int32) (a1 : Int32) (a2 : Int32) (z : Int32) (h : am_H) : am_O := am_cI (am_G am_prog (N + 30) (d + 0) 330 [.ref 135, .int a0, .int a1] h) (fun r2 h1 => if r2 < z then am_run (am_G am_prog (N + 30) (d + 0)) eX9_popularOf uX9_popularOf n 4 [(0, .ref 135), (1, .int a0), (2, .int a2), (3, .int (a2 + (nI 1)))] [] h1 else am_run (am_G am_prog (N + 30) (d + 0)) eX9_popularOf uX9_popularOf n 4 [(0, .ref 135), (1, .int a0), (2, .int a1), (3, .int (a2 + (nI 1)))] [] h1)
def KX9_popularOf_1 (N d n : Nat) (a0 : Int32) (a1 : Int32) (a2 : Int32) (a3 : Int32) (z : Int32) (h : am_H) : am_O := if z < a3 then am_run (am_G am_prog (N + 30) (d + 0)) eX9_popularOf uX9_popularOf n 4 [(0, .ref 135), (1, .int a0), (2, .int a2), (3, .int (a2 + (nI 1)))] [] h else am_run (am_G am_prog (N + 30) (d + 0)) eX9_popularOf uX9_popularOf n 4 [(0, .ref 135), (1, .int a0), (2, .int a1), (3, .int (a2 + (nI 1)))] [] h
set_option maxHeartbeats 4000000 in
set_option maxRecDepth 100000 in
theorem sX9_popularOf_0 (N d n : Nat) {X : lt_X} (x1 : Int32) (I : Nat → Nat → Int32) (J : Nat → Nat → Int64) : RX9_popularOf_0 N d (n + 1) X x1 I J = RX9_popularOf_4 N d n X x1 (-1) (nI 0) I J := by
  rfl
set_option maxHeartbeats 4000000 in
set_option maxRecDepth 100000 in
theorem sX9_popularOf_4 (N d n : Nat) {X : lt_X} (x1 : Int32) (x2 : Int32) (x3 : Int32) (I : Nat → Nat → Int32) (J : Nat → Nat → Int64) : RX9_popularOf_4 N d (n + 1) X x1 x2 x3 I J = if x3 < (I 140 0) then if x2 < nI 0 then RX9_popularOf_4 N d n X x1 x3 (x3 + (nI 1)) I J else am_cI (am_G am_prog (N + 30) (d + 0) 330 [.ref 135, .int x1, .int x3] (mkh X I J)) (KX9_popularOf_0 N d n x1 x2 x3) else some (.int x2, (mkh X I J)) := by
  rfl
set_option maxHeartbeats 4000000 in
set_option maxRecDepth 100000 in
theorem kX9_popularOf_0 (N d n : Nat) {X : lt_X} (a0 : Int32) (a1 : Int32) (a2 : Int32) (z : Int32) (I : Nat → Nat → Int32) (J : Nat → Nat → Int64) : KX9_popularOf_0 N d n a0 a1 a2 z (mkh X I J) = am_cI (am_G am_prog (N + 30) (d + 0) 330 [.ref 135, .int a0, .int a1] (mkh X I J)) (KX9_popularOf_1 N d n a0 a1 a2 z) := by
  rfl
set_option maxHeartbeats 4000000 in
set_option maxRecDepth 100000 in
theorem kX9_popularOf_1 (N d n : Nat) {X : lt_X} (a0 : Int32) (a1 : Int32) (a2 : Int32) (a3 : Int32) (z : Int32) (I : Nat → Nat → Int32) (J : Nat → Nat → Int64) : KX9_popularOf_1 N d n a0 a1 a2 a3 z (mkh X I J) = if z < a3 then RX9_popularOf_4 N d n X a0 a2 (a2 + (nI 1)) I J else RX9_popularOf_4 N d n X a0 a1 (a2 + (nI 1)) I J := by
  rfl
theorem fX9_popularOf (N d : Nat) {X : lt_X} (x1 : Int32) (I : Nat → Nat → Int32) (J : Nat → Nat → Int64) : am_G am_prog N (d + 1) 331 [.ref 135, .int x1] (mkh X I J) = am_run (am_G am_prog N d) eX9_popularOf uX9_popularOf N 0 [(0, .ref 135), (1, .int x1)] [] (mkh X I J) := by
  refine (am_G_at N d 331 mX9_popularOf _ _ rfl).trans ?_
  rfl
theorem gX9_popularOf (N d : Nat) {X : lt_X} (x1 : Int32) (I : Nat → Nat → Int32) (J : Nat → Nat → Int64) : am_G am_prog (N + 30) (d + 1) 331 [.ref 135, .int x1] (mkh X I J) = RX9_popularOf_0 N d (N + 30) X x1 I J := fX9_popularOf (N + 30) (d + 0) x1 I J
def RX9_popular_0 (N d n : Nat) (X : lt_X) (x1 : Int32) (I : Nat → Nat → Int32) (J : Nat → Nat → Int64) : am_O := am_run (am_G am_prog (N + 30) (d + 2)) eX9_popular uX9_popular n 0 [(0, .ref 135), (1, .int x1)] [] (mkh X I J)
def KX9_popular_0 (N d n : Nat) (a0 : Int32) (z : Int32) (h : am_H) : am_O := if z = nI 0 then am_cI (am_G am_prog (N + 30) (d + 2) 188 [.ref 135, .int (nI 2)] h) (fun r2 h1 => some (.int r2, h1)) else am_cI (am_G am_prog (N + 30) (d + 2) 331 [.ref 135, .int a0] h) (fun r4 h3 => if r4 < nI 0 then am_cI (am_G am_prog (N + 30) (d + 2) 188 [.ref 135, .int (nI 8)] h3) (fun r6 h5 => some (.int r6, h5)) else some (.int r4, h3))
def KX9_popular_1 (N d n : Nat) (z : Int32) (h : am_H) : am_O := if z < nI 0 then am_cI (am_G am_prog (N + 30) (d + 2) 188 [.ref 135, .int (nI 8)] h) (fun r2 h1 => some (.int r2, h1)) else some (.int z, h)
set_option maxHeartbeats 4000000 in
set_option maxRecDepth 100000 in
theorem sX9_popular_0 (N d n : Nat) {X : lt_X} (x1 : Int32) (I : Nat → Nat → Int32) (J : Nat → Nat → Int64) : RX9_popular_0 N d (n + 1) X x1 I J = am_cI (am_G am_prog (N + 30) (d + 2) 259 [.ref 135, .int x1] (mkh X (u2 (u2 I 135 1 (nI 0)) 135 0 (nI 0)) J)) (KX9_popular_0 N d n x1) := by
  rfl
set_option maxHeartbeats 4000000 in
set_option maxRecDepth 100000 in
theorem kX9_popular_0 (N d n : Nat) {X : lt_X} (a0 : Int32) (z : Int32) (I : Nat → Nat → Int32) (J : Nat → Nat → Int64) : KX9_popular_0 N d n a0 z (mkh X I J) = if z = nI 0 then some (.int (-1), (mkh X (u2 I 135 0 (nI 2)) J)) else am_cI (am_G am_prog (N + 30) (d + 2) 331 [.ref 135, .int a0] (mkh X I J)) (KX9_popular_1 N d n ) := by
  rfl
set_option maxHeartbeats 4000000 in
set_option maxRecDepth 100000 in
theorem kX9_popular_1 (N d n : Nat) {X : lt_X} (z : Int32) (I : Nat → Nat → Int32) (J : Nat → Nat → Int64) : KX9_popular_1 N d n z (mkh X I J) = if z < nI 0 then some (.int (-1), (mkh X (u2 I 135 0 (nI 8)) J)) else some (.int z, (mkh X I J)) := by
  rfl
theorem fX9_popular (N d : Nat) {X : lt_X} (x1 : Int32) (I : Nat → Nat → Int32) (J : Nat → Nat → Int64) : am_G am_prog N (d + 1) 332 [.ref 135, .int x1] (mkh X I J) = am_run (am_G am_prog N d) eX9_popular uX9_popular N 0 [(0, .ref 135), (1, .int x1)] [] (mkh X I J) := by
  refine (am_G_at N d 332 mX9_popular _ _ rfl).trans ?_
  rfl
theorem gX9_popular (N d : Nat) {X : lt_X} (x1 : Int32) (I : Nat → Nat → Int32) (J : Nat → Nat → Int64) : am_G am_prog (N + 30) (d + 3) 332 [.ref 135, .int x1] (mkh X I J) = RX9_popular_0 N d (N + 30) X x1 I J := fX9_popular (N + 30) (d + 2) x1 I J
def RX9_popularBy_0 (N d n : Nat) (X : lt_X) (x1 : Int32) (I : Nat → Nat → Int32) (J : Nat → Nat → Int64) : am_O := am_run (am_G am_prog (N + 30) (d + 2)) eX9_popularBy uX9_popularBy n 0 [(0, .ref 135), (1, .int x1)] [] (mkh X I J)
def KX9_popularBy_0 (N d n : Nat) (a0 : Int32) (z : Int32) (h : am_H) : am_O := if z = nI 0 then am_cI (am_G am_prog (N + 30) (d + 2) 188 [.ref 135, .int (nI 2)] h) (fun r2 h1 => some (.int r2, h1)) else am_cI (am_G am_prog (N + 30) (d + 2) 331 [.ref 135, .int a0] h) (fun r4 h3 => if r4 < nI 0 then am_cI (am_G am_prog (N + 30) (d + 2) 188 [.ref 135, .int (nI 8)] h3) (fun r6 h5 => some (.int r6, h5)) else am_cI (am_G am_prog (N + 30) (d + 2) 330 [.ref 135, .int a0, .int r4] h3) (fun r8 h7 => some (.int r8, h7)))
def KX9_popularBy_1 (N d n : Nat) (a0 : Int32) (z : Int32) (h : am_H) : am_O := if z < nI 0 then am_cI (am_G am_prog (N + 30) (d + 2) 188 [.ref 135, .int (nI 8)] h) (fun r2 h1 => some (.int r2, h1)) else am_cI (am_G am_prog (N + 30) (d + 2) 330 [.ref 135, .int a0, .int z] h) (fun r4 h3 => some (.int r4, h3))
def KX9_popularBy_2 (N d n : Nat) (z : Int32) (h : am_H) : am_O := some (.int z, h)
set_option maxHeartbeats 4000000 in
set_option maxRecDepth 100000 in
theorem sX9_popularBy_0 (N d n : Nat) {X : lt_X} (x1 : Int32) (I : Nat → Nat → Int32) (J : Nat → Nat → Int64) : RX9_popularBy_0 N d (n + 1) X x1 I J = am_cI (am_G am_prog (N + 30) (d + 2) 259 [.ref 135, .int x1] (mkh X (u2 (u2 I 135 1 (nI 0)) 135 0 (nI 0)) J)) (KX9_popularBy_0 N d n x1) := by
  rfl
set_option maxHeartbeats 4000000 in
set_option maxRecDepth 100000 in
theorem kX9_popularBy_0 (N d n : Nat) {X : lt_X} (a0 : Int32) (z : Int32) (I : Nat → Nat → Int32) (J : Nat → Nat → Int64) : KX9_popularBy_0 N d n a0 z (mkh X I J) = if z = nI 0 then some (.int (-1), (mkh X (u2 I 135 0 (nI 2)) J)) else am_cI (am_G am_prog (N + 30) (d + 2) 331 [.ref 135, .int a0] (mkh X I J)) (KX9_popularBy_1 N d n a0) := by
  rfl
set_option maxHeartbeats 4000000 in
set_option maxRecDepth 100000 in
theorem kX9_popularBy_1 (N d n : Nat) {X : lt_X} (a0 : Int32) (z : Int32) (I : Nat → Nat → Int32) (J : Nat → Nat → Int64) : KX9_popularBy_1 N d n a0 z (mkh X I J) = if z < nI 0 then some (.int (-1), (mkh X (u2 I 135 0 (nI 8)) J)) else am_cI (am_G am_prog (N + 30) (d + 2) 330 [.ref 135, .int a0, .int z] (mkh X I J)) (KX9_popularBy_2 N d n ) := by
  rfl
set_option maxHeartbeats 4000000 in
set_option maxRecDepth 100000 in
theorem kX9_popularBy_2 (N d n : Nat) {X : lt_X} (z : Int32) (I : Nat → Nat → Int32) (J : Nat → Nat → Int64) : KX9_popularBy_2 N d n z (mkh X I J) = some (.int z, (mkh X I J)) := by
  rfl
theorem fX9_popularBy (N d : Nat) {X : lt_X} (x1 : Int32) (I : Nat → Nat → Int32) (J : Nat → Nat → Int64) : am_G am_prog N (d + 1) 333 [.ref 135, .int x1] (mkh X I J) = am_run (am_G am_prog N d) eX9_popularBy uX9_popularBy N 0 [(0, .ref 135), (1, .int x1)] [] (mkh X I J) := by
  refine (am_G_at N d 333 mX9_popularBy _ _ rfl).trans ?_
  rfl
theorem gX9_popularBy (N d : Nat) {X : lt_X} (x1 : Int32) (I : Nat → Nat → Int32) (J : Nat → Nat → Int64) : am_G am_prog (N + 30) (d + 3) 333 [.ref 135, .int x1] (mkh X I J) = RX9_popularBy_0 N d (N + 30) X x1 I J := fX9_popularBy (N + 30) (d + 2) x1 I J
def RX9_plays_0 (N d n : Nat) (X : lt_X) (x1 : Int32) (x2 : Int32) (x3 : Int32) (x4 : Int32) (x5 : Int32) (I : Nat → Nat → Int32) (J : Nat → Nat → Int64) : am_O := am_run (am_G am_prog (N + 30) (d + 1)) eX9_plays uX9_plays n 0 [(0, .ref 135), (1, .int x1), (2, .int x2), (3, .int x3), (4, .int x4), (5, .int x5)] [] (mkh X I J)
def RX9_plays_30 (N d n : Nat) (X : lt_X) (x1 : Int32) (x2 : Int32) (x3 : Int32) (x4 : Int32) (x5 : Int32) (x6 : Int32) (x7 : Int32) (x8 : Int32) (x9 : Int32) (I : Nat → Nat → Int32) (J : Nat → Nat → Int64) : am_O := am_run (am_G am_prog (N + 30) (d + 1)) eX9_plays uX9_plays n 30 [(0, .ref 135), (1, .int x1), (2, .int x2), (3, .int x3), (4, .int x4), (5, .int x5), (6, .int x6), (7, .int x7), (8, .int x8), (9, .int x9)] [] (mkh X I J)
def RX9_plays_77 (N d n : Nat) (X : lt_X) (x1 : Int32) (x2 : Int32) (x3 : Int32) (x4 : Int32) (x5 : Int32) (x6 : Int32) (x7 : Int32) (x8 : Int32) (x9 : Int32) (x10 : Int32) (I : Nat → Nat → Int32) (J : Nat → Nat → Int64) : am_O := am_run (am_G am_prog (N + 30) (d + 1)) eX9_plays uX9_plays n 77 [(0, .ref 135), (1, .int x1), (2, .int x2), (3, .int x3), (4, .int x4), (5, .int x5), (6, .int x6), (7, .int x7), (8, .int x8), (9, .int x9), (10, .int x10)] [] (mkh X I J)
def RX9_plays_119 (N d n : Nat) (X : lt_X) (x1 : Int32) (x2 : Int32) (x3 : Int32) (x4 : Int32) (x5 : Int32) (x6 : Int32) (x7 : Int32) (x8 : Int32) (x9 : Int32) (x10 : Int32) (s0 : Int32) (I : Nat → Nat → Int32) (J : Nat → Nat → Int64) : am_O := am_run (am_G am_prog (N + 30) (d + 1)) eX9_plays uX9_plays n 119 [(0, .ref 135), (1, .int x1), (2, .int x2), (3, .int x3), (4, .int x4), (5, .int x5), (6, .int x6), (7, .int x7), (8, .int x8), (9, .int x9), (10, .int x10)] [.int s0] (mkh X I J)
def RX9_plays_150 (N d n : Nat) (X : lt_X) (x1 : Int32) (x2 : Int32) (x3 : Int32) (x4 : Int32) (x5 : Int32) (x6 : Int32) (x7 : Int32) (x8 : Int32) (x9 : Int32) (s0 : Int32) (s1 : Int32) (s2 : Int32) (s3 : Int32) (s4 : Int32) (s5 : Nat) (s6 : Int32) (I : Nat → Nat → Int32) (J : Nat → Nat → Int64) : am_O := am_run (am_G am_prog (N + 30) (d + 1)) eX9_plays uX9_plays n 150 [(0, .ref 135), (1, .int x1), (2, .int x2), (3, .int x3), (4, .int x4), (5, .int x5), (6, .int x6), (7, .int x7), (8, .int x8), (9, .int x9)] [.int s0, .int s1, .int s2, .int s3, .int s4, .ref s5, .int s6] (mkh X I J)
def KX9_plays_0 (N d n : Nat) (a0 : Int32) (a1 : Int32) (a2 : Int32) (a3 : Int32) (a4 : Int32) (a5 : Int32) (a6 : Int32) (a7 : Int32) (a8 : Int32) (z : Int32) (h : am_H) : am_O := if z = nI 0 then am_run (am_G am_prog (N + 30) (d + 1)) eX9_plays uX9_plays n 30 [(0, .ref 135), (1, .int a0), (2, .int a1), (3, .int a2), (4, .int a3), (5, .int a4), (6, .int a5), (7, .int a6), (8, .int a7), (9, .int (a8 + (nI 1)))] [] h else am_run (am_G am_prog (N + 30) (d + 1)) eX9_plays uX9_plays n 77 [(0, .ref 135), (1, .int a0), (2, .int a1), (3, .int a2), (4, .int a3), (5, .int a4), (6, .int a5), (7, .int a6), (8, .int a7), (9, .int a8), (10, .int (nI 0))] [] h
def KX9_plays_1 (N d n : Nat) (a0 : Int32) (a1 : Int32) (a2 : Int32) (a3 : Int32) (a4 : Int32) (a5 : Int32) (a6 : Int32) (a7 : Int32) (a8 : Int32) (a9 : Int32) (z : Int32) (h : am_H) : am_O := if a7 < nI 0 then am_run (am_G am_prog (N + 30) (d + 1)) eX9_plays uX9_plays n 30 [(0, .ref 135), (1, .int a0), (2, .int a1), (3, .int a2), (4, .int a3), (5, .int a4), (6, .int a5), (7, .int (a9 + z)), (8, .int a8), (9, .int (a8 + (nI 1)))] [] h else if a5 = nI 0 then if (a9 + z) < a6 then am_run (am_G am_prog (N + 30) (d + 1)) eX9_plays uX9_plays n 30 [(0, .ref 135), (1, .int a0), (2, .int a1), (3, .int a2), (4, .int a3), (5, .int a4), (6, .int a5), (7, .int (a9 + z)), (8, .int a8), (9, .int (a8 + (nI 1)))] [] h else am_run (am_G am_prog (N + 30) (d + 1)) eX9_plays uX9_plays n 30 [(0, .ref 135), (1, .int a0), (2, .int a1), (3, .int a2), (4, .int a3), (5, .int a4), (6, .int a5), (7, .int a6), (8, .int a7), (9, .int (a8 + (nI 1)))] [] h else if a6 < (a9 + z) then am_run (am_G am_prog (N + 30) (d + 1)) eX9_plays uX9_plays n 30 [(0, .ref 135), (1, .int a0), (2, .int a1), (3, .int a2), (4, .int a3), (5, .int a4), (6, .int a5), (7, .int (a9 + z)), (8, .int a8), (9, .int (a8 + (nI 1)))] [] h else am_run (am_G am_prog (N + 30) (d + 1)) eX9_plays uX9_plays n 30 [(0, .ref 135), (1, .int a0), (2, .int a1), (3, .int a2), (4, .int a3), (5, .int a4), (6, .int a5), (7, .int a6), (8, .int a7), (9, .int (a8 + (nI 1)))] [] h
set_option maxHeartbeats 4000000 in
set_option maxRecDepth 100000 in
theorem sX9_plays_0 (N d n : Nat) {X : lt_X} (x1 : Int32) (x2 : Int32) (x3 : Int32) (x4 : Int32) (x5 : Int32) (I : Nat → Nat → Int32) (J : Nat → Nat → Int64) : RX9_plays_0 N d (n + 1) X x1 x2 x3 x4 x5 I J = if x3 = x4 then some (.int (nI 0), (mkh X I J)) else if (x3 - x3 / (nI 2) * (nI 2)) = nI 0 then RX9_plays_30 N d n X x1 x2 x3 x4 x5 (nI 1) (nI 0) (-1) (nI 0) I J else RX9_plays_30 N d n X x1 x2 x3 x4 x5 (nI 0) (nI 0) (-1) (nI 0) I J := by
  rfl
set_option maxHeartbeats 4000000 in
set_option maxRecDepth 100000 in
theorem sX9_plays_30 (N d n : Nat) {X : lt_X} (x1 : Int32) (x2 : Int32) (x3 : Int32) (x4 : Int32) (x5 : Int32) (x6 : Int32) (x7 : Int32) (x8 : Int32) (x9 : Int32) (I : Nat → Nat → Int32) (J : Nat → Nat → Int64) : RX9_plays_30 N d (n + 1) X x1 x2 x3 x4 x5 x6 x7 x8 x9 I J = if (I 140 3) < x9 then if x3 = nI 0 then some (.int x7, (mkh X (u2 I 135 31 x8) J)) else some (.int x7, (mkh X I J)) else if x9 = (I 140 3) then RX9_plays_77 N d n X x1 x2 x3 x4 x5 x6 x7 x8 x9 (nI 1) I J else am_cI (am_G am_prog (N + 30) (d + 1) 201 [.int x5, .int x9] (mkh X I J)) (KX9_plays_0 N d n x1 x2 x3 x4 x5 x6 x7 x8 x9) := by
  rfl
set_option maxHeartbeats 4000000 in
set_option maxRecDepth 100000 in
theorem sX9_plays_77 (N d n : Nat) {X : lt_X} (x1 : Int32) (x2 : Int32) (x3 : Int32) (x4 : Int32) (x5 : Int32) (x6 : Int32) (x7 : Int32) (x8 : Int32) (x9 : Int32) (x10 : Int32) (I : Nat → Nat → Int32) (J : Nat → Nat → Int64) : RX9_plays_77 N d (n + 1) X x1 x2 x3 x4 x5 x6 x7 x8 x9 x10 I J = if x10 = nI 0 then if x6 = nI 0 then if am_in (((nI 6) * x2) + x9) 36 then RX9_plays_119 N d n X x1 x2 x3 x4 x5 x6 x7 x8 x9 x10 (-(I 143 ((((nI 6) * x2) + x9).toNatClampNeg))) I J else none else if am_in (((nI 6) * x1) + x9) 36 then RX9_plays_119 N d n X x1 x2 x3 x4 x5 x6 x7 x8 x9 x10 (I 143 ((((nI 6) * x1) + x9).toNatClampNeg)) I J else none else RX9_plays_119 N d n X x1 x2 x3 x4 x5 x6 x7 x8 x9 x10 (nI 0) I J := by
  rfl
set_option maxHeartbeats 4000000 in
set_option maxRecDepth 100000 in
theorem sX9_plays_119 (N d n : Nat) {X : lt_X} (x1 : Int32) (x2 : Int32) (x3 : Int32) (x4 : Int32) (x5 : Int32) (x6 : Int32) (x7 : Int32) (x8 : Int32) (x9 : Int32) (x10 : Int32) (s0 : Int32) (I : Nat → Nat → Int32) (J : Nat → Nat → Int64) : RX9_plays_119 N d (n + 1) X x1 x2 x3 x4 x5 x6 x7 x8 x9 x10 s0 I J = if x10 = nI 0 then am_run (am_G am_prog (N + 30) (d + 1)) eX9_plays uX9_plays n 150 [(0, .ref 135), (1, .int x1), (2, .int x2), (3, .int x3), (4, .int x4), (5, .int x5), (6, .int x6), (7, .int x7), (8, .int x8), (9, .int x9)] [.int (x5 &&& (((nI 1) <<< (x9 &&& 31)) ^^^ (-1))), .int x4, .int (x3 + (nI 1)), .int x2, .int x1, .ref 135, .int s0] (mkh X I J) else am_run (am_G am_prog (N + 30) (d + 1)) eX9_plays uX9_plays n 150 [(0, .ref 135), (1, .int x1), (2, .int x2), (3, .int x3), (4, .int x4), (5, .int x5), (6, .int x6), (7, .int x7), (8, .int x8), (9, .int x9)] [.int x5, .int x4, .int (x3 + (nI 1)), .int x2, .int x1, .ref 135, .int s0] (mkh X I J) := by
  rfl
set_option maxHeartbeats 4000000 in
set_option maxRecDepth 100000 in
theorem sX9_plays_150 (N d n : Nat) {X : lt_X} (x1 : Int32) (x2 : Int32) (x3 : Int32) (x4 : Int32) (x5 : Int32) (x6 : Int32) (x7 : Int32) (x8 : Int32) (x9 : Int32) (s0 : Int32) (s1 : Int32) (s2 : Int32) (s3 : Int32) (s4 : Int32) (s5 : Nat) (s6 : Int32) (I : Nat → Nat → Int32) (J : Nat → Nat → Int64) : RX9_plays_150 N d (n + 1) X x1 x2 x3 x4 x5 x6 x7 x8 x9 s0 s1 s2 s3 s4 s5 s6 I J = am_cI (am_G am_prog (N + 30) (d + 1) 334 [.ref s5, .int s4, .int s3, .int s2, .int s1, .int s0] (mkh X I J)) (KX9_plays_1 N d n x1 x2 x3 x4 x5 x6 x7 x8 x9 s6) := by
  rfl
set_option maxHeartbeats 4000000 in
set_option maxRecDepth 100000 in
theorem kX9_plays_0 (N d n : Nat) {X : lt_X} (a0 : Int32) (a1 : Int32) (a2 : Int32) (a3 : Int32) (a4 : Int32) (a5 : Int32) (a6 : Int32) (a7 : Int32) (a8 : Int32) (z : Int32) (I : Nat → Nat → Int32) (J : Nat → Nat → Int64) : KX9_plays_0 N d n a0 a1 a2 a3 a4 a5 a6 a7 a8 z (mkh X I J) = if z = nI 0 then RX9_plays_30 N d n X a0 a1 a2 a3 a4 a5 a6 a7 (a8 + (nI 1)) I J else RX9_plays_77 N d n X a0 a1 a2 a3 a4 a5 a6 a7 a8 (nI 0) I J := by
  rfl
set_option maxHeartbeats 4000000 in
set_option maxRecDepth 100000 in
theorem kX9_plays_1 (N d n : Nat) {X : lt_X} (a0 : Int32) (a1 : Int32) (a2 : Int32) (a3 : Int32) (a4 : Int32) (a5 : Int32) (a6 : Int32) (a7 : Int32) (a8 : Int32) (a9 : Int32) (z : Int32) (I : Nat → Nat → Int32) (J : Nat → Nat → Int64) : KX9_plays_1 N d n a0 a1 a2 a3 a4 a5 a6 a7 a8 a9 z (mkh X I J) = if a7 < nI 0 then RX9_plays_30 N d n X a0 a1 a2 a3 a4 a5 (a9 + z) a8 (a8 + (nI 1)) I J else if a5 = nI 0 then if (a9 + z) < a6 then RX9_plays_30 N d n X a0 a1 a2 a3 a4 a5 (a9 + z) a8 (a8 + (nI 1)) I J else RX9_plays_30 N d n X a0 a1 a2 a3 a4 a5 a6 a7 (a8 + (nI 1)) I J else if a6 < (a9 + z) then RX9_plays_30 N d n X a0 a1 a2 a3 a4 a5 (a9 + z) a8 (a8 + (nI 1)) I J else RX9_plays_30 N d n X a0 a1 a2 a3 a4 a5 a6 a7 (a8 + (nI 1)) I J := by
  rfl
theorem fX9_plays (N d : Nat) {X : lt_X} (x1 : Int32) (x2 : Int32) (x3 : Int32) (x4 : Int32) (x5 : Int32) (I : Nat → Nat → Int32) (J : Nat → Nat → Int64) : am_G am_prog N (d + 1) 334 [.ref 135, .int x1, .int x2, .int x3, .int x4, .int x5] (mkh X I J) = am_run (am_G am_prog N d) eX9_plays uX9_plays N 0 [(0, .ref 135), (1, .int x1), (2, .int x2), (3, .int x3), (4, .int x4), (5, .int x5)] [] (mkh X I J) := by
  refine (am_G_at N d 334 mX9_plays _ _ rfl).trans ?_
  rfl
theorem gX9_plays (N d : Nat) {X : lt_X} (x1 : Int32) (x2 : Int32) (x3 : Int32) (x4 : Int32) (x5 : Int32) (I : Nat → Nat → Int32) (J : Nat → Nat → Int64) : am_G am_prog (N + 30) (d + 2) 334 [.ref 135, .int x1, .int x2, .int x3, .int x4, .int x5] (mkh X I J) = RX9_plays_0 N d (N + 30) X x1 x2 x3 x4 x5 I J := fX9_plays (N + 30) (d + 1) x1 x2 x3 x4 x5 I J
def RX9_whyNoGame_0 (N d n : Nat) (X : lt_X) (x1 : Int32) (x2 : Int32) (x3 : Int32) (x4 : Int32) (I : Nat → Nat → Int32) (J : Nat → Nat → Int64) : am_O := am_run (am_G am_prog (N + 30) (d + 2)) eX9_whyNoGame uX9_whyNoGame n 0 [(0, .ref 135), (1, .int x1), (2, .int x2), (3, .int x3), (4, .int x4)] [] (mkh X I J)
def KX9_whyNoGame_0 (N d n : Nat) (a0 : Int32) (a1 : Int32) (a2 : Int32) (a3 : Int32) (z : Int32) (h : am_H) : am_O := if z = nI 0 then some (.int (nI 2), h) else am_cI (am_G am_prog (N + 30) (d + 2) 260 [.ref 135, .long a1.toInt64] h) (fun r2 h1 => if r2 = nI 0 then some (.int (nI 2), h1) else if a0 = a1 then some (.int (nI 5), h1) else am_cI (am_G am_prog (N + 30) (d + 2) 190 [.long a2.toInt64, .long a3.toInt64, .long (lN 5)] h1) (fun r4 h3 => if r4 = nI 0 then some (.int (nI 5), h3) else some (.int (nI 0), h3)))
def KX9_whyNoGame_1 (N d n : Nat) (a0 : Int32) (a1 : Int32) (a2 : Int32) (a3 : Int32) (z : Int32) (h : am_H) : am_O := if z = nI 0 then some (.int (nI 2), h) else if a0 = a1 then some (.int (nI 5), h) else am_cI (am_G am_prog (N + 30) (d + 2) 190 [.long a2.toInt64, .long a3.toInt64, .long (lN 5)] h) (fun r2 h1 => if r2 = nI 0 then some (.int (nI 5), h1) else some (.int (nI 0), h1))
def KX9_whyNoGame_2 (N d n : Nat) (z : Int32) (h : am_H) : am_O := if z = nI 0 then some (.int (nI 5), h) else some (.int (nI 0), h)
set_option maxHeartbeats 4000000 in
set_option maxRecDepth 100000 in
theorem sX9_whyNoGame_0 (N d n : Nat) {X : lt_X} (x1 : Int32) (x2 : Int32) (x3 : Int32) (x4 : Int32) (I : Nat → Nat → Int32) (J : Nat → Nat → Int64) : RX9_whyNoGame_0 N d (n + 1) X x1 x2 x3 x4 I J = am_cI (am_G am_prog (N + 30) (d + 2) 260 [.ref 135, .long x1.toInt64] (mkh X I J)) (KX9_whyNoGame_0 N d n x1 x2 x3 x4) := by
  rfl
set_option maxHeartbeats 4000000 in
set_option maxRecDepth 100000 in
theorem kX9_whyNoGame_0 (N d n : Nat) {X : lt_X} (a0 : Int32) (a1 : Int32) (a2 : Int32) (a3 : Int32) (z : Int32) (I : Nat → Nat → Int32) (J : Nat → Nat → Int64) : KX9_whyNoGame_0 N d n a0 a1 a2 a3 z (mkh X I J) = if z = nI 0 then some (.int (nI 2), (mkh X I J)) else am_cI (am_G am_prog (N + 30) (d + 2) 260 [.ref 135, .long a1.toInt64] (mkh X I J)) (KX9_whyNoGame_1 N d n a0 a1 a2 a3) := by
  rfl
set_option maxHeartbeats 4000000 in
set_option maxRecDepth 100000 in
theorem kX9_whyNoGame_1 (N d n : Nat) {X : lt_X} (a0 : Int32) (a1 : Int32) (a2 : Int32) (a3 : Int32) (z : Int32) (I : Nat → Nat → Int32) (J : Nat → Nat → Int64) : KX9_whyNoGame_1 N d n a0 a1 a2 a3 z (mkh X I J) = if z = nI 0 then some (.int (nI 2), (mkh X I J)) else if a0 = a1 then some (.int (nI 5), (mkh X I J)) else am_cI (am_G am_prog (N + 30) (d + 2) 190 [.long a2.toInt64, .long a3.toInt64, .long (lN 5)] (mkh X I J)) (KX9_whyNoGame_2 N d n ) := by
  rfl
set_option maxHeartbeats 4000000 in
set_option maxRecDepth 100000 in
theorem kX9_whyNoGame_2 (N d n : Nat) {X : lt_X} (z : Int32) (I : Nat → Nat → Int32) (J : Nat → Nat → Int64) : KX9_whyNoGame_2 N d n z (mkh X I J) = if z = nI 0 then some (.int (nI 5), (mkh X I J)) else some (.int (nI 0), (mkh X I J)) := by
  rfl
theorem fX9_whyNoGame (N d : Nat) {X : lt_X} (x1 : Int32) (x2 : Int32) (x3 : Int32) (x4 : Int32) (I : Nat → Nat → Int32) (J : Nat → Nat → Int64) : am_G am_prog N (d + 1) 335 [.ref 135, .int x1, .int x2, .int x3, .int x4] (mkh X I J) = am_run (am_G am_prog N d) eX9_whyNoGame uX9_whyNoGame N 0 [(0, .ref 135), (1, .int x1), (2, .int x2), (3, .int x3), (4, .int x4)] [] (mkh X I J) := by
  refine (am_G_at N d 335 mX9_whyNoGame _ _ rfl).trans ?_
  rfl
theorem gX9_whyNoGame (N d : Nat) {X : lt_X} (x1 : Int32) (x2 : Int32) (x3 : Int32) (x4 : Int32) (I : Nat → Nat → Int32) (J : Nat → Nat → Int64) : am_G am_prog (N + 30) (d + 3) 335 [.ref 135, .int x1, .int x2, .int x3, .int x4] (mkh X I J) = RX9_whyNoGame_0 N d (N + 30) X x1 x2 x3 x4 I J := fX9_whyNoGame (N + 30) (d + 2) x1 x2 x3 x4 I J
def RX9_game_0 (N d n : Nat) (X : lt_X) (x1 : Int32) (x2 : Int32) (x3 : Int32) (I : Nat → Nat → Int32) (J : Nat → Nat → Int64) : am_O := am_run (am_G am_prog (N + 30) (d + 0)) eX9_game uX9_game n 0 [(0, .ref 135), (1, .int x1), (2, .int x2), (3, .int x3)] [] (mkh X I J)
def KX9_game_0 (N d n : Nat) (a0 : Int32) (a1 : Int32) (a2 : Int32) (z : Int32) (h : am_H) : am_O := am_pI h 9 135 0 z (fun h1 => am_gI h1 9 135 0 (fun y2 => if nI 0 < y2 then some (.int (-1), h1) else am_cV (am_G am_prog (N + 30) (d + 0) 303 [.ref 135] h1) (fun h3 => am_cI (am_G am_prog (N + 30) (d + 0) 262 [.ref 135, .int (-1)] h3) (fun r5 h4 => am_cI (am_G am_prog (N + 30) (d + 0) 334 [.ref 135, .int a0, .int a1, .int (nI 0), .int a2, .int r5] h4) (fun r7 h6 => some (.int r7, h6))))))
def KX9_game_1 (N d n : Nat) (a0 : Int32) (a1 : Int32) (a2 : Int32) (h : am_H) : am_O := am_cI (am_G am_prog (N + 30) (d + 0) 262 [.ref 135, .int (-1)] h) (fun r2 h1 => am_cI (am_G am_prog (N + 30) (d + 0) 334 [.ref 135, .int a0, .int a1, .int (nI 0), .int a2, .int r2] h1) (fun r4 h3 => some (.int r4, h3)))
def KX9_game_2 (N d n : Nat) (a0 : Int32) (a1 : Int32) (a2 : Int32) (z : Int32) (h : am_H) : am_O := am_cI (am_G am_prog (N + 30) (d + 0) 334 [.ref 135, .int a2, .int a1, .int (nI 0), .int a0, .int z] h) (fun r2 h1 => some (.int r2, h1))
def KX9_game_3 (N d n : Nat) (z : Int32) (h : am_H) : am_O := some (.int z, h)
set_option maxHeartbeats 4000000 in
set_option maxRecDepth 100000 in
theorem sX9_game_0 (N d n : Nat) {X : lt_X} (x1 : Int32) (x2 : Int32) (x3 : Int32) (I : Nat → Nat → Int32) (J : Nat → Nat → Int64) : RX9_game_0 N d (n + 1) X x1 x2 x3 I J = am_cI (am_G am_prog (N + 30) (d + 0) 335 [.ref 135, .int x1, .int x2, .int x3, .int (nI 0)] (mkh X (u2 I 135 1 (nI 0)) J)) (KX9_game_0 N d n x1 x2 x3) := by
  rfl
set_option maxHeartbeats 4000000 in
set_option maxRecDepth 100000 in
theorem kX9_game_0 (N d n : Nat) {X : lt_X} (a0 : Int32) (a1 : Int32) (a2 : Int32) (z : Int32) (I : Nat → Nat → Int32) (J : Nat → Nat → Int64) : KX9_game_0 N d n a0 a1 a2 z (mkh X I J) = if nI 0 < z then some (.int (-1), (mkh X (u2 I 135 0 z) J)) else am_cV (am_G am_prog (N + 30) (d + 0) 303 [.ref 135] (mkh X (u2 I 135 0 z) J)) (KX9_game_1 N d n a0 a1 a2) := by
  rfl
set_option maxHeartbeats 4000000 in
set_option maxRecDepth 100000 in
theorem kX9_game_1 (N d n : Nat) {X : lt_X} (a0 : Int32) (a1 : Int32) (a2 : Int32) (I : Nat → Nat → Int32) (J : Nat → Nat → Int64) : KX9_game_1 N d n a0 a1 a2 (mkh X I J) = am_cI (am_G am_prog (N + 30) (d + 0) 262 [.ref 135, .int (-1)] (mkh X I J)) (KX9_game_2 N d n a2 a1 a0) := by
  rfl
set_option maxHeartbeats 4000000 in
set_option maxRecDepth 100000 in
theorem kX9_game_2 (N d n : Nat) {X : lt_X} (a0 : Int32) (a1 : Int32) (a2 : Int32) (z : Int32) (I : Nat → Nat → Int32) (J : Nat → Nat → Int64) : KX9_game_2 N d n a0 a1 a2 z (mkh X I J) = am_cI (am_G am_prog (N + 30) (d + 0) 334 [.ref 135, .int a2, .int a1, .int (nI 0), .int a0, .int z] (mkh X I J)) (KX9_game_3 N d n ) := by
  rfl
set_option maxHeartbeats 4000000 in
set_option maxRecDepth 100000 in
theorem kX9_game_3 (N d n : Nat) {X : lt_X} (z : Int32) (I : Nat → Nat → Int32) (J : Nat → Nat → Int64) : KX9_game_3 N d n z (mkh X I J) = some (.int z, (mkh X I J)) := by
  rfl
theorem fX9_game (N d : Nat) {X : lt_X} (x1 : Int32) (x2 : Int32) (x3 : Int32) (I : Nat → Nat → Int32) (J : Nat → Nat → Int64) : am_G am_prog N (d + 1) 336 [.ref 135, .int x1, .int x2, .int x3] (mkh X I J) = am_run (am_G am_prog N d) eX9_game uX9_game N 0 [(0, .ref 135), (1, .int x1), (2, .int x2), (3, .int x3)] [] (mkh X I J) := by
  refine (am_G_at N d 336 mX9_game _ _ rfl).trans ?_
  rfl
theorem gX9_game (N d : Nat) {X : lt_X} (x1 : Int32) (x2 : Int32) (x3 : Int32) (I : Nat → Nat → Int32) (J : Nat → Nat → Int64) : am_G am_prog (N + 30) (d + 1) 336 [.ref 135, .int x1, .int x2, .int x3] (mkh X I J) = RX9_game_0 N d (N + 30) X x1 x2 x3 I J := fX9_game (N + 30) (d + 0) x1 x2 x3 I J
def RX9_moveOf_0 (N d n : Nat) (X : lt_X) (x1 : Int32) (x2 : Int32) (x3 : Int32) (I : Nat → Nat → Int32) (J : Nat → Nat → Int64) : am_O := am_run (am_G am_prog (N + 30) (d + 1)) eX9_moveOf uX9_moveOf n 0 [(0, .ref 135), (1, .int x1), (2, .int x2), (3, .int x3)] [] (mkh X I J)
def KX9_moveOf_0 (N d n : Nat) (a0 : Int32) (a1 : Int32) (a2 : Int32) (z : Int32) (h : am_H) : am_O := am_pI h 9 135 0 z (fun h1 => am_gI h1 9 135 0 (fun y2 => if nI 0 < y2 then some (.int (-1), h1) else am_cV (am_G am_prog (N + 30) (d + 1) 303 [.ref 135] h1) (fun h3 => am_cI (am_G am_prog (N + 30) (d + 1) 262 [.ref 135, .int (-1)] h3) (fun r5 h4 => am_cI (am_G am_prog (N + 30) (d + 1) 334 [.ref 135, .int a0, .int a1, .int (nI 0), .int a2, .int r5] h4) (fun r7 h6 => am_gI h6 9 135 31 (fun y8 => am_gR h6 9 135 20 (fun y9 => am_lI h6 10 y9 (nI 3) (fun y10 => if y8 = y10 then am_cI (am_G am_prog (N + 30) (d + 1) 188 [.ref 135, .int (nI 8)] h6) (fun r12 h11 => some (.int r12, h11)) else am_gI h6 9 135 31 (fun y13 => some (.int y13, h6))))))))))
def KX9_moveOf_1 (N d n : Nat) (a0 : Int32) (a1 : Int32) (a2 : Int32) (h : am_H) : am_O := am_cI (am_G am_prog (N + 30) (d + 1) 262 [.ref 135, .int (-1)] h) (fun r2 h1 => am_cI (am_G am_prog (N + 30) (d + 1) 334 [.ref 135, .int a0, .int a1, .int (nI 0), .int a2, .int r2] h1) (fun r4 h3 => am_gI h3 9 135 31 (fun y5 => am_gR h3 9 135 20 (fun y6 => am_lI h3 10 y6 (nI 3) (fun y7 => if y5 = y7 then am_cI (am_G am_prog (N + 30) (d + 1) 188 [.ref 135, .int (nI 8)] h3) (fun r9 h8 => some (.int r9, h8)) else am_gI h3 9 135 31 (fun y10 => some (.int y10, h3)))))))
def KX9_moveOf_2 (N d n : Nat) (a0 : Int32) (a1 : Int32) (a2 : Int32) (z : Int32) (h : am_H) : am_O := am_cI (am_G am_prog (N + 30) (d + 1) 334 [.ref 135, .int a2, .int a1, .int (nI 0), .int a0, .int z] h) (fun r2 h1 => am_gI h1 9 135 31 (fun y3 => am_gR h1 9 135 20 (fun y4 => am_lI h1 10 y4 (nI 3) (fun y5 => if y3 = y5 then am_cI (am_G am_prog (N + 30) (d + 1) 188 [.ref 135, .int (nI 8)] h1) (fun r7 h6 => some (.int r7, h6)) else am_gI h1 9 135 31 (fun y8 => some (.int y8, h1))))))
def KX9_moveOf_3 (N d n : Nat) (z : Int32) (h : am_H) : am_O := am_gI h 9 135 31 (fun y1 => am_gR h 9 135 20 (fun y2 => am_lI h 10 y2 (nI 3) (fun y3 => if y1 = y3 then am_cI (am_G am_prog (N + 30) (d + 1) 188 [.ref 135, .int (nI 8)] h) (fun r5 h4 => some (.int r5, h4)) else am_gI h 9 135 31 (fun y6 => some (.int y6, h)))))
set_option maxHeartbeats 4000000 in
set_option maxRecDepth 100000 in
theorem sX9_moveOf_0 (N d n : Nat) {X : lt_X} (x1 : Int32) (x2 : Int32) (x3 : Int32) (I : Nat → Nat → Int32) (J : Nat → Nat → Int64) : RX9_moveOf_0 N d (n + 1) X x1 x2 x3 I J = am_cI (am_G am_prog (N + 30) (d + 1) 335 [.ref 135, .int x1, .int x2, .int x3, .int (nI 1)] (mkh X (u2 I 135 1 (nI 0)) J)) (KX9_moveOf_0 N d n x1 x2 x3) := by
  rfl
set_option maxHeartbeats 4000000 in
set_option maxRecDepth 100000 in
theorem kX9_moveOf_0 (N d n : Nat) {X : lt_X} (a0 : Int32) (a1 : Int32) (a2 : Int32) (z : Int32) (I : Nat → Nat → Int32) (J : Nat → Nat → Int64) : KX9_moveOf_0 N d n a0 a1 a2 z (mkh X I J) = if nI 0 < z then some (.int (-1), (mkh X (u2 I 135 0 z) J)) else am_cV (am_G am_prog (N + 30) (d + 1) 303 [.ref 135] (mkh X (u2 I 135 0 z) J)) (KX9_moveOf_1 N d n a0 a1 a2) := by
  rfl
set_option maxHeartbeats 4000000 in
set_option maxRecDepth 100000 in
theorem kX9_moveOf_1 (N d n : Nat) {X : lt_X} (a0 : Int32) (a1 : Int32) (a2 : Int32) (I : Nat → Nat → Int32) (J : Nat → Nat → Int64) : KX9_moveOf_1 N d n a0 a1 a2 (mkh X I J) = am_cI (am_G am_prog (N + 30) (d + 1) 262 [.ref 135, .int (-1)] (mkh X I J)) (KX9_moveOf_2 N d n a2 a1 a0) := by
  rfl
set_option maxHeartbeats 4000000 in
set_option maxRecDepth 100000 in
theorem kX9_moveOf_2 (N d n : Nat) {X : lt_X} (a0 : Int32) (a1 : Int32) (a2 : Int32) (z : Int32) (I : Nat → Nat → Int32) (J : Nat → Nat → Int64) : KX9_moveOf_2 N d n a0 a1 a2 z (mkh X I J) = am_cI (am_G am_prog (N + 30) (d + 1) 334 [.ref 135, .int a2, .int a1, .int (nI 0), .int a0, .int z] (mkh X I J)) (KX9_moveOf_3 N d n ) := by
  rfl
set_option maxHeartbeats 4000000 in
set_option maxRecDepth 100000 in
theorem kX9_moveOf_3 (N d n : Nat) {X : lt_X} (z : Int32) (I : Nat → Nat → Int32) (J : Nat → Nat → Int64) : KX9_moveOf_3 N d n z (mkh X I J) = if (I 135 31) = (I 140 3) then some (.int (-1), (mkh X (u2 I 135 0 (nI 8)) J)) else some (.int (I 135 31), (mkh X I J)) := by
  rfl
theorem fX9_moveOf (N d : Nat) {X : lt_X} (x1 : Int32) (x2 : Int32) (x3 : Int32) (I : Nat → Nat → Int32) (J : Nat → Nat → Int64) : am_G am_prog N (d + 1) 337 [.ref 135, .int x1, .int x2, .int x3] (mkh X I J) = am_run (am_G am_prog N d) eX9_moveOf uX9_moveOf N 0 [(0, .ref 135), (1, .int x1), (2, .int x2), (3, .int x3)] [] (mkh X I J) := by
  refine (am_G_at N d 337 mX9_moveOf _ _ rfl).trans ?_
  rfl
theorem gX9_moveOf (N d : Nat) {X : lt_X} (x1 : Int32) (x2 : Int32) (x3 : Int32) (I : Nat → Nat → Int32) (J : Nat → Nat → Int64) : am_G am_prog (N + 30) (d + 2) 337 [.ref 135, .int x1, .int x2, .int x3] (mkh X I J) = RX9_moveOf_0 N d (N + 30) X x1 x2 x3 I J := fX9_moveOf (N + 30) (d + 1) x1 x2 x3 I J
def RX9_power_0 (N d n : Nat) (X : lt_X) (x0 : Int32) (x1 : Int32) (I : Nat → Nat → Int32) (J : Nat → Nat → Int64) : am_O := am_run (am_G am_prog (N + 30) (d + 0)) eX9_power uX9_power n 0 [(0, .int x0), (1, .int x1)] [] (mkh X I J)
def RX9_power_5 (N d n : Nat) (X : lt_X) (x0 : Int32) (x1 : Int32) (x2 : Int64) (x4 : Int32) (I : Nat → Nat → Int32) (J : Nat → Nat → Int64) : am_O := am_run (am_G am_prog (N + 30) (d + 0)) eX9_power uX9_power n 5 [(0, .int x0), (1, .int x1), (2, .long x2), (4, .int x4)] [] (mkh X I J)
set_option maxHeartbeats 4000000 in
set_option maxRecDepth 100000 in
theorem sX9_power_0 (N d n : Nat) {X : lt_X} (x0 : Int32) (x1 : Int32) (I : Nat → Nat → Int32) (J : Nat → Nat → Int64) : RX9_power_0 N d (n + 1) X x0 x1 I J = RX9_power_5 N d n X x0 x1 (lN 1) (nI 0) I J := by
  rfl
set_option maxHeartbeats 4000000 in
set_option maxRecDepth 100000 in
theorem sX9_power_5 (N d n : Nat) {X : lt_X} (x0 : Int32) (x1 : Int32) (x2 : Int64) (x4 : Int32) (I : Nat → Nat → Int32) (J : Nat → Nat → Int64) : RX9_power_5 N d (n + 1) X x0 x1 x2 x4 I J = if x4 < x1 then RX9_power_5 N d n X x0 x1 (x2 * x0.toInt64) (x4 + (nI 1)) I J else some (.long x2, (mkh X I J)) := by
  rfl
theorem fX9_power (N d : Nat) {X : lt_X} (x0 : Int32) (x1 : Int32) (I : Nat → Nat → Int32) (J : Nat → Nat → Int64) : am_G am_prog N (d + 1) 338 [.int x0, .int x1] (mkh X I J) = am_run (am_G am_prog N d) eX9_power uX9_power N 0 [(0, .int x0), (1, .int x1)] [] (mkh X I J) := by
  refine (am_G_at N d 338 mX9_power _ _ rfl).trans ?_
  rfl
theorem gX9_power (N d : Nat) {X : lt_X} (x0 : Int32) (x1 : Int32) (I : Nat → Nat → Int32) (J : Nat → Nat → Int64) : am_G am_prog (N + 30) (d + 1) 338 [.int x0, .int x1] (mkh X I J) = RX9_power_0 N d (N + 30) X x0 x1 I J := fX9_power (N + 30) (d + 0) x0 x1 I J
def RX9_alive_0 (N d n : Nat) (X : lt_X) (x1 : Int32) (x2 : Int32) (I : Nat → Nat → Int32) (J : Nat → Nat → Int64) : am_O := am_run (am_G am_prog (N + 30) (d + 2)) eX9_alive uX9_alive n 0 [(0, .ref 135), (1, .int x1), (2, .int x2)] [] (mkh X I J)
def KX9_alive_0 (N d n : Nat) (a0 : Int32) (a1 : Int32) (z : Int32) (h : am_H) : am_O := if z = nI 0 then am_cI (am_G am_prog (N + 30) (d + 2) 189 [.ref 135, .int (nI 2)] h) (fun r2 h1 => am_nb r2 (some (.int r2, h1))) else am_cI (am_G am_prog (N + 30) (d + 2) 190 [.long a1.toInt64, .long (lN 0), .long (lN 12)] h) (fun r4 h3 => if r4 = nI 0 then am_cI (am_G am_prog (N + 30) (d + 2) 189 [.ref 135, .int (nI 5)] h3) (fun r6 h5 => am_nb r6 (some (.int r6, h5))) else am_gR h3 9 135 20 (fun y7 => am_lI h3 10 y7 ((nI 25) + a0) (fun y8 => if y8 = nI 0 then am_cI (am_G am_prog (N + 30) (d + 2) 189 [.ref 135, .int (nI 9)] h3) (fun r10 h9 => am_nb r10 (some (.int r10, h9))) else am_gR h3 9 135 20 (fun y11 => am_lI h3 10 y11 (nI 4) (fun y12 => am_cL (am_G am_prog (N + 30) (d + 2) 338 [.int ((nI 16) - y12), .int a1] h3) (fun r14 h13 => am_cL (am_G am_prog (N + 30) (d + 2) 338 [.int (nI 16), .int a1] h13) (fun r16 h15 => am_cI (am_G am_prog (N + 30) (d + 2) 191 [.ref 135, .long r14, .long r16] h15) (fun r18 h17 => am_nb r18 (some (.int r18, h17))))))))))
def KX9_alive_1 (N d n : Nat) (a0 : Int32) (a1 : Int32) (z : Int32) (h : am_H) : am_O := if z = nI 0 then am_cI (am_G am_prog (N + 30) (d + 2) 189 [.ref 135, .int (nI 5)] h) (fun r2 h1 => am_nb r2 (some (.int r2, h1))) else am_gR h 9 135 20 (fun y3 => am_lI h 10 y3 ((nI 25) + a0) (fun y4 => if y4 = nI 0 then am_cI (am_G am_prog (N + 30) (d + 2) 189 [.ref 135, .int (nI 9)] h) (fun r6 h5 => am_nb r6 (some (.int r6, h5))) else am_gR h 9 135 20 (fun y7 => am_lI h 10 y7 (nI 4) (fun y8 => am_cL (am_G am_prog (N + 30) (d + 2) 338 [.int ((nI 16) - y8), .int a1] h) (fun r10 h9 => am_cL (am_G am_prog (N + 30) (d + 2) 338 [.int (nI 16), .int a1] h9) (fun r12 h11 => am_cI (am_G am_prog (N + 30) (d + 2) 191 [.ref 135, .long r10, .long r12] h11) (fun r14 h13 => am_nb r14 (some (.int r14, h13)))))))))
def KX9_alive_2 (N d n : Nat) (a0 : Int32) (z : Int64) (h : am_H) : am_O := am_cL (am_G am_prog (N + 30) (d + 2) 338 [.int (nI 16), .int a0] h) (fun r2 h1 => am_cI (am_G am_prog (N + 30) (d + 2) 191 [.ref 135, .long z, .long r2] h1) (fun r4 h3 => am_nb r4 (some (.int r4, h3))))
def KX9_alive_3 (N d n : Nat) (a0 : Int64) (z : Int64) (h : am_H) : am_O := am_cI (am_G am_prog (N + 30) (d + 2) 191 [.ref 135, .long a0, .long z] h) (fun r2 h1 => am_nb r2 (some (.int r2, h1)))
def KX9_alive_4 (N d n : Nat) (z : Int32) (h : am_H) : am_O := am_nb z (some (.int z, h))
set_option maxHeartbeats 4000000 in
set_option maxRecDepth 100000 in
theorem sX9_alive_0 (N d n : Nat) {X : lt_X} (x1 : Int32) (x2 : Int32) (I : Nat → Nat → Int32) (J : Nat → Nat → Int64) : RX9_alive_0 N d (n + 1) X x1 x2 I J = am_cI (am_G am_prog (N + 30) (d + 2) 259 [.ref 135, .int x1] (mkh X (u2 (u2 I 135 1 (nI 0)) 135 0 (nI 0)) J)) (KX9_alive_0 N d n x1 x2) := by
  rfl
set_option maxHeartbeats 4000000 in
set_option maxRecDepth 100000 in
theorem kX9_alive_0 (N d n : Nat) {X : lt_X} (a0 : Int32) (a1 : Int32) (z : Int32) (I : Nat → Nat → Int32) (J : Nat → Nat → Int64) : KX9_alive_0 N d n a0 a1 z (mkh X I J) = if z = nI 0 then some (.int (nI 0), (mkh X (u2 I 135 0 (nI 2)) J)) else am_cI (am_G am_prog (N + 30) (d + 2) 190 [.long a1.toInt64, .long (lN 0), .long (lN 12)] (mkh X I J)) (KX9_alive_1 N d n a0 a1) := by
  rfl
set_option maxHeartbeats 4000000 in
set_option maxRecDepth 100000 in
theorem kX9_alive_1 (N d n : Nat) {X : lt_X} (a0 : Int32) (a1 : Int32) (z : Int32) (I : Nat → Nat → Int32) (J : Nat → Nat → Int64) : KX9_alive_1 N d n a0 a1 z (mkh X I J) = if z = nI 0 then some (.int (nI 0), (mkh X (u2 I 135 0 (nI 5)) J)) else if am_in ((nI 25) + a0) 2145 then if (I 140 (((nI 25) + a0).toNatClampNeg)) = nI 0 then some (.int (nI 0), (mkh X (u2 I 135 0 (nI 9)) J)) else am_cL (am_G am_prog (N + 30) (d + 2) 338 [.int ((nI 16) - (I 140 4)), .int a1] (mkh X I J)) (KX9_alive_2 N d n a1) else none := by
  rfl
set_option maxHeartbeats 4000000 in
set_option maxRecDepth 100000 in
theorem kX9_alive_2 (N d n : Nat) {X : lt_X} (a0 : Int32) (z : Int64) (I : Nat → Nat → Int32) (J : Nat → Nat → Int64) : KX9_alive_2 N d n a0 z (mkh X I J) = am_cL (am_G am_prog (N + 30) (d + 2) 338 [.int (nI 16), .int a0] (mkh X I J)) (KX9_alive_3 N d n z) := by
  rfl
set_option maxHeartbeats 4000000 in
set_option maxRecDepth 100000 in
theorem kX9_alive_3 (N d n : Nat) {X : lt_X} (a0 : Int64) (z : Int64) (I : Nat → Nat → Int32) (J : Nat → Nat → Int64) : KX9_alive_3 N d n a0 z (mkh X I J) = am_cI (am_G am_prog (N + 30) (d + 2) 191 [.ref 135, .long a0, .long z] (mkh X I J)) (KX9_alive_4 N d n ) := by
  rfl
set_option maxHeartbeats 4000000 in
set_option maxRecDepth 100000 in
theorem kX9_alive_4 (N d n : Nat) {X : lt_X} (z : Int32) (I : Nat → Nat → Int32) (J : Nat → Nat → Int64) : KX9_alive_4 N d n z (mkh X I J) = am_nb z (some (.int z, (mkh X I J))) := by
  rfl
theorem fX9_alive (N d : Nat) {X : lt_X} (x1 : Int32) (x2 : Int32) (I : Nat → Nat → Int32) (J : Nat → Nat → Int64) : am_G am_prog N (d + 1) 339 [.ref 135, .int x1, .int x2] (mkh X I J) = am_run (am_G am_prog N d) eX9_alive uX9_alive N 0 [(0, .ref 135), (1, .int x1), (2, .int x2)] [] (mkh X I J) := by
  refine (am_G_at N d 339 mX9_alive _ _ rfl).trans ?_
  rfl
theorem gX9_alive (N d : Nat) {X : lt_X} (x1 : Int32) (x2 : Int32) (I : Nat → Nat → Int32) (J : Nat → Nat → Int64) : am_G am_prog (N + 30) (d + 3) 339 [.ref 135, .int x1, .int x2] (mkh X I J) = RX9_alive_0 N d (N + 30) X x1 x2 I J := fX9_alive (N + 30) (d + 2) x1 x2 I J
def RX9_warm_0 (N d n : Nat) (X : lt_X) (x1 : Int32) (I : Nat → Nat → Int32) (J : Nat → Nat → Int64) : am_O := am_run (am_G am_prog (N + 30) (d + 2)) eX9_warm uX9_warm n 0 [(0, .ref 135), (1, .int x1)] [] (mkh X I J)
def RX9_warm_29 (N d n : Nat) (X : lt_X) (x1 : Int32) (x2 : Int32) (x3 : Int32) (I : Nat → Nat → Int32) (J : Nat → Nat → Int64) : am_O := am_run (am_G am_prog (N + 30) (d + 2)) eX9_warm uX9_warm n 29 [(0, .ref 135), (1, .int x1), (2, .int x2), (3, .int x3)] [] (mkh X I J)
def KX9_warm_0 (N d n : Nat) (a0 : Int32) (z : Int32) (h : am_H) : am_O := if z = nI 0 then am_cI (am_G am_prog (N + 30) (d + 2) 189 [.ref 135, .int (nI 2)] h) (fun r2 h1 => am_nb r2 (some (.int r2, h1))) else am_run (am_G am_prog (N + 30) (d + 2)) eX9_warm uX9_warm n 29 [(0, .ref 135), (1, .int a0), (2, .int (nI 0)), (3, .int (nI 0))] [] h
def KX9_warm_1 (N d n : Nat) (a0 : Int32) (a1 : Int32) (a2 : Int32) (z : Int32) (h : am_H) : am_O := am_cI (am_G am_prog (N + 30) (d + 2) 201 [.int z, .int a0] h) (fun r2 h1 => if r2 = nI 0 then am_run (am_G am_prog (N + 30) (d + 2)) eX9_warm uX9_warm n 29 [(0, .ref 135), (1, .int a0), (2, .int (a2 + (nI 0))), (3, .int (a1 + (nI 1)))] [] h1 else am_run (am_G am_prog (N + 30) (d + 2)) eX9_warm uX9_warm n 29 [(0, .ref 135), (1, .int a0), (2, .int (a2 + (nI 1))), (3, .int (a1 + (nI 1)))] [] h1)
def KX9_warm_2 (N d n : Nat) (a0 : Int32) (z : Int64) (h : am_H) : am_O := am_gR h 9 135 20 (fun y1 => am_lI h 10 y1 (nI 4) (fun y2 => am_cL (am_G am_prog (N + 30) (d + 2) 338 [.int y2, .int a0] h) (fun r4 h3 => am_cL (am_G am_prog (N + 30) (d + 2) 338 [.int (nI 16), .int a0] h3) (fun r6 h5 => am_cI (am_G am_prog (N + 30) (d + 2) 191 [.ref 135, .long (z - r4), .long r6] h5) (fun r8 h7 => am_nb r8 (some (.int r8, h7)))))))
def KX9_warm_3 (N d n : Nat) (a0 : Int32) (a1 : Int32) (a2 : Int32) (z : Int32) (h : am_H) : am_O := if z = nI 0 then am_run (am_G am_prog (N + 30) (d + 2)) eX9_warm uX9_warm n 29 [(0, .ref 135), (1, .int a0), (2, .int (a2 + (nI 0))), (3, .int (a1 + (nI 1)))] [] h else am_run (am_G am_prog (N + 30) (d + 2)) eX9_warm uX9_warm n 29 [(0, .ref 135), (1, .int a0), (2, .int (a2 + (nI 1))), (3, .int (a1 + (nI 1)))] [] h
def KX9_warm_4 (N d n : Nat) (a0 : Int32) (a1 : Int64) (z : Int64) (h : am_H) : am_O := am_cL (am_G am_prog (N + 30) (d + 2) 338 [.int (nI 16), .int a0] h) (fun r2 h1 => am_cI (am_G am_prog (N + 30) (d + 2) 191 [.ref 135, .long (a1 - z), .long r2] h1) (fun r4 h3 => am_nb r4 (some (.int r4, h3))))
def KX9_warm_5 (N d n : Nat) (a0 : Int64) (z : Int64) (h : am_H) : am_O := am_cI (am_G am_prog (N + 30) (d + 2) 191 [.ref 135, .long a0, .long z] h) (fun r2 h1 => am_nb r2 (some (.int r2, h1)))
def KX9_warm_6 (N d n : Nat) (z : Int32) (h : am_H) : am_O := am_nb z (some (.int z, h))
set_option maxHeartbeats 4000000 in
set_option maxRecDepth 100000 in
theorem sX9_warm_0 (N d n : Nat) {X : lt_X} (x1 : Int32) (I : Nat → Nat → Int32) (J : Nat → Nat → Int64) : RX9_warm_0 N d (n + 1) X x1 I J = am_cI (am_G am_prog (N + 30) (d + 2) 260 [.ref 135, .long x1.toInt64] (mkh X (u2 (u2 I 135 1 (nI 0)) 135 0 (nI 0)) J)) (KX9_warm_0 N d n x1) := by
  rfl
set_option maxHeartbeats 4000000 in
set_option maxRecDepth 100000 in
theorem sX9_warm_29 (N d n : Nat) {X : lt_X} (x1 : Int32) (x2 : Int32) (x3 : Int32) (I : Nat → Nat → Int32) (J : Nat → Nat → Int64) : RX9_warm_29 N d (n + 1) X x1 x2 x3 I J = if x3 < (I 140 1) then if am_in ((nI 25) + x3) 2145 then if (I 140 (((nI 25) + x3).toNatClampNeg)) = (nI 1) then am_cI (am_G am_prog (N + 30) (d + 2) 299 [.ref 135, .int x3] (mkh X I J)) (KX9_warm_1 N d n x1 x3 x2) else RX9_warm_29 N d n X x1 (x2 + (nI 0)) (x3 + (nI 1)) I J else none else am_cL (am_G am_prog (N + 30) (d + 2) 338 [.int (nI 16), .int x2] (mkh X I J)) (KX9_warm_2 N d n x2) := by
  rfl
set_option maxHeartbeats 4000000 in
set_option maxRecDepth 100000 in
theorem kX9_warm_0 (N d n : Nat) {X : lt_X} (a0 : Int32) (z : Int32) (I : Nat → Nat → Int32) (J : Nat → Nat → Int64) : KX9_warm_0 N d n a0 z (mkh X I J) = if z = nI 0 then some (.int (nI 0), (mkh X (u2 I 135 0 (nI 2)) J)) else RX9_warm_29 N d n X a0 (nI 0) (nI 0) I J := by
  rfl
set_option maxHeartbeats 4000000 in
set_option maxRecDepth 100000 in
theorem kX9_warm_1 (N d n : Nat) {X : lt_X} (a0 : Int32) (a1 : Int32) (a2 : Int32) (z : Int32) (I : Nat → Nat → Int32) (J : Nat → Nat → Int64) : KX9_warm_1 N d n a0 a1 a2 z (mkh X I J) = am_cI (am_G am_prog (N + 30) (d + 2) 201 [.int z, .int a0] (mkh X I J)) (KX9_warm_3 N d n a0 a1 a2) := by
  rfl
set_option maxHeartbeats 4000000 in
set_option maxRecDepth 100000 in
theorem kX9_warm_2 (N d n : Nat) {X : lt_X} (a0 : Int32) (z : Int64) (I : Nat → Nat → Int32) (J : Nat → Nat → Int64) : KX9_warm_2 N d n a0 z (mkh X I J) = am_cL (am_G am_prog (N + 30) (d + 2) 338 [.int (I 140 4), .int a0] (mkh X I J)) (KX9_warm_4 N d n a0 z) := by
  rfl
set_option maxHeartbeats 4000000 in
set_option maxRecDepth 100000 in
theorem kX9_warm_3 (N d n : Nat) {X : lt_X} (a0 : Int32) (a1 : Int32) (a2 : Int32) (z : Int32) (I : Nat → Nat → Int32) (J : Nat → Nat → Int64) : KX9_warm_3 N d n a0 a1 a2 z (mkh X I J) = if z = nI 0 then RX9_warm_29 N d n X a0 (a2 + (nI 0)) (a1 + (nI 1)) I J else RX9_warm_29 N d n X a0 (a2 + (nI 1)) (a1 + (nI 1)) I J := by
  rfl
set_option maxHeartbeats 4000000 in
set_option maxRecDepth 100000 in
theorem kX9_warm_4 (N d n : Nat) {X : lt_X} (a0 : Int32) (a1 : Int64) (z : Int64) (I : Nat → Nat → Int32) (J : Nat → Nat → Int64) : KX9_warm_4 N d n a0 a1 z (mkh X I J) = am_cL (am_G am_prog (N + 30) (d + 2) 338 [.int (nI 16), .int a0] (mkh X I J)) (KX9_warm_5 N d n (a1 - z)) := by
  rfl
set_option maxHeartbeats 4000000 in
set_option maxRecDepth 100000 in
theorem kX9_warm_5 (N d n : Nat) {X : lt_X} (a0 : Int64) (z : Int64) (I : Nat → Nat → Int32) (J : Nat → Nat → Int64) : KX9_warm_5 N d n a0 z (mkh X I J) = am_cI (am_G am_prog (N + 30) (d + 2) 191 [.ref 135, .long a0, .long z] (mkh X I J)) (KX9_warm_6 N d n ) := by
  rfl
set_option maxHeartbeats 4000000 in
set_option maxRecDepth 100000 in
theorem kX9_warm_6 (N d n : Nat) {X : lt_X} (z : Int32) (I : Nat → Nat → Int32) (J : Nat → Nat → Int64) : KX9_warm_6 N d n z (mkh X I J) = am_nb z (some (.int z, (mkh X I J))) := by
  rfl
theorem fX9_warm (N d : Nat) {X : lt_X} (x1 : Int32) (I : Nat → Nat → Int32) (J : Nat → Nat → Int64) : am_G am_prog N (d + 1) 340 [.ref 135, .int x1] (mkh X I J) = am_run (am_G am_prog N d) eX9_warm uX9_warm N 0 [(0, .ref 135), (1, .int x1)] [] (mkh X I J) := by
  refine (am_G_at N d 340 mX9_warm _ _ rfl).trans ?_
  rfl
theorem gX9_warm (N d : Nat) {X : lt_X} (x1 : Int32) (I : Nat → Nat → Int32) (J : Nat → Nat → Int64) : am_G am_prog (N + 30) (d + 3) 340 [.ref 135, .int x1] (mkh X I J) = RX9_warm_0 N d (N + 30) X x1 I J := fX9_warm (N + 30) (d + 2) x1 I J
def RX9_draw_0 (N d n : Nat) (X : lt_X) (x1 : Int32) (I : Nat → Nat → Int32) (J : Nat → Nat → Int64) : am_O := am_run (am_G am_prog (N + 30) (d + 0)) eX9_draw uX9_draw n 0 [(0, .ref 135), (1, .int x1)] [] (mkh X I J)
set_option maxHeartbeats 4000000 in
set_option maxRecDepth 100000 in
theorem sX9_draw_0 (N d n : Nat) {X : lt_X} (x1 : Int32) (I : Nat → Nat → Int32) (J : Nat → Nat → Int64) : RX9_draw_0 N d (n + 1) X x1 I J = am_nz x1 (some (.int ((((((I 135 35) * (nI 2971)) + (nI 10847)) - (((I 135 35) * (nI 2971)) + (nI 10847)) / (nI 65536) * (nI 65536)) / (nI 8)) - (((((I 135 35) * (nI 2971)) + (nI 10847)) - (((I 135 35) * (nI 2971)) + (nI 10847)) / (nI 65536) * (nI 65536)) / (nI 8)) / x1 * x1), (mkh X (u2 I 135 35 ((((I 135 35) * (nI 2971)) + (nI 10847)) - (((I 135 35) * (nI 2971)) + (nI 10847)) / (nI 65536) * (nI 65536))) J))) := by
  rfl
theorem fX9_draw (N d : Nat) {X : lt_X} (x1 : Int32) (I : Nat → Nat → Int32) (J : Nat → Nat → Int64) : am_G am_prog N (d + 1) 341 [.ref 135, .int x1] (mkh X I J) = am_run (am_G am_prog N d) eX9_draw uX9_draw N 0 [(0, .ref 135), (1, .int x1)] [] (mkh X I J) := by
  refine (am_G_at N d 341 mX9_draw _ _ rfl).trans ?_
  rfl
theorem gX9_draw (N d : Nat) {X : lt_X} (x1 : Int32) (I : Nat → Nat → Int32) (J : Nat → Nat → Int64) : am_G am_prog (N + 30) (d + 1) 341 [.ref 135, .int x1] (mkh X I J) = RX9_draw_0 N d (N + 30) X x1 I J := fX9_draw (N + 30) (d + 0) x1 I J
def RX9_anyHours_0 (N d n : Nat) (X : lt_X) (x1 : Int32) (I : Nat → Nat → Int32) (J : Nat → Nat → Int64) : am_O := am_run (am_G am_prog (N + 30) (d + 0)) eX9_anyHours uX9_anyHours n 0 [(0, .ref 135), (1, .int x1)] [] (mkh X I J)
def RX9_anyHours_18 (N d n : Nat) (X : lt_X) (x1 : Int32) (x2 : Int32) (I : Nat → Nat → Int32) (J : Nat → Nat → Int64) : am_O := am_run (am_G am_prog (N + 30) (d + 0)) eX9_anyHours uX9_anyHours n 18 [(0, .ref 135), (1, .int x1), (2, .int x2)] [] (mkh X I J)
def KX9_anyHours_0 (N d n : Nat) (a0 : Int32) (a1 : Int32) (a2 : Int32) (z : Int32) (h : am_H) : am_O := am_pI h 9 135 39 (a2 + z) (fun h1 => am_run (am_G am_prog (N + 30) (d + 0)) eX9_anyHours uX9_anyHours n 18 [(0, .ref 135), (1, .int a0), (2, .int (a1 + (nI 1)))] [] h1)
set_option maxHeartbeats 4000000 in
set_option maxRecDepth 100000 in
theorem sX9_anyHours_0 (N d n : Nat) {X : lt_X} (x1 : Int32) (I : Nat → Nat → Int32) (J : Nat → Nat → Int64) : RX9_anyHours_0 N d (n + 1) X x1 I J = if (nI 9999) < ((I 140 5) + x1) then some (.int (nI 0), (mkh X I J)) else RX9_anyHours_18 N d n X x1 (nI 0) I J := by
  rfl
set_option maxHeartbeats 4000000 in
set_option maxRecDepth 100000 in
theorem sX9_anyHours_18 (N d n : Nat) {X : lt_X} (x1 : Int32) (x2 : Int32) (I : Nat → Nat → Int32) (J : Nat → Nat → Int64) : RX9_anyHours_18 N d (n + 1) X x1 x2 I J = if x2 < x1 then am_cI (am_G am_prog (N + 30) (d + 0) 277 [.ref 135] (mkh X I J)) (KX9_anyHours_0 N d n x1 x2 (I 135 39)) else some (.int (nI 1), (mkh X (u2 I 135 38 ((I 135 38) + x1)) J)) := by
  rfl
set_option maxHeartbeats 4000000 in
set_option maxRecDepth 100000 in
theorem kX9_anyHours_0 (N d n : Nat) {X : lt_X} (a0 : Int32) (a1 : Int32) (a2 : Int32) (z : Int32) (I : Nat → Nat → Int32) (J : Nat → Nat → Int64) : KX9_anyHours_0 N d n a0 a1 a2 z (mkh X I J) = RX9_anyHours_18 N d n X a0 (a1 + (nI 1)) (u2 I 135 39 (a2 + z)) J := by
  rfl
theorem fX9_anyHours (N d : Nat) {X : lt_X} (x1 : Int32) (I : Nat → Nat → Int32) (J : Nat → Nat → Int64) : am_G am_prog N (d + 1) 342 [.ref 135, .int x1] (mkh X I J) = am_run (am_G am_prog N d) eX9_anyHours uX9_anyHours N 0 [(0, .ref 135), (1, .int x1)] [] (mkh X I J) := by
  refine (am_G_at N d 342 mX9_anyHours _ _ rfl).trans ?_
  rfl
theorem gX9_anyHours (N d : Nat) {X : lt_X} (x1 : Int32) (I : Nat → Nat → Int32) (J : Nat → Nat → Int64) : am_G am_prog (N + 30) (d + 1) 342 [.ref 135, .int x1] (mkh X I J) = RX9_anyHours_0 N d (N + 30) X x1 I J := fX9_anyHours (N + 30) (d + 0) x1 I J
def RX9_anyYears_0 (N d n : Nat) (X : lt_X) (x1 : Int32) (I : Nat → Nat → Int32) (J : Nat → Nat → Int64) : am_O := am_run (am_G am_prog (N + 30) (d + 0)) eX9_anyYears uX9_anyYears n 0 [(0, .ref 135), (1, .int x1)] [] (mkh X I J)
def RX9_anyYears_19 (N d n : Nat) (X : lt_X) (x1 : Int32) (x2 : Int32) (I : Nat → Nat → Int32) (J : Nat → Nat → Int64) : am_O := am_run (am_G am_prog (N + 30) (d + 0)) eX9_anyYears uX9_anyYears n 19 [(0, .ref 135), (1, .int x1), (2, .int x2)] [] (mkh X I J)
def KX9_anyYears_0 (N d n : Nat) (a0 : Int32) (a1 : Int32) (a2 : Int32) (z : Int32) (h : am_H) : am_O := am_cI (am_G am_prog (N + 30) (d + 0) 202 [.int z] h) (fun r2 h1 => am_pI h1 9 135 40 (a2 + r2) (fun h3 => am_run (am_G am_prog (N + 30) (d + 0)) eX9_anyYears uX9_anyYears n 19 [(0, .ref 135), (1, .int a0), (2, .int (a1 + (nI 1)))] [] h3))
def KX9_anyYears_1 (N d n : Nat) (a0 : Int32) (a1 : Int32) (a2 : Int32) (z : Int32) (h : am_H) : am_O := am_pI h 9 135 40 (a2 + z) (fun h1 => am_run (am_G am_prog (N + 30) (d + 0)) eX9_anyYears uX9_anyYears n 19 [(0, .ref 135), (1, .int a0), (2, .int (a1 + (nI 1)))] [] h1)
set_option maxHeartbeats 4000000 in
set_option maxRecDepth 100000 in
theorem sX9_anyYears_0 (N d n : Nat) {X : lt_X} (x1 : Int32) (I : Nat → Nat → Int32) (J : Nat → Nat → Int64) : RX9_anyYears_0 N d (n + 1) X x1 I J = if (nI 999) < ((I 140 6) + x1) then some (.int (nI 0), (mkh X I J)) else RX9_anyYears_19 N d n X x1 (nI 0) I J := by
  rfl
set_option maxHeartbeats 4000000 in
set_option maxRecDepth 100000 in
theorem sX9_anyYears_19 (N d n : Nat) {X : lt_X} (x1 : Int32) (x2 : Int32) (I : Nat → Nat → Int32) (J : Nat → Nat → Int64) : RX9_anyYears_19 N d (n + 1) X x1 x2 I J = if x2 < x1 then am_cI (am_G am_prog (N + 30) (d + 0) 279 [.ref 135] (mkh X I J)) (KX9_anyYears_0 N d n x1 x2 (I 135 40)) else some (.int (nI 1), (mkh X I J)) := by
  rfl
set_option maxHeartbeats 4000000 in
set_option maxRecDepth 100000 in
theorem kX9_anyYears_0 (N d n : Nat) {X : lt_X} (a0 : Int32) (a1 : Int32) (a2 : Int32) (z : Int32) (I : Nat → Nat → Int32) (J : Nat → Nat → Int64) : KX9_anyYears_0 N d n a0 a1 a2 z (mkh X I J) = am_cI (am_G am_prog (N + 30) (d + 0) 202 [.int z] (mkh X I J)) (KX9_anyYears_1 N d n a0 a1 a2) := by
  rfl
set_option maxHeartbeats 4000000 in
set_option maxRecDepth 100000 in
theorem kX9_anyYears_1 (N d n : Nat) {X : lt_X} (a0 : Int32) (a1 : Int32) (a2 : Int32) (z : Int32) (I : Nat → Nat → Int32) (J : Nat → Nat → Int64) : KX9_anyYears_1 N d n a0 a1 a2 z (mkh X I J) = RX9_anyYears_19 N d n X a0 (a1 + (nI 1)) (u2 I 135 40 (a2 + z)) J := by
  rfl
theorem fX9_anyYears (N d : Nat) {X : lt_X} (x1 : Int32) (I : Nat → Nat → Int32) (J : Nat → Nat → Int64) : am_G am_prog N (d + 1) 343 [.ref 135, .int x1] (mkh X I J) = am_run (am_G am_prog N d) eX9_anyYears uX9_anyYears N 0 [(0, .ref 135), (1, .int x1)] [] (mkh X I J) := by
  refine (am_G_at N d 343 mX9_anyYears _ _ rfl).trans ?_
  rfl
theorem gX9_anyYears (N d : Nat) {X : lt_X} (x1 : Int32) (I : Nat → Nat → Int32) (J : Nat → Nat → Int64) : am_G am_prog (N + 30) (d + 1) 343 [.ref 135, .int x1] (mkh X I J) = RX9_anyYears_0 N d (N + 30) X x1 I J := fX9_anyYears (N + 30) (d + 0) x1 I J
def RX9_isAny_0 (N d n : Nat) (X : lt_X) (I : Nat → Nat → Int32) (J : Nat → Nat → Int64) : am_O := am_run (am_G am_prog (N + 30) (d + 0)) eX9_isAny uX9_isAny n 0 [(0, .ref 135)] [] (mkh X I J)
def RX9_isAny_42 (N d n : Nat) (X : lt_X) (x1 : Int32) (s0 : Int32) (I : Nat → Nat → Int32) (J : Nat → Nat → Int64) : am_O := am_run (am_G am_prog (N + 30) (d + 0)) eX9_isAny uX9_isAny n 42 [(0, .ref 135), (1, .int x1)] [.int s0] (mkh X I J)
def KX9_isAny_0 (N d n : Nat) (z : Int32) (h : am_H) : am_O := am_cI (am_G am_prog (N + 30) (d + 0) 341 [.ref 135, .int (nI 16)] h) (fun r2 h1 => am_gR h1 9 135 20 (fun y3 => am_lI h1 10 y3 (nI 4) (fun y4 => if r2 < y4 then am_run (am_G am_prog (N + 30) (d + 0)) eX9_isAny uX9_isAny n 42 [(0, .ref 135), (1, .int z)] [.int (nI 1)] h1 else am_run (am_G am_prog (N + 30) (d + 0)) eX9_isAny uX9_isAny n 42 [(0, .ref 135), (1, .int z)] [.int (nI 0)] h1)))
def KX9_isAny_1 (N d n : Nat) (a0 : Int32) (z : Int32) (h : am_H) : am_O := am_gR h 9 135 20 (fun y1 => am_lI h 10 y1 (nI 4) (fun y2 => if z < y2 then am_run (am_G am_prog (N + 30) (d + 0)) eX9_isAny uX9_isAny n 42 [(0, .ref 135), (1, .int a0)] [.int (nI 1)] h else am_run (am_G am_prog (N + 30) (d + 0)) eX9_isAny uX9_isAny n 42 [(0, .ref 135), (1, .int a0)] [.int (nI 0)] h))
set_option maxHeartbeats 4000000 in
set_option maxRecDepth 100000 in
theorem sX9_isAny_0 (N d n : Nat) {X : lt_X} (I : Nat → Nat → Int32) (J : Nat → Nat → Int64) : RX9_isAny_0 N d (n + 1) X I J = if (I 140 1) = nI 0 then some (.int (nI 0), (mkh X I J)) else am_cI (am_G am_prog (N + 30) (d + 0) 341 [.ref 135, .int (I 140 1)] (mkh X I J)) (KX9_isAny_0 N d n ) := by
  rfl
set_option maxHeartbeats 4000000 in
set_option maxRecDepth 100000 in
theorem sX9_isAny_42 (N d n : Nat) {X : lt_X} (x1 : Int32) (s0 : Int32) (I : Nat → Nat → Int32) (J : Nat → Nat → Int64) : RX9_isAny_42 N d (n + 1) X x1 s0 I J = if am_in ((nI 25) + x1) 2145 then if (I 140 (((nI 25) + x1).toNatClampNeg)) = nI 0 then some (.int (nI 0), (mkh X I J)) else if s0 = nI 0 then if am_in ((nI 31) + x1) 2145 then some (.int (nI 1), (mkh X (u2 I 140 (((nI 31) + x1).toNatClampNeg) (nI 0)) J)) else none else if am_in ((nI 31) + x1) 2145 then some (.int (nI 1), (mkh X (u2 I 140 (((nI 31) + x1).toNatClampNeg) (nI 1)) J)) else none else none := by
  rfl
set_option maxHeartbeats 4000000 in
set_option maxRecDepth 100000 in
theorem kX9_isAny_0 (N d n : Nat) {X : lt_X} (z : Int32) (I : Nat → Nat → Int32) (J : Nat → Nat → Int64) : KX9_isAny_0 N d n z (mkh X I J) = am_cI (am_G am_prog (N + 30) (d + 0) 341 [.ref 135, .int (nI 16)] (mkh X I J)) (KX9_isAny_1 N d n z) := by
  rfl
set_option maxHeartbeats 4000000 in
set_option maxRecDepth 100000 in
theorem kX9_isAny_1 (N d n : Nat) {X : lt_X} (a0 : Int32) (z : Int32) (I : Nat → Nat → Int32) (J : Nat → Nat → Int64) : KX9_isAny_1 N d n a0 z (mkh X I J) = if z < (I 140 4) then RX9_isAny_42 N d n X a0 (nI 1) I J else RX9_isAny_42 N d n X a0 (nI 0) I J := by
  rfl
theorem fX9_isAny (N d : Nat) {X : lt_X} (I : Nat → Nat → Int32) (J : Nat → Nat → Int64) : am_G am_prog N (d + 1) 344 [.ref 135] (mkh X I J) = am_run (am_G am_prog N d) eX9_isAny uX9_isAny N 0 [(0, .ref 135)] [] (mkh X I J) := by
  refine (am_G_at N d 344 mX9_isAny _ _ rfl).trans ?_
  rfl
theorem gX9_isAny (N d : Nat) {X : lt_X} (I : Nat → Nat → Int32) (J : Nat → Nat → Int64) : am_G am_prog (N + 30) (d + 1) 344 [.ref 135] (mkh X I J) = RX9_isAny_0 N d (N + 30) X I J := fX9_isAny (N + 30) (d + 0) I J
def RX9_does_0 (N d n : Nat) (X : lt_X) (x1 : Int32) (I : Nat → Nat → Int32) (J : Nat → Nat → Int64) : am_O := am_run (am_G am_prog (N + 30) (d + 0)) eX9_does uX9_does n 0 [(0, .ref 135), (1, .int x1)] [] (mkh X I J)
def KX9_does_0 (N d n : Nat) (z : Int32) (h : am_H) : am_O := am_nb z (some (.int z, h))
def KX9_does_1 (N d n : Nat) (z : Int32) (h : am_H) : am_O := am_nb z (some (.int z, h))
def KX9_does_2 (N d n : Nat) (z : Int32) (h : am_H) : am_O := am_nb z (some (.int z, h))
def KX9_does_3 (N d n : Nat) (z : Int32) (h : am_H) : am_O := am_nb z (some (.int z, h))
def KX9_does_4 (N d n : Nat) (z : Int32) (h : am_H) : am_O := am_nb z (some (.int z, h))
def KX9_does_5 (N d n : Nat) (z : Int32) (h : am_H) : am_O := am_nb z (some (.int z, h))
set_option maxHeartbeats 4000000 in
set_option maxRecDepth 100000 in
theorem sX9_does_0 (N d n : Nat) {X : lt_X} (x1 : Int32) (I : Nat → Nat → Int32) (J : Nat → Nat → Int64) : RX9_does_0 N d (n + 1) X x1 I J = if am_in x1 2145 then if (I 140 x1.toNatClampNeg) = nI 0 then if am_in (x1 + (nI 1)) 2145 then am_cI (am_G am_prog (N + 30) (d + 0) 342 [.ref 135, .int (I 140 ((x1 + (nI 1)).toNatClampNeg))] (mkh X I J)) (KX9_does_0 N d n ) else none else if (I 140 x1.toNatClampNeg) = (nI 1) then if am_in (x1 + (nI 1)) 2145 then am_cI (am_G am_prog (N + 30) (d + 0) 343 [.ref 135, .int (I 140 ((x1 + (nI 1)).toNatClampNeg))] (mkh X I J)) (KX9_does_1 N d n ) else none else if (I 140 x1.toNatClampNeg) = (nI 2) then if am_in (x1 + (nI 1)) 2145 then if am_in (x1 + (nI 2)) 2145 then if am_in (x1 + (nI 3)) 2145 then am_cI (am_G am_prog (N + 30) (d + 0) 281 [.ref 135, .int (I 140 ((x1 + (nI 1)).toNatClampNeg)), .int (I 140 ((x1 + (nI 2)).toNatClampNeg)), .int (I 140 ((x1 + (nI 3)).toNatClampNeg))] (mkh X I J)) (KX9_does_2 N d n ) else none else none else none else if (I 140 x1.toNatClampNeg) = (nI 3) then if am_in (x1 + (nI 1)) 2145 then if am_in (x1 + (nI 2)) 2145 then am_cI (am_G am_prog (N + 30) (d + 0) 283 [.ref 135, .int ((nI 67) + (I 140 ((x1 + (nI 1)).toNatClampNeg))), .int (I 140 ((x1 + (nI 2)).toNatClampNeg))] (mkh X I J)) (KX9_does_3 N d n ) else none else none else if (I 140 x1.toNatClampNeg) = (nI 6) then am_cI (am_G am_prog (N + 30) (d + 0) 344 [.ref 135] (mkh X I J)) (KX9_does_4 N d n ) else if am_in (x1 + (nI 1)) 2145 then if (I 140 x1.toNatClampNeg) = (nI 4) then am_cI (am_G am_prog (N + 30) (d + 0) 286 [.ref 135, .int (I 140 ((x1 + (nI 1)).toNatClampNeg)), .int (nI 1)] (mkh X I J)) (KX9_does_5 N d n ) else am_cI (am_G am_prog (N + 30) (d + 0) 286 [.ref 135, .int (I 140 ((x1 + (nI 1)).toNatClampNeg)), .int (nI 0)] (mkh X I J)) (KX9_does_5 N d n ) else none else none := by
  rfl
set_option maxHeartbeats 4000000 in
set_option maxRecDepth 100000 in
theorem kX9_does_0 (N d n : Nat) {X : lt_X} (z : Int32) (I : Nat → Nat → Int32) (J : Nat → Nat → Int64) : KX9_does_0 N d n z (mkh X I J) = am_nb z (some (.int z, (mkh X I J))) := by
  rfl
set_option maxHeartbeats 4000000 in
set_option maxRecDepth 100000 in
theorem kX9_does_1 (N d n : Nat) {X : lt_X} (z : Int32) (I : Nat → Nat → Int32) (J : Nat → Nat → Int64) : KX9_does_1 N d n z (mkh X I J) = am_nb z (some (.int z, (mkh X I J))) := by
  rfl
set_option maxHeartbeats 4000000 in
set_option maxRecDepth 100000 in
theorem kX9_does_2 (N d n : Nat) {X : lt_X} (z : Int32) (I : Nat → Nat → Int32) (J : Nat → Nat → Int64) : KX9_does_2 N d n z (mkh X I J) = am_nb z (some (.int z, (mkh X I J))) := by
  rfl
set_option maxHeartbeats 4000000 in
set_option maxRecDepth 100000 in
theorem kX9_does_3 (N d n : Nat) {X : lt_X} (z : Int32) (I : Nat → Nat → Int32) (J : Nat → Nat → Int64) : KX9_does_3 N d n z (mkh X I J) = am_nb z (some (.int z, (mkh X I J))) := by
  rfl
set_option maxHeartbeats 4000000 in
set_option maxRecDepth 100000 in
theorem kX9_does_4 (N d n : Nat) {X : lt_X} (z : Int32) (I : Nat → Nat → Int32) (J : Nat → Nat → Int64) : KX9_does_4 N d n z (mkh X I J) = am_nb z (some (.int z, (mkh X I J))) := by
  rfl
set_option maxHeartbeats 4000000 in
set_option maxRecDepth 100000 in
theorem kX9_does_5 (N d n : Nat) {X : lt_X} (z : Int32) (I : Nat → Nat → Int32) (J : Nat → Nat → Int64) : KX9_does_5 N d n z (mkh X I J) = am_nb z (some (.int z, (mkh X I J))) := by
  rfl
theorem fX9_does (N d : Nat) {X : lt_X} (x1 : Int32) (I : Nat → Nat → Int32) (J : Nat → Nat → Int64) : am_G am_prog N (d + 1) 345 [.ref 135, .int x1] (mkh X I J) = am_run (am_G am_prog N d) eX9_does uX9_does N 0 [(0, .ref 135), (1, .int x1)] [] (mkh X I J) := by
  refine (am_G_at N d 345 mX9_does _ _ rfl).trans ?_
  rfl
theorem gX9_does (N d : Nat) {X : lt_X} (x1 : Int32) (I : Nat → Nat → Int32) (J : Nat → Nat → Int64) : am_G am_prog (N + 30) (d + 1) 345 [.ref 135, .int x1] (mkh X I J) = RX9_does_0 N d (N + 30) X x1 I J := fX9_does (N + 30) (d + 0) x1 I J
def RX9_isSo_0 (N d n : Nat) (X : lt_X) (x1 : Int32) (I : Nat → Nat → Int32) (J : Nat → Nat → Int64) : am_O := am_run (am_G am_prog (N + 30) (d + 0)) eX9_isSo uX9_isSo n 0 [(0, .ref 135), (1, .int x1)] [] (mkh X I J)
set_option maxHeartbeats 4000000 in
set_option maxRecDepth 100000 in
theorem sX9_isSo_0 (N d n : Nat) {X : lt_X} (x1 : Int32) (I : Nat → Nat → Int32) (J : Nat → Nat → Int64) : RX9_isSo_0 N d (n + 1) X x1 I J = if am_in (x1 + (nI 6)) 2145 then if am_in (x1 + (nI 1)) 2145 then if (I 140 ((x1 + (nI 6)).toNatClampNeg)) = (nI 1) then if am_in ((nI 25) + (I 140 ((x1 + (nI 1)).toNatClampNeg))) 2145 then if (I 140 (((nI 25) + (I 140 ((x1 + (nI 1)).toNatClampNeg))).toNatClampNeg)) = (nI 1) then some (.int (nI 1), (mkh X I J)) else some (.int (nI 0), (mkh X I J)) else none else if (I 140 ((x1 + (nI 6)).toNatClampNeg)) = (nI 2) then if am_in (x1 + (nI 2)) 2145 then if am_in ((nI 67) + (I 140 ((x1 + (nI 2)).toNatClampNeg))) 2145 then if (I 140 (((nI 67) + (I 140 ((x1 + (nI 2)).toNatClampNeg))).toNatClampNeg)) = (I 140 ((x1 + (nI 1)).toNatClampNeg)) then some (.int (nI 1), (mkh X I J)) else some (.int (nI 0), (mkh X I J)) else none else none else if am_in ((nI 43) + (I 140 ((x1 + (nI 1)).toNatClampNeg))) 2145 then if am_in (x1 + (nI 7)) 2145 then if (I 140 ((x1 + (nI 7)).toNatClampNeg)) = (nI 60) then if am_in (x1 + (nI 2)) 2145 then if (I 140 (((nI 43) + (I 140 ((x1 + (nI 1)).toNatClampNeg))).toNatClampNeg)) < (I 140 ((x1 + (nI 2)).toNatClampNeg)) then some (.int (nI 1), (mkh X I J)) else some (.int (nI 0), (mkh X I J)) else none else if am_in (x1 + (nI 7)) 2145 then if (I 140 ((x1 + (nI 7)).toNatClampNeg)) = (nI 62) then if am_in (x1 + (nI 2)) 2145 then if (I 140 ((x1 + (nI 2)).toNatClampNeg)) < (I 140 (((nI 43) + (I 140 ((x1 + (nI 1)).toNatClampNeg))).toNatClampNeg)) then some (.int (nI 1), (mkh X I J)) else some (.int (nI 0), (mkh X I J)) else none else if am_in (x1 + (nI 2)) 2145 then if (I 140 (((nI 43) + (I 140 ((x1 + (nI 1)).toNatClampNeg))).toNatClampNeg)) = (I 140 ((x1 + (nI 2)).toNatClampNeg)) then some (.int (nI 1), (mkh X I J)) else some (.int (nI 0), (mkh X I J)) else none else none else none else none else none else none := by
  rfl
theorem fX9_isSo (N d : Nat) {X : lt_X} (x1 : Int32) (I : Nat → Nat → Int32) (J : Nat → Nat → Int64) : am_G am_prog N (d + 1) 346 [.ref 135, .int x1] (mkh X I J) = am_run (am_G am_prog N d) eX9_isSo uX9_isSo N 0 [(0, .ref 135), (1, .int x1)] [] (mkh X I J) := by
  refine (am_G_at N d 346 mX9_isSo _ _ rfl).trans ?_
  rfl
theorem gX9_isSo (N d : Nat) {X : lt_X} (x1 : Int32) (I : Nat → Nat → Int32) (J : Nat → Nat → Int64) : am_G am_prog (N + 30) (d + 1) 346 [.ref 135, .int x1] (mkh X I J) = RX9_isSo_0 N d (N + 30) X x1 I J := fX9_isSo (N + 30) (d + 0) x1 I J
def RX9_doOne_0 (N d n : Nat) (X : lt_X) (x1 : Int32) (I : Nat → Nat → Int32) (J : Nat → Nat → Int64) : am_O := am_run (am_G am_prog (N + 30) (d + 0)) eX9_doOne uX9_doOne n 0 [(0, .ref 135), (1, .int x1)] [] (mkh X I J)
def RX9_doOne_111 (N d n : Nat) (X : lt_X) (x1 : Int32) (x2 : Int32) (x3 : Int32) (I : Nat → Nat → Int32) (J : Nat → Nat → Int64) : am_O := am_run (am_G am_prog (N + 30) (d + 0)) eX9_doOne uX9_doOne n 111 [(0, .ref 135), (1, .int x1), (2, .int x2), (3, .int x3)] [] (mkh X I J)
def RX9_doOne_120 (N d n : Nat) (X : lt_X) (x1 : Int32) (x2 : Int32) (x4 : Int32) (I : Nat → Nat → Int32) (J : Nat → Nat → Int64) : am_O := am_run (am_G am_prog (N + 30) (d + 0)) eX9_doOne uX9_doOne n 120 [(0, .ref 135), (1, .int x1), (2, .int x2), (4, .int x4)] [] (mkh X I J)
def KX9_doOne_0 (N d n : Nat) (a0 : Int32) (z : Int32) (h : am_H) : am_O := if z = nI 0 then am_pI h 9 135 37 (a0 + (nI 1)) (fun h1 => some (.null, h1)) else am_pI h 9 135 37 (a0 + (nI 0)) (fun h2 => some (.null, h2))
def KX9_doOne_1 (N d n : Nat) (a0 : Int32) (a1 : Int32) (a2 : Int32) (z : Int32) (h : am_H) : am_O := if z = nI 0 then am_run (am_G am_prog (N + 30) (d + 0)) eX9_doOne uX9_doOne n 111 [(0, .ref 135), (1, .int a2), (2, .int a1), (3, .int a0)] [] h else am_gR h 9 135 20 (fun y1 => am_lI h 10 y1 (a1 + (nI 8)) (fun y2 => am_cV (am_G am_prog (N + 30) (d + 0) 348 [.ref 135, .int (a2 + (nI 1)), .int y2] h) (fun h3 => some (.null, h3))))
def KX9_doOne_2 (N d n : Nat) (a0 : Int32) (a1 : Int32) (a2 : Int32) (h : am_H) : am_O := am_run (am_G am_prog (N + 30) (d + 0)) eX9_doOne uX9_doOne n 120 [(0, .ref 135), (1, .int a0), (2, .int a1), (4, .int (a2 + (nI 1)))] [] h
def KX9_doOne_3 (N d n : Nat) (h : am_H) : am_O := some (.null, h)
set_option maxHeartbeats 4000000 in
set_option maxRecDepth 100000 in
theorem sX9_doOne_0 (N d n : Nat) {X : lt_X} (x1 : Int32) (I : Nat → Nat → Int32) (J : Nat → Nat → Int64) : RX9_doOne_0 N d (n + 1) X x1 I J = if (I 135 36) = (nI 300) then some (.null, (mkh X (u2 (u2 I 135 34 (nI 1)) 135 41 (nI 1)) J)) else if am_in ((nI 159) + ((nI 9) * x1)) 2145 then if (I 140 (((nI 159) + ((nI 9) * x1)).toNatClampNeg)) < (nI 7) then am_cI (am_G am_prog (N + 30) (d + 0) 345 [.ref 135, .int ((nI 159) + ((nI 9) * x1))] (mkh X (u2 I 135 36 ((I 135 36) + (nI 1))) J)) (KX9_doOne_0 N d n (I 135 37)) else if (I 140 (((nI 159) + ((nI 9) * x1)).toNatClampNeg)) = (nI 7) then am_cI (am_G am_prog (N + 30) (d + 0) 346 [.ref 135, .int ((nI 159) + ((nI 9) * x1))] (mkh X (u2 I 135 36 ((I 135 36) + (nI 1))) J)) (KX9_doOne_1 N d n (I 140 (((nI 159) + ((nI 9) * x1)).toNatClampNeg)) ((nI 159) + ((nI 9) * x1)) x1) else RX9_doOne_111 N d n X x1 ((nI 159) + ((nI 9) * x1)) (I 140 (((nI 159) + ((nI 9) * x1)).toNatClampNeg)) (u2 I 135 36 ((I 135 36) + (nI 1))) J else none := by
  rfl
set_option maxHeartbeats 4000000 in
set_option maxRecDepth 100000 in
theorem sX9_doOne_111 (N d n : Nat) {X : lt_X} (x1 : Int32) (x2 : Int32) (x3 : Int32) (I : Nat → Nat → Int32) (J : Nat → Nat → Int64) : RX9_doOne_111 N d (n + 1) X x1 x2 x3 I J = if x3 = (nI 8) then RX9_doOne_120 N d n X x1 x2 (nI 0) I J else if (nI 8) < x3 then some (.null, (mkh X (u2 I 135 34 (nI 1)) J)) else some (.null, (mkh X I J)) := by
  rfl
set_option maxHeartbeats 4000000 in
set_option maxRecDepth 100000 in
theorem sX9_doOne_120 (N d n : Nat) {X : lt_X} (x1 : Int32) (x2 : Int32) (x4 : Int32) (I : Nat → Nat → Int32) (J : Nat → Nat → Int64) : RX9_doOne_120 N d (n + 1) X x1 x2 x4 I J = if am_in (x2 + (nI 1)) 2145 then if x4 < (I 140 ((x2 + (nI 1)).toNatClampNeg)) then if (I 135 34) = nI 0 then if am_in (x2 + (nI 8)) 2145 then am_cV (am_G am_prog (N + 30) (d + 0) 348 [.ref 135, .int (x1 + (nI 1)), .int (I 140 ((x2 + (nI 8)).toNatClampNeg))] (mkh X I J)) (KX9_doOne_2 N d n x1 x2 x4) else none else some (.null, (mkh X I J)) else some (.null, (mkh X I J)) else none := by
  rfl
set_option maxHeartbeats 4000000 in
set_option maxRecDepth 100000 in
theorem kX9_doOne_0 (N d n : Nat) {X : lt_X} (a0 : Int32) (z : Int32) (I : Nat → Nat → Int32) (J : Nat → Nat → Int64) : KX9_doOne_0 N d n a0 z (mkh X I J) = if z = nI 0 then some (.null, (mkh X (u2 I 135 37 (a0 + (nI 1))) J)) else some (.null, (mkh X (u2 I 135 37 (a0 + (nI 0))) J)) := by
  rfl
set_option maxHeartbeats 4000000 in
set_option maxRecDepth 100000 in
theorem kX9_doOne_1 (N d n : Nat) {X : lt_X} (a0 : Int32) (a1 : Int32) (a2 : Int32) (z : Int32) (I : Nat → Nat → Int32) (J : Nat → Nat → Int64) : KX9_doOne_1 N d n a0 a1 a2 z (mkh X I J) = if z = nI 0 then RX9_doOne_111 N d n X a2 a1 a0 I J else if am_in (a1 + (nI 8)) 2145 then am_cV (am_G am_prog (N + 30) (d + 0) 348 [.ref 135, .int (a2 + (nI 1)), .int (I 140 ((a1 + (nI 8)).toNatClampNeg))] (mkh X I J)) (KX9_doOne_3 N d n ) else none := by
  rfl
set_option maxHeartbeats 4000000 in
set_option maxRecDepth 100000 in
theorem kX9_doOne_2 (N d n : Nat) {X : lt_X} (a0 : Int32) (a1 : Int32) (a2 : Int32) (I : Nat → Nat → Int32) (J : Nat → Nat → Int64) : KX9_doOne_2 N d n a0 a1 a2 (mkh X I J) = RX9_doOne_120 N d n X a0 a1 (a2 + (nI 1)) I J := by
  rfl
set_option maxHeartbeats 4000000 in
set_option maxRecDepth 100000 in
theorem kX9_doOne_3 (N d n : Nat) {X : lt_X} (I : Nat → Nat → Int32) (J : Nat → Nat → Int64) : KX9_doOne_3 N d n (mkh X I J) = some (.null, (mkh X I J)) := by
  rfl
theorem fX9_doOne (N d : Nat) {X : lt_X} (x1 : Int32) (I : Nat → Nat → Int32) (J : Nat → Nat → Int64) : am_G am_prog N (d + 1) 347 [.ref 135, .int x1] (mkh X I J) = am_run (am_G am_prog N d) eX9_doOne uX9_doOne N 0 [(0, .ref 135), (1, .int x1)] [] (mkh X I J) := by
  refine (am_G_at N d 347 mX9_doOne _ _ rfl).trans ?_
  rfl
theorem gX9_doOne (N d : Nat) {X : lt_X} (x1 : Int32) (I : Nat → Nat → Int32) (J : Nat → Nat → Int64) : am_G am_prog (N + 30) (d + 1) 347 [.ref 135, .int x1] (mkh X I J) = RX9_doOne_0 N d (N + 30) X x1 I J := fX9_doOne (N + 30) (d + 0) x1 I J
def RX9_doAll_0 (N d n : Nat) (X : lt_X) (x1 : Int32) (x2 : Int32) (I : Nat → Nat → Int32) (J : Nat → Nat → Int64) : am_O := am_run (am_G am_prog (N + 30) (d + 0)) eX9_doAll uX9_doAll n 0 [(0, .ref 135), (1, .int x1), (2, .int x2)] [] (mkh X I J)
def RX9_doAll_2 (N d n : Nat) (X : lt_X) (x2 : Int32) (x3 : Int32) (I : Nat → Nat → Int32) (J : Nat → Nat → Int64) : am_O := am_run (am_G am_prog (N + 30) (d + 0)) eX9_doAll uX9_doAll n 2 [(0, .ref 135), (2, .int x2), (3, .int x3)] [] (mkh X I J)
def KX9_doAll_0 (N d n : Nat) (a0 : Int32) (a1 : Int32) (h : am_H) : am_O := am_gR h 9 135 20 (fun y1 => am_lI h 10 y1 (((nI 159) + ((nI 9) * a1)) + (nI 8)) (fun y2 => am_run (am_G am_prog (N + 30) (d + 0)) eX9_doAll uX9_doAll n 2 [(0, .ref 135), (2, .int a0), (3, .int y2)] [] h))
set_option maxHeartbeats 4000000 in
set_option maxRecDepth 100000 in
theorem sX9_doAll_0 (N d n : Nat) {X : lt_X} (x1 : Int32) (x2 : Int32) (I : Nat → Nat → Int32) (J : Nat → Nat → Int64) : RX9_doAll_0 N d (n + 1) X x1 x2 I J = RX9_doAll_2 N d n X x2 x1 I J := by
  rfl
set_option maxHeartbeats 4000000 in
set_option maxRecDepth 100000 in
theorem sX9_doAll_2 (N d n : Nat) {X : lt_X} (x2 : Int32) (x3 : Int32) (I : Nat → Nat → Int32) (J : Nat → Nat → Int64) : RX9_doAll_2 N d (n + 1) X x2 x3 I J = if x3 < x2 then if (I 135 34) = nI 0 then am_cV (am_G am_prog (N + 30) (d + 0) 347 [.ref 135, .int x3] (mkh X I J)) (KX9_doAll_0 N d n x2 x3) else some (.null, (mkh X I J)) else some (.null, (mkh X I J)) := by
  rfl
set_option maxHeartbeats 4000000 in
set_option maxRecDepth 100000 in
theorem kX9_doAll_0 (N d n : Nat) {X : lt_X} (a0 : Int32) (a1 : Int32) (I : Nat → Nat → Int32) (J : Nat → Nat → Int64) : KX9_doAll_0 N d n a0 a1 (mkh X I J) = if am_in (((nI 159) + ((nI 9) * a1)) + (nI 8)) 2145 then RX9_doAll_2 N d n X a0 (I 140 ((((nI 159) + ((nI 9) * a1)) + (nI 8)).toNatClampNeg)) I J else none := by
  rfl
theorem fX9_doAll (N d : Nat) {X : lt_X} (x1 : Int32) (x2 : Int32) (I : Nat → Nat → Int32) (J : Nat → Nat → Int64) : am_G am_prog N (d + 1) 348 [.ref 135, .int x1, .int x2] (mkh X I J) = am_run (am_G am_prog N d) eX9_doAll uX9_doAll N 0 [(0, .ref 135), (1, .int x1), (2, .int x2)] [] (mkh X I J) := by
  refine (am_G_at N d 348 mX9_doAll _ _ rfl).trans ?_
  rfl
theorem gX9_doAll (N d : Nat) {X : lt_X} (x1 : Int32) (x2 : Int32) (I : Nat → Nat → Int32) (J : Nat → Nat → Int64) : am_G am_prog (N + 30) (d + 1) 348 [.ref 135, .int x1, .int x2] (mkh X I J) = RX9_doAll_0 N d (N + 30) X x1 x2 I J := fX9_doAll (N + 30) (d + 0) x1 x2 I J
def RX9_runsDials_0 (N d n : Nat) (X : lt_X) (x1 : Int32) (I : Nat → Nat → Int32) (J : Nat → Nat → Int64) : am_O := am_run (am_G am_prog (N + 30) (d + 0)) eX9_runsDials uX9_runsDials n 0 [(0, .ref 135), (1, .int x1)] [] (mkh X I J)
def KX9_runsDials_0 (N d n : Nat) (h : am_H) : am_O := some (.null, h)
set_option maxHeartbeats 4000000 in
set_option maxRecDepth 100000 in
theorem sX9_runsDials_0 (N d n : Nat) {X : lt_X} (x1 : Int32) (I : Nat → Nat → Int32) (J : Nat → Nat → Int64) : RX9_runsDials_0 N d (n + 1) X x1 I J = am_cV (am_G am_prog (N + 30) (d + 0) 348 [.ref 135, .int (nI 0), .int (I 140 158)] (mkh X (u2 (u2 (u2 (u2 (u2 (u2 (u2 (u2 I 135 35 x1) 135 36 (nI 0)) 135 37 (nI 0)) 135 38 (nI 0)) 135 39 (nI 0)) 135 40 (nI 0)) 135 41 (nI 0)) 135 34 (nI 0)) J)) (KX9_runsDials_0 N d n ) := by
  rfl
set_option maxHeartbeats 4000000 in
set_option maxRecDepth 100000 in
theorem kX9_runsDials_0 (N d n : Nat) {X : lt_X} (I : Nat → Nat → Int32) (J : Nat → Nat → Int64) : KX9_runsDials_0 N d n (mkh X I J) = some (.null, (mkh X I J)) := by
  rfl
theorem fX9_runsDials (N d : Nat) {X : lt_X} (x1 : Int32) (I : Nat → Nat → Int32) (J : Nat → Nat → Int64) : am_G am_prog N (d + 1) 349 [.ref 135, .int x1] (mkh X I J) = am_run (am_G am_prog N d) eX9_runsDials uX9_runsDials N 0 [(0, .ref 135), (1, .int x1)] [] (mkh X I J) := by
  refine (am_G_at N d 349 mX9_runsDials _ _ rfl).trans ?_
  rfl
theorem gX9_runsDials (N d : Nat) {X : lt_X} (x1 : Int32) (I : Nat → Nat → Int32) (J : Nat → Nat → Int64) : am_G am_prog (N + 30) (d + 1) 349 [.ref 135, .int x1] (mkh X I J) = RX9_runsDials_0 N d (N + 30) X x1 I J := fX9_runsDials (N + 30) (d + 0) x1 I J
def RX9_live_0 (N d n : Nat) (X : lt_X) (x1 : Int32) (I : Nat → Nat → Int32) (J : Nat → Nat → Int64) : am_O := am_run (am_G am_prog (N + 30) (d + 1)) eX9_live uX9_live n 0 [(0, .ref 135), (1, .int x1)] [] (mkh X I J)
def KX9_live_0 (N d n : Nat) (a0 : Int32) (z : Int32) (h : am_H) : am_O := if z = nI 0 then am_cI (am_G am_prog (N + 30) (d + 1) 188 [.ref 135, .int (nI 5)] h) (fun r2 h1 => some (.int r2, h1)) else am_gR h 9 135 20 (fun y3 => am_lI h 10 y3 (nI 157) (fun y4 => if y4 = nI 0 then am_cI (am_G am_prog (N + 30) (d + 1) 188 [.ref 135, .int (nI 8)] h) (fun r6 h5 => some (.int r6, h5)) else am_cV (am_G am_prog (N + 30) (d + 1) 349 [.ref 135, .int a0] h) (fun h7 => am_gR h7 9 135 32 (fun y8 => am_gI h7 9 135 37 (fun y9 => am_tI h7 y8 (nI 0) y9 (fun h10 => am_gR h10 9 135 32 (fun y11 => am_gI h10 9 135 38 (fun y12 => am_tI h10 y11 (nI 1) y12 (fun h13 => am_gR h13 9 135 32 (fun y14 => am_gI h13 9 135 39 (fun y15 => am_tI h13 y14 (nI 2) y15 (fun h16 => am_gR h16 9 135 32 (fun y17 => am_gI h16 9 135 40 (fun y18 => am_tI h16 y17 (nI 3) y18 (fun h19 => am_gR h19 9 135 32 (fun y20 => am_gI h19 9 135 41 (fun y21 => am_tI h19 y20 (nI 4) y21 (fun h22 => am_pZ h22 9 135 33 (nI 1) (fun h23 => am_gI h23 9 135 36 (fun y24 => some (.int y24, h23)))))))))))))))))))))
def KX9_live_1 (N d n : Nat) (h : am_H) : am_O := am_gR h 9 135 32 (fun y1 => am_gI h 9 135 37 (fun y2 => am_tI h y1 (nI 0) y2 (fun h3 => am_gR h3 9 135 32 (fun y4 => am_gI h3 9 135 38 (fun y5 => am_tI h3 y4 (nI 1) y5 (fun h6 => am_gR h6 9 135 32 (fun y7 => am_gI h6 9 135 39 (fun y8 => am_tI h6 y7 (nI 2) y8 (fun h9 => am_gR h9 9 135 32 (fun y10 => am_gI h9 9 135 40 (fun y11 => am_tI h9 y10 (nI 3) y11 (fun h12 => am_gR h12 9 135 32 (fun y13 => am_gI h12 9 135 41 (fun y14 => am_tI h12 y13 (nI 4) y14 (fun h15 => am_pZ h15 9 135 33 (nI 1) (fun h16 => am_gI h16 9 135 36 (fun y17 => some (.int y17, h16))))))))))))))))))
set_option maxHeartbeats 4000000 in
set_option maxRecDepth 100000 in
theorem sX9_live_0 (N d n : Nat) {X : lt_X} (x1 : Int32) (I : Nat → Nat → Int32) (J : Nat → Nat → Int64) : RX9_live_0 N d (n + 1) X x1 I J = am_cI (am_G am_prog (N + 30) (d + 1) 190 [.long x1.toInt64, .long (lN 0), .long (lN 9999)] (mkh X (u2 (u2 I 135 1 (nI 0)) 135 0 (nI 0)) J)) (KX9_live_0 N d n x1) := by
  rfl
set_option maxHeartbeats 4000000 in
set_option maxRecDepth 100000 in
theorem kX9_live_0 (N d n : Nat) {X : lt_X} (a0 : Int32) (z : Int32) (I : Nat → Nat → Int32) (J : Nat → Nat → Int64) : KX9_live_0 N d n a0 z (mkh X I J) = if z = nI 0 then some (.int (-1), (mkh X (u2 I 135 0 (nI 5)) J)) else if (I 140 157) = nI 0 then some (.int (-1), (mkh X (u2 I 135 0 (nI 8)) J)) else am_cV (am_G am_prog (N + 30) (d + 1) 349 [.ref 135, .int a0] (mkh X I J)) (KX9_live_1 N d n ) := by
  rfl
set_option maxHeartbeats 4000000 in
set_option maxRecDepth 100000 in
theorem kX9_live_1 (N d n : Nat) {X : lt_X} (I : Nat → Nat → Int32) (J : Nat → Nat → Int64) : KX9_live_1 N d n (mkh X I J) = some (.int (I 135 36), (mkh X (u2 (u2 (u2 (u2 (u2 (u2 I 146 0 (I 135 37)) 146 1 (I 135 38)) 146 2 (I 135 39)) 146 3 (I 135 40)) 146 4 (I 135 41)) 135 33 (nI 1)) J)) := by
  rfl
theorem fX9_live (N d : Nat) {X : lt_X} (x1 : Int32) (I : Nat → Nat → Int32) (J : Nat → Nat → Int64) : am_G am_prog N (d + 1) 350 [.ref 135, .int x1] (mkh X I J) = am_run (am_G am_prog N d) eX9_live uX9_live N 0 [(0, .ref 135), (1, .int x1)] [] (mkh X I J) := by
  refine (am_G_at N d 350 mX9_live _ _ rfl).trans ?_
  rfl
theorem gX9_live (N d : Nat) {X : lt_X} (x1 : Int32) (I : Nat → Nat → Int32) (J : Nat → Nat → Int64) : am_G am_prog (N + 30) (d + 2) 350 [.ref 135, .int x1] (mkh X I J) = RX9_live_0 N d (N + 30) X x1 I J := fX9_live (N + 30) (d + 1) x1 I J
def RX9_lived_0 (N d n : Nat) (X : lt_X) (x1 : Int32) (I : Nat → Nat → Int32) (J : Nat → Nat → Int64) : am_O := am_run (am_G am_prog (N + 30) (d + 1)) eX9_lived uX9_lived n 0 [(0, .ref 135), (1, .int x1)] [] (mkh X I J)
def KX9_lived_0 (N d n : Nat) (a0 : Int32) (z : Int32) (h : am_H) : am_O := if z = nI 0 then am_cI (am_G am_prog (N + 30) (d + 1) 188 [.ref 135, .int (nI 5)] h) (fun r2 h1 => some (.int r2, h1)) else am_gI h 9 135 33 (fun y3 => if y3 = nI 0 then am_cI (am_G am_prog (N + 30) (d + 1) 188 [.ref 135, .int (nI 8)] h) (fun r5 h4 => some (.int r5, h4)) else am_gR h 9 135 32 (fun y6 => am_lI h 10 y6 a0 (fun y7 => some (.int y7, h))))
set_option maxHeartbeats 4000000 in
set_option maxRecDepth 100000 in
theorem sX9_lived_0 (N d n : Nat) {X : lt_X} (x1 : Int32) (I : Nat → Nat → Int32) (J : Nat → Nat → Int64) : RX9_lived_0 N d (n + 1) X x1 I J = am_cI (am_G am_prog (N + 30) (d + 1) 190 [.long x1.toInt64, .long (lN 0), .long (lN 4)] (mkh X (u2 (u2 I 135 1 (nI 0)) 135 0 (nI 0)) J)) (KX9_lived_0 N d n x1) := by
  rfl
set_option maxHeartbeats 4000000 in
set_option maxRecDepth 100000 in
theorem kX9_lived_0 (N d n : Nat) {X : lt_X} (a0 : Int32) (z : Int32) (I : Nat → Nat → Int32) (J : Nat → Nat → Int64) : KX9_lived_0 N d n a0 z (mkh X I J) = if z = nI 0 then some (.int (-1), (mkh X (u2 I 135 0 (nI 5)) J)) else if (I 135 33) = nI 0 then some (.int (-1), (mkh X (u2 I 135 0 (nI 8)) J)) else if am_in a0 5 then some (.int (I 146 a0.toNatClampNeg), (mkh X I J)) else none := by
  rfl
theorem fX9_lived (N d : Nat) {X : lt_X} (x1 : Int32) (I : Nat → Nat → Int32) (J : Nat → Nat → Int64) : am_G am_prog N (d + 1) 351 [.ref 135, .int x1] (mkh X I J) = am_run (am_G am_prog N d) eX9_lived uX9_lived N 0 [(0, .ref 135), (1, .int x1)] [] (mkh X I J) := by
  refine (am_G_at N d 351 mX9_lived _ _ rfl).trans ?_
  rfl
theorem gX9_lived (N d : Nat) {X : lt_X} (x1 : Int32) (I : Nat → Nat → Int32) (J : Nat → Nat → Int64) : am_G am_prog (N + 30) (d + 2) 351 [.ref 135, .int x1] (mkh X I J) = RX9_lived_0 N d (N + 30) X x1 I J := fX9_lived (N + 30) (d + 1) x1 I J
def RX9_mean_0 (N d n : Nat) (X : lt_X) (x1 : Int32) (x2 : Int32) (I : Nat → Nat → Int32) (J : Nat → Nat → Int64) : am_O := am_run (am_G am_prog (N + 30) (d + 1)) eX9_mean uX9_mean n 0 [(0, .ref 135), (1, .int x1), (2, .int x2)] [] (mkh X I J)
def RX9_mean_63 (N d n : Nat) (X : lt_X) (x1 : Int32) (x2 : Int32) (x3 : Int32) (I : Nat → Nat → Int32) (J : Nat → Nat → Int64) : am_O := am_run (am_G am_prog (N + 30) (d + 1)) eX9_mean uX9_mean n 63 [(0, .ref 135), (1, .int x1), (2, .int x2), (3, .int x3)] [] (mkh X I J)
def RX9_mean_93 (N d n : Nat) (X : lt_X) (x1 : Int32) (x2 : Int32) (x3 : Int64) (x5 : Int32) (I : Nat → Nat → Int32) (J : Nat → Nat → Int64) : am_O := am_run (am_G am_prog (N + 30) (d + 1)) eX9_mean uX9_mean n 93 [(0, .ref 135), (1, .int x1), (2, .int x2), (3, .long x3), (5, .int x5)] [] (mkh X I J)
def RX9_mean_120 (N d n : Nat) (X : lt_X) (x1 : Int32) (x2 : Int32) (x3 : Int64) (x5 : Int32) (x6 : Int32) (I : Nat → Nat → Int32) (J : Nat → Nat → Int64) : am_O := am_run (am_G am_prog (N + 30) (d + 1)) eX9_mean uX9_mean n 120 [(0, .ref 135), (1, .int x1), (2, .int x2), (3, .long x3), (5, .int x5), (6, .int x6)] [] (mkh X I J)
def KX9_mean_0 (N d n : Nat) (a0 : Int32) (a1 : Int32) (z : Int32) (h : am_H) : am_O := if z = nI 0 then am_cI (am_G am_prog (N + 30) (d + 1) 189 [.ref 135, .int (nI 5)] h) (fun r2 h1 => am_nb r2 (some (.int r2, h1))) else am_cI (am_G am_prog (N + 30) (d + 1) 190 [.long a0.toInt64, .long (lN 0), .long (((nI 10000) - a1).toInt64)] h) (fun r4 h3 => if r4 = nI 0 then am_cI (am_G am_prog (N + 30) (d + 1) 189 [.ref 135, .int (nI 5)] h3) (fun r6 h5 => am_nb r6 (some (.int r6, h5))) else am_gR h3 9 135 20 (fun y7 => am_lI h3 10 y7 (nI 157) (fun y8 => if y8 = nI 0 then am_cI (am_G am_prog (N + 30) (d + 1) 189 [.ref 135, .int (nI 8)] h3) (fun r10 h9 => am_nb r10 (some (.int r10, h9))) else am_run (am_G am_prog (N + 30) (d + 1)) eX9_mean uX9_mean n 63 [(0, .ref 135), (1, .int a0), (2, .int a1), (3, .int (nI 0))] [] h3)))
def KX9_mean_1 (N d n : Nat) (a0 : Int32) (a1 : Int32) (a2 : Int64) (a3 : Int32) (h : am_H) : am_O := am_cI (am_G am_prog (N + 30) (d + 1) 264 [.ref 135, .int (nI 43)] h) (fun r2 h1 => am_run (am_G am_prog (N + 30) (d + 1)) eX9_mean uX9_mean n 120 [(0, .ref 135), (1, .int a0), (2, .int a1), (3, .long (a2 + r2.toInt64)), (5, .int a3), (6, .int (nI 0))] [] h1)
def KX9_mean_2 (N d n : Nat) (z : Int32) (h : am_H) : am_O := am_nb z (some (.int z, h))
def KX9_mean_3 (N d n : Nat) (a0 : Int32) (a1 : Int32) (z : Int32) (h : am_H) : am_O := if z = nI 0 then am_cI (am_G am_prog (N + 30) (d + 1) 189 [.ref 135, .int (nI 5)] h) (fun r2 h1 => am_nb r2 (some (.int r2, h1))) else am_gR h 9 135 20 (fun y3 => am_lI h 10 y3 (nI 157) (fun y4 => if y4 = nI 0 then am_cI (am_G am_prog (N + 30) (d + 1) 189 [.ref 135, .int (nI 8)] h) (fun r6 h5 => am_nb r6 (some (.int r6, h5))) else am_run (am_G am_prog (N + 30) (d + 1)) eX9_mean uX9_mean n 63 [(0, .ref 135), (1, .int a0), (2, .int a1), (3, .int (nI 0))] [] h))
def KX9_mean_4 (N d n : Nat) (a0 : Int32) (a1 : Int32) (a2 : Int32) (a3 : Int64) (z : Int32) (h : am_H) : am_O := am_run (am_G am_prog (N + 30) (d + 1)) eX9_mean uX9_mean n 120 [(0, .ref 135), (1, .int a0), (2, .int a1), (3, .long (a3 + z.toInt64)), (5, .int a2), (6, .int (nI 0))] [] h
set_option maxHeartbeats 4000000 in
set_option maxRecDepth 100000 in
theorem sX9_mean_0 (N d n : Nat) {X : lt_X} (x1 : Int32) (x2 : Int32) (I : Nat → Nat → Int32) (J : Nat → Nat → Int64) : RX9_mean_0 N d (n + 1) X x1 x2 I J = am_cI (am_G am_prog (N + 30) (d + 1) 190 [.long x2.toInt64, .long (lN 1), .long (lN 20)] (mkh X (u2 (u2 I 135 1 (nI 0)) 135 0 (nI 0)) J)) (KX9_mean_0 N d n x1 x2) := by
  rfl
set_option maxHeartbeats 4000000 in
set_option maxRecDepth 100000 in
theorem sX9_mean_63 (N d n : Nat) {X : lt_X} (x1 : Int32) (x2 : Int32) (x3 : Int32) (I : Nat → Nat → Int32) (J : Nat → Nat → Int64) : RX9_mean_63 N d (n + 1) X x1 x2 x3 I J = if x3 < (nI 157) then if am_in x3 2145 then if am_in x3 157 then RX9_mean_63 N d n X x1 x2 (x3 + (nI 1)) (u2 I 141 x3.toNatClampNeg (I 140 x3.toNatClampNeg)) J else none else none else RX9_mean_93 N d n X x1 x2 (lN 0) (nI 0) I J := by
  rfl
set_option maxHeartbeats 4000000 in
set_option maxRecDepth 100000 in
theorem sX9_mean_93 (N d n : Nat) {X : lt_X} (x1 : Int32) (x2 : Int32) (x3 : Int64) (x5 : Int32) (I : Nat → Nat → Int32) (J : Nat → Nat → Int64) : RX9_mean_93 N d (n + 1) X x1 x2 x3 x5 I J = if x5 < x2 then am_cV (am_G am_prog (N + 30) (d + 1) 349 [.ref 135, .int (x1 + x5)] (mkh X I J)) (KX9_mean_1 N d n x1 x2 x3 x5) else am_cI (am_G am_prog (N + 30) (d + 1) 191 [.ref 135, .long x3, .long x2.toInt64] (mkh X I J)) (KX9_mean_2 N d n ) := by
  rfl
set_option maxHeartbeats 4000000 in
set_option maxRecDepth 100000 in
theorem sX9_mean_120 (N d n : Nat) {X : lt_X} (x1 : Int32) (x2 : Int32) (x3 : Int64) (x5 : Int32) (x6 : Int32) (I : Nat → Nat → Int32) (J : Nat → Nat → Int64) : RX9_mean_120 N d (n + 1) X x1 x2 x3 x5 x6 I J = if x6 < (nI 157) then if am_in x6 157 then if am_in x6 2145 then RX9_mean_120 N d n X x1 x2 x3 x5 (x6 + (nI 1)) (u2 I 140 x6.toNatClampNeg (I 141 x6.toNatClampNeg)) J else none else none else RX9_mean_93 N d n X x1 x2 x3 (x5 + (nI 1)) I J := by
  rfl
set_option maxHeartbeats 4000000 in
set_option maxRecDepth 100000 in
theorem kX9_mean_0 (N d n : Nat) {X : lt_X} (a0 : Int32) (a1 : Int32) (z : Int32) (I : Nat → Nat → Int32) (J : Nat → Nat → Int64) : KX9_mean_0 N d n a0 a1 z (mkh X I J) = if z = nI 0 then some (.int (nI 0), (mkh X (u2 I 135 0 (nI 5)) J)) else am_cI (am_G am_prog (N + 30) (d + 1) 190 [.long a0.toInt64, .long (lN 0), .long (((nI 10000) - a1).toInt64)] (mkh X I J)) (KX9_mean_3 N d n a0 a1) := by
  rfl
set_option maxHeartbeats 4000000 in
set_option maxRecDepth 100000 in
theorem kX9_mean_1 (N d n : Nat) {X : lt_X} (a0 : Int32) (a1 : Int32) (a2 : Int64) (a3 : Int32) (I : Nat → Nat → Int32) (J : Nat → Nat → Int64) : KX9_mean_1 N d n a0 a1 a2 a3 (mkh X I J) = am_cI (am_G am_prog (N + 30) (d + 1) 264 [.ref 135, .int (nI 43)] (mkh X I J)) (KX9_mean_4 N d n a0 a1 a3 a2) := by
  rfl
set_option maxHeartbeats 4000000 in
set_option maxRecDepth 100000 in
theorem kX9_mean_2 (N d n : Nat) {X : lt_X} (z : Int32) (I : Nat → Nat → Int32) (J : Nat → Nat → Int64) : KX9_mean_2 N d n z (mkh X I J) = am_nb z (some (.int z, (mkh X I J))) := by
  rfl
set_option maxHeartbeats 4000000 in
set_option maxRecDepth 100000 in
theorem kX9_mean_3 (N d n : Nat) {X : lt_X} (a0 : Int32) (a1 : Int32) (z : Int32) (I : Nat → Nat → Int32) (J : Nat → Nat → Int64) : KX9_mean_3 N d n a0 a1 z (mkh X I J) = if z = nI 0 then some (.int (nI 0), (mkh X (u2 I 135 0 (nI 5)) J)) else if (I 140 157) = nI 0 then some (.int (nI 0), (mkh X (u2 I 135 0 (nI 8)) J)) else RX9_mean_63 N d n X a0 a1 (nI 0) I J := by
  rfl
set_option maxHeartbeats 4000000 in
set_option maxRecDepth 100000 in
theorem kX9_mean_4 (N d n : Nat) {X : lt_X} (a0 : Int32) (a1 : Int32) (a2 : Int32) (a3 : Int64) (z : Int32) (I : Nat → Nat → Int32) (J : Nat → Nat → Int64) : KX9_mean_4 N d n a0 a1 a2 a3 z (mkh X I J) = RX9_mean_120 N d n X a0 a1 (a3 + z.toInt64) a2 (nI 0) I J := by
  rfl
theorem fX9_mean (N d : Nat) {X : lt_X} (x1 : Int32) (x2 : Int32) (I : Nat → Nat → Int32) (J : Nat → Nat → Int64) : am_G am_prog N (d + 1) 352 [.ref 135, .int x1, .int x2] (mkh X I J) = am_run (am_G am_prog N d) eX9_mean uX9_mean N 0 [(0, .ref 135), (1, .int x1), (2, .int x2)] [] (mkh X I J) := by
  refine (am_G_at N d 352 mX9_mean _ _ rfl).trans ?_
  rfl
theorem gX9_mean (N d : Nat) {X : lt_X} (x1 : Int32) (x2 : Int32) (I : Nat → Nat → Int32) (J : Nat → Nat → Int64) : am_G am_prog (N + 30) (d + 2) 352 [.ref 135, .int x1, .int x2] (mkh X I J) = RX9_mean_0 N d (N + 30) X x1 x2 I J := fX9_mean (N + 30) (d + 1) x1 x2 I J
def RX9_copy_0 (N d n : Nat) (X : lt_X) (x1 : Int32) (x2 : Int32) (I : Nat → Nat → Int32) (J : Nat → Nat → Int64) : am_O := am_run (am_G am_prog (N + 30) (d + 0)) eX9_copy uX9_copy n 0 [(0, .ref 135), (1, .int x1), (2, .int x2)] [] (mkh X I J)
def RX9_copy_2 (N d n : Nat) (X : lt_X) (x1 : Int32) (x2 : Int32) (x3 : Int32) (I : Nat → Nat → Int32) (J : Nat → Nat → Int64) : am_O := am_run (am_G am_prog (N + 30) (d + 0)) eX9_copy uX9_copy n 2 [(0, .ref 135), (1, .int x1), (2, .int x2), (3, .int x3)] [] (mkh X I J)
def RX9_copy_41 (N d n : Nat) (X : lt_X) (x1 : Int32) (x2 : Int32) (x3 : Int32) (I : Nat → Nat → Int32) (J : Nat → Nat → Int64) : am_O := am_run (am_G am_prog (N + 30) (d + 0)) eX9_copy uX9_copy n 41 [(0, .ref 135), (1, .int x1), (2, .int x2), (3, .int x3)] [] (mkh X I J)
set_option maxHeartbeats 4000000 in
set_option maxRecDepth 100000 in
theorem sX9_copy_0 (N d n : Nat) {X : lt_X} (x1 : Int32) (x2 : Int32) (I : Nat → Nat → Int32) (J : Nat → Nat → Int64) : RX9_copy_0 N d (n + 1) X x1 x2 I J = RX9_copy_2 N d n X x1 x2 (nI 0) I J := by
  rfl
set_option maxHeartbeats 4000000 in
set_option maxRecDepth 100000 in
theorem sX9_copy_2 (N d n : Nat) {X : lt_X} (x1 : Int32) (x2 : Int32) (x3 : Int32) (I : Nat → Nat → Int32) (J : Nat → Nat → Int64) : RX9_copy_2 N d (n + 1) X x1 x2 x3 I J = if x3 < (nI 429) then if am_in (((nI 429) * x1) + x3) 2145 then if am_in (((nI 429) * x2) + x3) 2145 then RX9_copy_2 N d n X x1 x2 (x3 + (nI 1)) (u2 I 140 ((((nI 429) * x2) + x3).toNatClampNeg) (I 140 ((((nI 429) * x1) + x3).toNatClampNeg))) J else none else none else RX9_copy_41 N d n X x1 x2 (nI 0) I J := by
  rfl
set_option maxHeartbeats 4000000 in
set_option maxRecDepth 100000 in
theorem sX9_copy_41 (N d n : Nat) {X : lt_X} (x1 : Int32) (x2 : Int32) (x3 : Int32) (I : Nat → Nat → Int32) (J : Nat → Nat → Int64) : RX9_copy_41 N d (n + 1) X x1 x2 x3 I J = if x3 < (nI 24) then if am_in (((nI 24) * x1) + x3) 120 then if am_in (((nI 24) * x2) + x3) 120 then RX9_copy_41 N d n X x1 x2 (x3 + (nI 1)) I (u2L J 142 ((((nI 24) * x2) + x3).toNatClampNeg) (J 142 ((((nI 24) * x1) + x3).toNatClampNeg))) else none else none else some (.null, (mkh X I J)) := by
  rfl
theorem fX9_copy (N d : Nat) {X : lt_X} (x1 : Int32) (x2 : Int32) (I : Nat → Nat → Int32) (J : Nat → Nat → Int64) : am_G am_prog N (d + 1) 353 [.ref 135, .int x1, .int x2] (mkh X I J) = am_run (am_G am_prog N d) eX9_copy uX9_copy N 0 [(0, .ref 135), (1, .int x1), (2, .int x2)] [] (mkh X I J) := by
  refine (am_G_at N d 353 mX9_copy _ _ rfl).trans ?_
  rfl
theorem gX9_copy (N d : Nat) {X : lt_X} (x1 : Int32) (x2 : Int32) (I : Nat → Nat → Int32) (J : Nat → Nat → Int64) : am_G am_prog (N + 30) (d + 1) 353 [.ref 135, .int x1, .int x2] (mkh X I J) = RX9_copy_0 N d (N + 30) X x1 x2 I J := fX9_copy (N + 30) (d + 0) x1 x2 I J
def RX9_mark_0 (N d n : Nat) (X : lt_X) (I : Nat → Nat → Int32) (J : Nat → Nat → Int64) : am_O := am_run (am_G am_prog (N + 30) (d + 1)) eX9_mark uX9_mark n 0 [(0, .ref 135)] [] (mkh X I J)
def KX9_mark_0 (N d n : Nat) (h : am_H) : am_O := am_gI h 9 135 23 (fun y1 => some (.int y1, h))
set_option maxHeartbeats 4000000 in
set_option maxRecDepth 100000 in
theorem sX9_mark_0 (N d n : Nat) {X : lt_X} (I : Nat → Nat → Int32) (J : Nat → Nat → Int64) : RX9_mark_0 N d (n + 1) X I J = if (I 135 23) = (nI 3) then some (.int (-1), (mkh X (u2 (u2 (u2 I 135 1 (nI 0)) 135 0 (nI 0)) 135 0 (nI 7)) J)) else am_cV (am_G am_prog (N + 30) (d + 1) 353 [.ref 135, .int (nI 0), .int ((I 135 23) + (nI 1))] (mkh X (u2 (u2 (u2 I 135 1 (nI 0)) 135 0 (nI 0)) 135 23 ((I 135 23) + (nI 1))) J)) (KX9_mark_0 N d n ) := by
  rfl
set_option maxHeartbeats 4000000 in
set_option maxRecDepth 100000 in
theorem kX9_mark_0 (N d n : Nat) {X : lt_X} (I : Nat → Nat → Int32) (J : Nat → Nat → Int64) : KX9_mark_0 N d n (mkh X I J) = some (.int (I 135 23), (mkh X I J)) := by
  rfl
theorem fX9_mark (N d : Nat) {X : lt_X} (I : Nat → Nat → Int32) (J : Nat → Nat → Int64) : am_G am_prog N (d + 1) 354 [.ref 135] (mkh X I J) = am_run (am_G am_prog N d) eX9_mark uX9_mark N 0 [(0, .ref 135)] [] (mkh X I J) := by
  refine (am_G_at N d 354 mX9_mark _ _ rfl).trans ?_
  rfl
theorem gX9_mark (N d : Nat) {X : lt_X} (I : Nat → Nat → Int32) (J : Nat → Nat → Int64) : am_G am_prog (N + 30) (d + 2) 354 [.ref 135] (mkh X I J) = RX9_mark_0 N d (N + 30) X I J := fX9_mark (N + 30) (d + 1) I J
def RX9_back_0 (N d n : Nat) (X : lt_X) (I : Nat → Nat → Int32) (J : Nat → Nat → Int64) : am_O := am_run (am_G am_prog (N + 30) (d + 1)) eX9_back uX9_back n 0 [(0, .ref 135)] [] (mkh X I J)
def KX9_back_0 (N d n : Nat) (h : am_H) : am_O := am_gI h 9 135 23 (fun y1 => am_pI h 9 135 23 (y1 - (nI 1)) (fun h2 => am_gI h2 9 135 23 (fun y3 => some (.int y3, h2))))
set_option maxHeartbeats 4000000 in
set_option maxRecDepth 100000 in
theorem sX9_back_0 (N d n : Nat) {X : lt_X} (I : Nat → Nat → Int32) (J : Nat → Nat → Int64) : RX9_back_0 N d (n + 1) X I J = if (I 135 23) = nI 0 then some (.int (-1), (mkh X (u2 (u2 (u2 I 135 1 (nI 0)) 135 0 (nI 0)) 135 0 (nI 8)) J)) else am_cV (am_G am_prog (N + 30) (d + 1) 353 [.ref 135, .int (I 135 23), .int (nI 0)] (mkh X (u2 (u2 I 135 1 (nI 0)) 135 0 (nI 0)) J)) (KX9_back_0 N d n ) := by
  rfl
set_option maxHeartbeats 4000000 in
set_option maxRecDepth 100000 in
theorem kX9_back_0 (N d n : Nat) {X : lt_X} (I : Nat → Nat → Int32) (J : Nat → Nat → Int64) : KX9_back_0 N d n (mkh X I J) = some (.int ((I 135 23) - (nI 1)), (mkh X (u2 I 135 23 ((I 135 23) - (nI 1))) J)) := by
  rfl
theorem fX9_back (N d : Nat) {X : lt_X} (I : Nat → Nat → Int32) (J : Nat → Nat → Int64) : am_G am_prog N (d + 1) 355 [.ref 135] (mkh X I J) = am_run (am_G am_prog N d) eX9_back uX9_back N 0 [(0, .ref 135)] [] (mkh X I J) := by
  refine (am_G_at N d 355 mX9_back _ _ rfl).trans ?_
  rfl
theorem gX9_back (N d : Nat) {X : lt_X} (I : Nat → Nat → Int32) (J : Nat → Nat → Int64) : am_G am_prog (N + 30) (d + 2) 355 [.ref 135] (mkh X I J) = RX9_back_0 N d (N + 30) X I J := fX9_back (N + 30) (d + 1) I J
