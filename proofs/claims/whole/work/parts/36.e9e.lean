/-! printed by wip/whole/eqs4.py (sym4.py) -/
def RX9_warm_0 (N d n : Nat) (X : lt_X) (x1 : Int32) (I : Nat → Nat → Int32) (J : Nat → Nat → Int64) : am_O := am_run (am_G am_prog (N + 30) (d + 2)) eX9_warm uX9_warm n 0 [(0, .ref 135), (1, .int x1)] [] (mkh X I J)
def RX9_warm_29 (N d n : Nat) (X : lt_X) (x1 : Int32) (x2 : Int32) (x3 : Int32) (I : Nat → Nat → Int32) (J : Nat → Nat → Int64) : am_O := am_run (am_G am_prog (N + 30) (d + 2)) eX9_warm uX9_warm n 29 [(0, .ref 135), (1, .int x1), (2, .int x2), (3, .int x3)] [] (mkh X I J)
def KX9_warm_0 (N d n : Nat) (a0 : Int32) (z : Int32) (h : am_H) : am_O := if z = nI 0 then am_cI (am_G am_prog (N + 30) (d + 2) 189 [.ref 135, .int (nI 2)] h) (fun r2 h1 => am_nb r2 (some (.int r2, h1))) else am_run (am_G am_prog (N + 30) (d + 2)) eX9_warm uX9_warm n 29 [(0, .ref 135), (1, .int a0), (2, .int (nI 0)), (3, .int (nI 0))] [] h
def KX9_warm_1 (N d n : Nat) (a0 : Int32) (a1 : Int32) (a2 : Int32) (z : Int32) (h : am_H) : am_O := am_cI (am_G am_prog (N + 30) (d + 2) 201 [.int z, .int a0] h) (fun r2 h1 => if r2 = nI 0 then am_run (am_G am_prog (N + 30) (d + 2)) eX9_warm uX9_warm n 29 [(0, .ref 135), (1, .int a0), (2, .int (a2 + (nI 0))), (3, .int (a1 + (nI 1)))] [] h1 else am_run (am_G am_prog (N + 30) (d + 2)) eX9_warm uX9_warm n 29 [(0, .ref 135), (1, .int a0), (2, .int (a2 + (nI 1))), (3, .int (a1 + (nI 1)))] [] h1)
def KX9_warm_2 (N d n : Nat) (a0 : Int32) (z : Int64) (h : am_H) : am_O := am_gR h 9 135 20 (fun y1 => am_lI h 10 y1 (nI 4) (fun y2 => am_cL (am_G am_prog (N + 30) (d + 2) 338 [.int y2, .int a0] h) (fun r4 h3 => am_cL (am_G am_prog (N + 30) (d + 2) 338 [.int (nI 16), .int a0] h3) (fun r6 h5 => am_cI (am_G am_prog (N + 30) (d + 2) 191 [.ref 135, .long (z - r4), .long r6] h5) (fun r8 h7 => am_nb r8 (some (.int r8, h7)))))))
def KX9_warm_3 (N d n : Nat) (a0 : Int32) (a1 : Int32) (a2 : Int32) (z : Int32) (h : am_H) : am_O := if z = nI 0 then am_run (am_G am_prog (N + 30) (d + 2)) eX9_warm uX9_warm n 29 [(0, .ref 135), (1, .int a0), (2, .int (a2 + (nI 0))), (3, .int (a1 + (nI 1)))] [] h else am_run (am_G am_prog (N + 30) (d + 2)) eX9_warm uX9_warm n 29 [(0, .ref 135), (1, .int a0), (2, .int (a2 + (nI 1))), (3, .int (a1 + (nI 1)))] [] h
def KX9_warm_4 (N d n : Nat) (a0 : Int32) (a1 : Int64) (z : Int64) (h : am_H) : am_O := am_cL (am_G am_prog (N + 30) (d + 2) 338 [.int (nI 16), .int a0] h) (fun r2 h1 => am_cI (am_G am_prog (N + 30) (d + 2) 191 [.ref 135, .long (a1 - z), .long r2] h1) (fun r4 h3 => am_nb r4 (some (.int r4, h3))))
def KX9_warm_5 (N d n : Nat) (a0 : Int64) (z : Int64) (h : am_H) : am_O := am_cI (am_G am_prog (N + 30) (d + 2) 191 [.ref 135, .long a0, .long z] h) (fun r2 h1 => am_nb r2 (some (.int r2, h1)))
def KX9_warm_6 (N d n : Nat) (z : Int32) (h : am_H) : am_O := am_nb z (some (.int z, h))
set_option maxHeartbeats 4000000 in
set_option maxRecDepth 100000 in
theorem sX9_warm_0 (N d n : Nat) {X : lt_X} (x1 : Int32) (I : Nat → Nat → Int32) (J : Nat → Nat → Int64) : RX9_warm_0 N d (n + 1) X x1 I J = am_cI (am_G am_prog (N + 30) (d + 2) 260 [.ref 135, .long x1.toInt64] (mkh X (u2 (u2 I 135 1 (nI 0)) 135 0 (nI 0)) J)) (KX9_warm_0 N d n x1) := by
  rfl
set_option maxHeartbeats 4000000 in
set_option maxRecDepth 100000 in
theorem sX9_warm_29 (N d n : Nat) {X : lt_X} (x1 : Int32) (x2 : Int32) (x3 : Int32) (I : Nat → Nat → Int32) (J : Nat → Nat → Int64) : RX9_warm_29 N d (n + 1) X x1 x2 x3 I J = if x3 < (I 140 1) then if am_in ((nI 25) + x3) 2145 then if (I 140 (((nI 25) + x3).toNatClampNeg)) = (nI 1) then am_cI (am_G am_prog (N + 30) (d + 2) 299 [.ref 135, .int x3] (mkh X I J)) (KX9_warm_1 N d n x1 x3 x2) else RX9_warm_29 N d n X x1 (x2 + (nI 0)) (x3 + (nI 1)) I J else none else am_cL (am_G am_prog (N + 30) (d + 2) 338 [.int (nI 16), .int x2] (mkh X I J)) (KX9_warm_2 N d n x2) := by
  rfl
set_option maxHeartbeats 4000000 in
set_option maxRecDepth 100000 in
theorem kX9_warm_0 (N d n : Nat) {X : lt_X} (a0 : Int32) (z : Int32) (I : Nat → Nat → Int32) (J : Nat → Nat → Int64) : KX9_warm_0 N d n a0 z (mkh X I J) = if z = nI 0 then some (.int (nI 0), (mkh X (u2 I 135 0 (nI 2)) J)) else RX9_warm_29 N d n X a0 (nI 0) (nI 0) I J := by
  rfl
set_option maxHeartbeats 4000000 in
set_option maxRecDepth 100000 in
theorem kX9_warm_1 (N d n : Nat) {X : lt_X} (a0 : Int32) (a1 : Int32) (a2 : Int32) (z : Int32) (I : Nat → Nat → Int32) (J : Nat → Nat → Int64) : KX9_warm_1 N d n a0 a1 a2 z (mkh X I J) = am_cI (am_G am_prog (N + 30) (d + 2) 201 [.int z, .int a0] (mkh X I J)) (KX9_warm_3 N d n a0 a1 a2) := by
  rfl
set_option maxHeartbeats 4000000 in
set_option maxRecDepth 100000 in
theorem kX9_warm_2 (N d n : Nat) {X : lt_X} (a0 : Int32) (z : Int64) (I : Nat → Nat → Int32) (J : Nat → Nat → Int64) : KX9_warm_2 N d n a0 z (mkh X I J) = am_cL (am_G am_prog (N + 30) (d + 2) 338 [.int (I 140 4), .int a0] (mkh X I J)) (KX9_warm_4 N d n a0 z) := by
  rfl
set_option maxHeartbeats 4000000 in
set_option maxRecDepth 100000 in
theorem kX9_warm_3 (N d n : Nat) {X : lt_X} (a0 : Int32) (a1 : Int32) (a2 : Int32) (z : Int32) (I : Nat → Nat → Int32) (J : Nat → Nat → Int64) : KX9_warm_3 N d n a0 a1 a2 z (mkh X I J) = if z = nI 0 then RX9_warm_29 N d n X a0 (a2 + (nI 0)) (a1 + (nI 1)) I J else RX9_warm_29 N d n X a0 (a2 + (nI 1)) (a1 + (nI 1)) I J := by
  rfl
set_option maxHeartbeats 4000000 in
set_option maxRecDepth 100000 in
theorem kX9_warm_4 (N d n : Nat) {X : lt_X} (a0 : Int32) (a1 : Int64) (z : Int64) (I : Nat → Nat → Int32) (J : Nat → Nat → Int64) : KX9_warm_4 N d n a0 a1 z (mkh X I J) = am_cL (am_G am_prog (N + 30) (d + 2) 338 [.int (nI 16), .int a0] (mkh X I J)) (KX9_warm_5 N d n (a1 - z)) := by
  rfl
set_option maxHeartbeats 4000000 in
set_option maxRecDepth 100000 in
theorem kX9_warm_5 (N d n : Nat) {X : lt_X} (a0 : Int64) (z : Int64) (I : Nat → Nat → Int32) (J : Nat → Nat → Int64) : KX9_warm_5 N d n a0 z (mkh X I J) = am_cI (am_G am_prog (N + 30) (d + 2) 191 [.ref 135, .long a0, .long z] (mkh X I J)) (KX9_warm_6 N d n ) := by
  rfl
set_option maxHeartbeats 4000000 in
set_option maxRecDepth 100000 in
theorem kX9_warm_6 (N d n : Nat) {X : lt_X} (z : Int32) (I : Nat → Nat → Int32) (J : Nat → Nat → Int64) : KX9_warm_6 N d n z (mkh X I J) = am_nb z (some (.int z, (mkh X I J))) := by
  rfl
theorem fX9_warm (N d : Nat) {X : lt_X} (x1 : Int32) (I : Nat → Nat → Int32) (J : Nat → Nat → Int64) : am_G am_prog N (d + 1) 340 [.ref 135, .int x1] (mkh X I J) = am_run (am_G am_prog N d) eX9_warm uX9_warm N 0 [(0, .ref 135), (1, .int x1)] [] (mkh X I J) := by
  refine (am_G_at N d 340 mX9_warm _ _ rfl).trans ?_
  rfl
theorem gX9_warm (N d : Nat) {X : lt_X} (x1 : Int32) (I : Nat → Nat → Int32) (J : Nat → Nat → Int64) : am_G am_prog (N + 30) (d + 3) 340 [.ref 135, .int x1] (mkh X I J) = RX9_warm_0 N d (N + 30) X x1 I J := fX9_warm (N + 30) (d + 2) x1 I J
def RX9_draw_0 (N d n : Nat) (X : lt_X) (x1 : Int32) (I : Nat → Nat → Int32) (J : Nat → Nat → Int64) : am_O := am_run (am_G am_prog (N + 30) (d + 0)) eX9_draw uX9_draw n 0 [(0, .ref 135), (1, .int x1)] [] (mkh X I J)
set_option maxHeartbeats 4000000 in
set_option maxRecDepth 100000 in
theorem sX9_draw_0 (N d n : Nat) {X : lt_X} (x1 : Int32) (I : Nat → Nat → Int32) (J : Nat → Nat → Int64) : RX9_draw_0 N d (n + 1) X x1 I J = am_nz x1 (some (.int ((((((I 135 35) * (nI 2971)) + (nI 10847)) - (((I 135 35) * (nI 2971)) + (nI 10847)) / (nI 65536) * (nI 65536)) / (nI 8)) - (((((I 135 35) * (nI 2971)) + (nI 10847)) - (((I 135 35) * (nI 2971)) + (nI 10847)) / (nI 65536) * (nI 65536)) / (nI 8)) / x1 * x1), (mkh X (u2 I 135 35 ((((I 135 35) * (nI 2971)) + (nI 10847)) - (((I 135 35) * (nI 2971)) + (nI 10847)) / (nI 65536) * (nI 65536))) J))) := by
  rfl
theorem fX9_draw (N d : Nat) {X : lt_X} (x1 : Int32) (I : Nat → Nat → Int32) (J : Nat → Nat → Int64) : am_G am_prog N (d + 1) 341 [.ref 135, .int x1] (mkh X I J) = am_run (am_G am_prog N d) eX9_draw uX9_draw N 0 [(0, .ref 135), (1, .int x1)] [] (mkh X I J) := by
  refine (am_G_at N d 341 mX9_draw _ _ rfl).trans ?_
  rfl
theorem gX9_draw (N d : Nat) {X : lt_X} (x1 : Int32) (I : Nat → Nat → Int32) (J : Nat → Nat → Int64) : am_G am_prog (N + 30) (d + 1) 341 [.ref 135, .int x1] (mkh X I J) = RX9_draw_0 N d (N + 30) X x1 I J := fX9_draw (N + 30) (d + 0) x1 I J
def RX9_anyHours_0 (N d n : Nat) (X : lt_X) (x1 : Int32) (I : Nat → Nat → Int32) (J : Nat → Nat → Int64) : am_O := am_run (am_G am_prog (N + 30) (d + 0)) eX9_anyHours uX9_anyHours n 0 [(0, .ref 135), (1, .int x1)] [] (mkh X I J)
def RX9_anyHours_18 (N d n : Nat) (X : lt_X) (x1 : Int32) (x2 : Int32) (I : Nat → Nat → Int32) (J : Nat → Nat → Int64) : am_O := am_run (am_G am_prog (N + 30) (d + 0)) eX9_anyHours uX9_anyHours n 18 [(0, .ref 135), (1, .int x1), (2, .int x2)] [] (mkh X I J)
def KX9_anyHours_0 (N d n : Nat) (a0 : Int32) (a1 : Int32) (a2 : Int32) (z : Int32) (h : am_H) : am_O := am_pI h 9 135 39 (a2 + z) (fun h1 => am_run (am_G am_prog (N + 30) (d + 0)) eX9_anyHours uX9_anyHours n 18 [(0, .ref 135), (1, .int a0), (2, .int (a1 + (nI 1)))] [] h1)
set_option maxHeartbeats 4000000 in
set_option maxRecDepth 100000 in
theorem sX9_anyHours_0 (N d n : Nat) {X : lt_X} (x1 : Int32) (I : Nat → Nat → Int32) (J : Nat → Nat → Int64) : RX9_anyHours_0 N d (n + 1) X x1 I J = if (nI 9999) < ((I 140 5) + x1) then some (.int (nI 0), (mkh X I J)) else RX9_anyHours_18 N d n X x1 (nI 0) I J := by
  rfl
set_option maxHeartbeats 4000000 in
set_option maxRecDepth 100000 in
theorem sX9_anyHours_18 (N d n : Nat) {X : lt_X} (x1 : Int32) (x2 : Int32) (I : Nat → Nat → Int32) (J : Nat → Nat → Int64) : RX9_anyHours_18 N d (n + 1) X x1 x2 I J = if x2 < x1 then am_cI (am_G am_prog (N + 30) (d + 0) 277 [.ref 135] (mkh X I J)) (KX9_anyHours_0 N d n x1 x2 (I 135 39)) else some (.int (nI 1), (mkh X (u2 I 135 38 ((I 135 38) + x1)) J)) := by
  rfl
set_option maxHeartbeats 4000000 in
set_option maxRecDepth 100000 in
theorem kX9_anyHours_0 (N d n : Nat) {X : lt_X} (a0 : Int32) (a1 : Int32) (a2 : Int32) (z : Int32) (I : Nat → Nat → Int32) (J : Nat → Nat → Int64) : KX9_anyHours_0 N d n a0 a1 a2 z (mkh X I J) = RX9_anyHours_18 N d n X a0 (a1 + (nI 1)) (u2 I 135 39 (a2 + z)) J := by
  rfl
theorem fX9_anyHours (N d : Nat) {X : lt_X} (x1 : Int32) (I : Nat → Nat → Int32) (J : Nat → Nat → Int64) : am_G am_prog N (d + 1) 342 [.ref 135, .int x1] (mkh X I J) = am_run (am_G am_prog N d) eX9_anyHours uX9_anyHours N 0 [(0, .ref 135), (1, .int x1)] [] (mkh X I J) := by
  refine (am_G_at N d 342 mX9_anyHours _ _ rfl).trans ?_
  rfl
theorem gX9_anyHours (N d : Nat) {X : lt_X} (x1 : Int32) (I : Nat → Nat → Int32) (J : Nat → Nat → Int64) : am_G am_prog (N + 30) (d + 1) 342 [.ref 135, .int x1] (mkh X I J) = RX9_anyHours_0 N d (N + 30) X x1 I J := fX9_anyHours (N + 30) (d + 0) x1 I J
def RX9_anyYears_0 (N d n : Nat) (X : lt_X) (x1 : Int32) (I : Nat → Nat → Int32) (J : Nat → Nat → Int64) : am_O := am_run (am_G am_prog (N + 30) (d + 0)) eX9_anyYears uX9_anyYears n 0 [(0, .ref 135), (1, .int x1)] [] (mkh X I J)
def RX9_anyYears_19 (N d n : Nat) (X : lt_X) (x1 : Int32) (x2 : Int32) (I : Nat → Nat → Int32) (J : Nat → Nat → Int64) : am_O := am_run (am_G am_prog (N + 30) (d + 0)) eX9_anyYears uX9_anyYears n 19 [(0, .ref 135), (1, .int x1), (2, .int x2)] [] (mkh X I J)
def KX9_anyYears_0 (N d n : Nat) (a0 : Int32) (a1 : Int32) (a2 : Int32) (z : Int32) (h : am_H) : am_O := am_cI (am_G am_prog (N + 30) (d + 0) 202 [.int z] h) (fun r2 h1 => am_pI h1 9 135 40 (a2 + r2) (fun h3 => am_run (am_G am_prog (N + 30) (d + 0)) eX9_anyYears uX9_anyYears n 19 [(0, .ref 135), (1, .int a0), (2, .int (a1 + (nI 1)))] [] h3))
def KX9_anyYears_1 (N d n : Nat) (a0 : Int32) (a1 : Int32) (a2 : Int32) (z : Int32) (h : am_H) : am_O := am_pI h 9 135 40 (a2 + z) (fun h1 => am_run (am_G am_prog (N + 30) (d + 0)) eX9_anyYears uX9_anyYears n 19 [(0, .ref 135), (1, .int a0), (2, .int (a1 + (nI 1)))] [] h1)
set_option maxHeartbeats 4000000 in
set_option maxRecDepth 100000 in
theorem sX9_anyYears_0 (N d n : Nat) {X : lt_X} (x1 : Int32) (I : Nat → Nat → Int32) (J : Nat → Nat → Int64) : RX9_anyYears_0 N d (n + 1) X x1 I J = if (nI 999) < ((I 140 6) + x1) then some (.int (nI 0), (mkh X I J)) else RX9_anyYears_19 N d n X x1 (nI 0) I J := by
  rfl
set_option maxHeartbeats 4000000 in
set_option maxRecDepth 100000 in
theorem sX9_anyYears_19 (N d n : Nat) {X : lt_X} (x1 : Int32) (x2 : Int32) (I : Nat → Nat → Int32) (J : Nat → Nat → Int64) : RX9_anyYears_19 N d (n + 1) X x1 x2 I J = if x2 < x1 then am_cI (am_G am_prog (N + 30) (d + 0) 279 [.ref 135] (mkh X I J)) (KX9_anyYears_0 N d n x1 x2 (I 135 40)) else some (.int (nI 1), (mkh X I J)) := by
  rfl
set_option maxHeartbeats 4000000 in
set_option maxRecDepth 100000 in
theorem kX9_anyYears_0 (N d n : Nat) {X : lt_X} (a0 : Int32) (a1 : Int32) (a2 : Int32) (z : Int32) (I : Nat → Nat → Int32) (J : Nat → Nat → Int64) : KX9_anyYears_0 N d n a0 a1 a2 z (mkh X I J) = am_cI (am_G am_prog (N + 30) (d + 0) 202 [.int z] (mkh X I J)) (KX9_anyYears_1 N d n a0 a1 a2) := by
  rfl
set_option maxHeartbeats 4000000 in
set_option maxRecDepth 100000 in
theorem kX9_anyYears_1 (N d n : Nat) {X : lt_X} (a0 : Int32) (a1 : Int32) (a2 : Int32) (z : Int32) (I : Nat → Nat → Int32) (J : Nat → Nat → Int64) : KX9_anyYears_1 N d n a0 a1 a2 z (mkh X I J) = RX9_anyYears_19 N d n X a0 (a1 + (nI 1)) (u2 I 135 40 (a2 + z)) J := by
  rfl
theorem fX9_anyYears (N d : Nat) {X : lt_X} (x1 : Int32) (I : Nat → Nat → Int32) (J : Nat → Nat → Int64) : am_G am_prog N (d + 1) 343 [.ref 135, .int x1] (mkh X I J) = am_run (am_G am_prog N d) eX9_anyYears uX9_anyYears N 0 [(0, .ref 135), (1, .int x1)] [] (mkh X I J) := by
  refine (am_G_at N d 343 mX9_anyYears _ _ rfl).trans ?_
  rfl
theorem gX9_anyYears (N d : Nat) {X : lt_X} (x1 : Int32) (I : Nat → Nat → Int32) (J : Nat → Nat → Int64) : am_G am_prog (N + 30) (d + 1) 343 [.ref 135, .int x1] (mkh X I J) = RX9_anyYears_0 N d (N + 30) X x1 I J := fX9_anyYears (N + 30) (d + 0) x1 I J
def RX9_isAny_0 (N d n : Nat) (X : lt_X) (I : Nat → Nat → Int32) (J : Nat → Nat → Int64) : am_O := am_run (am_G am_prog (N + 30) (d + 0)) eX9_isAny uX9_isAny n 0 [(0, .ref 135)] [] (mkh X I J)
def RX9_isAny_42 (N d n : Nat) (X : lt_X) (x1 : Int32) (s0 : Int32) (I : Nat → Nat → Int32) (J : Nat → Nat → Int64) : am_O := am_run (am_G am_prog (N + 30) (d + 0)) eX9_isAny uX9_isAny n 42 [(0, .ref 135), (1, .int x1)] [.int s0] (mkh X I J)
def KX9_isAny_0 (N d n : Nat) (z : Int32) (h : am_H) : am_O := am_cI (am_G am_prog (N + 30) (d + 0) 341 [.ref 135, .int (nI 16)] h) (fun r2 h1 => am_gR h1 9 135 20 (fun y3 => am_lI h1 10 y3 (nI 4) (fun y4 => if r2 < y4 then am_run (am_G am_prog (N + 30) (d + 0)) eX9_isAny uX9_isAny n 42 [(0, .ref 135), (1, .int z)] [.int (nI 1)] h1 else am_run (am_G am_prog (N + 30) (d + 0)) eX9_isAny uX9_isAny n 42 [(0, .ref 135), (1, .int z)] [.int (nI 0)] h1)))
def KX9_isAny_1 (N d n : Nat) (a0 : Int32) (z : Int32) (h : am_H) : am_O := am_gR h 9 135 20 (fun y1 => am_lI h 10 y1 (nI 4) (fun y2 => if z < y2 then am_run (am_G am_prog (N + 30) (d + 0)) eX9_isAny uX9_isAny n 42 [(0, .ref 135), (1, .int a0)] [.int (nI 1)] h else am_run (am_G am_prog (N + 30) (d + 0)) eX9_isAny uX9_isAny n 42 [(0, .ref 135), (1, .int a0)] [.int (nI 0)] h))
set_option maxHeartbeats 4000000 in
set_option maxRecDepth 100000 in
theorem sX9_isAny_0 (N d n : Nat) {X : lt_X} (I : Nat → Nat → Int32) (J : Nat → Nat → Int64) : RX9_isAny_0 N d (n + 1) X I J = if (I 140 1) = nI 0 then some (.int (nI 0), (mkh X I J)) else am_cI (am_G am_prog (N + 30) (d + 0) 341 [.ref 135, .int (I 140 1)] (mkh X I J)) (KX9_isAny_0 N d n ) := by
  rfl
set_option maxHeartbeats 4000000 in
set_option maxRecDepth 100000 in
theorem sX9_isAny_42 (N d n : Nat) {X : lt_X} (x1 : Int32) (s0 : Int32) (I : Nat → Nat → Int32) (J : Nat → Nat → Int64) : RX9_isAny_42 N d (n + 1) X x1 s0 I J = if am_in ((nI 25) + x1) 2145 then if (I 140 (((nI 25) + x1).toNatClampNeg)) = nI 0 then some (.int (nI 0), (mkh X I J)) else if s0 = nI 0 then if am_in ((nI 31) + x1) 2145 then some (.int (nI 1), (mkh X (u2 I 140 (((nI 31) + x1).toNatClampNeg) (nI 0)) J)) else none else if am_in ((nI 31) + x1) 2145 then some (.int (nI 1), (mkh X (u2 I 140 (((nI 31) + x1).toNatClampNeg) (nI 1)) J)) else none else none := by
  rfl
set_option maxHeartbeats 4000000 in
set_option maxRecDepth 100000 in
theorem kX9_isAny_0 (N d n : Nat) {X : lt_X} (z : Int32) (I : Nat → Nat → Int32) (J : Nat → Nat → Int64) : KX9_isAny_0 N d n z (mkh X I J) = am_cI (am_G am_prog (N + 30) (d + 0) 341 [.ref 135, .int (nI 16)] (mkh X I J)) (KX9_isAny_1 N d n z) := by
  rfl
set_option maxHeartbeats 4000000 in
set_option maxRecDepth 100000 in
theorem kX9_isAny_1 (N d n : Nat) {X : lt_X} (a0 : Int32) (z : Int32) (I : Nat → Nat → Int32) (J : Nat → Nat → Int64) : KX9_isAny_1 N d n a0 z (mkh X I J) = if z < (I 140 4) then RX9_isAny_42 N d n X a0 (nI 1) I J else RX9_isAny_42 N d n X a0 (nI 0) I J := by
  rfl
theorem fX9_isAny (N d : Nat) {X : lt_X} (I : Nat → Nat → Int32) (J : Nat → Nat → Int64) : am_G am_prog N (d + 1) 344 [.ref 135] (mkh X I J) = am_run (am_G am_prog N d) eX9_isAny uX9_isAny N 0 [(0, .ref 135)] [] (mkh X I J) := by
  refine (am_G_at N d 344 mX9_isAny _ _ rfl).trans ?_
  rfl
theorem gX9_isAny (N d : Nat) {X : lt_X} (I : Nat → Nat → Int32) (J : Nat → Nat → Int64) : am_G am_prog (N + 30) (d + 1) 344 [.ref 135] (mkh X I J) = RX9_isAny_0 N d (N + 30) X I J := fX9_isAny (N + 30) (d + 0) I J
def RX9_does_0 (N d n : Nat) (X : lt_X) (x1 : Int32) (I : Nat → Nat → Int32) (J : Nat → Nat → Int64) : am_O := am_run (am_G am_prog (N + 30) (d + 0)) eX9_does uX9_does n 0 [(0, .ref 135), (1, .int x1)] [] (mkh X I J)
def KX9_does_0 (N d n : Nat) (z : Int32) (h : am_H) : am_O := am_nb z (some (.int z, h))
def KX9_does_1 (N d n : Nat) (z : Int32) (h : am_H) : am_O := am_nb z (some (.int z, h))
def KX9_does_2 (N d n : Nat) (z : Int32) (h : am_H) : am_O := am_nb z (some (.int z, h))
def KX9_does_3 (N d n : Nat) (z : Int32) (h : am_H) : am_O := am_nb z (some (.int z, h))
def KX9_does_4 (N d n : Nat) (z : Int32) (h : am_H) : am_O := am_nb z (some (.int z, h))
def KX9_does_5 (N d n : Nat) (z : Int32) (h : am_H) : am_O := am_nb z (some (.int z, h))
set_option maxHeartbeats 4000000 in
set_option maxRecDepth 100000 in
theorem sX9_does_0 (N d n : Nat) {X : lt_X} (x1 : Int32) (I : Nat → Nat → Int32) (J : Nat → Nat → Int64) : RX9_does_0 N d (n + 1) X x1 I J = if am_in x1 2145 then if (I 140 x1.toNatClampNeg) = nI 0 then if am_in (x1 + (nI 1)) 2145 then am_cI (am_G am_prog (N + 30) (d + 0) 342 [.ref 135, .int (I 140 ((x1 + (nI 1)).toNatClampNeg))] (mkh X I J)) (KX9_does_0 N d n ) else none else if (I 140 x1.toNatClampNeg) = (nI 1) then if am_in (x1 + (nI 1)) 2145 then am_cI (am_G am_prog (N + 30) (d + 0) 343 [.ref 135, .int (I 140 ((x1 + (nI 1)).toNatClampNeg))] (mkh X I J)) (KX9_does_1 N d n ) else none else if (I 140 x1.toNatClampNeg) = (nI 2) then if am_in (x1 + (nI 1)) 2145 then if am_in (x1 + (nI 2)) 2145 then if am_in (x1 + (nI 3)) 2145 then am_cI (am_G am_prog (N + 30) (d + 0) 281 [.ref 135, .int (I 140 ((x1 + (nI 1)).toNatClampNeg)), .int (I 140 ((x1 + (nI 2)).toNatClampNeg)), .int (I 140 ((x1 + (nI 3)).toNatClampNeg))] (mkh X I J)) (KX9_does_2 N d n ) else none else none else none else if (I 140 x1.toNatClampNeg) = (nI 3) then if am_in (x1 + (nI 1)) 2145 then if am_in (x1 + (nI 2)) 2145 then am_cI (am_G am_prog (N + 30) (d + 0) 283 [.ref 135, .int ((nI 67) + (I 140 ((x1 + (nI 1)).toNatClampNeg))), .int (I 140 ((x1 + (nI 2)).toNatClampNeg))] (mkh X I J)) (KX9_does_3 N d n ) else none else none else if (I 140 x1.toNatClampNeg) = (nI 6) then am_cI (am_G am_prog (N + 30) (d + 0) 344 [.ref 135] (mkh X I J)) (KX9_does_4 N d n ) else if am_in (x1 + (nI 1)) 2145 then if (I 140 x1.toNatClampNeg) = (nI 4) then am_cI (am_G am_prog (N + 30) (d + 0) 286 [.ref 135, .int (I 140 ((x1 + (nI 1)).toNatClampNeg)), .int (nI 1)] (mkh X I J)) (KX9_does_5 N d n ) else am_cI (am_G am_prog (N + 30) (d + 0) 286 [.ref 135, .int (I 140 ((x1 + (nI 1)).toNatClampNeg)), .int (nI 0)] (mkh X I J)) (KX9_does_5 N d n ) else none else none := by
  rfl
set_option maxHeartbeats 4000000 in
set_option maxRecDepth 100000 in
theorem kX9_does_0 (N d n : Nat) {X : lt_X} (z : Int32) (I : Nat → Nat → Int32) (J : Nat → Nat → Int64) : KX9_does_0 N d n z (mkh X I J) = am_nb z (some (.int z, (mkh X I J))) := by
  rfl
set_option maxHeartbeats 4000000 in
set_option maxRecDepth 100000 in
theorem kX9_does_1 (N d n : Nat) {X : lt_X} (z : Int32) (I : Nat → Nat → Int32) (J : Nat → Nat → Int64) : KX9_does_1 N d n z (mkh X I J) = am_nb z (some (.int z, (mkh X I J))) := by
  rfl
set_option maxHeartbeats 4000000 in
set_option maxRecDepth 100000 in
theorem kX9_does_2 (N d n : Nat) {X : lt_X} (z : Int32) (I : Nat → Nat → Int32) (J : Nat → Nat → Int64) : KX9_does_2 N d n z (mkh X I J) = am_nb z (some (.int z, (mkh X I J))) := by
  rfl
set_option maxHeartbeats 4000000 in
set_option maxRecDepth 100000 in
theorem kX9_does_3 (N d n : Nat) {X : lt_X} (z : Int32) (I : Nat → Nat → Int32) (J : Nat → Nat → Int64) : KX9_does_3 N d n z (mkh X I J) = am_nb z (some (.int z, (mkh X I J))) := by
  rfl
set_option maxHeartbeats 4000000 in
set_option maxRecDepth 100000 in
theorem kX9_does_4 (N d n : Nat) {X : lt_X} (z : Int32) (I : Nat → Nat → Int32) (J : Nat → Nat → Int64) : KX9_does_4 N d n z (mkh X I J) = am_nb z (some (.int z, (mkh X I J))) := by
  rfl
set_option maxHeartbeats 4000000 in
set_option maxRecDepth 100000 in
theorem kX9_does_5 (N d n : Nat) {X : lt_X} (z : Int32) (I : Nat → Nat → Int32) (J : Nat → Nat → Int64) : KX9_does_5 N d n z (mkh X I J) = am_nb z (some (.int z, (mkh X I J))) := by
  rfl
theorem fX9_does (N d : Nat) {X : lt_X} (x1 : Int32) (I : Nat → Nat → Int32) (J : Nat → Nat → Int64) : am_G am_prog N (d + 1) 345 [.ref 135, .int x1] (mkh X I J) = am_run (am_G am_prog N d) eX9_does uX9_does N 0 [(0, .ref 135), (1, .int x1)] [] (mkh X I J) := by
  refine (am_G_at N d 345 mX9_does _ _ rfl).trans ?_
  rfl
theorem gX9_does (N d : Nat) {X : lt_X} (x1 : Int32) (I : Nat → Nat → Int32) (J : Nat → Nat → Int64) : am_G am_prog (N + 30) (d + 1) 345 [.ref 135, .int x1] (mkh X I J) = RX9_does_0 N d (N + 30) X x1 I J := fX9_does (N + 30) (d + 0) x1 I J
def RX9_isSo_0 (N d n : Nat) (X : lt_X) (x1 : Int32) (I : Nat → Nat → Int32) (J : Nat → Nat → Int64) : am_O := am_run (am_G am_prog (N + 30) (d + 0)) eX9_isSo uX9_isSo n 0 [(0, .ref 135), (1, .int x1)] [] (mkh X I J)
set_option maxHeartbeats 4000000 in
set_option maxRecDepth 100000 in
theorem sX9_isSo_0 (N d n : Nat) {X : lt_X} (x1 : Int32) (I : Nat → Nat → Int32) (J : Nat → Nat → Int64) : RX9_isSo_0 N d (n + 1) X x1 I J = if am_in (x1 + (nI 6)) 2145 then if am_in (x1 + (nI 1)) 2145 then if (I 140 ((x1 + (nI 6)).toNatClampNeg)) = (nI 1) then if am_in ((nI 25) + (I 140 ((x1 + (nI 1)).toNatClampNeg))) 2145 then if (I 140 (((nI 25) + (I 140 ((x1 + (nI 1)).toNatClampNeg))).toNatClampNeg)) = (nI 1) then some (.int (nI 1), (mkh X I J)) else some (.int (nI 0), (mkh X I J)) else none else if (I 140 ((x1 + (nI 6)).toNatClampNeg)) = (nI 2) then if am_in (x1 + (nI 2)) 2145 then if am_in ((nI 67) + (I 140 ((x1 + (nI 2)).toNatClampNeg))) 2145 then if (I 140 (((nI 67) + (I 140 ((x1 + (nI 2)).toNatClampNeg))).toNatClampNeg)) = (I 140 ((x1 + (nI 1)).toNatClampNeg)) then some (.int (nI 1), (mkh X I J)) else some (.int (nI 0), (mkh X I J)) else none else none else if am_in ((nI 43) + (I 140 ((x1 + (nI 1)).toNatClampNeg))) 2145 then if am_in (x1 + (nI 7)) 2145 then if (I 140 ((x1 + (nI 7)).toNatClampNeg)) = (nI 60) then if am_in (x1 + (nI 2)) 2145 then if (I 140 (((nI 43) + (I 140 ((x1 + (nI 1)).toNatClampNeg))).toNatClampNeg)) < (I 140 ((x1 + (nI 2)).toNatClampNeg)) then some (.int (nI 1), (mkh X I J)) else some (.int (nI 0), (mkh X I J)) else none else if am_in (x1 + (nI 7)) 2145 then if (I 140 ((x1 + (nI 7)).toNatClampNeg)) = (nI 62) then if am_in (x1 + (nI 2)) 2145 then if (I 140 ((x1 + (nI 2)).toNatClampNeg)) < (I 140 (((nI 43) + (I 140 ((x1 + (nI 1)).toNatClampNeg))).toNatClampNeg)) then some (.int (nI 1), (mkh X I J)) else some (.int (nI 0), (mkh X I J)) else none else if am_in (x1 + (nI 2)) 2145 then if (I 140 (((nI 43) + (I 140 ((x1 + (nI 1)).toNatClampNeg))).toNatClampNeg)) = (I 140 ((x1 + (nI 2)).toNatClampNeg)) then some (.int (nI 1), (mkh X I J)) else some (.int (nI 0), (mkh X I J)) else none else none else none else none else none else none := by
  rfl
theorem fX9_isSo (N d : Nat) {X : lt_X} (x1 : Int32) (I : Nat → Nat → Int32) (J : Nat → Nat → Int64) : am_G am_prog N (d + 1) 346 [.ref 135, .int x1] (mkh X I J) = am_run (am_G am_prog N d) eX9_isSo uX9_isSo N 0 [(0, .ref 135), (1, .int x1)] [] (mkh X I J) := by
  refine (am_G_at N d 346 mX9_isSo _ _ rfl).trans ?_
  rfl
theorem gX9_isSo (N d : Nat) {X : lt_X} (x1 : Int32) (I : Nat → Nat → Int32) (J : Nat → Nat → Int64) : am_G am_prog (N + 30) (d + 1) 346 [.ref 135, .int x1] (mkh X I J) = RX9_isSo_0 N d (N + 30) X x1 I J := fX9_isSo (N + 30) (d + 0) x1 I J
def RX9_doOne_0 (N d n : Nat) (X : lt_X) (x1 : Int32) (I : Nat → Nat → Int32) (J : Nat → Nat → Int64) : am_O := am_run (am_G am_prog (N + 30) (d + 0)) eX9_doOne uX9_doOne n 0 [(0, .ref 135), (1, .int x1)] [] (mkh X I J)
def RX9_doOne_111 (N d n : Nat) (X : lt_X) (x1 : Int32) (x2 : Int32) (x3 : Int32) (I : Nat → Nat → Int32) (J : Nat → Nat → Int64) : am_O := am_run (am_G am_prog (N + 30) (d + 0)) eX9_doOne uX9_doOne n 111 [(0, .ref 135), (1, .int x1), (2, .int x2), (3, .int x3)] [] (mkh X I J)
def RX9_doOne_120 (N d n : Nat) (X : lt_X) (x1 : Int32) (x2 : Int32) (x4 : Int32) (I : Nat → Nat → Int32) (J : Nat → Nat → Int64) : am_O := am_run (am_G am_prog (N + 30) (d + 0)) eX9_doOne uX9_doOne n 120 [(0, .ref 135), (1, .int x1), (2, .int x2), (4, .int x4)] [] (mkh X I J)
def KX9_doOne_0 (N d n : Nat) (a0 : Int32) (z : Int32) (h : am_H) : am_O := if z = nI 0 then am_pI h 9 135 37 (a0 + (nI 1)) (fun h1 => some (.null, h1)) else am_pI h 9 135 37 (a0 + (nI 0)) (fun h2 => some (.null, h2))
def KX9_doOne_1 (N d n : Nat) (a0 : Int32) (a1 : Int32) (a2 : Int32) (z : Int32) (h : am_H) : am_O := if z = nI 0 then am_run (am_G am_prog (N + 30) (d + 0)) eX9_doOne uX9_doOne n 111 [(0, .ref 135), (1, .int a2), (2, .int a1), (3, .int a0)] [] h else am_gR h 9 135 20 (fun y1 => am_lI h 10 y1 (a1 + (nI 8)) (fun y2 => am_cV (am_G am_prog (N + 30) (d + 0) 348 [.ref 135, .int (a2 + (nI 1)), .int y2] h) (fun h3 => some (.null, h3))))
def KX9_doOne_2 (N d n : Nat) (a0 : Int32) (a1 : Int32) (a2 : Int32) (h : am_H) : am_O := am_run (am_G am_prog (N + 30) (d + 0)) eX9_doOne uX9_doOne n 120 [(0, .ref 135), (1, .int a0), (2, .int a1), (4, .int (a2 + (nI 1)))] [] h
def KX9_doOne_3 (N d n : Nat) (h : am_H) : am_O := some (.null, h)
set_option maxHeartbeats 4000000 in
set_option maxRecDepth 100000 in
theorem sX9_doOne_0 (N d n : Nat) {X : lt_X} (x1 : Int32) (I : Nat → Nat → Int32) (J : Nat → Nat → Int64) : RX9_doOne_0 N d (n + 1) X x1 I J = if (I 135 36) = (nI 300) then some (.null, (mkh X (u2 (u2 I 135 34 (nI 1)) 135 41 (nI 1)) J)) else if am_in ((nI 159) + ((nI 9) * x1)) 2145 then if (I 140 (((nI 159) + ((nI 9) * x1)).toNatClampNeg)) < (nI 7) then am_cI (am_G am_prog (N + 30) (d + 0) 345 [.ref 135, .int ((nI 159) + ((nI 9) * x1))] (mkh X (u2 I 135 36 ((I 135 36) + (nI 1))) J)) (KX9_doOne_0 N d n (I 135 37)) else if (I 140 (((nI 159) + ((nI 9) * x1)).toNatClampNeg)) = (nI 7) then am_cI (am_G am_prog (N + 30) (d + 0) 346 [.ref 135, .int ((nI 159) + ((nI 9) * x1))] (mkh X (u2 I 135 36 ((I 135 36) + (nI 1))) J)) (KX9_doOne_1 N d n (I 140 (((nI 159) + ((nI 9) * x1)).toNatClampNeg)) ((nI 159) + ((nI 9) * x1)) x1) else RX9_doOne_111 N d n X x1 ((nI 159) + ((nI 9) * x1)) (I 140 (((nI 159) + ((nI 9) * x1)).toNatClampNeg)) (u2 I 135 36 ((I 135 36) + (nI 1))) J else none := by
  rfl
set_option maxHeartbeats 4000000 in
set_option maxRecDepth 100000 in
theorem sX9_doOne_111 (N d n : Nat) {X : lt_X} (x1 : Int32) (x2 : Int32) (x3 : Int32) (I : Nat → Nat → Int32) (J : Nat → Nat → Int64) : RX9_doOne_111 N d (n + 1) X x1 x2 x3 I J = if x3 = (nI 8) then RX9_doOne_120 N d n X x1 x2 (nI 0) I J else if (nI 8) < x3 then some (.null, (mkh X (u2 I 135 34 (nI 1)) J)) else some (.null, (mkh X I J)) := by
  rfl
set_option maxHeartbeats 4000000 in
set_option maxRecDepth 100000 in
theorem sX9_doOne_120 (N d n : Nat) {X : lt_X} (x1 : Int32) (x2 : Int32) (x4 : Int32) (I : Nat → Nat → Int32) (J : Nat → Nat → Int64) : RX9_doOne_120 N d (n + 1) X x1 x2 x4 I J = if am_in (x2 + (nI 1)) 2145 then if x4 < (I 140 ((x2 + (nI 1)).toNatClampNeg)) then if (I 135 34) = nI 0 then if am_in (x2 + (nI 8)) 2145 then am_cV (am_G am_prog (N + 30) (d + 0) 348 [.ref 135, .int (x1 + (nI 1)), .int (I 140 ((x2 + (nI 8)).toNatClampNeg))] (mkh X I J)) (KX9_doOne_2 N d n x1 x2 x4) else none else some (.null, (mkh X I J)) else some (.null, (mkh X I J)) else none := by
  rfl
set_option maxHeartbeats 4000000 in
set_option maxRecDepth 100000 in
theorem kX9_doOne_0 (N d n : Nat) {X : lt_X} (a0 : Int32) (z : Int32) (I : Nat → Nat → Int32) (J : Nat → Nat → Int64) : KX9_doOne_0 N d n a0 z (mkh X I J) = if z = nI 0 then some (.null, (mkh X (u2 I 135 37 (a0 + (nI 1))) J)) else some (.null, (mkh X (u2 I 135 37 (a0 + (nI 0))) J)) := by
  rfl
set_option maxHeartbeats 4000000 in
set_option maxRecDepth 100000 in
theorem kX9_doOne_1 (N d n : Nat) {X : lt_X} (a0 : Int32) (a1 : Int32) (a2 : Int32) (z : Int32) (I : Nat → Nat → Int32) (J : Nat → Nat → Int64) : KX9_doOne_1 N d n a0 a1 a2 z (mkh X I J) = if z = nI 0 then RX9_doOne_111 N d n X a2 a1 a0 I J else if am_in (a1 + (nI 8)) 2145 then am_cV (am_G am_prog (N + 30) (d + 0) 348 [.ref 135, .int (a2 + (nI 1)), .int (I 140 ((a1 + (nI 8)).toNatClampNeg))] (mkh X I J)) (KX9_doOne_3 N d n ) else none := by
  rfl
set_option maxHeartbeats 4000000 in
set_option maxRecDepth 100000 in
theorem kX9_doOne_2 (N d n : Nat) {X : lt_X} (a0 : Int32) (a1 : Int32) (a2 : Int32) (I : Nat → Nat → Int32) (J : Nat → Nat → Int64) : KX9_doOne_2 N d n a0 a1 a2 (mkh X I J) = RX9_doOne_120 N d n X a0 a1 (a2 + (nI 1)) I J := by
  rfl
set_option maxHeartbeats 4000000 in
set_option maxRecDepth 100000 in
theorem kX9_doOne_3 (N d n : Nat) {X : lt_X} (I : Nat → Nat → Int32) (J : Nat → Nat → Int64) : KX9_doOne_3 N d n (mkh X I J) = some (.null, (mkh X I J)) := by
  rfl
theorem fX9_doOne (N d : Nat) {X : lt_X} (x1 : Int32) (I : Nat → Nat → Int32) (J : Nat → Nat → Int64) : am_G am_prog N (d + 1) 347 [.ref 135, .int x1] (mkh X I J) = am_run (am_G am_prog N d) eX9_doOne uX9_doOne N 0 [(0, .ref 135), (1, .int x1)] [] (mkh X I J) := by
  refine (am_G_at N d 347 mX9_doOne _ _ rfl).trans ?_
  rfl
theorem gX9_doOne (N d : Nat) {X : lt_X} (x1 : Int32) (I : Nat → Nat → Int32) (J : Nat → Nat → Int64) : am_G am_prog (N + 30) (d + 1) 347 [.ref 135, .int x1] (mkh X I J) = RX9_doOne_0 N d (N + 30) X x1 I J := fX9_doOne (N + 30) (d + 0) x1 I J
def RX9_doAll_0 (N d n : Nat) (X : lt_X) (x1 : Int32) (x2 : Int32) (I : Nat → Nat → Int32) (J : Nat → Nat → Int64) : am_O := am_run (am_G am_prog (N + 30) (d + 0)) eX9_doAll uX9_doAll n 0 [(0, .ref 135), (1, .int x1), (2, .int x2)] [] (mkh X I J)
def RX9_doAll_2 (N d n : Nat) (X : lt_X) (x2 : Int32) (x3 : Int32) (I : Nat → Nat → Int32) (J : Nat → Nat → Int64) : am_O := am_run (am_G am_prog (N + 30) (d + 0)) eX9_doAll uX9_doAll n 2 [(0, .ref 135), (2, .int x2), (3, .int x3)] [] (mkh X I J)
def KX9_doAll_0 (N d n : Nat) (a0 : Int32) (a1 : Int32) (h : am_H) : am_O := am_gR h 9 135 20 (fun y1 => am_lI h 10 y1 (((nI 159) + ((nI 9) * a1)) + (nI 8)) (fun y2 => am_run (am_G am_prog (N + 30) (d + 0)) eX9_doAll uX9_doAll n 2 [(0, .ref 135), (2, .int a0), (3, .int y2)] [] h))
set_option maxHeartbeats 4000000 in
set_option maxRecDepth 100000 in
theorem sX9_doAll_0 (N d n : Nat) {X : lt_X} (x1 : Int32) (x2 : Int32) (I : Nat → Nat → Int32) (J : Nat → Nat → Int64) : RX9_doAll_0 N d (n + 1) X x1 x2 I J = RX9_doAll_2 N d n X x2 x1 I J := by
  rfl
set_option maxHeartbeats 4000000 in
set_option maxRecDepth 100000 in
theorem sX9_doAll_2 (N d n : Nat) {X : lt_X} (x2 : Int32) (x3 : Int32) (I : Nat → Nat → Int32) (J : Nat → Nat → Int64) : RX9_doAll_2 N d (n + 1) X x2 x3 I J = if x3 < x2 then if (I 135 34) = nI 0 then am_cV (am_G am_prog (N + 30) (d + 0) 347 [.ref 135, .int x3] (mkh X I J)) (KX9_doAll_0 N d n x2 x3) else some (.null, (mkh X I J)) else some (.null, (mkh X I J)) := by
  rfl
set_option maxHeartbeats 4000000 in
set_option maxRecDepth 100000 in
theorem kX9_doAll_0 (N d n : Nat) {X : lt_X} (a0 : Int32) (a1 : Int32) (I : Nat → Nat → Int32) (J : Nat → Nat → Int64) : KX9_doAll_0 N d n a0 a1 (mkh X I J) = if am_in (((nI 159) + ((nI 9) * a1)) + (nI 8)) 2145 then RX9_doAll_2 N d n X a0 (I 140 ((((nI 159) + ((nI 9) * a1)) + (nI 8)).toNatClampNeg)) I J else none := by
  rfl
theorem fX9_doAll (N d : Nat) {X : lt_X} (x1 : Int32) (x2 : Int32) (I : Nat → Nat → Int32) (J : Nat → Nat → Int64) : am_G am_prog N (d + 1) 348 [.ref 135, .int x1, .int x2] (mkh X I J) = am_run (am_G am_prog N d) eX9_doAll uX9_doAll N 0 [(0, .ref 135), (1, .int x1), (2, .int x2)] [] (mkh X I J) := by
  refine (am_G_at N d 348 mX9_doAll _ _ rfl).trans ?_
  rfl
theorem gX9_doAll (N d : Nat) {X : lt_X} (x1 : Int32) (x2 : Int32) (I : Nat → Nat → Int32) (J : Nat → Nat → Int64) : am_G am_prog (N + 30) (d + 1) 348 [.ref 135, .int x1, .int x2] (mkh X I J) = RX9_doAll_0 N d (N + 30) X x1 x2 I J := fX9_doAll (N + 30) (d + 0) x1 x2 I J
def RX9_runsDials_0 (N d n : Nat) (X : lt_X) (x1 : Int32) (I : Nat → Nat → Int32) (J : Nat → Nat → Int64) : am_O := am_run (am_G am_prog (N + 30) (d + 0)) eX9_runsDials uX9_runsDials n 0 [(0, .ref 135), (1, .int x1)] [] (mkh X I J)
def KX9_runsDials_0 (N d n : Nat) (h : am_H) : am_O := some (.null, h)
set_option maxHeartbeats 4000000 in
set_option maxRecDepth 100000 in
theorem sX9_runsDials_0 (N d n : Nat) {X : lt_X} (x1 : Int32) (I : Nat → Nat → Int32) (J : Nat → Nat → Int64) : RX9_runsDials_0 N d (n + 1) X x1 I J = am_cV (am_G am_prog (N + 30) (d + 0) 348 [.ref 135, .int (nI 0), .int (I 140 158)] (mkh X (u2 (u2 (u2 (u2 (u2 (u2 (u2 (u2 I 135 35 x1) 135 36 (nI 0)) 135 37 (nI 0)) 135 38 (nI 0)) 135 39 (nI 0)) 135 40 (nI 0)) 135 41 (nI 0)) 135 34 (nI 0)) J)) (KX9_runsDials_0 N d n ) := by
  rfl
set_option maxHeartbeats 4000000 in
set_option maxRecDepth 100000 in
theorem kX9_runsDials_0 (N d n : Nat) {X : lt_X} (I : Nat → Nat → Int32) (J : Nat → Nat → Int64) : KX9_runsDials_0 N d n (mkh X I J) = some (.null, (mkh X I J)) := by
  rfl
theorem fX9_runsDials (N d : Nat) {X : lt_X} (x1 : Int32) (I : Nat → Nat → Int32) (J : Nat → Nat → Int64) : am_G am_prog N (d + 1) 349 [.ref 135, .int x1] (mkh X I J) = am_run (am_G am_prog N d) eX9_runsDials uX9_runsDials N 0 [(0, .ref 135), (1, .int x1)] [] (mkh X I J) := by
  refine (am_G_at N d 349 mX9_runsDials _ _ rfl).trans ?_
  rfl
theorem gX9_runsDials (N d : Nat) {X : lt_X} (x1 : Int32) (I : Nat → Nat → Int32) (J : Nat → Nat → Int64) : am_G am_prog (N + 30) (d + 1) 349 [.ref 135, .int x1] (mkh X I J) = RX9_runsDials_0 N d (N + 30) X x1 I J := fX9_runsDials (N + 30) (d + 0) x1 I J
def RX9_live_0 (N d n : Nat) (X : lt_X) (x1 : Int32) (I : Nat → Nat → Int32) (J : Nat → Nat → Int64) : am_O := am_run (am_G am_prog (N + 30) (d + 1)) eX9_live uX9_live n 0 [(0, .ref 135), (1, .int x1)] [] (mkh X I J)
def KX9_live_0 (N d n : Nat) (a0 : Int32) (z : Int32) (h : am_H) : am_O := if z = nI 0 then am_cI (am_G am_prog (N + 30) (d + 1) 188 [.ref 135, .int (nI 5)] h) (fun r2 h1 => some (.int r2, h1)) else am_gR h 9 135 20 (fun y3 => am_lI h 10 y3 (nI 157) (fun y4 => if y4 = nI 0 then am_cI (am_G am_prog (N + 30) (d + 1) 188 [.ref 135, .int (nI 8)] h) (fun r6 h5 => some (.int r6, h5)) else am_cV (am_G am_prog (N + 30) (d + 1) 349 [.ref 135, .int a0] h) (fun h7 => am_gR h7 9 135 32 (fun y8 => am_gI h7 9 135 37 (fun y9 => am_tI h7 y8 (nI 0) y9 (fun h10 => am_gR h10 9 135 32 (fun y11 => am_gI h10 9 135 38 (fun y12 => am_tI h10 y11 (nI 1) y12 (fun h13 => am_gR h13 9 135 32 (fun y14 => am_gI h13 9 135 39 (fun y15 => am_tI h13 y14 (nI 2) y15 (fun h16 => am_gR h16 9 135 32 (fun y17 => am_gI h16 9 135 40 (fun y18 => am_tI h16 y17 (nI 3) y18 (fun h19 => am_gR h19 9 135 32 (fun y20 => am_gI h19 9 135 41 (fun y21 => am_tI h19 y20 (nI 4) y21 (fun h22 => am_pZ h22 9 135 33 (nI 1) (fun h23 => am_gI h23 9 135 36 (fun y24 => some (.int y24, h23)))))))))))))))))))))
def KX9_live_1 (N d n : Nat) (h : am_H) : am_O := am_gR h 9 135 32 (fun y1 => am_gI h 9 135 37 (fun y2 => am_tI h y1 (nI 0) y2 (fun h3 => am_gR h3 9 135 32 (fun y4 => am_gI h3 9 135 38 (fun y5 => am_tI h3 y4 (nI 1) y5 (fun h6 => am_gR h6 9 135 32 (fun y7 => am_gI h6 9 135 39 (fun y8 => am_tI h6 y7 (nI 2) y8 (fun h9 => am_gR h9 9 135 32 (fun y10 => am_gI h9 9 135 40 (fun y11 => am_tI h9 y10 (nI 3) y11 (fun h12 => am_gR h12 9 135 32 (fun y13 => am_gI h12 9 135 41 (fun y14 => am_tI h12 y13 (nI 4) y14 (fun h15 => am_pZ h15 9 135 33 (nI 1) (fun h16 => am_gI h16 9 135 36 (fun y17 => some (.int y17, h16))))))))))))))))))
set_option maxHeartbeats 4000000 in
set_option maxRecDepth 100000 in
theorem sX9_live_0 (N d n : Nat) {X : lt_X} (x1 : Int32) (I : Nat → Nat → Int32) (J : Nat → Nat → Int64) : RX9_live_0 N d (n + 1) X x1 I J = am_cI (am_G am_prog (N + 30) (d + 1) 190 [.long x1.toInt64, .long (lN 0), .long (lN 9999)] (mkh X (u2 (u2 I 135 1 (nI 0)) 135 0 (nI 0)) J)) (KX9_live_0 N d n x1) := by
  rfl
set_option maxHeartbeats 4000000 in
set_option maxRecDepth 100000 in
theorem kX9_live_0 (N d n : Nat) {X : lt_X} (a0 : Int32) (z : Int32) (I : Nat → Nat → Int32) (J : Nat → Nat → Int64) : KX9_live_0 N d n a0 z (mkh X I J) = if z = nI 0 then some (.int (-1), (mkh X (u2 I 135 0 (nI 5)) J)) else if (I 140 157) = nI 0 then some (.int (-1), (mkh X (u2 I 135 0 (nI 8)) J)) else am_cV (am_G am_prog (N + 30) (d + 1) 349 [.ref 135, .int a0] (mkh X I J)) (KX9_live_1 N d n ) := by
  rfl
set_option maxHeartbeats 4000000 in
set_option maxRecDepth 100000 in
theorem kX9_live_1 (N d n : Nat) {X : lt_X} (I : Nat → Nat → Int32) (J : Nat → Nat → Int64) : KX9_live_1 N d n (mkh X I J) = some (.int (I 135 36), (mkh X (u2 (u2 (u2 (u2 (u2 (u2 I 146 0 (I 135 37)) 146 1 (I 135 38)) 146 2 (I 135 39)) 146 3 (I 135 40)) 146 4 (I 135 41)) 135 33 (nI 1)) J)) := by
  rfl
theorem fX9_live (N d : Nat) {X : lt_X} (x1 : Int32) (I : Nat → Nat → Int32) (J : Nat → Nat → Int64) : am_G am_prog N (d + 1) 350 [.ref 135, .int x1] (mkh X I J) = am_run (am_G am_prog N d) eX9_live uX9_live N 0 [(0, .ref 135), (1, .int x1)] [] (mkh X I J) := by
  refine (am_G_at N d 350 mX9_live _ _ rfl).trans ?_
  rfl
theorem gX9_live (N d : Nat) {X : lt_X} (x1 : Int32) (I : Nat → Nat → Int32) (J : Nat → Nat → Int64) : am_G am_prog (N + 30) (d + 2) 350 [.ref 135, .int x1] (mkh X I J) = RX9_live_0 N d (N + 30) X x1 I J := fX9_live (N + 30) (d + 1) x1 I J
def RX9_lived_0 (N d n : Nat) (X : lt_X) (x1 : Int32) (I : Nat → Nat → Int32) (J : Nat → Nat → Int64) : am_O := am_run (am_G am_prog (N + 30) (d + 1)) eX9_lived uX9_lived n 0 [(0, .ref 135), (1, .int x1)] [] (mkh X I J)
def KX9_lived_0 (N d n : Nat) (a0 : Int32) (z : Int32) (h : am_H) : am_O := if z = nI 0 then am_cI (am_G am_prog (N + 30) (d + 1) 188 [.ref 135, .int (nI 5)] h) (fun r2 h1 => some (.int r2, h1)) else am_gI h 9 135 33 (fun y3 => if y3 = nI 0 then am_cI (am_G am_prog (N + 30) (d + 1) 188 [.ref 135, .int (nI 8)] h) (fun r5 h4 => some (.int r5, h4)) else am_gR h 9 135 32 (fun y6 => am_lI h 10 y6 a0 (fun y7 => some (.int y7, h))))
set_option maxHeartbeats 4000000 in
set_option maxRecDepth 100000 in
theorem sX9_lived_0 (N d n : Nat) {X : lt_X} (x1 : Int32) (I : Nat → Nat → Int32) (J : Nat → Nat → Int64) : RX9_lived_0 N d (n + 1) X x1 I J = am_cI (am_G am_prog (N + 30) (d + 1) 190 [.long x1.toInt64, .long (lN 0), .long (lN 4)] (mkh X (u2 (u2 I 135 1 (nI 0)) 135 0 (nI 0)) J)) (KX9_lived_0 N d n x1) := by
  rfl
set_option maxHeartbeats 4000000 in
set_option maxRecDepth 100000 in
theorem kX9_lived_0 (N d n : Nat) {X : lt_X} (a0 : Int32) (z : Int32) (I : Nat → Nat → Int32) (J : Nat → Nat → Int64) : KX9_lived_0 N d n a0 z (mkh X I J) = if z = nI 0 then some (.int (-1), (mkh X (u2 I 135 0 (nI 5)) J)) else if (I 135 33) = nI 0 then some (.int (-1), (mkh X (u2 I 135 0 (nI 8)) J)) else if am_in a0 5 then some (.int (I 146 a0.toNatClampNeg), (mkh X I J)) else none := by
  rfl
theorem fX9_lived (N d : Nat) {X : lt_X} (x1 : Int32) (I : Nat → Nat → Int32) (J : Nat → Nat → Int64) : am_G am_prog N (d + 1) 351 [.ref 135, .int x1] (mkh X I J) = am_run (am_G am_prog N d) eX9_lived uX9_lived N 0 [(0, .ref 135), (1, .int x1)] [] (mkh X I J) := by
  refine (am_G_at N d 351 mX9_lived _ _ rfl).trans ?_
  rfl
theorem gX9_lived (N d : Nat) {X : lt_X} (x1 : Int32) (I : Nat → Nat → Int32) (J : Nat → Nat → Int64) : am_G am_prog (N + 30) (d + 2) 351 [.ref 135, .int x1] (mkh X I J) = RX9_lived_0 N d (N + 30) X x1 I J := fX9_lived (N + 30) (d + 1) x1 I J
def RX9_mean_0 (N d n : Nat) (X : lt_X) (x1 : Int32) (x2 : Int32) (I : Nat → Nat → Int32) (J : Nat → Nat → Int64) : am_O := am_run (am_G am_prog (N + 30) (d + 1)) eX9_mean uX9_mean n 0 [(0, .ref 135), (1, .int x1), (2, .int x2)] [] (mkh X I J)
def RX9_mean_63 (N d n : Nat) (X : lt_X) (x1 : Int32) (x2 : Int32) (x3 : Int32) (I : Nat → Nat → Int32) (J : Nat → Nat → Int64) : am_O := am_run (am_G am_prog (N + 30) (d + 1)) eX9_mean uX9_mean n 63 [(0, .ref 135), (1, .int x1), (2, .int x2), (3, .int x3)] [] (mkh X I J)
def RX9_mean_93 (N d n : Nat) (X : lt_X) (x1 : Int32) (x2 : Int32) (x3 : Int64) (x5 : Int32) (I : Nat → Nat → Int32) (J : Nat → Nat → Int64) : am_O := am_run (am_G am_prog (N + 30) (d + 1)) eX9_mean uX9_mean n 93 [(0, .ref 135), (1, .int x1), (2, .int x2), (3, .long x3), (5, .int x5)] [] (mkh X I J)
def RX9_mean_120 (N d n : Nat) (X : lt_X) (x1 : Int32) (x2 : Int32) (x3 : Int64) (x5 : Int32) (x6 : Int32) (I : Nat → Nat → Int32) (J : Nat → Nat → Int64) : am_O := am_run (am_G am_prog (N + 30) (d + 1)) eX9_mean uX9_mean n 120 [(0, .ref 135), (1, .int x1), (2, .int x2), (3, .long x3), (5, .int x5), (6, .int x6)] [] (mkh X I J)
def KX9_mean_0 (N d n : Nat) (a0 : Int32) (a1 : Int32) (z : Int32) (h : am_H) : am_O := if z = nI 0 then am_cI (am_G am_prog (N + 30) (d + 1) 189 [.ref 135, .int (nI 5)] h) (fun r2 h1 => am_nb r2 (some (.int r2, h1))) else am_cI (am_G am_prog (N + 30) (d + 1) 190 [.long a0.toInt64, .long (lN 0), .long (((nI 10000) - a1).toInt64)] h) (fun r4 h3 => if r4 = nI 0 then am_cI (am_G am_prog (N + 30) (d + 1) 189 [.ref 135, .int (nI 5)] h3) (fun r6 h5 => am_nb r6 (some (.int r6, h5))) else am_gR h3 9 135 20 (fun y7 => am_lI h3 10 y7 (nI 157) (fun y8 => if y8 = nI 0 then am_cI (am_G am_prog (N + 30) (d + 1) 189 [.ref 135, .int (nI 8)] h3) (fun r10 h9 => am_nb r10 (some (.int r10, h9))) else am_run (am_G am_prog (N + 30) (d + 1)) eX9_mean uX9_mean n 63 [(0, .ref 135), (1, .int a0), (2, .int a1), (3, .int (nI 0))] [] h3)))
def KX9_mean_1 (N d n : Nat) (a0 : Int32) (a1 : Int32) (a2 : Int64) (a3 : Int32) (h : am_H) : am_O := am_cI (am_G am_prog (N + 30) (d + 1) 264 [.ref 135, .int (nI 43)] h) (fun r2 h1 => am_run (am_G am_prog (N + 30) (d + 1)) eX9_mean uX9_mean n 120 [(0, .ref 135), (1, .int a0), (2, .int a1), (3, .long (a2 + r2.toInt64)), (5, .int a3), (6, .int (nI 0))] [] h1)
def KX9_mean_2 (N d n : Nat) (z : Int32) (h : am_H) : am_O := am_nb z (some (.int z, h))
def KX9_mean_3 (N d n : Nat) (a0 : Int32) (a1 : Int32) (z : Int32) (h : am_H) : am_O := if z = nI 0 then am_cI (am_G am_prog (N + 30) (d + 1) 189 [.ref 135, .int (nI 5)] h) (fun r2 h1 => am_nb r2 (some (.int r2, h1))) else am_gR h 9 135 20 (fun y3 => am_lI h 10 y3 (nI 157) (fun y4 => if y4 = nI 0 then am_cI (am_G am_prog (N + 30) (d + 1) 189 [.ref 135, .int (nI 8)] h) (fun r6 h5 => am_nb r6 (some (.int r6, h5))) else am_run (am_G am_prog (N + 30) (d + 1)) eX9_mean uX9_mean n 63 [(0, .ref 135), (1, .int a0), (2, .int a1), (3, .int (nI 0))] [] h))
def KX9_mean_4 (N d n : Nat) (a0 : Int32) (a1 : Int32) (a2 : Int32) (a3 : Int64) (z : Int32) (h : am_H) : am_O := am_run (am_G am_prog (N + 30) (d + 1)) eX9_mean uX9_mean n 120 [(0, .ref 135), (1, .int a0), (2, .int a1), (3, .long (a3 + z.toInt64)), (5, .int a2), (6, .int (nI 0))] [] h
set_option maxHeartbeats 4000000 in
set_option maxRecDepth 100000 in
theorem sX9_mean_0 (N d n : Nat) {X : lt_X} (x1 : Int32) (x2 : Int32) (I : Nat → Nat → Int32) (J : Nat → Nat → Int64) : RX9_mean_0 N d (n + 1) X x1 x2 I J = am_cI (am_G am_prog (N + 30) (d + 1) 190 [.long x2.toInt64, .long (lN 1), .long (lN 20)] (mkh X (u2 (u2 I 135 1 (nI 0)) 135 0 (nI 0)) J)) (KX9_mean_0 N d n x1 x2) := by
  rfl
set_option maxHeartbeats 4000000 in
set_option maxRecDepth 100000 in
theorem sX9_mean_63 (N d n : Nat) {X : lt_X} (x1 : Int32) (x2 : Int32) (x3 : Int32) (I : Nat → Nat → Int32) (J : Nat → Nat → Int64) : RX9_mean_63 N d (n + 1) X x1 x2 x3 I J = if x3 < (nI 157) then if am_in x3 2145 then if am_in x3 157 then RX9_mean_63 N d n X x1 x2 (x3 + (nI 1)) (u2 I 141 x3.toNatClampNeg (I 140 x3.toNatClampNeg)) J else none else none else RX9_mean_93 N d n X x1 x2 (lN 0) (nI 0) I J := by
  rfl
set_option maxHeartbeats 4000000 in
set_option maxRecDepth 100000 in
theorem sX9_mean_93 (N d n : Nat) {X : lt_X} (x1 : Int32) (x2 : Int32) (x3 : Int64) (x5 : Int32) (I : Nat → Nat → Int32) (J : Nat → Nat → Int64) : RX9_mean_93 N d (n + 1) X x1 x2 x3 x5 I J = if x5 < x2 then am_cV (am_G am_prog (N + 30) (d + 1) 349 [.ref 135, .int (x1 + x5)] (mkh X I J)) (KX9_mean_1 N d n x1 x2 x3 x5) else am_cI (am_G am_prog (N + 30) (d + 1) 191 [.ref 135, .long x3, .long x2.toInt64] (mkh X I J)) (KX9_mean_2 N d n ) := by
  rfl
set_option maxHeartbeats 4000000 in
set_option maxRecDepth 100000 in
theorem sX9_mean_120 (N d n : Nat) {X : lt_X} (x1 : Int32) (x2 : Int32) (x3 : Int64) (x5 : Int32) (x6 : Int32) (I : Nat → Nat → Int32) (J : Nat → Nat → Int64) : RX9_mean_120 N d (n + 1) X x1 x2 x3 x5 x6 I J = if x6 < (nI 157) then if am_in x6 157 then if am_in x6 2145 then RX9_mean_120 N d n X x1 x2 x3 x5 (x6 + (nI 1)) (u2 I 140 x6.toNatClampNeg (I 141 x6.toNatClampNeg)) J else none else none else RX9_mean_93 N d n X x1 x2 x3 (x5 + (nI 1)) I J := by
  rfl
set_option maxHeartbeats 4000000 in
set_option maxRecDepth 100000 in
theorem kX9_mean_0 (N d n : Nat) {X : lt_X} (a0 : Int32) (a1 : Int32) (z : Int32) (I : Nat → Nat → Int32) (J : Nat → Nat → Int64) : KX9_mean_0 N d n a0 a1 z (mkh X I J) = if z = nI 0 then some (.int (nI 0), (mkh X (u2 I 135 0 (nI 5)) J)) else am_cI (am_G am_prog (N + 30) (d + 1) 190 [.long a0.toInt64, .long (lN 0), .long (((nI 10000) - a1).toInt64)] (mkh X I J)) (KX9_mean_3 N d n a0 a1) := by
  rfl
set_option maxHeartbeats 4000000 in
set_option maxRecDepth 100000 in
theorem kX9_mean_1 (N d n : Nat) {X : lt_X} (a0 : Int32) (a1 : Int32) (a2 : Int64) (a3 : Int32) (I : Nat → Nat → Int32) (J : Nat → Nat → Int64) : KX9_mean_1 N d n a0 a1 a2 a3 (mkh X I J) = am_cI (am_G am_prog (N + 30) (d + 1) 264 [.ref 135, .int (nI 43)] (mkh X I J)) (KX9_mean_4 N d n a0 a1 a3 a2) := by
  rfl
set_option maxHeartbeats 4000000 in
set_option maxRecDepth 100000 in
theorem kX9_mean_2 (N d n : Nat) {X : lt_X} (z : Int32) (I : Nat → Nat → Int32) (J : Nat → Nat → Int64) : KX9_mean_2 N d n z (mkh X I J) = am_nb z (some (.int z, (mkh X I J))) := by
  rfl
set_option maxHeartbeats 4000000 in
set_option maxRecDepth 100000 in
theorem kX9_mean_3 (N d n : Nat) {X : lt_X} (a0 : Int32) (a1 : Int32) (z : Int32) (I : Nat → Nat → Int32) (J : Nat → Nat → Int64) : KX9_mean_3 N d n a0 a1 z (mkh X I J) = if z = nI 0 then some (.int (nI 0), (mkh X (u2 I 135 0 (nI 5)) J)) else if (I 140 157) = nI 0 then some (.int (nI 0), (mkh X (u2 I 135 0 (nI 8)) J)) else RX9_mean_63 N d n X a0 a1 (nI 0) I J := by
  rfl
set_option maxHeartbeats 4000000 in
set_option maxRecDepth 100000 in
theorem kX9_mean_4 (N d n : Nat) {X : lt_X} (a0 : Int32) (a1 : Int32) (a2 : Int32) (a3 : Int64) (z : Int32) (I : Nat → Nat → Int32) (J : Nat → Nat → Int64) : KX9_mean_4 N d n a0 a1 a2 a3 z (mkh X I J) = RX9_mean_120 N d n X a0 a1 (a3 + z.toInt64) a2 (nI 0) I J := by
  rfl
theorem fX9_mean (N d : Nat) {X : lt_X} (x1 : Int32) (x2 : Int32) (I : Nat → Nat → Int32) (J : Nat → Nat → Int64) : am_G am_prog N (d + 1) 352 [.ref 135, .int x1, .int x2] (mkh X I J) = am_run (am_G am_prog N d) eX9_mean uX9_mean N 0 [(0, .ref 135), (1, .int x1), (2, .int x2)] [] (mkh X I J) := by
  refine (am_G_at N d 352 mX9_mean _ _ rfl).trans ?_
  rfl
theorem gX9_mean (N d : Nat) {X : lt_X} (x1 : Int32) (x2 : Int32) (I : Nat → Nat → Int32) (J : Nat → Nat → Int64) : am_G am_prog (N + 30) (d + 2) 352 [.ref 135, .int x1, .int x2] (mkh X I J) = RX9_mean_0 N d (N + 30) X x1 x2 I J := fX9_mean (N + 30) (d + 1) x1 x2 I J
def RX9_copy_0 (N d n : Nat) (X : lt_X) (x1 : Int32) (x2 : Int32) (I : Nat → Nat → Int32) (J : Nat → Nat → Int64) : am_O := am_run (am_G am_prog (N + 30) (d + 0)) eX9_copy uX9_copy n 0 [(0, .ref 135), (1, .int x1), (2, .int x2)] [] (mkh X I J)
def RX9_copy_2 (N d n : Nat) (X : lt_X) (x1 : Int32) (x2 : Int32) (x3 : Int32) (I : Nat → Nat → Int32) (J : Nat → Nat → Int64) : am_O := am_run (am_G am_prog (N + 30) (d + 0)) eX9_copy uX9_copy n 2 [(0, .ref 135), (1, .int x1), (2, .int x2), (3, .int x3)] [] (mkh X I J)
def RX9_copy_41 (N d n : Nat) (X : lt_X) (x1 : Int32) (x2 : Int32) (x3 : Int32) (I : Nat → Nat → Int32) (J : Nat → Nat → Int64) : am_O := am_run (am_G am_prog (N + 30) (d + 0)) eX9_copy uX9_copy n 41 [(0, .ref 135), (1, .int x1), (2, .int x2), (3, .int x3)] [] (mkh X I J)
set_option maxHeartbeats 4000000 in
set_option maxRecDepth 100000 in
theorem sX9_copy_0 (N d n : Nat) {X : lt_X} (x1 : Int32) (x2 : Int32) (I : Nat → Nat → Int32) (J : Nat → Nat → Int64) : RX9_copy_0 N d (n + 1) X x1 x2 I J = RX9_copy_2 N d n X x1 x2 (nI 0) I J := by
  rfl
set_option maxHeartbeats 4000000 in
set_option maxRecDepth 100000 in
theorem sX9_copy_2 (N d n : Nat) {X : lt_X} (x1 : Int32) (x2 : Int32) (x3 : Int32) (I : Nat → Nat → Int32) (J : Nat → Nat → Int64) : RX9_copy_2 N d (n + 1) X x1 x2 x3 I J = if x3 < (nI 429) then if am_in (((nI 429) * x1) + x3) 2145 then if am_in (((nI 429) * x2) + x3) 2145 then RX9_copy_2 N d n X x1 x2 (x3 + (nI 1)) (u2 I 140 ((((nI 429) * x2) + x3).toNatClampNeg) (I 140 ((((nI 429) * x1) + x3).toNatClampNeg))) J else none else none else RX9_copy_41 N d n X x1 x2 (nI 0) I J := by
  rfl
set_option maxHeartbeats 4000000 in
set_option maxRecDepth 100000 in
theorem sX9_copy_41 (N d n : Nat) {X : lt_X} (x1 : Int32) (x2 : Int32) (x3 : Int32) (I : Nat → Nat → Int32) (J : Nat → Nat → Int64) : RX9_copy_41 N d (n + 1) X x1 x2 x3 I J = if x3 < (nI 24) then if am_in (((nI 24) * x1) + x3) 120 then if am_in (((nI 24) * x2) + x3) 120 then RX9_copy_41 N d n X x1 x2 (x3 + (nI 1)) I (u2L J 142 ((((nI 24) * x2) + x3).toNatClampNeg) (J 142 ((((nI 24) * x1) + x3).toNatClampNeg))) else none else none else some (.null, (mkh X I J)) := by
  rfl
theorem fX9_copy (N d : Nat) {X : lt_X} (x1 : Int32) (x2 : Int32) (I : Nat → Nat → Int32) (J : Nat → Nat → Int64) : am_G am_prog N (d + 1) 353 [.ref 135, .int x1, .int x2] (mkh X I J) = am_run (am_G am_prog N d) eX9_copy uX9_copy N 0 [(0, .ref 135), (1, .int x1), (2, .int x2)] [] (mkh X I J) := by
  refine (am_G_at N d 353 mX9_copy _ _ rfl).trans ?_
  rfl
theorem gX9_copy (N d : Nat) {X : lt_X} (x1 : Int32) (x2 : Int32) (I : Nat → Nat → Int32) (J : Nat → Nat → Int64) : am_G am_prog (N + 30) (d + 1) 353 [.ref 135, .int x1, .int x2] (mkh X I J) = RX9_copy_0 N d (N + 30) X x1 x2 I J := fX9_copy (N + 30) (d + 0) x1 x2 I J
def RX9_mark_0 (N d n : Nat) (X : lt_X) (I : Nat → Nat → Int32) (J : Nat → Nat → Int64) : am_O := am_run (am_G am_prog (N + 30) (d + 1)) eX9_mark uX9_mark n 0 [(0, .ref 135)] [] (mkh X I J)
def KX9_mark_0 (N d n : Nat) (h : am_H) : am_O := am_gI h 9 135 23 (fun y1 => some (.int y1, h))
set_option maxHeartbeats 4000000 in
set_option maxRecDepth 100000 in
theorem sX9_mark_0 (N d n : Nat) {X : lt_X} (I : Nat → Nat → Int32) (J : Nat → Nat → Int64) : RX9_mark_0 N d (n + 1) X I J = if (I 135 23) = (nI 3) then some (.int (-1), (mkh X (u2 (u2 (u2 I 135 1 (nI 0)) 135 0 (nI 0)) 135 0 (nI 7)) J)) else am_cV (am_G am_prog (N + 30) (d + 1) 353 [.ref 135, .int (nI 0), .int ((I 135 23) + (nI 1))] (mkh X (u2 (u2 (u2 I 135 1 (nI 0)) 135 0 (nI 0)) 135 23 ((I 135 23) + (nI 1))) J)) (KX9_mark_0 N d n ) := by
  rfl
set_option maxHeartbeats 4000000 in
set_option maxRecDepth 100000 in
theorem kX9_mark_0 (N d n : Nat) {X : lt_X} (I : Nat → Nat → Int32) (J : Nat → Nat → Int64) : KX9_mark_0 N d n (mkh X I J) = some (.int (I 135 23), (mkh X I J)) := by
  rfl
theorem fX9_mark (N d : Nat) {X : lt_X} (I : Nat → Nat → Int32) (J : Nat → Nat → Int64) : am_G am_prog N (d + 1) 354 [.ref 135] (mkh X I J) = am_run (am_G am_prog N d) eX9_mark uX9_mark N 0 [(0, .ref 135)] [] (mkh X I J) := by
  refine (am_G_at N d 354 mX9_mark _ _ rfl).trans ?_
  rfl
theorem gX9_mark (N d : Nat) {X : lt_X} (I : Nat → Nat → Int32) (J : Nat → Nat → Int64) : am_G am_prog (N + 30) (d + 2) 354 [.ref 135] (mkh X I J) = RX9_mark_0 N d (N + 30) X I J := fX9_mark (N + 30) (d + 1) I J
def RX9_back_0 (N d n : Nat) (X : lt_X) (I : Nat → Nat → Int32) (J : Nat → Nat → Int64) : am_O := am_run (am_G am_prog (N + 30) (d + 1)) eX9_back uX9_back n 0 [(0, .ref 135)] [] (mkh X I J)
def KX9_back_0 (N d n : Nat) (h : am_H) : am_O := am_gI h 9 135 23 (fun y1 => am_pI h 9 135 23 (y1 - (nI 1)) (fun h2 => am_gI h2 9 135 23 (fun y3 => some (.int y3, h2))))
set_option maxHeartbeats 4000000 in
set_option maxRecDepth 100000 in
theorem sX9_back_0 (N d n : Nat) {X : lt_X} (I : Nat → Nat → Int32) (J : Nat → Nat → Int64) : RX9_back_0 N d (n + 1) X I J = if (I 135 23) = nI 0 then some (.int (-1), (mkh X (u2 (u2 (u2 I 135 1 (nI 0)) 135 0 (nI 0)) 135 0 (nI 8)) J)) else am_cV (am_G am_prog (N + 30) (d + 1) 353 [.ref 135, .int (I 135 23), .int (nI 0)] (mkh X (u2 (u2 I 135 1 (nI 0)) 135 0 (nI 0)) J)) (KX9_back_0 N d n ) := by
  rfl
set_option maxHeartbeats 4000000 in
set_option maxRecDepth 100000 in
theorem kX9_back_0 (N d n : Nat) {X : lt_X} (I : Nat → Nat → Int32) (J : Nat → Nat → Int64) : KX9_back_0 N d n (mkh X I J) = some (.int ((I 135 23) - (nI 1)), (mkh X (u2 I 135 23 ((I 135 23) - (nI 1))) J)) := by
  rfl
theorem fX9_back (N d : Nat) {X : lt_X} (I : Nat → Nat → Int32) (J : Nat → Nat → Int64) : am_G am_prog N (d + 1) 355 [.ref 135] (mkh X I J) = am_run (am_G am_prog N d) eX9_back uX9_back N 0 [(0, .ref 135)] [] (mkh X I J) := by
  refine (am_G_at N d 355 mX9_back _ _ rfl).trans ?_
  rfl
theorem gX9_back (N d : Nat) {X : lt_X} (I : Nat → Nat → Int32) (J : Nat → Nat → Int64) : am_G am_prog (N + 30) (d + 2) 355 [.ref 135] (mkh X I J) = RX9_back_0 N d (N + 30) X I J := fX9_back (N + 30) (d + 1) I J
