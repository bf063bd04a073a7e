/-! printed by wip/whole/eqs4.py (sym4.py) -/
def RX9_leastLike_0 (N d n : Nat) (X : lt_X) (x1 : Int32) (x2 : Int32) (I : Nat → Nat → Int32) (J : Nat → Nat → Int64) : am_O := am_run (am_G am_prog (N + 30) (d + 1)) eX9_leastLike uX9_leastLike n 0 [(0, .ref 135), (1, .int x1), (2, .int x2)] [] (mkh X I J)
def RX9_leastLike_7 (N d n : Nat) (X : lt_X) (x1 : Int32) (x2 : Int32) (x3 : Int32) (x4 : Int32) (I : Nat → Nat → Int32) (J : Nat → Nat → Int64) : am_O := am_run (am_G am_prog (N + 30) (d + 1)) eX9_leastLike uX9_leastLike n 7 [(0, .ref 135), (1, .int x1), (2, .int x2), (3, .int x3), (4, .int x4)] [] (mkh X I J)
def KX9_leastLike_0 (N d n : Nat) (a0 : Int32) (a1 : Int32) (a2 : Int32) (a3 : Int32) (z : Int32) (h : am_H) : am_O := if z = nI 0 then am_run (am_G am_prog (N + 30) (d + 1)) eX9_leastLike uX9_leastLike n 7 [(0, .ref 135), (1, .int a0), (2, .int a1), (3, .int a2), (4, .int (a3 + (nI 1)))] [] h else am_cI (am_G am_prog (N + 30) (d + 1) 269 [.ref 135, .int a3, .int a1] h) (fun r2 h1 => am_run (am_G am_prog (N + 30) (d + 1)) eX9_leastLike uX9_leastLike n 7 [(0, .ref 135), (1, .int a0), (2, .int a1), (3, .int (if r2 < a2 then r2 else a2)), (4, .int (a3 + (nI 1)))] [] h1)
def KX9_leastLike_1 (N d n : Nat) (a0 : Int32) (a1 : Int32) (a2 : Int32) (a3 : Int32) (z : Int32) (h : am_H) : am_O := am_run (am_G am_prog (N + 30) (d + 1)) eX9_leastLike uX9_leastLike n 7 [(0, .ref 135), (1, .int a0), (2, .int a1), (3, .int (if z < a3 then z else a3)), (4, .int (a2 + (nI 1)))] [] h
set_option maxHeartbeats 4000000 in
set_option maxRecDepth 100000 in
theorem sX9_leastLike_0 (N d n : Nat) {X : lt_X} (x1 : Int32) (x2 : Int32) (I : Nat → Nat → Int32) (J : Nat → Nat → Int64) : RX9_leastLike_0 N d (n + 1) X x1 x2 I J = RX9_leastLike_7 N d n X x1 x2 (nI 9999) (nI 0) I J := by
  rfl
set_option maxHeartbeats 4000000 in
set_option maxRecDepth 100000 in
theorem sX9_leastLike_7 (N d n : Nat) {X : lt_X} (x1 : Int32) (x2 : Int32) (x3 : Int32) (x4 : Int32) (I : Nat → Nat → Int32) (J : Nat → Nat → Int64) : RX9_leastLike_7 N d (n + 1) X x1 x2 x3 x4 I J = if x4 < (I 140 2) then am_cI (am_G am_prog (N + 30) (d + 1) 201 [.int x1, .int x4] (mkh X I J)) (KX9_leastLike_0 N d n x1 x2 x3 x4) else some (.int x3, (mkh X I J)) := by
  rfl
set_option maxHeartbeats 4000000 in
set_option maxRecDepth 100000 in
theorem kX9_leastLike_0 (N d n : Nat) {X : lt_X} (a0 : Int32) (a1 : Int32) (a2 : Int32) (a3 : Int32) (z : Int32) (I : Nat → Nat → Int32) (J : Nat → Nat → Int64) : KX9_leastLike_0 N d n a0 a1 a2 a3 z (mkh X I J) = if z = nI 0 then RX9_leastLike_7 N d n X a0 a1 a2 (a3 + (nI 1)) I J else am_cI (am_G am_prog (N + 30) (d + 1) 269 [.ref 135, .int a3, .int a1] (mkh X I J)) (KX9_leastLike_1 N d n a0 a1 a3 a2) := by
  rfl
set_option maxHeartbeats 4000000 in
set_option maxRecDepth 100000 in
theorem kX9_leastLike_1 (N d n : Nat) {X : lt_X} (a0 : Int32) (a1 : Int32) (a2 : Int32) (a3 : Int32) (z : Int32) (I : Nat → Nat → Int32) (J : Nat → Nat → Int64) : KX9_leastLike_1 N d n a0 a1 a2 a3 z (mkh X I J) = RX9_leastLike_7 N d n X a0 a1 (if z < a3 then z else a3) (a2 + (nI 1)) I J := by
  rfl
theorem fX9_leastLike (N d : Nat) {X : lt_X} (x1 : Int32) (x2 : Int32) (I : Nat → Nat → Int32) (J : Nat → Nat → Int64) : am_G am_prog N (d + 1) 325 [.ref 135, .int x1, .int x2] (mkh X I J) = am_run (am_G am_prog N d) eX9_leastLike uX9_leastLike N 0 [(0, .ref 135), (1, .int x1), (2, .int x2)] [] (mkh X I J) := by
  refine (am_G_at N d 325 mX9_leastLike _ _ rfl).trans ?_
  rfl
theorem gX9_leastLike (N d : Nat) {X : lt_X} (x1 : Int32) (x2 : Int32) (I : Nat → Nat → Int32) (J : Nat → Nat → Int64) : am_G am_prog (N + 30) (d + 2) 325 [.ref 135, .int x1, .int x2] (mkh X I J) = RX9_leastLike_0 N d (N + 30) X x1 x2 I J := fX9_leastLike (N + 30) (d + 1) x1 x2 I J
def RX9_allLike_0 (N d n : Nat) (X : lt_X) (x1 : Int32) (x2 : Int32) (I : Nat → Nat → Int32) (J : Nat → Nat → Int64) : am_O := am_run (am_G am_prog (N + 30) (d + 1)) eX9_allLike uX9_allLike n 0 [(0, .ref 135), (1, .int x1), (2, .int x2)] [] (mkh X I J)
def RX9_allLike_5 (N d n : Nat) (X : lt_X) (x1 : Int32) (x2 : Int32) (x3 : Int32) (x4 : Int32) (I : Nat → Nat → Int32) (J : Nat → Nat → Int64) : am_O := am_run (am_G am_prog (N + 30) (d + 1)) eX9_allLike uX9_allLike n 5 [(0, .ref 135), (1, .int x1), (2, .int x2), (3, .int x3), (4, .int x4)] [] (mkh X I J)
def KX9_allLike_0 (N d n : Nat) (a0 : Int32) (a1 : Int32) (a2 : Int32) (a3 : Int32) (z : Int32) (h : am_H) : am_O := if z = nI 0 then am_run (am_G am_prog (N + 30) (d + 1)) eX9_allLike uX9_allLike n 5 [(0, .ref 135), (1, .int a0), (2, .int a1), (3, .int (a3 + (nI 0))), (4, .int (a2 + (nI 1)))] [] h else am_cI (am_G am_prog (N + 30) (d + 1) 269 [.ref 135, .int a2, .int a1] h) (fun r2 h1 => am_run (am_G am_prog (N + 30) (d + 1)) eX9_allLike uX9_allLike n 5 [(0, .ref 135), (1, .int a0), (2, .int a1), (3, .int (a3 + r2)), (4, .int (a2 + (nI 1)))] [] h1)
def KX9_allLike_1 (N d n : Nat) (a0 : Int32) (a1 : Int32) (a2 : Int32) (a3 : Int32) (z : Int32) (h : am_H) : am_O := am_run (am_G am_prog (N + 30) (d + 1)) eX9_allLike uX9_allLike n 5 [(0, .ref 135), (1, .int a0), (2, .int a1), (3, .int (a3 + z)), (4, .int (a2 + (nI 1)))] [] h
set_option maxHeartbeats 4000000 in
set_option maxRecDepth 100000 in
theorem sX9_allLike_0 (N d n : Nat) {X : lt_X} (x1 : Int32) (x2 : Int32) (I : Nat → Nat → Int32) (J : Nat → Nat → Int64) : RX9_allLike_0 N d (n + 1) X x1 x2 I J = RX9_allLike_5 N d n X x1 x2 (nI 0) (nI 0) I J := by
  rfl
set_option maxHeartbeats 4000000 in
set_option maxRecDepth 100000 in
theorem sX9_allLike_5 (N d n : Nat) {X : lt_X} (x1 : Int32) (x2 : Int32) (x3 : Int32) (x4 : Int32) (I : Nat → Nat → Int32) (J : Nat → Nat → Int64) : RX9_allLike_5 N d (n + 1) X x1 x2 x3 x4 I J = if x4 < (I 140 2) then am_cI (am_G am_prog (N + 30) (d + 1) 201 [.int x1, .int x4] (mkh X I J)) (KX9_allLike_0 N d n x1 x2 x4 x3) else some (.int x3, (mkh X I J)) := by
  rfl
set_option maxHeartbeats 4000000 in
set_option maxRecDepth 100000 in
theorem kX9_allLike_0 (N d n : Nat) {X : lt_X} (a0 : Int32) (a1 : Int32) (a2 : Int32) (a3 : Int32) (z : Int32) (I : Nat → Nat → Int32) (J : Nat → Nat → Int64) : KX9_allLike_0 N d n a0 a1 a2 a3 z (mkh X I J) = if z = nI 0 then RX9_allLike_5 N d n X a0 a1 (a3 + (nI 0)) (a2 + (nI 1)) I J else am_cI (am_G am_prog (N + 30) (d + 1) 269 [.ref 135, .int a2, .int a1] (mkh X I J)) (KX9_allLike_1 N d n a0 a1 a2 a3) := by
  rfl
set_option maxHeartbeats 4000000 in
set_option maxRecDepth 100000 in
theorem kX9_allLike_1 (N d n : Nat) {X : lt_X} (a0 : Int32) (a1 : Int32) (a2 : Int32) (a3 : Int32) (z : Int32) (I : Nat → Nat → Int32) (J : Nat → Nat → Int64) : KX9_allLike_1 N d n a0 a1 a2 a3 z (mkh X I J) = RX9_allLike_5 N d n X a0 a1 (a3 + z) (a2 + (nI 1)) I J := by
  rfl
theorem fX9_allLike (N d : Nat) {X : lt_X} (x1 : Int32) (x2 : Int32) (I : Nat → Nat → Int32) (J : Nat → Nat → Int64) : am_G am_prog N (d + 1) 326 [.ref 135, .int x1, .int x2] (mkh X I J) = am_run (am_G am_prog N d) eX9_allLike uX9_allLike N 0 [(0, .ref 135), (1, .int x1), (2, .int x2)] [] (mkh X I J) := by
  refine (am_G_at N d 326 mX9_allLike _ _ rfl).trans ?_
  rfl
theorem gX9_allLike (N d : Nat) {X : lt_X} (x1 : Int32) (x2 : Int32) (I : Nat → Nat → Int32) (J : Nat → Nat → Int64) : am_G am_prog (N + 30) (d + 2) 326 [.ref 135, .int x1, .int x2] (mkh X I J) = RX9_allLike_0 N d (N + 30) X x1 x2 I J := fX9_allLike (N + 30) (d + 1) x1 x2 I J
def RX9_peaceful_0 (N d n : Nat) (X : lt_X) (x1 : Int32) (I : Nat → Nat → Int32) (J : Nat → Nat → Int64) : am_O := am_run (am_G am_prog (N + 30) (d + 0)) eX9_peaceful uX9_peaceful n 0 [(0, .ref 135), (1, .int x1)] [] (mkh X I J)
def RX9_peaceful_4 (N d n : Nat) (X : lt_X) (x1 : Int32) (x2 : Int32) (x3 : Int32) (I : Nat → Nat → Int32) (J : Nat → Nat → Int64) : am_O := am_run (am_G am_prog (N + 30) (d + 0)) eX9_peaceful uX9_peaceful n 4 [(0, .ref 135), (1, .int x1), (2, .int x2), (3, .int x3)] [] (mkh X I J)
def RX9_peaceful_35 (N d n : Nat) (X : lt_X) (x1 : Int32) (x2 : Int32) (x3 : Int32) (s0 : Int32) (I : Nat → Nat → Int32) (J : Nat → Nat → Int64) : am_O := am_run (am_G am_prog (N + 30) (d + 0)) eX9_peaceful uX9_peaceful n 35 [(0, .ref 135), (1, .int x1), (2, .int x2), (3, .int x3)] [.int s0] (mkh X I J)
def KX9_peaceful_0 (N d n : Nat) (a0 : Int32) (a1 : Int32) (a2 : Int32) (z : Int32) (h : am_H) : am_O := am_cI (am_G am_prog (N + 30) (d + 0) 325 [.ref 135, .int a0, .int a1] h) (fun r2 h1 => am_run (am_G am_prog (N + 30) (d + 0)) eX9_peaceful uX9_peaceful n 35 [(0, .ref 135), (1, .int a0), (2, .int a1), (3, .int a2)] [.int (z - r2)] h1)
def KX9_peaceful_1 (N d n : Nat) (a0 : Int32) (a1 : Int32) (a2 : Int32) (z : Int32) (h : am_H) : am_O := am_cI (am_G am_prog (N + 30) (d + 0) 326 [.ref 135, .int a0, .int a1] h) (fun r2 h1 => if r2 < z then am_run (am_G am_prog (N + 30) (d + 0)) eX9_peaceful uX9_peaceful n 4 [(0, .ref 135), (1, .int a0), (2, .int a2), (3, .int (a2 + (nI 1)))] [] h1 else am_run (am_G am_prog (N + 30) (d + 0)) eX9_peaceful uX9_peaceful n 4 [(0, .ref 135), (1, .int a0), (2, .int a1), (3, .int (a2 + (nI 1)))] [] h1)
def KX9_peaceful_2 (N d n : Nat) (a0 : Int32) (a1 : Int32) (a2 : Int32) (a3 : Int32) (z : Int32) (h : am_H) : am_O := am_run (am_G am_prog (N + 30) (d + 0)) eX9_peaceful uX9_peaceful n 35 [(0, .ref 135), (1, .int a0), (2, .int a1), (3, .int a2)] [.int (a3 - z)] h
def KX9_peaceful_3 (N d n : Nat) (a0 : Int32) (a1 : Int32) (a2 : Int32) (a3 : Int32) (z : Int32) (h : am_H) : am_O := if z < a3 then am_run (am_G am_prog (N + 30) (d + 0)) eX9_peaceful uX9_peaceful n 4 [(0, .ref 135), (1, .int a0), (2, .int a2), (3, .int (a2 + (nI 1)))] [] h else am_run (am_G am_prog (N + 30) (d + 0)) eX9_peaceful uX9_peaceful n 4 [(0, .ref 135), (1, .int a0), (2, .int a1), (3, .int (a2 + (nI 1)))] [] h
set_option maxHeartbeats 4000000 in
set_option maxRecDepth 100000 in
theorem sX9_peaceful_0 (N d n : Nat) {X : lt_X} (x1 : Int32) (I : Nat → Nat → Int32) (J : Nat → Nat → Int64) : RX9_peaceful_0 N d (n + 1) X x1 I J = RX9_peaceful_4 N d n X x1 (-1) (nI 0) I J := by
  rfl
set_option maxHeartbeats 4000000 in
set_option maxRecDepth 100000 in
theorem sX9_peaceful_4 (N d n : Nat) {X : lt_X} (x1 : Int32) (x2 : Int32) (x3 : Int32) (I : Nat → Nat → Int32) (J : Nat → Nat → Int64) : RX9_peaceful_4 N d (n + 1) X x1 x2 x3 I J = if x3 < (I 140 0) then if x2 < nI 0 then RX9_peaceful_35 N d n X x1 x2 x3 (nI 1) I J else am_cI (am_G am_prog (N + 30) (d + 0) 325 [.ref 135, .int x1, .int x3] (mkh X I J)) (KX9_peaceful_0 N d n x1 x2 x3) else some (.int x2, (mkh X I J)) := by
  rfl
set_option maxHeartbeats 4000000 in
set_option maxRecDepth 100000 in
theorem sX9_peaceful_35 (N d n : Nat) {X : lt_X} (x1 : Int32) (x2 : Int32) (x3 : Int32) (s0 : Int32) (I : Nat → Nat → Int32) (J : Nat → Nat → Int64) : RX9_peaceful_35 N d (n + 1) X x1 x2 x3 s0 I J = if nI 0 < s0 then RX9_peaceful_4 N d n X x1 x3 (x3 + (nI 1)) I J else if s0 = nI 0 then am_cI (am_G am_prog (N + 30) (d + 0) 326 [.ref 135, .int x1, .int x3] (mkh X I J)) (KX9_peaceful_1 N d n x1 x2 x3) else RX9_peaceful_4 N d n X x1 x2 (x3 + (nI 1)) I J := by
  rfl
set_option maxHeartbeats 4000000 in
set_option maxRecDepth 100000 in
theorem kX9_peaceful_0 (N d n : Nat) {X : lt_X} (a0 : Int32) (a1 : Int32) (a2 : Int32) (z : Int32) (I : Nat → Nat → Int32) (J : Nat → Nat → Int64) : KX9_peaceful_0 N d n a0 a1 a2 z (mkh X I J) = am_cI (am_G am_prog (N + 30) (d + 0) 325 [.ref 135, .int a0, .int a1] (mkh X I J)) (KX9_peaceful_2 N d n a0 a1 a2 z) := by
  rfl
set_option maxHeartbeats 4000000 in
set_option maxRecDepth 100000 in
theorem kX9_peaceful_1 (N d n : Nat) {X : lt_X} (a0 : Int32) (a1 : Int32) (a2 : Int32) (z : Int32) (I : Nat → Nat → Int32) (J : Nat → Nat → Int64) : KX9_peaceful_1 N d n a0 a1 a2 z (mkh X I J) = am_cI (am_G am_prog (N + 30) (d + 0) 326 [.ref 135, .int a0, .int a1] (mkh X I J)) (KX9_peaceful_3 N d n a0 a1 a2 z) := by
  rfl
set_option maxHeartbeats 4000000 in
set_option maxRecDepth 100000 in
theorem kX9_peaceful_2 (N d n : Nat) {X : lt_X} (a0 : Int32) (a1 : Int32) (a2 : Int32) (a3 : Int32) (z : Int32) (I : Nat → Nat → Int32) (J : Nat → Nat → Int64) : KX9_peaceful_2 N d n a0 a1 a2 a3 z (mkh X I J) = RX9_peaceful_35 N d n X a0 a1 a2 (a3 - z) I J := by
  rfl
set_option maxHeartbeats 4000000 in
set_option maxRecDepth 100000 in
theorem kX9_peaceful_3 (N d n : Nat) {X : lt_X} (a0 : Int32) (a1 : Int32) (a2 : Int32) (a3 : Int32) (z : Int32) (I : Nat → Nat → Int32) (J : Nat → Nat → Int64) : KX9_peaceful_3 N d n a0 a1 a2 a3 z (mkh X I J) = if z < a3 then RX9_peaceful_4 N d n X a0 a2 (a2 + (nI 1)) I J else RX9_peaceful_4 N d n X a0 a1 (a2 + (nI 1)) I J := by
  rfl
theorem fX9_peaceful (N d : Nat) {X : lt_X} (x1 : Int32) (I : Nat → Nat → Int32) (J : Nat → Nat → Int64) : am_G am_prog N (d + 1) 327 [.ref 135, .int x1] (mkh X I J) = am_run (am_G am_prog N d) eX9_peaceful uX9_peaceful N 0 [(0, .ref 135), (1, .int x1)] [] (mkh X I J) := by
  refine (am_G_at N d 327 mX9_peaceful _ _ rfl).trans ?_
  rfl
theorem gX9_peaceful (N d : Nat) {X : lt_X} (x1 : Int32) (I : Nat → Nat → Int32) (J : Nat → Nat → Int64) : am_G am_prog (N + 30) (d + 1) 327 [.ref 135, .int x1] (mkh X I J) = RX9_peaceful_0 N d (N + 30) X x1 I J := fX9_peaceful (N + 30) (d + 0) x1 I J
def RX9_peace_0 (N d n : Nat) (X : lt_X) (x1 : Int32) (I : Nat → Nat → Int32) (J : Nat → Nat → Int64) : am_O := am_run (am_G am_prog (N + 30) (d + 2)) eX9_peace uX9_peace n 0 [(0, .ref 135), (1, .int x1)] [] (mkh X I J)
def KX9_peace_0 (N d n : Nat) (a0 : Int32) (z : Int32) (h : am_H) : am_O := if z = nI 0 then am_cI (am_G am_prog (N + 30) (d + 2) 188 [.ref 135, .int (nI 5)] h) (fun r2 h1 => some (.int r2, h1)) else am_cI (am_G am_prog (N + 30) (d + 2) 327 [.ref 135, .int a0] h) (fun r4 h3 => if r4 < nI 0 then am_cI (am_G am_prog (N + 30) (d + 2) 188 [.ref 135, .int (nI 8)] h3) (fun r6 h5 => some (.int r6, h5)) else some (.int r4, h3))
def KX9_peace_1 (N d n : Nat) (z : Int32) (h : am_H) : am_O := if z < nI 0 then am_cI (am_G am_prog (N + 30) (d + 2) 188 [.ref 135, .int (nI 8)] h) (fun r2 h1 => some (.int r2, h1)) else some (.int z, h)
set_option maxHeartbeats 4000000 in
set_option maxRecDepth 100000 in
theorem sX9_peace_0 (N d n : Nat) {X : lt_X} (x1 : Int32) (I : Nat → Nat → Int32) (J : Nat → Nat → Int64) : RX9_peace_0 N d (n + 1) X x1 I J = if x1 = nI 0 then some (.int (-1), (mkh X (u2 (u2 (u2 I 135 1 (nI 0)) 135 0 (nI 0)) 135 0 (nI 5)) J)) else am_cI (am_G am_prog (N + 30) (d + 2) 306 [.ref 135, .int x1] (mkh X (u2 (u2 I 135 1 (nI 0)) 135 0 (nI 0)) J)) (KX9_peace_0 N d n x1) := by
  rfl
set_option maxHeartbeats 4000000 in
set_option maxRecDepth 100000 in
theorem kX9_peace_0 (N d n : Nat) {X : lt_X} (a0 : Int32) (z : Int32) (I : Nat → Nat → Int32) (J : Nat → Nat → Int64) : KX9_peace_0 N d n a0 z (mkh X I J) = if z = nI 0 then some (.int (-1), (mkh X (u2 I 135 0 (nI 5)) J)) else am_cI (am_G am_prog (N + 30) (d + 2) 327 [.ref 135, .int a0] (mkh X I J)) (KX9_peace_1 N d n ) := by
  rfl
set_option maxHeartbeats 4000000 in
set_option maxRecDepth 100000 in
theorem kX9_peace_1 (N d n : Nat) {X : lt_X} (z : Int32) (I : Nat → Nat → Int32) (J : Nat → Nat → Int64) : KX9_peace_1 N d n z (mkh X I J) = if z < nI 0 then some (.int (-1), (mkh X (u2 I 135 0 (nI 8)) J)) else some (.int z, (mkh X I J)) := by
  rfl
theorem fX9_peace (N d : Nat) {X : lt_X} (x1 : Int32) (I : Nat → Nat → Int32) (J : Nat → Nat → Int64) : am_G am_prog N (d + 1) 328 [.ref 135, .int x1] (mkh X I J) = am_run (am_G am_prog N d) eX9_peace uX9_peace N 0 [(0, .ref 135), (1, .int x1)] [] (mkh X I J) := by
  refine (am_G_at N d 328 mX9_peace _ _ rfl).trans ?_
  rfl
theorem gX9_peace (N d : Nat) {X : lt_X} (x1 : Int32) (I : Nat → Nat → Int32) (J : Nat → Nat → Int64) : am_G am_prog (N + 30) (d + 3) 328 [.ref 135, .int x1] (mkh X I J) = RX9_peace_0 N d (N + 30) X x1 I J := fX9_peace (N + 30) (d + 2) x1 I J
def RX9_peaceBy_0 (N d n : Nat) (X : lt_X) (x1 : Int32) (I : Nat → Nat → Int32) (J : Nat → Nat → Int64) : am_O := am_run (am_G am_prog (N + 30) (d + 2)) eX9_peaceBy uX9_peaceBy n 0 [(0, .ref 135), (1, .int x1)] [] (mkh X I J)
def KX9_peaceBy_0 (N d n : Nat) (a0 : Int32) (z : Int32) (h : am_H) : am_O := if z = nI 0 then am_cI (am_G am_prog (N + 30) (d + 2) 188 [.ref 135, .int (nI 5)] h) (fun r2 h1 => some (.int r2, h1)) else am_cI (am_G am_prog (N + 30) (d + 2) 327 [.ref 135, .int a0] h) (fun r4 h3 => if r4 < nI 0 then am_cI (am_G am_prog (N + 30) (d + 2) 188 [.ref 135, .int (nI 8)] h3) (fun r6 h5 => some (.int r6, h5)) else am_cI (am_G am_prog (N + 30) (d + 2) 325 [.ref 135, .int a0, .int r4] h3) (fun r8 h7 => some (.int r8, h7)))
def KX9_peaceBy_1 (N d n : Nat) (a0 : Int32) (z : Int32) (h : am_H) : am_O := if z < nI 0 then am_cI (am_G am_prog (N + 30) (d + 2) 188 [.ref 135, .int (nI 8)] h) (fun r2 h1 => some (.int r2, h1)) else am_cI (am_G am_prog (N + 30) (d + 2) 325 [.ref 135, .int a0, .int z] h) (fun r4 h3 => some (.int r4, h3))
def KX9_peaceBy_2 (N d n : Nat) (z : Int32) (h : am_H) : am_O := some (.int z, h)
set_option maxHeartbeats 4000000 in
set_option maxRecDepth 100000 in
theorem sX9_peaceBy_0 (N d n : Nat) {X : lt_X} (x1 : Int32) (I : Nat → Nat → Int32) (J : Nat → Nat → Int64) : RX9_peaceBy_0 N d (n + 1) X x1 I J = if x1 = nI 0 then some (.int (-1), (mkh X (u2 (u2 (u2 I 135 1 (nI 0)) 135 0 (nI 0)) 135 0 (nI 5)) J)) else am_cI (am_G am_prog (N + 30) (d + 2) 306 [.ref 135, .int x1] (mkh X (u2 (u2 I 135 1 (nI 0)) 135 0 (nI 0)) J)) (KX9_peaceBy_0 N d n x1) := by
  rfl
set_option maxHeartbeats 4000000 in
set_option maxRecDepth 100000 in
theorem kX9_peaceBy_0 (N d n : Nat) {X : lt_X} (a0 : Int32) (z : Int32) (I : Nat → Nat → Int32) (J : Nat → Nat → Int64) : KX9_peaceBy_0 N d n a0 z (mkh X I J) = if z = nI 0 then some (.int (-1), (mkh X (u2 I 135 0 (nI 5)) J)) else am_cI (am_G am_prog (N + 30) (d + 2) 327 [.ref 135, .int a0] (mkh X I J)) (KX9_peaceBy_1 N d n a0) := by
  rfl
set_option maxHeartbeats 4000000 in
set_option maxRecDepth 100000 in
theorem kX9_peaceBy_1 (N d n : Nat) {X : lt_X} (a0 : Int32) (z : Int32) (I : Nat → Nat → Int32) (J : Nat → Nat → Int64) : KX9_peaceBy_1 N d n a0 z (mkh X I J) = if z < nI 0 then some (.int (-1), (mkh X (u2 I 135 0 (nI 8)) J)) else am_cI (am_G am_prog (N + 30) (d + 2) 325 [.ref 135, .int a0, .int z] (mkh X I J)) (KX9_peaceBy_2 N d n ) := by
  rfl
set_option maxHeartbeats 4000000 in
set_option maxRecDepth 100000 in
theorem kX9_peaceBy_2 (N d n : Nat) {X : lt_X} (z : Int32) (I : Nat → Nat → Int32) (J : Nat → Nat → Int64) : KX9_peaceBy_2 N d n z (mkh X I J) = some (.int z, (mkh X I J)) := by
  rfl
theorem fX9_peaceBy (N d : Nat) {X : lt_X} (x1 : Int32) (I : Nat → Nat → Int32) (J : Nat → Nat → Int64) : am_G am_prog N (d + 1) 329 [.ref 135, .int x1] (mkh X I J) = am_run (am_G am_prog N d) eX9_peaceBy uX9_peaceBy N 0 [(0, .ref 135), (1, .int x1)] [] (mkh X I J) := by
  refine (am_G_at N d 329 mX9_peaceBy _ _ rfl).trans ?_
  rfl
theorem gX9_peaceBy (N d : Nat) {X : lt_X} (x1 : Int32) (I : Nat → Nat → Int32) (J : Nat → Nat → Int64) : am_G am_prog (N + 30) (d + 3) 329 [.ref 135, .int x1] (mkh X I J) = RX9_peaceBy_0 N d (N + 30) X x1 I J := fX9_peaceBy (N + 30) (d + 2) x1 I J
def RX9_fansOf_0 (N d n : Nat) (X : lt_X) (x1 : Int32) (x2 : Int32) (I : Nat → Nat → Int32) (J : Nat → Nat → Int64) : am_O := am_run (am_G am_prog (N + 30) (d + 1)) eX9_fansOf uX9_fansOf n 0 [(0, .ref 135), (1, .int x1), (2, .int x2)] [] (mkh X I J)
def RX9_fansOf_5 (N d n : Nat) (X : lt_X) (x1 : Int32) (x2 : Int32) (x3 : Int32) (x4 : Int32) (I : Nat → Nat → Int32) (J : Nat → Nat → Int64) : am_O := am_run (am_G am_prog (N + 30) (d + 1)) eX9_fansOf uX9_fansOf n 5 [(0, .ref 135), (1, .int x1), (2, .int x2), (3, .int x3), (4, .int x4)] [] (mkh X I J)
def KX9_fansOf_0 (N d n : Nat) (a0 : Int32) (a1 : Int32) (a2 : Int32) (a3 : Int32) (z : Int32) (h : am_H) : am_O := am_cI (am_G am_prog (N + 30) (d + 1) 201 [.int z, .int a2] h) (fun r2 h1 => if r2 = nI 0 then am_run (am_G am_prog (N + 30) (d + 1)) eX9_fansOf uX9_fansOf n 5 [(0, .ref 135), (1, .int a0), (2, .int a1), (3, .int (a3 + (nI 0))), (4, .int (a2 + (nI 1)))] [] h1 else am_cI (am_G am_prog (N + 30) (d + 1) 269 [.ref 135, .int a2, .int a1] h1) (fun r4 h3 => if r4 < (nI 5) then am_run (am_G am_prog (N + 30) (d + 1)) eX9_fansOf uX9_fansOf n 5 [(0, .ref 135), (1, .int a0), (2, .int a1), (3, .int (a3 + (nI 0))), (4, .int (a2 + (nI 1)))] [] h3 else am_run (am_G am_prog (N + 30) (d + 1)) eX9_fansOf uX9_fansOf n 5 [(0, .ref 135), (1, .int a0), (2, .int a1), (3, .int (a3 + (nI 1))), (4, .int (a2 + (nI 1)))] [] h3))
def KX9_fansOf_1 (N d n : Nat) (a0 : Int32) (a1 : Int32) (a2 : Int32) (a3 : Int32) (z : Int32) (h : am_H) : am_O := if z = nI 0 then am_run (am_G am_prog (N + 30) (d + 1)) eX9_fansOf uX9_fansOf n 5 [(0, .ref 135), (1, .int a0), (2, .int a1), (3, .int (a3 + (nI 0))), (4, .int (a2 + (nI 1)))] [] h else am_cI (am_G am_prog (N + 30) (d + 1) 269 [.ref 135, .int a2, .int a1] h) (fun r2 h1 => if r2 < (nI 5) then am_run (am_G am_prog (N + 30) (d + 1)) eX9_fansOf uX9_fansOf n 5 [(0, .ref 135), (1, .int a0), (2, .int a1), (3, .int (a3 + (nI 0))), (4, .int (a2 + (nI 1)))] [] h1 else am_run (am_G am_prog (N + 30) (d + 1)) eX9_fansOf uX9_fansOf n 5 [(0, .ref 135), (1, .int a0), (2, .int a1), (3, .int (a3 + (nI 1))), (4, .int (a2 + (nI 1)))] [] h1)
def KX9_fansOf_2 (N d n : Nat) (a0 : Int32) (a1 : Int32) (a2 : Int32) (a3 : Int32) (z : Int32) (h : am_H) : am_O := if z < (nI 5) then am_run (am_G am_prog (N + 30) (d + 1)) eX9_fansOf uX9_fansOf n 5 [(0, .ref 135), (1, .int a0), (2, .int a1), (3, .int (a3 + (nI 0))), (4, .int (a2 + (nI 1)))] [] h else am_run (am_G am_prog (N + 30) (d + 1)) eX9_fansOf uX9_fansOf n 5 [(0, .ref 135), (1, .int a0), (2, .int a1), (3, .int (a3 + (nI 1))), (4, .int (a2 + (nI 1)))] [] h
set_option maxHeartbeats 4000000 in
set_option maxRecDepth 100000 in
theorem sX9_fansOf_0 (N d n : Nat) {X : lt_X} (x1 : Int32) (x2 : Int32) (I : Nat → Nat → Int32) (J : Nat → Nat → Int64) : RX9_fansOf_0 N d (n + 1) X x1 x2 I J = RX9_fansOf_5 N d n X x1 x2 (nI 0) (nI 0) I J := by
  rfl
set_option maxHeartbeats 4000000 in
set_option maxRecDepth 100000 in
theorem sX9_fansOf_5 (N d n : Nat) {X : lt_X} (x1 : Int32) (x2 : Int32) (x3 : Int32) (x4 : Int32) (I : Nat → Nat → Int32) (J : Nat → Nat → Int64) : RX9_fansOf_5 N d (n + 1) X x1 x2 x3 x4 I J = if x4 < (I 140 2) then am_cI (am_G am_prog (N + 30) (d + 1) 299 [.ref 135, .int x1] (mkh X I J)) (KX9_fansOf_0 N d n x1 x2 x4 x3) else some (.int x3, (mkh X I J)) := by
  rfl
set_option maxHeartbeats 4000000 in
set_option maxRecDepth 100000 in
theorem kX9_fansOf_0 (N d n : Nat) {X : lt_X} (a0 : Int32) (a1 : Int32) (a2 : Int32) (a3 : Int32) (z : Int32) (I : Nat → Nat → Int32) (J : Nat → Nat → Int64) : KX9_fansOf_0 N d n a0 a1 a2 a3 z (mkh X I J) = am_cI (am_G am_prog (N + 30) (d + 1) 201 [.int z, .int a2] (mkh X I J)) (KX9_fansOf_1 N d n a0 a1 a2 a3) := by
  rfl
set_option maxHeartbeats 4000000 in
set_option maxRecDepth 100000 in
theorem kX9_fansOf_1 (N d n : Nat) {X : lt_X} (a0 : Int32) (a1 : Int32) (a2 : Int32) (a3 : Int32) (z : Int32) (I : Nat → Nat → Int32) (J : Nat → Nat → Int64) : KX9_fansOf_1 N d n a0 a1 a2 a3 z (mkh X I J) = if z = nI 0 then RX9_fansOf_5 N d n X a0 a1 (a3 + (nI 0)) (a2 + (nI 1)) I J else am_cI (am_G am_prog (N + 30) (d + 1) 269 [.ref 135, .int a2, .int a1] (mkh X I J)) (KX9_fansOf_2 N d n a0 a1 a2 a3) := by
  rfl
set_option maxHeartbeats 4000000 in
set_option maxRecDepth 100000 in
theorem kX9_fansOf_2 (N d n : Nat) {X : lt_X} (a0 : Int32) (a1 : Int32) (a2 : Int32) (a3 : Int32) (z : Int32) (I : Nat → Nat → Int32) (J : Nat → Nat → Int64) : KX9_fansOf_2 N d n a0 a1 a2 a3 z (mkh X I J) = if z < (nI 5) then RX9_fansOf_5 N d n X a0 a1 (a3 + (nI 0)) (a2 + (nI 1)) I J else RX9_fansOf_5 N d n X a0 a1 (a3 + (nI 1)) (a2 + (nI 1)) I J := by
  rfl
theorem fX9_fansOf (N d : Nat) {X : lt_X} (x1 : Int32) (x2 : Int32) (I : Nat → Nat → Int32) (J : Nat → Nat → Int64) : am_G am_prog N (d + 1) 330 [.ref 135, .int x1, .int x2] (mkh X I J) = am_run (am_G am_prog N d) eX9_fansOf uX9_fansOf N 0 [(0, .ref 135), (1, .int x1), (2, .int x2)] [] (mkh X I J) := by
  refine (am_G_at N d 330 mX9_fansOf _ _ rfl).trans ?_
  rfl
theorem gX9_fansOf (N d : Nat) {X : lt_X} (x1 : Int32) (x2 : Int32) (I : Nat → Nat → Int32) (J : Nat → Nat → Int64) : am_G am_prog (N + 30) (d + 2) 330 [.ref 135, .int x1, .int x2] (mkh X I J) = RX9_fansOf_0 N d (N + 30) X x1 x2 I J := fX9_fansOf (N + 30) (d + 1) x1 x2 I J
def RX9_popularOf_0 (N d n : Nat) (X : lt_X) (x1 : Int32) (I : Nat → Nat → Int32) (J : Nat → Nat → Int64) : am_O := am_run (am_G am_prog (N + 30) (d + 0)) eX9_popularOf uX9_popularOf n 0 [(0, .ref 135), (1, .int x1)] [] (mkh X I J)
def RX9_popularOf_4 (N d n : Nat) (X : lt_X) (x1 : Int32) (x2 : Int32) (x3 : Int32) (I : Nat → Nat → Int32) (J : Nat → Nat → Int64) : am_O := am_run (am_G am_prog (N + 30) (d + 0)) eX9_popularOf uX9_popularOf n 4 [(0, .ref 135), (1, .int x1), (2, .int x2), (3, .int x3)] [] (mkh X I J)
def KX9_popularOf_0 (N d n : Nat) (a0 : Int32) (a1 : Int32) (a2 : Int32) (z : Int32) (h : am_H) : am_O := am_cI (am_G am_prog (N + 30) (d + 0) 330 [.ref 135, .int a0, .int a1] h) (fun r2 h1 => if r2 < z then am_run (am_G am_prog (N + 30) (d + 0)) eX9_popularOf uX9_popularOf n 4 [(0, .ref 135), (1, .int a0), (2, .int a2), (3, .int (a2 + (nI 1)))] [] h1 else am_run (am_G am_prog (N + 30) (d + 0)) eX9_popularOf uX9_popularOf n 4 [(0, .ref 135), (1, .int a0), (2, .int a1), (3, .int (a2 + (nI 1)))] [] h1)
def KX9_popularOf_1 (N d n : Nat) (a0 : Int32) (a1 : Int32) (a2 : Int32) (a3 : Int32) (z : Int32) (h : am_H) : am_O := if z < a3 then am_run (am_G am_prog (N + 30) (d + 0)) eX9_popularOf uX9_popularOf n 4 [(0, .ref 135), (1, .int a0), (2, .int a2), (3, .int (a2 + (nI 1)))] [] h else am_run (am_G am_prog (N + 30) (d + 0)) eX9_popularOf uX9_popularOf n 4 [(0, .ref 135), (1, .int a0), (2, .int a1), (3, .int (a2 + (nI 1)))] [] h
set_option maxHeartbeats 4000000 in
set_option maxRecDepth 100000 in
theorem sX9_popularOf_0 (N d n : Nat) {X : lt_X} (x1 : Int32) (I : Nat → Nat → Int32) (J : Nat → Nat → Int64) : RX9_popularOf_0 N d (n + 1) X x1 I J = RX9_popularOf_4 N d n X x1 (-1) (nI 0) I J := by
  rfl
set_option maxHeartbeats 4000000 in
set_option maxRecDepth 100000 in
theorem sX9_popularOf_4 (N d n : Nat) {X : lt_X} (x1 : Int32) (x2 : Int32) (x3 : Int32) (I : Nat → Nat → Int32) (J : Nat → Nat → Int64) : RX9_popularOf_4 N d (n + 1) X x1 x2 x3 I J = if x3 < (I 140 0) then if x2 < nI 0 then RX9_popularOf_4 N d n X x1 x3 (x3 + (nI 1)) I J else am_cI (am_G am_prog (N + 30) (d + 0) 330 [.ref 135, .int x1, .int x3] (mkh X I J)) (KX9_popularOf_0 N d n x1 x2 x3) else some (.int x2, (mkh X I J)) := by
  rfl
set_option maxHeartbeats 4000000 in
set_option maxRecDepth 100000 in
theorem kX9_popularOf_0 (N d n : Nat) {X : lt_X} (a0 : Int32) (a1 : Int32) (a2 : Int32) (z : Int32) (I : Nat → Nat → Int32) (J : Nat → Nat → Int64) : KX9_popularOf_0 N d n a0 a1 a2 z (mkh X I J) = am_cI (am_G am_prog (N + 30) (d + 0) 330 [.ref 135, .int a0, .int a1] (mkh X I J)) (KX9_popularOf_1 N d n a0 a1 a2 z) := by
  rfl
set_option maxHeartbeats 4000000 in
set_option maxRecDepth 100000 in
theorem kX9_popularOf_1 (N d n : Nat) {X : lt_X} (a0 : Int32) (a1 : Int32) (a2 : Int32) (a3 : Int32) (z : Int32) (I : Nat → Nat → Int32) (J : Nat → Nat → Int64) : KX9_popularOf_1 N d n a0 a1 a2 a3 z (mkh X I J) = if z < a3 then RX9_popularOf_4 N d n X a0 a2 (a2 + (nI 1)) I J else RX9_popularOf_4 N d n X a0 a1 (a2 + (nI 1)) I J := by
  rfl
theorem fX9_popularOf (N d : Nat) {X : lt_X} (x1 : Int32) (I : Nat → Nat → Int32) (J : Nat → Nat → Int64) : am_G am_prog N (d + 1) 331 [.ref 135, .int x1] (mkh X I J) = am_run (am_G am_prog N d) eX9_popularOf uX9_popularOf N 0 [(0, .ref 135), (1, .int x1)] [] (mkh X I J) := by
  refine (am_G_at N d 331 mX9_popularOf _ _ rfl).trans ?_
  rfl
theorem gX9_popularOf (N d : Nat) {X : lt_X} (x1 : Int32) (I : Nat → Nat → Int32) (J : Nat → Nat → Int64) : am_G am_prog (N + 30) (d + 1) 331 [.ref 135, .int x1] (mkh X I J) = RX9_popularOf_0 N d (N + 30) X x1 I J := fX9_popularOf (N + 30) (d + 0) x1 I J
def RX9_popular_0 (N d n : Nat) (X : lt_X) (x1 : Int32) (I : Nat → Nat → Int32) (J : Nat → Nat → Int64) : am_O := am_run (am_G am_prog (N + 30) (d + 2)) eX9_popular uX9_popular n 0 [(0, .ref 135), (1, .int x1)] [] (mkh X I J)
def KX9_popular_0 (N d n : Nat) (a0 : Int32) (z : Int32) (h : am_H) : am_O := if z = nI 0 then am_cI (am_G am_prog (N + 30) (d + 2) 188 [.ref 135, .int (nI 2)] h) (fun r2 h1 => some (.int r2, h1)) else am_cI (am_G am_prog (N + 30) (d + 2) 331 [.ref 135, .int a0] h) (fun r4 h3 => if r4 < nI 0 then am_cI (am_G am_prog (N + 30) (d + 2) 188 [.ref 135, .int (nI 8)] h3) (fun r6 h5 => some (.int r6, h5)) else some (.int r4, h3))
def KX9_popular_1 (N d n : Nat) (z : Int32) (h : am_H) : am_O := if z < nI 0 then am_cI (am_G am_prog (N + 30) (d + 2) 188 [.ref 135, .int (nI 8)] h) (fun r2 h1 => some (.int r2, h1)) else some (.int z, h)
set_option maxHeartbeats 4000000 in
set_option maxRecDepth 100000 in
theorem sX9_popular_0 (N d n : Nat) {X : lt_X} (x1 : Int32) (I : Nat → Nat → Int32) (J : Nat → Nat → Int64) : RX9_popular_0 N d (n + 1) X x1 I J = am_cI (am_G am_prog (N + 30) (d + 2) 259 [.ref 135, .int x1] (mkh X (u2 (u2 I 135 1 (nI 0)) 135 0 (nI 0)) J)) (KX9_popular_0 N d n x1) := by
  rfl
set_option maxHeartbeats 4000000 in
set_option maxRecDepth 100000 in
theorem kX9_popular_0 (N d n : Nat) {X : lt_X} (a0 : Int32) (z : Int32) (I : Nat → Nat → Int32) (J : Nat → Nat → Int64) : KX9_popular_0 N d n a0 z (mkh X I J) = if z = nI 0 then some (.int (-1), (mkh X (u2 I 135 0 (nI 2)) J)) else am_cI (am_G am_prog (N + 30) (d + 2) 331 [.ref 135, .int a0] (mkh X I J)) (KX9_popular_1 N d n ) := by
  rfl
set_option maxHeartbeats 4000000 in
set_option maxRecDepth 100000 in
theorem kX9_popular_1 (N d n : Nat) {X : lt_X} (z : Int32) (I : Nat → Nat → Int32) (J : Nat → Nat → Int64) : KX9_popular_1 N d n z (mkh X I J) = if z < nI 0 then some (.int (-1), (mkh X (u2 I 135 0 (nI 8)) J)) else some (.int z, (mkh X I J)) := by
  rfl
theorem fX9_popular (N d : Nat) {X : lt_X} (x1 : Int32) (I : Nat → Nat → Int32) (J : Nat → Nat → Int64) : am_G am_prog N (d + 1) 332 [.ref 135, .int x1] (mkh X I J) = am_run (am_G am_prog N d) eX9_popular uX9_popular N 0 [(0, .ref 135), (1, .int x1)] [] (mkh X I J) := by
  refine (am_G_at N d 332 mX9_popular _ _ rfl).trans ?_
  rfl
theorem gX9_popular (N d : Nat) {X : lt_X} (x1 : Int32) (I : Nat → Nat → Int32) (J : Nat → Nat → Int64) : am_G am_prog (N + 30) (d + 3) 332 [.ref 135, .int x1] (mkh X I J) = RX9_popular_0 N d (N + 30) X x1 I J := fX9_popular (N + 30) (d + 2) x1 I J
def RX9_popularBy_0 (N d n : Nat) (X : lt_X) (x1 : Int32) (I : Nat → Nat → Int32) (J : Nat → Nat → Int64) : am_O := am_run (am_G am_prog (N + 30) (d + 2)) eX9_popularBy uX9_popularBy n 0 [(0, .ref 135), (1, .int x1)] [] (mkh X I J)
def KX9_popularBy_0 (N d n : Nat) (a0 : Int32) (z : Int32) (h : am_H) : am_O := if z = nI 0 then am_cI (am_G am_prog (N + 30) (d + 2) 188 [.ref 135, .int (nI 2)] h) (fun r2 h1 => some (.int r2, h1)) else am_cI (am_G am_prog (N + 30) (d + 2) 331 [.ref 135, .int a0] h) (fun r4 h3 => if r4 < nI 0 then am_cI (am_G am_prog (N + 30) (d + 2) 188 [.ref 135, .int (nI 8)] h3) (fun r6 h5 => some (.int r6, h5)) else am_cI (am_G am_prog (N + 30) (d + 2) 330 [.ref 135, .int a0, .int r4] h3) (fun r8 h7 => some (.int r8, h7)))
def KX9_popularBy_1 (N d n : Nat) (a0 : Int32) (z : Int32) (h : am_H) : am_O := if z < nI 0 then am_cI (am_G am_prog (N + 30) (d + 2) 188 [.ref 135, .int (nI 8)] h) (fun r2 h1 => some (.int r2, h1)) else am_cI (am_G am_prog (N + 30) (d + 2) 330 [.ref 135, .int a0, .int z] h) (fun r4 h3 => some (.int r4, h3))
def KX9_popularBy_2 (N d n : Nat) (z : Int32) (h : am_H) : am_O := some (.int z, h)
set_option maxHeartbeats 4000000 in
set_option maxRecDepth 100000 in
theorem sX9_popularBy_0 (N d n : Nat) {X : lt_X} (x1 : Int32) (I : Nat → Nat → Int32) (J : Nat → Nat → Int64) : RX9_popularBy_0 N d (n + 1) X x1 I J = am_cI (am_G am_prog (N + 30) (d + 2) 259 [.ref 135, .int x1] (mkh X (u2 (u2 I 135 1 (nI 0)) 135 0 (nI 0)) J)) (KX9_popularBy_0 N d n x1) := by
  rfl
set_option maxHeartbeats 4000000 in
set_option maxRecDepth 100000 in
theorem kX9_popularBy_0 (N d n : Nat) {X : lt_X} (a0 : Int32) (z : Int32) (I : Nat → Nat → Int32) (J : Nat → Nat → Int64) : KX9_popularBy_0 N d n a0 z (mkh X I J) = if z = nI 0 then some (.int (-1), (mkh X (u2 I 135 0 (nI 2)) J)) else am_cI (am_G am_prog (N + 30) (d + 2) 331 [.ref 135, .int a0] (mkh X I J)) (KX9_popularBy_1 N d n a0) := by
  rfl
set_option maxHeartbeats 4000000 in
set_option maxRecDepth 100000 in
theorem kX9_popularBy_1 (N d n : Nat) {X : lt_X} (a0 : Int32) (z : Int32) (I : Nat → Nat → Int32) (J : Nat → Nat → Int64) : KX9_popularBy_1 N d n a0 z (mkh X I J) = if z < nI 0 then some (.int (-1), (mkh X (u2 I 135 0 (nI 8)) J)) else am_cI (am_G am_prog (N + 30) (d + 2) 330 [.ref 135, .int a0, .int z] (mkh X I J)) (KX9_popularBy_2 N d n ) := by
  rfl
set_option maxHeartbeats 4000000 in
set_option maxRecDepth 100000 in
theorem kX9_popularBy_2 (N d n : Nat) {X : lt_X} (z : Int32) (I : Nat → Nat → Int32) (J : Nat → Nat → Int64) : KX9_popularBy_2 N d n z (mkh X I J) = some (.int z, (mkh X I J)) := by
  rfl
theorem fX9_popularBy (N d : Nat) {X : lt_X} (x1 : Int32) (I : Nat → Nat → Int32) (J : Nat → Nat → Int64) : am_G am_prog N (d + 1) 333 [.ref 135, .int x1] (mkh X I J) = am_run (am_G am_prog N d) eX9_popularBy uX9_popularBy N 0 [(0, .ref 135), (1, .int x1)] [] (mkh X I J) := by
  refine (am_G_at N d 333 mX9_popularBy _ _ rfl).trans ?_
  rfl
theorem gX9_popularBy (N d : Nat) {X : lt_X} (x1 : Int32) (I : Nat → Nat → Int32) (J : Nat → Nat → Int64) : am_G am_prog (N + 30) (d + 3) 333 [.ref 135, .int x1] (mkh X I J) = RX9_popularBy_0 N d (N + 30) X x1 I J := fX9_popularBy (N + 30) (d + 2) x1 I J
def RX9_plays_0 (N d n : Nat) (X : lt_X) (x1 : Int32) (x2 : Int32) (x3 : Int32) (x4 : Int32) (x5 : Int32) (I : Nat → Nat → Int32) (J : Nat → Nat → Int64) : am_O := am_run (am_G am_prog (N + 30) (d + 1)) eX9_plays uX9_plays n 0 [(0, .ref 135), (1, .int x1), (2, .int x2), (3, .int x3), (4, .int x4), (5, .int x5)] [] (mkh X I J)
def RX9_plays_30 (N d n : Nat) (X : lt_X) (x1 : Int32) (x2 : Int32) (x3 : Int32) (x4 : Int32) (x5 : Int32) (x6 : Int32) (x7 : Int32) (x8 : Int32) (x9 : Int32) (I : Nat → Nat → Int32) (J : Nat → Nat → Int64) : am_O := am_run (am_G am_prog (N + 30) (d + 1)) eX9_plays uX9_plays n 30 [(0, .ref 135), (1, .int x1), (2, .int x2), (3, .int x3), (4, .int x4), (5, .int x5), (6, .int x6), (7, .int x7), (8, .int x8), (9, .int x9)] [] (mkh X I J)
def RX9_plays_77 (N d n : Nat) (X : lt_X) (x1 : Int32) (x2 : Int32) (x3 : Int32) (x4 : Int32) (x5 : Int32) (x6 : Int32) (x7 : Int32) (x8 : Int32) (x9 : Int32) (x10 : Int32) (I : Nat → Nat → Int32) (J : Nat → Nat → Int64) : am_O := am_run (am_G am_prog (N + 30) (d + 1)) eX9_plays uX9_plays n 77 [(0, .ref 135), (1, .int x1), (2, .int x2), (3, .int x3), (4, .int x4), (5, .int x5), (6, .int x6), (7, .int x7), (8, .int x8), (9, .int x9), (10, .int x10)] [] (mkh X I J)
def RX9_plays_119 (N d n : Nat) (X : lt_X) (x1 : Int32) (x2 : Int32) (x3 : Int32) (x4 : Int32) (x5 : Int32) (x6 : Int32) (x7 : Int32) (x8 : Int32) (x9 : Int32) (x10 : Int32) (s0 : Int32) (I : Nat → Nat → Int32) (J : Nat → Nat → Int64) : am_O := am_run (am_G am_prog (N + 30) (d + 1)) eX9_plays uX9_plays n 119 [(0, .ref 135), (1, .int x1), (2, .int x2), (3, .int x3), (4, .int x4), (5, .int x5), (6, .int x6), (7, .int x7), (8, .int x8), (9, .int x9), (10, .int x10)] [.int s0] (mkh X I J)
def RX9_plays_150 (N d n : Nat) (X : lt_X) (x1 : Int32) (x2 : Int32) (x3 : Int32) (x4 : Int32) (x5 : Int32) (x6 : Int32) (x7 : Int32) (x8 : Int32) (x9 : Int32) (s0 : Int32) (s1 : Int32) (s2 : Int32) (s3 : Int32) (s4 : Int32) (s5 : Nat) (s6 : Int32) (I : Nat → Nat → Int32) (J : Nat → Nat → Int64) : am_O := am_run (am_G am_prog (N + 30) (d + 1)) eX9_plays uX9_plays n 150 [(0, .ref 135), (1, .int x1), (2, .int x2), (3, .int x3), (4, .int x4), (5, .int x5), (6, .int x6), (7, .int x7), (8, .int x8), (9, .int x9)] [.int s0, .int s1, .int s2, .int s3, .int s4, .ref s5, .int s6] (mkh X I J)
def KX9_plays_0 (N d n : Nat) (a0 : Int32) (a1 : Int32) (a2 : Int32) (a3 : Int32) (a4 : Int32) (a5 : Int32) (a6 : Int32) (a7 : Int32) (a8 : Int32) (z : Int32) (h : am_H) : am_O := if z = nI 0 then am_run (am_G am_prog (N + 30) (d + 1)) eX9_plays uX9_plays n 30 [(0, .ref 135), (1, .int a0), (2, .int a1), (3, .int a2), (4, .int a3), (5, .int a4), (6, .int a5), (7, .int a6), (8, .int a7), (9, .int (a8 + (nI 1)))] [] h else am_run (am_G am_prog (N + 30) (d + 1)) eX9_plays uX9_plays n 77 [(0, .ref 135), (1, .int a0), (2, .int a1), (3, .int a2), (4, .int a3), (5, .int a4), (6, .int a5), (7, .int a6), (8, .int a7), (9, .int a8), (10, .int (nI 0))] [] h
def KX9_plays_1 (N d n : Nat) (a0 : Int32) (a1 : Int32) (a2 : Int32) (a3 : Int32) (a4 : Int32) (a5 : Int32) (a6 : Int32) (a7 : Int32) (a8 : Int32) (a9 : Int32) (z : Int32) (h : am_H) : am_O := if a7 < nI 0 then am_run (am_G am_prog (N + 30) (d + 1)) eX9_plays uX9_plays n 30 [(0, .ref 135), (1, .int a0), (2, .int a1), (3, .int a2), (4, .int a3), (5, .int a4), (6, .int a5), (7, .int (a9 + z)), (8, .int a8), (9, .int (a8 + (nI 1)))] [] h else if a5 = nI 0 then if (a9 + z) < a6 then am_run (am_G am_prog (N + 30) (d + 1)) eX9_plays uX9_plays n 30 [(0, .ref 135), (1, .int a0), (2, .int a1), (3, .int a2), (4, .int a3), (5, .int a4), (6, .int a5), (7, .int (a9 + z)), (8, .int a8), (9, .int (a8 + (nI 1)))] [] h else am_run (am_G am_prog (N + 30) (d + 1)) eX9_plays uX9_plays n 30 [(0, .ref 135), (1, .int a0), (2, .int a1), (3, .int a2), (4, .int a3), (5, .int a4), (6, .int a5), (7, .int a6), (8, .int a7), (9, .int (a8 + (nI 1)))] [] h else if a6 < (a9 + z) then am_run (am_G am_prog (N + 30) (d + 1)) eX9_plays uX9_plays n 30 [(0, .ref 135), (1, .int a0), (2, .int a1), (3, .int a2), (4, .int a3), (5, .int a4), (6, .int a5), (7, .int (a9 + z)), (8, .int a8), (9, .int (a8 + (nI 1)))] [] h else am_run (am_G am_prog (N + 30) (d + 1)) eX9_plays uX9_plays n 30 [(0, .ref 135), (1, .int a0), (2, .int a1), (3, .int a2), (4, .int a3), (5, .int a4), (6, .int a5), (7, .int a6), (8, .int a7), (9, .int (a8 + (nI 1)))] [] h
set_option maxHeartbeats 4000000 in
set_option maxRecDepth 100000 in
theorem sX9_plays_0 (N d n : Nat) {X : lt_X} (x1 : Int32) (x2 : Int32) (x3 : Int32) (x4 : Int32) (x5 : Int32) (I : Nat → Nat → Int32) (J : Nat → Nat → Int64) : RX9_plays_0 N d (n + 1) X x1 x2 x3 x4 x5 I J = if x3 = x4 then some (.int (nI 0), (mkh X I J)) else if (x3 - x3 / (nI 2) * (nI 2)) = nI 0 then RX9_plays_30 N d n X x1 x2 x3 x4 x5 (nI 1) (nI 0) (-1) (nI 0) I J else RX9_plays_30 N d n X x1 x2 x3 x4 x5 (nI 0) (nI 0) (-1) (nI 0) I J := by
  rfl
set_option maxHeartbeats 4000000 in
set_option maxRecDepth 100000 in
theorem sX9_plays_30 (N d n : Nat) {X : lt_X} (x1 : Int32) (x2 : Int32) (x3 : Int32) (x4 : Int32) (x5 : Int32) (x6 : Int32) (x7 : Int32) (x8 : Int32) (x9 : Int32) (I : Nat → Nat → Int32) (J : Nat → Nat → Int64) : RX9_plays_30 N d (n + 1) X x1 x2 x3 x4 x5 x6 x7 x8 x9 I J = if (I 140 3) < x9 then if x3 = nI 0 then some (.int x7, (mkh X (u2 I 135 31 x8) J)) else some (.int x7, (mkh X I J)) else if x9 = (I 140 3) then RX9_plays_77 N d n X x1 x2 x3 x4 x5 x6 x7 x8 x9 (nI 1) I J else am_cI (am_G am_prog (N + 30) (d + 1) 201 [.int x5, .int x9] (mkh X I J)) (KX9_plays_0 N d n x1 x2 x3 x4 x5 x6 x7 x8 x9) := by
  rfl
set_option maxHeartbeats 4000000 in
set_option maxRecDepth 100000 in
theorem sX9_plays_77 (N d n : Nat) {X : lt_X} (x1 : Int32) (x2 : Int32) (x3 : Int32) (x4 : Int32) (x5 : Int32) (x6 : Int32) (x7 : Int32) (x8 : Int32) (x9 : Int32) (x10 : Int32) (I : Nat → Nat → Int32) (J : Nat → Nat → Int64) : RX9_plays_77 N d (n + 1) X x1 x2 x3 x4 x5 x6 x7 x8 x9 x10 I J = if x10 = nI 0 then if x6 = nI 0 then if am_in (((nI 6) * x2) + x9) 36 then RX9_plays_119 N d n X x1 x2 x3 x4 x5 x6 x7 x8 x9 x10 (-(I 143 ((((nI 6) * x2) + x9).toNatClampNeg))) I J else none else if am_in (((nI 6) * x1) + x9) 36 then RX9_plays_119 N d n X x1 x2 x3 x4 x5 x6 x7 x8 x9 x10 (I 143 ((((nI 6) * x1) + x9).toNatClampNeg)) I J else none else RX9_plays_119 N d n X x1 x2 x3 x4 x5 x6 x7 x8 x9 x10 (nI 0) I J := by
  rfl
set_option maxHeartbeats 4000000 in
set_option maxRecDepth 100000 in
theorem sX9_plays_119 (N d n : Nat) {X : lt_X} (x1 : Int32) (x2 : Int32) (x3 : Int32) (x4 : Int32) (x5 : Int32) (x6 : Int32) (x7 : Int32) (x8 : Int32) (x9 : Int32) (x10 : Int32) (s0 : Int32) (I : Nat → Nat → Int32) (J : Nat → Nat → Int64) : RX9_plays_119 N d (n + 1) X x1 x2 x3 x4 x5 x6 x7 x8 x9 x10 s0 I J = if x10 = nI 0 then am_run (am_G am_prog (N + 30) (d + 1)) eX9_plays uX9_plays n 150 [(0, .ref 135), (1, .int x1), (2, .int x2), (3, .int x3), (4, .int x4), (5, .int x5), (6, .int x6), (7, .int x7), (8, .int x8), (9, .int x9)] [.int (x5 &&& (((nI 1) <<< (x9 &&& 31)) ^^^ (-1))), .int x4, .int (x3 + (nI 1)), .int x2, .int x1, .ref 135, .int s0] (mkh X I J) else am_run (am_G am_prog (N + 30) (d + 1)) eX9_plays uX9_plays n 150 [(0, .ref 135), (1, .int x1), (2, .int x2), (3, .int x3), (4, .int x4), (5, .int x5), (6, .int x6), (7, .int x7), (8, .int x8), (9, .int x9)] [.int x5, .int x4, .int (x3 + (nI 1)), .int x2, .int x1, .ref 135, .int s0] (mkh X I J) := by
  rfl
set_option maxHeartbeats 4000000 in
set_option maxRecDepth 100000 in
theorem sX9_plays_150 (N d n : Nat) {X : lt_X} (x1 : Int32) (x2 : Int32) (x3 : Int32) (x4 : Int32) (x5 : Int32) (x6 : Int32) (x7 : Int32) (x8 : Int32) (x9 : Int32) (s0 : Int32) (s1 : Int32) (s2 : Int32) (s3 : Int32) (s4 : Int32) (s5 : Nat) (s6 : Int32) (I : Nat → Nat → Int32) (J : Nat → Nat → Int64) : RX9_plays_150 N d (n + 1) X x1 x2 x3 x4 x5 x6 x7 x8 x9 s0 s1 s2 s3 s4 s5 s6 I J = am_cI (am_G am_prog (N + 30) (d + 1) 334 [.ref s5, .int s4, .int s3, .int s2, .int s1, .int s0] (mkh X I J)) (KX9_plays_1 N d n x1 x2 x3 x4 x5 x6 x7 x8 x9 s6) := by
  rfl
set_option maxHeartbeats 4000000 in
set_option maxRecDepth 100000 in
theorem kX9_plays_0 (N d n : Nat) {X : lt_X} (a0 : Int32) (a1 : Int32) (a2 : Int32) (a3 : Int32) (a4 : Int32) (a5 : Int32) (a6 : Int32) (a7 : Int32) (a8 : Int32) (z : Int32) (I : Nat → Nat → Int32) (J : Nat → Nat → Int64) : KX9_plays_0 N d n a0 a1 a2 a3 a4 a5 a6 a7 a8 z (mkh X I J) = if z = nI 0 then RX9_plays_30 N d n X a0 a1 a2 a3 a4 a5 a6 a7 (a8 + (nI 1)) I J else RX9_plays_77 N d n X a0 a1 a2 a3 a4 a5 a6 a7 a8 (nI 0) I J := by
  rfl
set_option maxHeartbeats 4000000 in
set_option maxRecDepth 100000 in
theorem kX9_plays_1 (N d n : Nat) {X : lt_X} (a0 : Int32) (a1 : Int32) (a2 : Int32) (a3 : Int32) (a4 : Int32) (a5 : Int32) (a6 : Int32) (a7 : Int32) (a8 : Int32) (a9 : Int32) (z : Int32) (I : Nat → Nat → Int32) (J : Nat → Nat → Int64) : KX9_plays_1 N d n a0 a1 a2 a3 a4 a5 a6 a7 a8 a9 z (mkh X I J) = if a7 < nI 0 then RX9_plays_30 N d n X a0 a1 a2 a3 a4 a5 (a9 + z) a8 (a8 + (nI 1)) I J else if a5 = nI 0 then if (a9 + z) < a6 then RX9_plays_30 N d n X a0 a1 a2 a3 a4 a5 (a9 + z) a8 (a8 + (nI 1)) I J else RX9_plays_30 N d n X a0 a1 a2 a3 a4 a5 a6 a7 (a8 + (nI 1)) I J else if a6 < (a9 + z) then RX9_plays_30 N d n X a0 a1 a2 a3 a4 a5 (a9 + z) a8 (a8 + (nI 1)) I J else RX9_plays_30 N d n X a0 a1 a2 a3 a4 a5 a6 a7 (a8 + (nI 1)) I J := by
  rfl
theorem fX9_plays (N d : Nat) {X : lt_X} (x1 : Int32) (x2 : Int32) (x3 : Int32) (x4 : Int32) (x5 : Int32) (I : Nat → Nat → Int32) (J : Nat → Nat → Int64) : am_G am_prog N (d + 1) 334 [.ref 135, .int x1, .int x2, .int x3, .int x4, .int x5] (mkh X I J) = am_run (am_G am_prog N d) eX9_plays uX9_plays N 0 [(0, .ref 135), (1, .int x1), (2, .int x2), (3, .int x3), (4, .int x4), (5, .int x5)] [] (mkh X I J) := by
  refine (am_G_at N d 334 mX9_plays _ _ rfl).trans ?_
  rfl
theorem gX9_plays (N d : Nat) {X : lt_X} (x1 : Int32) (x2 : Int32) (x3 : Int32) (x4 : Int32) (x5 : Int32) (I : Nat → Nat → Int32) (J : Nat → Nat → Int64) : am_G am_prog (N + 30) (d + 2) 334 [.ref 135, .int x1, .int x2, .int x3, .int x4, .int x5] (mkh X I J) = RX9_plays_0 N d (N + 30) X x1 x2 x3 x4 x5 I J := fX9_plays (N + 30) (d + 1) x1 x2 x3 x4 x5 I J
def RX9_whyNoGame_0 (N d n : Nat) (X : lt_X) (x1 : Int32) (x2 : Int32) (x3 : Int32) (x4 : Int32) (I : Nat → Nat → Int32) (J : Nat → Nat → Int64) : am_O := am_run (am_G am_prog (N + 30) (d + 2)) eX9_whyNoGame uX9_whyNoGame n 0 [(0, .ref 135), (1, .int x1), (2, .int x2), (3, .int x3), (4, .int x4)] [] (mkh X I J)
def KX9_whyNoGame_0 (N d n : Nat) (a0 : Int32) (a1 : Int32) (a2 : Int32) (a3 : Int32) (z : Int32) (h : am_H) : am_O := if z = nI 0 then some (.int (nI 2), h) else am_cI (am_G am_prog (N + 30) (d + 2) 260 [.ref 135, .long a1.toInt64] h) (fun r2 h1 => if r2 = nI 0 then some (.int (nI 2), h1) else if a0 = a1 then some (.int (nI 5), h1) else am_cI (am_G am_prog (N + 30) (d + 2) 190 [.long a2.toInt64, .long a3.toInt64, .long (lN 5)] h1) (fun r4 h3 => if r4 = nI 0 then some (.int (nI 5), h3) else some (.int (nI 0), h3)))
def KX9_whyNoGame_1 (N d n : Nat) (a0 : Int32) (a1 : Int32) (a2 : Int32) (a3 : Int32) (z : Int32) (h : am_H) : am_O := if z = nI 0 then some (.int (nI 2), h) else if a0 = a1 then some (.int (nI 5), h) else am_cI (am_G am_prog (N + 30) (d + 2) 190 [.long a2.toInt64, .long a3.toInt64, .long (lN 5)] h) (fun r2 h1 => if r2 = nI 0 then some (.int (nI 5), h1) else some (.int (nI 0), h1))
def KX9_whyNoGame_2 (N d n : Nat) (z : Int32) (h : am_H) : am_O := if z = nI 0 then some (.int (nI 5), h) else some (.int (nI 0), h)
set_option maxHeartbeats 4000000 in
set_option maxRecDepth 100000 in
theorem sX9_whyNoGame_0 (N d n : Nat) {X : lt_X} (x1 : Int32) (x2 : Int32) (x3 : Int32) (x4 : Int32) (I : Nat → Nat → Int32) (J : Nat → Nat → Int64) : RX9_whyNoGame_0 N d (n + 1) X x1 x2 x3 x4 I J = am_cI (am_G am_prog (N + 30) (d + 2) 260 [.ref 135, .long x1.toInt64] (mkh X I J)) (KX9_whyNoGame_0 N d n x1 x2 x3 x4) := by
  rfl
set_option maxHeartbeats 4000000 in
set_option maxRecDepth 100000 in
theorem kX9_whyNoGame_0 (N d n : Nat) {X : lt_X} (a0 : Int32) (a1 : Int32) (a2 : Int32) (a3 : Int32) (z : Int32) (I : Nat → Nat → Int32) (J : Nat → Nat → Int64) : KX9_whyNoGame_0 N d n a0 a1 a2 a3 z (mkh X I J) = if z = nI 0 then some (.int (nI 2), (mkh X I J)) else am_cI (am_G am_prog (N + 30) (d + 2) 260 [.ref 135, .long a1.toInt64] (mkh X I J)) (KX9_whyNoGame_1 N d n a0 a1 a2 a3) := by
  rfl
set_option maxHeartbeats 4000000 in
set_option maxRecDepth 100000 in
theorem kX9_whyNoGame_1 (N d n : Nat) {X : lt_X} (a0 : Int32) (a1 : Int32) (a2 : Int32) (a3 : Int32) (z : Int32) (I : Nat → Nat → Int32) (J : Nat → Nat → Int64) : KX9_whyNoGame_1 N d n a0 a1 a2 a3 z (mkh X I J) = if z = nI 0 then some (.int (nI 2), (mkh X I J)) else if a0 = a1 then some (.int (nI 5), (mkh X I J)) else am_cI (am_G am_prog (N + 30) (d + 2) 190 [.long a2.toInt64, .long a3.toInt64, .long (lN 5)] (mkh X I J)) (KX9_whyNoGame_2 N d n ) := by
  rfl
set_option maxHeartbeats 4000000 in
set_option maxRecDepth 100000 in
theorem kX9_whyNoGame_2 (N d n : Nat) {X : lt_X} (z : Int32) (I : Nat → Nat → Int32) (J : Nat → Nat → Int64) : KX9_whyNoGame_2 N d n z (mkh X I J) = if z = nI 0 then some (.int (nI 5), (mkh X I J)) else some (.int (nI 0), (mkh X I J)) := by
  rfl
theorem fX9_whyNoGame (N d : Nat) {X : lt_X} (x1 : Int32) (x2 : Int32) (x3 : Int32) (x4 : Int32) (I : Nat → Nat → Int32) (J : Nat → Nat → Int64) : am_G am_prog N (d + 1) 335 [.ref 135, .int x1, .int x2, .int x3, .int x4] (mkh X I J) = am_run (am_G am_prog N d) eX9_whyNoGame uX9_whyNoGame N 0 [(0, .ref 135), (1, .int x1), (2, .int x2), (3, .int x3), (4, .int x4)] [] (mkh X I J) := by
  refine (am_G_at N d 335 mX9_whyNoGame _ _ rfl).trans ?_
  rfl
theorem gX9_whyNoGame (N d : Nat) {X : lt_X} (x1 : Int32) (x2 : Int32) (x3 : Int32) (x4 : Int32) (I : Nat → Nat → Int32) (J : Nat → Nat → Int64) : am_G am_prog (N + 30) (d + 3) 335 [.ref 135, .int x1, .int x2, .int x3, .int x4] (mkh X I J) = RX9_whyNoGame_0 N d (N + 30) X x1 x2 x3 x4 I J := fX9_whyNoGame (N + 30) (d + 2) x1 x2 x3 x4 I J
def RX9_game_0 (N d n : Nat) (X : lt_X) (x1 : Int32) (x2 : Int32) (x3 : Int32) (I : Nat → Nat → Int32) (J : Nat → Nat → Int64) : am_O := am_run (am_G am_prog (N + 30) (d + 0)) eX9_game uX9_game n 0 [(0, .ref 135), (1, .int x1), (2, .int x2), (3, .int x3)] [] (mkh X I J)
def KX9_game_0 (N d n : Nat) (a0 : Int32) (a1 : Int32) (a2 : Int32) (z : Int32) (h : am_H) : am_O := am_pI h 9 135 0 z (fun h1 => am_gI h1 9 135 0 (fun y2 => if nI 0 < y2 then some (.int (-1), h1) else am_cV (am_G am_prog (N + 30) (d + 0) 303 [.ref 135] h1) (fun h3 => am_cI (am_G am_prog (N + 30) (d + 0) 262 [.ref 135, .int (-1)] h3) (fun r5 h4 => am_cI (am_G am_prog (N + 30) (d + 0) 334 [.ref 135, .int a0, .int a1, .int (nI 0), .int a2, .int r5] h4) (fun r7 h6 => some (.int r7, h6))))))
def KX9_game_1 (N d n : Nat) (a0 : Int32) (a1 : Int32) (a2 : Int32) (h : am_H) : am_O := am_cI (am_G am_prog (N + 30) (d + 0) 262 [.ref 135, .int (-1)] h) (fun r2 h1 => am_cI (am_G am_prog (N + 30) (d + 0) 334 [.ref 135, .int a0, .int a1, .int (nI 0), .int a2, .int r2] h1) (fun r4 h3 => some (.int r4, h3)))
def KX9_game_2 (N d n : Nat) (a0 : Int32) (a1 : Int32) (a2 : Int32) (z : Int32) (h : am_H) : am_O := am_cI (am_G am_prog (N + 30) (d + 0) 334 [.ref 135, .int a2, .int a1, .int (nI 0), .int a0, .int z] h) (fun r2 h1 => some (.int r2, h1))
def KX9_game_3 (N d n : Nat) (z : Int32) (h : am_H) : am_O := some (.int z, h)
set_option maxHeartbeats 4000000 in
set_option maxRecDepth 100000 in
theorem sX9_game_0 (N d n : Nat) {X : lt_X} (x1 : Int32) (x2 : Int32) (x3 : Int32) (I : Nat → Nat → Int32) (J : Nat → Nat → Int64) : RX9_game_0 N d (n + 1) X x1 x2 x3 I J = am_cI (am_G am_prog (N + 30) (d + 0) 335 [.ref 135, .int x1, .int x2, .int x3, .int (nI 0)] (mkh X (u2 I 135 1 (nI 0)) J)) (KX9_game_0 N d n x1 x2 x3) := by
  rfl
set_option maxHeartbeats 4000000 in
set_option maxRecDepth 100000 in
theorem kX9_game_0 (N d n : Nat) {X : lt_X} (a0 : Int32) (a1 : Int32) (a2 : Int32) (z : Int32) (I : Nat → Nat → Int32) (J : Nat → Nat → Int64) : KX9_game_0 N d n a0 a1 a2 z (mkh X I J) = if nI 0 < z then some (.int (-1), (mkh X (u2 I 135 0 z) J)) else am_cV (am_G am_prog (N + 30) (d + 0) 303 [.ref 135] (mkh X (u2 I 135 0 z) J)) (KX9_game_1 N d n a0 a1 a2) := by
  rfl
set_option maxHeartbeats 4000000 in
set_option maxRecDepth 100000 in
theorem kX9_game_1 (N d n : Nat) {X : lt_X} (a0 : Int32) (a1 : Int32) (a2 : Int32) (I : Nat → Nat → Int32) (J : Nat → Nat → Int64) : KX9_game_1 N d n a0 a1 a2 (mkh X I J) = am_cI (am_G am_prog (N + 30) (d + 0) 262 [.ref 135, .int (-1)] (mkh X I J)) (KX9_game_2 N d n a2 a1 a0) := by
  rfl
set_option maxHeartbeats 4000000 in
set_option maxRecDepth 100000 in
theorem kX9_game_2 (N d n : Nat) {X : lt_X} (a0 : Int32) (a1 : Int32) (a2 : Int32) (z : Int32) (I : Nat → Nat → Int32) (J : Nat → Nat → Int64) : KX9_game_2 N d n a0 a1 a2 z (mkh X I J) = am_cI (am_G am_prog (N + 30) (d + 0) 334 [.ref 135, .int a2, .int a1, .int (nI 0), .int a0, .int z] (mkh X I J)) (KX9_game_3 N d n ) := by
  rfl
set_option maxHeartbeats 4000000 in
set_option maxRecDepth 100000 in
theorem kX9_game_3 (N d n : Nat) {X : lt_X} (z : Int32) (I : Nat → Nat → Int32) (J : Nat → Nat → Int64) : KX9_game_3 N d n z (mkh X I J) = some (.int z, (mkh X I J)) := by
  rfl
theorem fX9_game (N d : Nat) {X : lt_X} (x1 : Int32) (x2 : Int32) (x3 : Int32) (I : Nat → Nat → Int32) (J : Nat → Nat → Int64) : am_G am_prog N (d + 1) 336 [.ref 135, .int x1, .int x2, .int x3] (mkh X I J) = am_run (am_G am_prog N d) eX9_game uX9_game N 0 [(0, .ref 135), (1, .int x1), (2, .int x2), (3, .int x3)] [] (mkh X I J) := by
  refine (am_G_at N d 336 mX9_game _ _ rfl).trans ?_
  rfl
theorem gX9_game (N d : Nat) {X : lt_X} (x1 : Int32) (x2 : Int32) (x3 : Int32) (I : Nat → Nat → Int32) (J : Nat → Nat → Int64) : am_G am_prog (N + 30) (d + 1) 336 [.ref 135, .int x1, .int x2, .int x3] (mkh X I J) = RX9_game_0 N d (N + 30) X x1 x2 x3 I J := fX9_game (N + 30) (d + 0) x1 x2 x3 I J
def RX9_moveOf_0 (N d n : Nat) (X : lt_X) (x1 : Int32) (x2 : Int32) (x3 : Int32) (I : Nat → Nat → Int32) (J : Nat → Nat → Int64) : am_O := am_run (am_G am_prog (N + 30) (d + 1)) eX9_moveOf uX9_moveOf n 0 [(0, .ref 135), (1, .int x1), (2, .int x2), (3, .int x3)] [] (mkh X I J)
def KX9_moveOf_0 (N d n : Nat) (a0 : Int32) (a1 : Int32) (a2 : Int32) (z : Int32) (h : am_H) : am_O := am_pI h 9 135 0 z (fun h1 => am_gI h1 9 135 0 (fun y2 => if nI 0 < y2 then some (.int (-1), h1) else am_cV (am_G am_prog (N + 30) (d + 1) 303 [.ref 135] h1) (fun h3 => am_cI (am_G am_prog (N + 30) (d + 1) 262 [.ref 135, .int (-1)] h3) (fun r5 h4 => am_cI (am_G am_prog (N + 30) (d + 1) 334 [.ref 135, .int a0, .int a1, .int (nI 0), .int a2, .int r5] h4) (fun r7 h6 => am_gI h6 9 135 31 (fun y8 => am_gR h6 9 135 20 (fun y9 => am_lI h6 10 y9 (nI 3) (fun y10 => if y8 = y10 then am_cI (am_G am_prog (N + 30) (d + 1) 188 [.ref 135, .int (nI 8)] h6) (fun r12 h11 => some (.int r12, h11)) else am_gI h6 9 135 31 (fun y13 => some (.int y13, h6))))))))))
def KX9_moveOf_1 (N d n : Nat) (a0 : Int32) (a1 : Int32) (a2 : Int32) (h : am_H) : am_O := am_cI (am_G am_prog (N + 30) (d + 1) 262 [.ref 135, .int (-1)] h) (fun r2 h1 => am_cI (am_G am_prog (N + 30) (d + 1) 334 [.ref 135, .int a0, .int a1, .int (nI 0), .int a2, .int r2] h1) (fun r4 h3 => am_gI h3 9 135 31 (fun y5 => am_gR h3 9 135 20 (fun y6 => am_lI h3 10 y6 (nI 3) (fun y7 => if y5 = y7 then am_cI (am_G am_prog (N + 30) (d + 1) 188 [.ref 135, .int (nI 8)] h3) (fun r9 h8 => some (.int r9, h8)) else am_gI h3 9 135 31 (fun y10 => some (.int y10, h3)))))))
def KX9_moveOf_2 (N d n : Nat) (a0 : Int32) (a1 : Int32) (a2 : Int32) (z : Int32) (h : am_H) : am_O := am_cI (am_G am_prog (N + 30) (d + 1) 334 [.ref 135, .int a2, .int a1, .int (nI 0), .int a0, .int z] h) (fun r2 h1 => am_gI h1 9 135 31 (fun y3 => am_gR h1 9 135 20 (fun y4 => am_lI h1 10 y4 (nI 3) (fun y5 => if y3 = y5 then am_cI (am_G am_prog (N + 30) (d + 1) 188 [.ref 135, .int (nI 8)] h1) (fun r7 h6 => some (.int r7, h6)) else am_gI h1 9 135 31 (fun y8 => some (.int y8, h1))))))
def KX9_moveOf_3 (N d n : Nat) (z : Int32) (h : am_H) : am_O := am_gI h 9 135 31 (fun y1 => am_gR h 9 135 20 (fun y2 => am_lI h 10 y2 (nI 3) (fun y3 => if y1 = y3 then am_cI (am_G am_prog (N + 30) (d + 1) 188 [.ref 135, .int (nI 8)] h) (fun r5 h4 => some (.int r5, h4)) else am_gI h 9 135 31 (fun y6 => some (.int y6, h)))))
set_option maxHeartbeats 4000000 in
set_option maxRecDepth 100000 in
theorem sX9_moveOf_0 (N d n : Nat) {X : lt_X} (x1 : Int32) (x2 : Int32) (x3 : Int32) (I : Nat → Nat → Int32) (J : Nat → Nat → Int64) : RX9_moveOf_0 N d (n + 1) X x1 x2 x3 I J = am_cI (am_G am_prog (N + 30) (d + 1) 335 [.ref 135, .int x1, .int x2, .int x3, .int (nI 1)] (mkh X (u2 I 135 1 (nI 0)) J)) (KX9_moveOf_0 N d n x1 x2 x3) := by
  rfl
set_option maxHeartbeats 4000000 in
set_option maxRecDepth 100000 in
theorem kX9_moveOf_0 (N d n : Nat) {X : lt_X} (a0 : Int32) (a1 : Int32) (a2 : Int32) (z : Int32) (I : Nat → Nat → Int32) (J : Nat → Nat → Int64) : KX9_moveOf_0 N d n a0 a1 a2 z (mkh X I J) = if nI 0 < z then some (.int (-1), (mkh X (u2 I 135 0 z) J)) else am_cV (am_G am_prog (N + 30) (d + 1) 303 [.ref 135] (mkh X (u2 I 135 0 z) J)) (KX9_moveOf_1 N d n a0 a1 a2) := by
  rfl
set_option maxHeartbeats 4000000 in
set_option maxRecDepth 100000 in
theorem kX9_moveOf_1 (N d n : Nat) {X : lt_X} (a0 : Int32) (a1 : Int32) (a2 : Int32) (I : Nat → Nat → Int32) (J : Nat → Nat → Int64) : KX9_moveOf_1 N d n a0 a1 a2 (mkh X I J) = am_cI (am_G am_prog (N + 30) (d + 1) 262 [.ref 135, .int (-1)] (mkh X I J)) (KX9_moveOf_2 N d n a2 a1 a0) := by
  rfl
set_option maxHeartbeats 4000000 in
set_option maxRecDepth 100000 in
theorem kX9_moveOf_2 (N d n : Nat) {X : lt_X} (a0 : Int32) (a1 : Int32) (a2 : Int32) (z : Int32) (I : Nat → Nat → Int32) (J : Nat → Nat → Int64) : KX9_moveOf_2 N d n a0 a1 a2 z (mkh X I J) = am_cI (am_G am_prog (N + 30) (d + 1) 334 [.ref 135, .int a2, .int a1, .int (nI 0), .int a0, .int z] (mkh X I J)) (KX9_moveOf_3 N d n ) := by
  rfl
set_option maxHeartbeats 4000000 in
set_option maxRecDepth 100000 in
theorem kX9_moveOf_3 (N d n : Nat) {X : lt_X} (z : Int32) (I : Nat → Nat → Int32) (J : Nat → Nat → Int64) : KX9_moveOf_3 N d n z (mkh X I J) = if (I 135 31) = (I 140 3) then some (.int (-1), (mkh X (u2 I 135 0 (nI 8)) J)) else some (.int (I 135 31), (mkh X I J)) := by
  rfl
theorem fX9_moveOf (N d : Nat) {X : lt_X} (x1 : Int32) (x2 : Int32) (x3 : Int32) (I : Nat → Nat → Int32) (J : Nat → Nat → Int64) : am_G am_prog N (d + 1) 337 [.ref 135, .int x1, .int x2, .int x3] (mkh X I J) = am_run (am_G am_prog N d) eX9_moveOf uX9_moveOf N 0 [(0, .ref 135), (1, .int x1), (2, .int x2), (3, .int x3)] [] (mkh X I J) := by
  refine (am_G_at N d 337 mX9_moveOf _ _ rfl).trans ?_
  rfl
theorem gX9_moveOf (N d : Nat) {X : lt_X} (x1 : Int32) (x2 : Int32) (x3 : Int32) (I : Nat → Nat → Int32) (J : Nat → Nat → Int64) : am_G am_prog (N + 30) (d + 2) 337 [.ref 135, .int x1, .int x2, .int x3] (mkh X I J) = RX9_moveOf_0 N d (N + 30) X x1 x2 x3 I J := fX9_moveOf (N + 30) (d + 1) x1 x2 x3 I J
def RX9_power_0 (N d n : Nat) (X : lt_X) (x0 : Int32) (x1 : Int32) (I : Nat → Nat → Int32) (J : Nat → Nat → Int64) : am_O := am_run (am_G am_prog (N + 30) (d + 0)) eX9_power uX9_power n 0 [(0, .int x0), (1, .int x1)] [] (mkh X I J)
def RX9_power_5 (N d n : Nat) (X : lt_X) (x0 : Int32) (x1 : Int32) (x2 : Int64) (x4 : Int32) (I : Nat → Nat → Int32) (J : Nat → Nat → Int64) : am_O := am_run (am_G am_prog (N + 30) (d + 0)) eX9_power uX9_power n 5 [(0, .int x0), (1, .int x1), (2, .long x2), (4, .int x4)] [] (mkh X I J)
set_option maxHeartbeats 4000000 in
set_option maxRecDepth 100000 in
theorem sX9_power_0 (N d n : Nat) {X : lt_X} (x0 : Int32) (x1 : Int32) (I : Nat → Nat → Int32) (J : Nat → Nat → Int64) : RX9_power_0 N d (n + 1) X x0 x1 I J = RX9_power_5 N d n X x0 x1 (lN 1) (nI 0) I J := by
  rfl
set_option maxHeartbeats 4000000 in
set_option maxRecDepth 100000 in
theorem sX9_power_5 (N d n : Nat) {X : lt_X} (x0 : Int32) (x1 : Int32) (x2 : Int64) (x4 : Int32) (I : Nat → Nat → Int32) (J : Nat → Nat → Int64) : RX9_power_5 N d (n + 1) X x0 x1 x2 x4 I J = if x4 < x1 then RX9_power_5 N d n X x0 x1 (x2 * x0.toInt64) (x4 + (nI 1)) I J else some (.long x2, (mkh X I J)) := by
  rfl
theorem fX9_power (N d : Nat) {X : lt_X} (x0 : Int32) (x1 : Int32) (I : Nat → Nat → Int32) (J : Nat → Nat → Int64) : am_G am_prog N (d + 1) 338 [.int x0, .int x1] (mkh X I J) = am_run (am_G am_prog N d) eX9_power uX9_power N 0 [(0, .int x0), (1, .int x1)] [] (mkh X I J) := by
  refine (am_G_at N d 338 mX9_power _ _ rfl).trans ?_
  rfl
theorem gX9_power (N d : Nat) {X : lt_X} (x0 : Int32) (x1 : Int32) (I : Nat → Nat → Int32) (J : Nat → Nat → Int64) : am_G am_prog (N + 30) (d + 1) 338 [.int x0, .int x1] (mkh X I J) = RX9_power_0 N d (N + 30) X x0 x1 I J := fX9_power (N + 30) (d + 0) x0 x1 I J
def RX9_alive_0 (N d n : Nat) (X : lt_X) (x1 : Int32) (x2 : Int32) (I : Nat → Nat → Int32) (J : Nat → Nat → Int64) : am_O := am_run (am_G am_prog (N + 30) (d + 2)) eX9_alive uX9_alive n 0 [(0, .ref 135), (1, .int x1), (2, .int x2)] [] (mkh X I J)
def KX9_alive_0 (N d n : Nat) (a0 : Int32) (a1 : Int32) (z : Int32) (h : am_H) : am_O := if z = nI 0 then am_cI (am_G am_prog (N + 30) (d + 2) 189 [.ref 135, .int (nI 2)] h) (fun r2 h1 => am_nb r2 (some (.int r2, h1))) else am_cI (am_G am_prog (N + 30) (d + 2) 190 [.long a1.toInt64, .long (lN 0), .long (lN 12)] h) (fun r4 h3 => if r4 = nI 0 then am_cI (am_G am_prog (N + 30) (d + 2) 189 [.ref 135, .int (nI 5)] h3) (fun r6 h5 => am_nb r6 (some (.int r6, h5))) else am_gR h3 9 135 20 (fun y7 => am_lI h3 10 y7 ((nI 25) + a0) (fun y8 => if y8 = nI 0 then am_cI (am_G am_prog (N + 30) (d + 2) 189 [.ref 135, .int (nI 9)] h3) (fun r10 h9 => am_nb r10 (some (.int r10, h9))) else am_gR h3 9 135 20 (fun y11 => am_lI h3 10 y11 (nI 4) (fun y12 => am_cL (am_G am_prog (N + 30) (d + 2) 338 [.int ((nI 16) - y12), .int a1] h3) (fun r14 h13 => am_cL (am_G am_prog (N + 30) (d + 2) 338 [.int (nI 16), .int a1] h13) (fun r16 h15 => am_cI (am_G am_prog (N + 30) (d + 2) 191 [.ref 135, .long r14, .long r16] h15) (fun r18 h17 => am_nb r18 (some (.int r18, h17))))))))))
def KX9_alive_1 (N d n : Nat) (a0 : Int32) (a1 : Int32) (z : Int32) (h : am_H) : am_O := if z = nI 0 then am_cI (am_G am_prog (N + 30) (d + 2) 189 [.ref 135, .int (nI 5)] h) (fun r2 h1 => am_nb r2 (some (.int r2, h1))) else am_gR h 9 135 20 (fun y3 => am_lI h 10 y3 ((nI 25) + a0) (fun y4 => if y4 = nI 0 then am_cI (am_G am_prog (N + 30) (d + 2) 189 [.ref 135, .int (nI 9)] h) (fun r6 h5 => am_nb r6 (some (.int r6, h5))) else am_gR h 9 135 20 (fun y7 => am_lI h 10 y7 (nI 4) (fun y8 => am_cL (am_G am_prog (N + 30) (d + 2) 338 [.int ((nI 16) - y8), .int a1] h) (fun r10 h9 => am_cL (am_G am_prog (N + 30) (d + 2) 338 [.int (nI 16), .int a1] h9) (fun r12 h11 => am_cI (am_G am_prog (N + 30) (d + 2) 191 [.ref 135, .long r10, .long r12] h11) (fun r14 h13 => am_nb r14 (some (.int r14, h13)))))))))
def KX9_alive_2 (N d n : Nat) (a0 : Int32) (z : Int64) (h : am_H) : am_O := am_cL (am_G am_prog (N + 30) (d + 2) 338 [.int (nI 16), .int a0] h) (fun r2 h1 => am_cI (am_G am_prog (N + 30) (d + 2) 191 [.ref 135, .long z, .long r2] h1) (fun r4 h3 => am_nb r4 (some (.int r4, h3))))
def KX9_alive_3 (N d n : Nat) (a0 : Int64) (z : Int64) (h : am_H) : am_O := am_cI (am_G am_prog (N + 30) (d + 2) 191 [.ref 135, .long a0, .long z] h) (fun r2 h1 => am_nb r2 (some (.int r2, h1)))
def KX9_alive_4 (N d n : Nat) (z : Int32) (h : am_H) : am_O := am_nb z (some (.int z, h))
set_option maxHeartbeats 4000000 in
set_option maxRecDepth 100000 in
theorem sX9_alive_0 (N d n : Nat) {X : lt_X} (x1 : Int32) (x2 : Int32) (I : Nat → Nat → Int32) (J : Nat → Nat → Int64) : RX9_alive_0 N d (n + 1) X x1 x2 I J = am_cI (am_G am_prog (N + 30) (d + 2) 259 [.ref 135, .int x1] (mkh X (u2 (u2 I 135 1 (nI 0)) 135 0 (nI 0)) J)) (KX9_alive_0 N d n x1 x2) := by
  rfl
set_option maxHeartbeats 4000000 in
set_option maxRecDepth 100000 in
theorem kX9_alive_0 (N d n : Nat) {X : lt_X} (a0 : Int32) (a1 : Int32) (z : Int32) (I : Nat → Nat → Int32) (J : Nat → Nat → Int64) : KX9_alive_0 N d n a0 a1 z (mkh X I J) = if z = nI 0 then some (.int (nI 0), (mkh X (u2 I 135 0 (nI 2)) J)) else am_cI (am_G am_prog (N + 30) (d + 2) 190 [.long a1.toInt64, .long (lN 0), .long (lN 12)] (mkh X I J)) (KX9_alive_1 N d n a0 a1) := by
  rfl
set_option maxHeartbeats 4000000 in
set_option maxRecDepth 100000 in
theorem kX9_alive_1 (N d n : Nat) {X : lt_X} (a0 : Int32) (a1 : Int32) (z : Int32) (I : Nat → Nat → Int32) (J : Nat → Nat → Int64) : KX9_alive_1 N d n a0 a1 z (mkh X I J) = if z = nI 0 then some (.int (nI 0), (mkh X (u2 I 135 0 (nI 5)) J)) else if am_in ((nI 25) + a0) 2145 then if (I 140 (((nI 25) + a0).toNatClampNeg)) = nI 0 then some (.int (nI 0), (mkh X (u2 I 135 0 (nI 9)) J)) else am_cL (am_G am_prog (N + 30) (d + 2) 338 [.int ((nI 16) - (I 140 4)), .int a1] (mkh X I J)) (KX9_alive_2 N d n a1) else none := by
  rfl
set_option maxHeartbeats 4000000 in
set_option maxRecDepth 100000 in
theorem kX9_alive_2 (N d n : Nat) {X : lt_X} (a0 : Int32) (z : Int64) (I : Nat → Nat → Int32) (J : Nat → Nat → Int64) : KX9_alive_2 N d n a0 z (mkh X I J) = am_cL (am_G am_prog (N + 30) (d + 2) 338 [.int (nI 16), .int a0] (mkh X I J)) (KX9_alive_3 N d n z) := by
  rfl
set_option maxHeartbeats 4000000 in
set_option maxRecDepth 100000 in
theorem kX9_alive_3 (N d n : Nat) {X : lt_X} (a0 : Int64) (z : Int64) (I : Nat → Nat → Int32) (J : Nat → Nat → Int64) : KX9_alive_3 N d n a0 z (mkh X I J) = am_cI (am_G am_prog (N + 30) (d + 2) 191 [.ref 135, .long a0, .long z] (mkh X I J)) (KX9_alive_4 N d n ) := by
  rfl
set_option maxHeartbeats 4000000 in
set_option maxRecDepth 100000 in
theorem kX9_alive_4 (N d n : Nat) {X : lt_X} (z : Int32) (I : Nat → Nat → Int32) (J : Nat → Nat → Int64) : KX9_alive_4 N d n z (mkh X I J) = am_nb z (some (.int z, (mkh X I J))) := by
  rfl
theorem fX9_alive (N d : Nat) {X : lt_X} (x1 : Int32) (x2 : Int32) (I : Nat → Nat → Int32) (J : Nat → Nat → Int64) : am_G am_prog N (d + 1) 339 [.ref 135, .int x1, .int x2] (mkh X I J) = am_run (am_G am_prog N d) eX9_alive uX9_alive N 0 [(0, .ref 135), (1, .int x1), (2, .int x2)] [] (mkh X I J) := by
  refine (am_G_at N d 339 mX9_alive _ _ rfl).trans ?_
  rfl
theorem gX9_alive (N d : Nat) {X : lt_X} (x1 : Int32) (x2 : Int32) (I : Nat → Nat → Int32) (J : Nat → Nat → Int64) : am_G am_prog (N + 30) (d + 3) 339 [.ref 135, .int x1, .int x2] (mkh X I J) = RX9_alive_0 N d (N + 30) X x1 x2 I J := fX9_alive (N + 30) (d + 2) x1 x2 I J
