/-! printed by wip/whole/eqs4.py (sym4.py) -/
def RX9_laysBest_0 (N d n : Nat) (X : lt_X) (x1 : Int32) (I : Nat → Nat → Int32) (J : Nat → Nat → Int64) : am_O := am_run (am_G am_prog (N + 30) (d + 0)) eX9_laysBest uX9_laysBest n 0 [(0, .ref 135), (1, .int x1)] [] (mkh X I J)
def KX9_laysBest_0 (N d n : Nat) (a0 : Int32) (h : am_H) : am_O := am_pI h 9 135 29 (-1) (fun h1 => am_cV (am_G am_prog (N + 30) (d + 0) 304 [.ref 135, .int a0, .int (nI 0), .int (nI 0), .int (nI 0)] h1) (fun h2 => some (.null, h2)))
def KX9_laysBest_1 (N d n : Nat) (h : am_H) : am_O := some (.null, h)
set_option maxHeartbeats 4000000 in
set_option maxRecDepth 100000 in
theorem sX9_laysBest_0 (N d n : Nat) {X : lt_X} (x1 : Int32) (I : Nat → Nat → Int32) (J : Nat → Nat → Int64) : RX9_laysBest_0 N d (n + 1) X x1 I J = am_cV (am_G am_prog (N + 30) (d + 0) 303 [.ref 135] (mkh X I J)) (KX9_laysBest_0 N d n x1) := by
  rfl
set_option maxHeartbeats 4000000 in
set_option maxRecDepth 100000 in
theorem kX9_laysBest_0 (N d n : Nat) {X : lt_X} (a0 : Int32) (I : Nat → Nat → Int32) (J : Nat → Nat → Int64) : KX9_laysBest_0 N d n a0 (mkh X I J) = am_cV (am_G am_prog (N + 30) (d + 0) 304 [.ref 135, .int a0, .int (nI 0), .int (nI 0), .int (nI 0)] (mkh X (u2 I 135 29 (-1)) J)) (KX9_laysBest_1 N d n ) := by
  rfl
set_option maxHeartbeats 4000000 in
set_option maxRecDepth 100000 in
theorem kX9_laysBest_1 (N d n : Nat) {X : lt_X} (I : Nat → Nat → Int32) (J : Nat → Nat → Int64) : KX9_laysBest_1 N d n (mkh X I J) = some (.null, (mkh X I J)) := by
  rfl
theorem fX9_laysBest (N d : Nat) {X : lt_X} (x1 : Int32) (I : Nat → Nat → Int32) (J : Nat → Nat → Int64) : am_G am_prog N (d + 1) 305 [.ref 135, .int x1] (mkh X I J) = am_run (am_G am_prog N d) eX9_laysBest uX9_laysBest N 0 [(0, .ref 135), (1, .int x1)] [] (mkh X I J) := by
  refine (am_G_at N d 305 mX9_laysBest _ _ rfl).trans ?_
  rfl
theorem gX9_laysBest (N d : Nat) {X : lt_X} (x1 : Int32) (I : Nat → Nat → Int32) (J : Nat → Nat → Int64) : am_G am_prog (N + 30) (d + 1) 305 [.ref 135, .int x1] (mkh X I J) = RX9_laysBest_0 N d (N + 30) X x1 I J := fX9_laysBest (N + 30) (d + 0) x1 I J
def RX9_arePeople_0 (N d n : Nat) (X : lt_X) (x1 : Int32) (I : Nat → Nat → Int32) (J : Nat → Nat → Int64) : am_O := am_run (am_G am_prog (N + 30) (d + 1)) eX9_arePeople uX9_arePeople n 0 [(0, .ref 135), (1, .int x1)] [] (mkh X I J)
def KX9_arePeople_0 (N d n : Nat) (z : Int32) (h : am_H) : am_O := am_nb z (some (.int z, h))
set_option maxHeartbeats 4000000 in
set_option maxRecDepth 100000 in
theorem sX9_arePeople_0 (N d n : Nat) {X : lt_X} (x1 : Int32) (I : Nat → Nat → Int32) (J : Nat → Nat → Int64) : RX9_arePeople_0 N d (n + 1) X x1 I J = am_cI (am_G am_prog (N + 30) (d + 1) 190 [.long x1.toInt64, .long (lN 0), .long ((((nI 1) <<< ((I 140 2) &&& 31)) - (nI 1)).toInt64)] (mkh X I J)) (KX9_arePeople_0 N d n ) := by
  rfl
set_option maxHeartbeats 4000000 in
set_option maxRecDepth 100000 in
theorem kX9_arePeople_0 (N d n : Nat) {X : lt_X} (z : Int32) (I : Nat → Nat → Int32) (J : Nat → Nat → Int64) : KX9_arePeople_0 N d n z (mkh X I J) = am_nb z (some (.int z, (mkh X I J))) := by
  rfl
theorem fX9_arePeople (N d : Nat) {X : lt_X} (x1 : Int32) (I : Nat → Nat → Int32) (J : Nat → Nat → Int64) : am_G am_prog N (d + 1) 306 [.ref 135, .int x1] (mkh X I J) = am_run (am_G am_prog N d) eX9_arePeople uX9_arePeople N 0 [(0, .ref 135), (1, .int x1)] [] (mkh X I J) := by
  refine (am_G_at N d 306 mX9_arePeople _ _ rfl).trans ?_
  rfl
theorem gX9_arePeople (N d : Nat) {X : lt_X} (x1 : Int32) (I : Nat → Nat → Int32) (J : Nat → Nat → Int64) : am_G am_prog (N + 30) (d + 2) 306 [.ref 135, .int x1] (mkh X I J) = RX9_arePeople_0 N d (N + 30) X x1 I J := fX9_arePeople (N + 30) (d + 1) x1 I J
def RX9_best_0 (N d n : Nat) (X : lt_X) (x1 : Int32) (I : Nat → Nat → Int32) (J : Nat → Nat → Int64) : am_O := am_run (am_G am_prog (N + 30) (d + 2)) eX9_best uX9_best n 0 [(0, .ref 135), (1, .int x1)] [] (mkh X I J)
def KX9_best_0 (N d n : Nat) (a0 : Int32) (z : Int32) (h : am_H) : am_O := if z = nI 0 then am_cI (am_G am_prog (N + 30) (d + 2) 188 [.ref 135, .int (nI 5)] h) (fun r2 h1 => some (.int r2, h1)) else am_cV (am_G am_prog (N + 30) (d + 2) 305 [.ref 135, .int a0] h) (fun h3 => am_gI h3 9 135 29 (fun y4 => some (.int y4, h3)))
def KX9_best_1 (N d n : Nat) (h : am_H) : am_O := am_gI h 9 135 29 (fun y1 => some (.int y1, h))
set_option maxHeartbeats 4000000 in
set_option maxRecDepth 100000 in
theorem sX9_best_0 (N d n : Nat) {X : lt_X} (x1 : Int32) (I : Nat → Nat → Int32) (J : Nat → Nat → Int64) : RX9_best_0 N d (n + 1) X x1 I J = am_cI (am_G am_prog (N + 30) (d + 2) 306 [.ref 135, .int x1] (mkh X (u2 (u2 I 135 1 (nI 0)) 135 0 (nI 0)) J)) (KX9_best_0 N d n x1) := by
  rfl
set_option maxHeartbeats 4000000 in
set_option maxRecDepth 100000 in
theorem kX9_best_0 (N d n : Nat) {X : lt_X} (a0 : Int32) (z : Int32) (I : Nat → Nat → Int32) (J : Nat → Nat → Int64) : KX9_best_0 N d n a0 z (mkh X I J) = if z = nI 0 then some (.int (-1), (mkh X (u2 I 135 0 (nI 5)) J)) else am_cV (am_G am_prog (N + 30) (d + 2) 305 [.ref 135, .int a0] (mkh X I J)) (KX9_best_1 N d n ) := by
  rfl
set_option maxHeartbeats 4000000 in
set_option maxRecDepth 100000 in
theorem kX9_best_1 (N d n : Nat) {X : lt_X} (I : Nat → Nat → Int32) (J : Nat → Nat → Int64) : KX9_best_1 N d n (mkh X I J) = some (.int (I 135 29), (mkh X I J)) := by
  rfl
theorem fX9_best (N d : Nat) {X : lt_X} (x1 : Int32) (I : Nat → Nat → Int32) (J : Nat → Nat → Int64) : am_G am_prog N (d + 1) 307 [.ref 135, .int x1] (mkh X I J) = am_run (am_G am_prog N d) eX9_best uX9_best N 0 [(0, .ref 135), (1, .int x1)] [] (mkh X I J) := by
  refine (am_G_at N d 307 mX9_best _ _ rfl).trans ?_
  rfl
theorem gX9_best (N d : Nat) {X : lt_X} (x1 : Int32) (I : Nat → Nat → Int32) (J : Nat → Nat → Int64) : am_G am_prog (N + 30) (d + 3) 307 [.ref 135, .int x1] (mkh X I J) = RX9_best_0 N d (N + 30) X x1 I J := fX9_best (N + 30) (d + 2) x1 I J
def RX9_bestSet_0 (N d n : Nat) (X : lt_X) (x1 : Int32) (x2 : Int32) (I : Nat → Nat → Int32) (J : Nat → Nat → Int64) : am_O := am_run (am_G am_prog (N + 30) (d + 2)) eX9_bestSet uX9_bestSet n 0 [(0, .ref 135), (1, .int x1), (2, .int x2)] [] (mkh X I J)
def KX9_bestSet_0 (N d n : Nat) (a0 : Int32) (a1 : Int32) (z : Int32) (h : am_H) : am_O := if z = nI 0 then am_cI (am_G am_prog (N + 30) (d + 2) 188 [.ref 135, .int (nI 2)] h) (fun r2 h1 => some (.int r2, h1)) else am_cI (am_G am_prog (N + 30) (d + 2) 306 [.ref 135, .int a0] h) (fun r4 h3 => if r4 = nI 0 then am_cI (am_G am_prog (N + 30) (d + 2) 188 [.ref 135, .int (nI 5)] h3) (fun r6 h5 => some (.int r6, h5)) else am_cI (am_G am_prog (N + 30) (d + 2) 201 [.int a0, .int a1] h3) (fun r8 h7 => if r8 = nI 0 then am_cI (am_G am_prog (N + 30) (d + 2) 188 [.ref 135, .int (nI 5)] h7) (fun r10 h9 => some (.int r10, h9)) else am_cV (am_G am_prog (N + 30) (d + 2) 305 [.ref 135, .int a0] h7) (fun h11 => am_gR h11 9 135 28 (fun y12 => am_lI h11 10 y12 a1 (fun y13 => if y13 < nI 0 then am_cI (am_G am_prog (N + 30) (d + 2) 188 [.ref 135, .int (nI 8)] h11) (fun r15 h14 => some (.int r15, h14)) else am_gR h11 9 135 28 (fun y16 => am_lI h11 10 y16 a1 (fun y17 => some (.int y17, h11))))))))
def KX9_bestSet_1 (N d n : Nat) (a0 : Int32) (a1 : Int32) (z : Int32) (h : am_H) : am_O := if z = nI 0 then am_cI (am_G am_prog (N + 30) (d + 2) 188 [.ref 135, .int (nI 5)] h) (fun r2 h1 => some (.int r2, h1)) else am_cI (am_G am_prog (N + 30) (d + 2) 201 [.int a0, .int a1] h) (fun r4 h3 => if r4 = nI 0 then am_cI (am_G am_prog (N + 30) (d + 2) 188 [.ref 135, .int (nI 5)] h3) (fun r6 h5 => some (.int r6, h5)) else am_cV (am_G am_prog (N + 30) (d + 2) 305 [.ref 135, .int a0] h3) (fun h7 => am_gR h7 9 135 28 (fun y8 => am_lI h7 10 y8 a1 (fun y9 => if y9 < nI 0 then am_cI (am_G am_prog (N + 30) (d + 2) 188 [.ref 135, .int (nI 8)] h7) (fun r11 h10 => some (.int r11, h10)) else am_gR h7 9 135 28 (fun y12 => am_lI h7 10 y12 a1 (fun y13 => some (.int y13, h7)))))))
def KX9_bestSet_2 (N d n : Nat) (a0 : Int32) (a1 : Int32) (z : Int32) (h : am_H) : am_O := if z = nI 0 then am_cI (am_G am_prog (N + 30) (d + 2) 188 [.ref 135, .int (nI 5)] h) (fun r2 h1 => some (.int r2, h1)) else am_cV (am_G am_prog (N + 30) (d + 2) 305 [.ref 135, .int a0] h) (fun h3 => am_gR h3 9 135 28 (fun y4 => am_lI h3 10 y4 a1 (fun y5 => if y5 < nI 0 then am_cI (am_G am_prog (N + 30) (d + 2) 188 [.ref 135, .int (nI 8)] h3) (fun r7 h6 => some (.int r7, h6)) else am_gR h3 9 135 28 (fun y8 => am_lI h3 10 y8 a1 (fun y9 => some (.int y9, h3))))))
def KX9_bestSet_3 (N d n : Nat) (a0 : Int32) (h : am_H) : am_O := am_gR h 9 135 28 (fun y1 => am_lI h 10 y1 a0 (fun y2 => if y2 < nI 0 then am_cI (am_G am_prog (N + 30) (d + 2) 188 [.ref 135, .int (nI 8)] h) (fun r4 h3 => some (.int r4, h3)) else am_gR h 9 135 28 (fun y5 => am_lI h 10 y5 a0 (fun y6 => some (.int y6, h)))))
set_option maxHeartbeats 4000000 in
set_option maxRecDepth 100000 in
theorem sX9_bestSet_0 (N d n : Nat) {X : lt_X} (x1 : Int32) (x2 : Int32) (I : Nat → Nat → Int32) (J : Nat → Nat → Int64) : RX9_bestSet_0 N d (n + 1) X x1 x2 I J = am_cI (am_G am_prog (N + 30) (d + 2) 260 [.ref 135, .long x2.toInt64] (mkh X (u2 (u2 I 135 1 (nI 0)) 135 0 (nI 0)) J)) (KX9_bestSet_0 N d n x1 x2) := by
  rfl
set_option maxHeartbeats 4000000 in
set_option maxRecDepth 100000 in
theorem kX9_bestSet_0 (N d n : Nat) {X : lt_X} (a0 : Int32) (a1 : Int32) (z : Int32) (I : Nat → Nat → Int32) (J : Nat → Nat → Int64) : KX9_bestSet_0 N d n a0 a1 z (mkh X I J) = if z = nI 0 then some (.int (-1), (mkh X (u2 I 135 0 (nI 2)) J)) else am_cI (am_G am_prog (N + 30) (d + 2) 306 [.ref 135, .int a0] (mkh X I J)) (KX9_bestSet_1 N d n a0 a1) := by
  rfl
set_option maxHeartbeats 4000000 in
set_option maxRecDepth 100000 in
theorem kX9_bestSet_1 (N d n : Nat) {X : lt_X} (a0 : Int32) (a1 : Int32) (z : Int32) (I : Nat → Nat → Int32) (J : Nat → Nat → Int64) : KX9_bestSet_1 N d n a0 a1 z (mkh X I J) = if z = nI 0 then some (.int (-1), (mkh X (u2 I 135 0 (nI 5)) J)) else am_cI (am_G am_prog (N + 30) (d + 2) 201 [.int a0, .int a1] (mkh X I J)) (KX9_bestSet_2 N d n a0 a1) := by
  rfl
set_option maxHeartbeats 4000000 in
set_option maxRecDepth 100000 in
theorem kX9_bestSet_2 (N d n : Nat) {X : lt_X} (a0 : Int32) (a1 : Int32) (z : Int32) (I : Nat → Nat → Int32) (J : Nat → Nat → Int64) : KX9_bestSet_2 N d n a0 a1 z (mkh X I J) = if z = nI 0 then some (.int (-1), (mkh X (u2 I 135 0 (nI 5)) J)) else am_cV (am_G am_prog (N + 30) (d + 2) 305 [.ref 135, .int a0] (mkh X I J)) (KX9_bestSet_3 N d n a1) := by
  rfl
set_option maxHeartbeats 4000000 in
set_option maxRecDepth 100000 in
theorem kX9_bestSet_3 (N d n : Nat) {X : lt_X} (a0 : Int32) (I : Nat → Nat → Int32) (J : Nat → Nat → Int64) : KX9_bestSet_3 N d n a0 (mkh X I J) = if am_in a0 6 then if (I 145 a0.toNatClampNeg) < nI 0 then some (.int (-1), (mkh X (u2 I 135 0 (nI 8)) J)) else if am_in a0 6 then some (.int (I 145 a0.toNatClampNeg), (mkh X I J)) else none else none := by
  rfl
theorem fX9_bestSet (N d : Nat) {X : lt_X} (x1 : Int32) (x2 : Int32) (I : Nat → Nat → Int32) (J : Nat → Nat → Int64) : am_G am_prog N (d + 1) 308 [.ref 135, .int x1, .int x2] (mkh X I J) = am_run (am_G am_prog N d) eX9_bestSet uX9_bestSet N 0 [(0, .ref 135), (1, .int x1), (2, .int x2)] [] (mkh X I J) := by
  refine (am_G_at N d 308 mX9_bestSet _ _ rfl).trans ?_
  rfl
theorem gX9_bestSet (N d : Nat) {X : lt_X} (x1 : Int32) (x2 : Int32) (I : Nat → Nat → Int32) (J : Nat → Nat → Int64) : am_G am_prog (N + 30) (d + 3) 308 [.ref 135, .int x1, .int x2] (mkh X I J) = RX9_bestSet_0 N d (N + 30) X x1 x2 I J := fX9_bestSet (N + 30) (d + 2) x1 x2 I J
def RX9_firstOf_0 (N d n : Nat) (X : lt_X) (x1 : Int32) (I : Nat → Nat → Int32) (J : Nat → Nat → Int64) : am_O := am_run (am_G am_prog (N + 30) (d + 0)) eX9_firstOf uX9_firstOf n 0 [(0, .ref 135), (1, .int x1)] [] (mkh X I J)
def RX9_firstOf_2 (N d n : Nat) (X : lt_X) (x1 : Int32) (x2 : Int32) (I : Nat → Nat → Int32) (J : Nat → Nat → Int64) : am_O := am_run (am_G am_prog (N + 30) (d + 0)) eX9_firstOf uX9_firstOf n 2 [(0, .ref 135), (1, .int x1), (2, .int x2)] [] (mkh X I J)
set_option maxHeartbeats 4000000 in
set_option maxRecDepth 100000 in
theorem sX9_firstOf_0 (N d n : Nat) {X : lt_X} (x1 : Int32) (I : Nat → Nat → Int32) (J : Nat → Nat → Int64) : RX9_firstOf_0 N d (n + 1) X x1 I J = RX9_firstOf_2 N d n X x1 (nI 0) I J := by
  rfl
set_option maxHeartbeats 4000000 in
set_option maxRecDepth 100000 in
theorem sX9_firstOf_2 (N d n : Nat) {X : lt_X} (x1 : Int32) (x2 : Int32) (I : Nat → Nat → Int32) (J : Nat → Nat → Int64) : RX9_firstOf_2 N d (n + 1) X x1 x2 I J = if x2 < (I 140 3) then if am_in ((nI 67) + x2) 2145 then if (I 140 (((nI 67) + x2).toNatClampNeg)) = x1 then some (.int x2, (mkh X I J)) else RX9_firstOf_2 N d n X x1 (x2 + (nI 1)) I J else none else some (.int (-1), (mkh X I J)) := by
  rfl
theorem fX9_firstOf (N d : Nat) {X : lt_X} (x1 : Int32) (I : Nat → Nat → Int32) (J : Nat → Nat → Int64) : am_G am_prog N (d + 1) 309 [.ref 135, .int x1] (mkh X I J) = am_run (am_G am_prog N d) eX9_firstOf uX9_firstOf N 0 [(0, .ref 135), (1, .int x1)] [] (mkh X I J) := by
  refine (am_G_at N d 309 mX9_firstOf _ _ rfl).trans ?_
  rfl
theorem gX9_firstOf (N d : Nat) {X : lt_X} (x1 : Int32) (I : Nat → Nat → Int32) (J : Nat → Nat → Int64) : am_G am_prog (N + 30) (d + 1) 309 [.ref 135, .int x1] (mkh X I J) = RX9_firstOf_0 N d (N + 30) X x1 I J := fX9_firstOf (N + 30) (d + 0) x1 I J
def RX9_pointsTo_0 (N d n : Nat) (X : lt_X) (x1 : Int32) (I : Nat → Nat → Int32) (J : Nat → Nat → Int64) : am_O := am_run (am_G am_prog (N + 30) (d + 1)) eX9_pointsTo uX9_pointsTo n 0 [(0, .ref 135), (1, .int x1)] [] (mkh X I J)
def RX9_pointsTo_4 (N d n : Nat) (X : lt_X) (x1 : Int32) (x2 : Int32) (x3 : Int32) (I : Nat → Nat → Int32) (J : Nat → Nat → Int64) : am_O := am_run (am_G am_prog (N + 30) (d + 1)) eX9_pointsTo uX9_pointsTo n 4 [(0, .ref 135), (1, .int x1), (2, .int x2), (3, .int x3)] [] (mkh X I J)
def KX9_pointsTo_0 (N d n : Nat) (a0 : Int32) (a1 : Int32) (a2 : Int32) (z : Int32) (h : am_H) : am_O := if z = nI 0 then am_run (am_G am_prog (N + 30) (d + 1)) eX9_pointsTo uX9_pointsTo n 4 [(0, .ref 135), (1, .int a0), (2, .int a1), (3, .int (a2 + (nI 1)))] [] h else am_gR h 9 135 26 (fun y1 => am_gR h 9 135 27 (fun y2 => am_lI h 10 y2 a2 (fun y3 => am_lI h 10 y1 (((nI 6) * a0) + y3) (fun y4 => am_gR h 9 135 26 (fun y5 => am_gR h 9 135 27 (fun y6 => am_lI h 10 y6 a1 (fun y7 => am_lI h 10 y5 (((nI 6) * a0) + y7) (fun y8 => if nI 0 < (y4 - y8) then am_run (am_G am_prog (N + 30) (d + 1)) eX9_pointsTo uX9_pointsTo n 4 [(0, .ref 135), (1, .int a0), (2, .int a2), (3, .int (a2 + (nI 1)))] [] h else if (y4 - y8) = nI 0 then if a1 = a0 then am_run (am_G am_prog (N + 30) (d + 1)) eX9_pointsTo uX9_pointsTo n 4 [(0, .ref 135), (1, .int a0), (2, .int a1), (3, .int (a2 + (nI 1)))] [] h else am_gR h 9 135 27 (fun y9 => am_lI h 10 y9 a2 (fun y10 => am_gR h 9 135 27 (fun y11 => am_lI h 10 y11 a1 (fun y12 => if y10 < y12 then am_run (am_G am_prog (N + 30) (d + 1)) eX9_pointsTo uX9_pointsTo n 4 [(0, .ref 135), (1, .int a0), (2, .int a2), (3, .int (a2 + (nI 1)))] [] h else am_run (am_G am_prog (N + 30) (d + 1)) eX9_pointsTo uX9_pointsTo n 4 [(0, .ref 135), (1, .int a0), (2, .int a1), (3, .int (a2 + (nI 1)))] [] h)))) else am_run (am_G am_prog (N + 30) (d + 1)) eX9_pointsTo uX9_pointsTo n 4 [(0, .ref 135), (1, .int a0), (2, .int a1), (3, .int (a2 + (nI 1)))] [] h))))))))
set_option maxHeartbeats 4000000 in
set_option maxRecDepth 100000 in
theorem sX9_pointsTo_0 (N d n : Nat) {X : lt_X} (x1 : Int32) (I : Nat → Nat → Int32) (J : Nat → Nat → Int64) : RX9_pointsTo_0 N d (n + 1) X x1 I J = RX9_pointsTo_4 N d n X x1 x1 (nI 0) I J := by
  rfl
set_option maxHeartbeats 4000000 in
set_option maxRecDepth 100000 in
theorem sX9_pointsTo_4 (N d n : Nat) {X : lt_X} (x1 : Int32) (x2 : Int32) (x3 : Int32) (I : Nat → Nat → Int32) (J : Nat → Nat → Int64) : RX9_pointsTo_4 N d (n + 1) X x1 x2 x3 I J = if x3 < (I 140 2) then am_cI (am_G am_prog (N + 30) (d + 1) 201 [.int (I 135 30), .int x3] (mkh X I J)) (KX9_pointsTo_0 N d n x1 x2 x3) else some (.int x2, (mkh X I J)) := by
  rfl
theorem fX9_pointsTo (N d : Nat) {X : lt_X} (x1 : Int32) (I : Nat → Nat → Int32) (J : Nat → Nat → Int64) : am_G am_prog N (d + 1) 310 [.ref 135, .int x1] (mkh X I J) = am_run (am_G am_prog N d) eX9_pointsTo uX9_pointsTo N 0 [(0, .ref 135), (1, .int x1)] [] (mkh X I J) := by
  refine (am_G_at N d 310 mX9_pointsTo _ _ rfl).trans ?_
  rfl
theorem gX9_pointsTo (N d : Nat) {X : lt_X} (x1 : Int32) (I : Nat → Nat → Int32) (J : Nat → Nat → Int64) : am_G am_prog (N + 30) (d + 2) 310 [.ref 135, .int x1] (mkh X I J) = RX9_pointsTo_0 N d (N + 30) X x1 I J := fX9_pointsTo (N + 30) (d + 1) x1 I J
def RX9_goesRing_0 (N d n : Nat) (X : lt_X) (x1 : Int32) (I : Nat → Nat → Int32) (J : Nat → Nat → Int64) : am_O := am_run (am_G am_prog (N + 30) (d + 0)) eX9_goesRing uX9_goesRing n 0 [(0, .ref 135), (1, .int x1)] [] (mkh X I J)
def RX9_goesRing_2 (N d n : Nat) (X : lt_X) (x1 : Int32) (x2 : Int32) (I : Nat → Nat → Int32) (J : Nat → Nat → Int64) : am_O := am_run (am_G am_prog (N + 30) (d + 0)) eX9_goesRing uX9_goesRing n 2 [(0, .ref 135), (1, .int x1), (2, .int x2)] [] (mkh X I J)
def KX9_goesRing_0 (N d n : Nat) (a0 : Int32) (a1 : Int32) (z : Int32) (h : am_H) : am_O := am_gR h 9 135 28 (fun y1 => am_gR h 9 135 27 (fun y2 => am_lI h 10 y2 z (fun y3 => am_tI h y1 a1 y3 (fun h4 => if z = a0 then some (.null, h4) else am_run (am_G am_prog (N + 30) (d + 0)) eX9_goesRing uX9_goesRing n 2 [(0, .ref 135), (1, .int a0), (2, .int z)] [] h4))))
set_option maxHeartbeats 4000000 in
set_option maxRecDepth 100000 in
theorem sX9_goesRing_0 (N d n : Nat) {X : lt_X} (x1 : Int32) (I : Nat → Nat → Int32) (J : Nat → Nat → Int64) : RX9_goesRing_0 N d (n + 1) X x1 I J = RX9_goesRing_2 N d n X x1 x1 I J := by
  rfl
set_option maxHeartbeats 4000000 in
set_option maxRecDepth 100000 in
theorem sX9_goesRing_2 (N d n : Nat) {X : lt_X} (x1 : Int32) (x2 : Int32) (I : Nat → Nat → Int32) (J : Nat → Nat → Int64) : RX9_goesRing_2 N d (n + 1) X x1 x2 I J = am_cI (am_G am_prog (N + 30) (d + 0) 310 [.ref 135, .int x2] (mkh X I J)) (KX9_goesRing_0 N d n x1 x2) := by
  rfl
theorem fX9_goesRing (N d : Nat) {X : lt_X} (x1 : Int32) (I : Nat → Nat → Int32) (J : Nat → Nat → Int64) : am_G am_prog N (d + 1) 311 [.ref 135, .int x1] (mkh X I J) = am_run (am_G am_prog N d) eX9_goesRing uX9_goesRing N 0 [(0, .ref 135), (1, .int x1)] [] (mkh X I J) := by
  refine (am_G_at N d 311 mX9_goesRing _ _ rfl).trans ?_
  rfl
theorem gX9_goesRing (N d : Nat) {X : lt_X} (x1 : Int32) (I : Nat → Nat → Int32) (J : Nat → Nat → Int64) : am_G am_prog (N + 30) (d + 1) 311 [.ref 135, .int x1] (mkh X I J) = RX9_goesRing_0 N d (N + 30) X x1 I J := fX9_goesRing (N + 30) (d + 0) x1 I J
def RX9_ringFrom_0 (N d n : Nat) (X : lt_X) (x1 : Int32) (I : Nat → Nat → Int32) (J : Nat → Nat → Int64) : am_O := am_run (am_G am_prog (N + 30) (d + 0)) eX9_ringFrom uX9_ringFrom n 0 [(0, .ref 135), (1, .int x1)] [] (mkh X I J)
def RX9_ringFrom_4 (N d n : Nat) (X : lt_X) (x2 : Int32) (x3 : Int32) (I : Nat → Nat → Int32) (J : Nat → Nat → Int64) : am_O := am_run (am_G am_prog (N + 30) (d + 0)) eX9_ringFrom uX9_ringFrom n 4 [(0, .ref 135), (2, .int x2), (3, .int x3)] [] (mkh X I J)
def KX9_ringFrom_0 (N d n : Nat) (a0 : Int32) (z : Int32) (h : am_H) : am_O := am_run (am_G am_prog (N + 30) (d + 0)) eX9_ringFrom uX9_ringFrom n 4 [(0, .ref 135), (2, .int z), (3, .int (a0 + (nI 1)))] [] h
set_option maxHeartbeats 4000000 in
set_option maxRecDepth 100000 in
theorem sX9_ringFrom_0 (N d n : Nat) {X : lt_X} (x1 : Int32) (I : Nat → Nat → Int32) (J : Nat → Nat → Int64) : RX9_ringFrom_0 N d (n + 1) X x1 I J = RX9_ringFrom_4 N d n X x1 (nI 0) I J := by
  rfl
set_option maxHeartbeats 4000000 in
set_option maxRecDepth 100000 in
theorem sX9_ringFrom_4 (N d n : Nat) {X : lt_X} (x2 : Int32) (x3 : Int32) (I : Nat → Nat → Int32) (J : Nat → Nat → Int64) : RX9_ringFrom_4 N d (n + 1) X x2 x3 I J = if x3 < (nI 6) then am_cI (am_G am_prog (N + 30) (d + 0) 310 [.ref 135, .int x2] (mkh X I J)) (KX9_ringFrom_0 N d n x3) else some (.int x2, (mkh X I J)) := by
  rfl
set_option maxHeartbeats 4000000 in
set_option maxRecDepth 100000 in
theorem kX9_ringFrom_0 (N d n : Nat) {X : lt_X} (a0 : Int32) (z : Int32) (I : Nat → Nat → Int32) (J : Nat → Nat → Int64) : KX9_ringFrom_0 N d n a0 z (mkh X I J) = RX9_ringFrom_4 N d n X z (a0 + (nI 1)) I J := by
  rfl
theorem fX9_ringFrom (N d : Nat) {X : lt_X} (x1 : Int32) (I : Nat → Nat → Int32) (J : Nat → Nat → Int64) : am_G am_prog N (d + 1) 312 [.ref 135, .int x1] (mkh X I J) = am_run (am_G am_prog N d) eX9_ringFrom uX9_ringFrom N 0 [(0, .ref 135), (1, .int x1)] [] (mkh X I J) := by
  refine (am_G_at N d 312 mX9_ringFrom _ _ rfl).trans ?_
  rfl
theorem gX9_ringFrom (N d : Nat) {X : lt_X} (x1 : Int32) (I : Nat → Nat → Int32) (J : Nat → Nat → Int64) : am_G am_prog (N + 30) (d + 1) 312 [.ref 135, .int x1] (mkh X I J) = RX9_ringFrom_0 N d (N + 30) X x1 I J := fX9_ringFrom (N + 30) (d + 0) x1 I J
def RX9_laysTrades_0 (N d n : Nat) (X : lt_X) (I : Nat → Nat → Int32) (J : Nat → Nat → Int64) : am_O := am_run (am_G am_prog (N + 30) (d + 1)) eX9_laysTrades uX9_laysTrades n 0 [(0, .ref 135)] [] (mkh X I J)
def RX9_laysTrades_11 (N d n : Nat) (X : lt_X) (x1 : Int32) (I : Nat → Nat → Int32) (J : Nat → Nat → Int64) : am_O := am_run (am_G am_prog (N + 30) (d + 1)) eX9_laysTrades uX9_laysTrades n 11 [(0, .ref 135), (1, .int x1)] [] (mkh X I J)
def RX9_laysTrades_70 (N d n : Nat) (X : lt_X) (I : Nat → Nat → Int32) (J : Nat → Nat → Int64) : am_O := am_run (am_G am_prog (N + 30) (d + 1)) eX9_laysTrades uX9_laysTrades n 70 [(0, .ref 135)] [] (mkh X I J)
def RX9_laysTrades_79 (N d n : Nat) (X : lt_X) (x1 : Int32) (I : Nat → Nat → Int32) (J : Nat → Nat → Int64) : am_O := am_run (am_G am_prog (N + 30) (d + 1)) eX9_laysTrades uX9_laysTrades n 79 [(0, .ref 135), (1, .int x1)] [] (mkh X I J)
def RX9_laysTrades_130 (N d n : Nat) (X : lt_X) (x1 : Int32) (I : Nat → Nat → Int32) (J : Nat → Nat → Int64) : am_O := am_run (am_G am_prog (N + 30) (d + 1)) eX9_laysTrades uX9_laysTrades n 130 [(0, .ref 135), (1, .int x1)] [] (mkh X I J)
def KX9_laysTrades_0 (N d n : Nat) (h : am_H) : am_O := am_pI h 9 135 30 (nI 0) (fun h1 => am_run (am_G am_prog (N + 30) (d + 1)) eX9_laysTrades uX9_laysTrades n 11 [(0, .ref 135), (1, .int (nI 0))] [] h1)
def KX9_laysTrades_1 (N d n : Nat) (a0 : Int32) (z : Int32) (h : am_H) : am_O := am_tI h 144 a0 z (fun h1 => am_gR h1 9 135 28 (fun y2 => am_tI h1 y2 a0 (-1) (fun h3 => am_gI h3 9 135 30 (fun y4 => am_gR h3 9 135 27 (fun y5 => am_lI h3 10 y5 a0 (fun y6 => if y6 < nI 0 then am_pI h3 9 135 30 (y4 ||| (nI 0)) (fun h7 => am_run (am_G am_prog (N + 30) (d + 1)) eX9_laysTrades uX9_laysTrades n 11 [(0, .ref 135), (1, .int (a0 + (nI 1)))] [] h7) else am_pI h3 9 135 30 (y4 ||| ((nI 1) <<< (a0 &&& 31))) (fun h8 => am_run (am_G am_prog (N + 30) (d + 1)) eX9_laysTrades uX9_laysTrades n 11 [(0, .ref 135), (1, .int (a0 + (nI 1)))] [] h8)))))))
def KX9_laysTrades_2 (N d n : Nat) (a0 : Int32) (z : Int32) (h : am_H) : am_O := if z = nI 0 then am_run (am_G am_prog (N + 30) (d + 1)) eX9_laysTrades uX9_laysTrades n 79 [(0, .ref 135), (1, .int (a0 + (nI 1)))] [] h else am_gR h 9 135 28 (fun y1 => am_cI (am_G am_prog (N + 30) (d + 1) 312 [.ref 135, .int a0] h) (fun r3 h2 => am_lI h2 10 y1 r3 (fun y4 => if y4 < nI 0 then am_cI (am_G am_prog (N + 30) (d + 1) 312 [.ref 135, .int a0] h2) (fun r6 h5 => am_cV (am_G am_prog (N + 30) (d + 1) 311 [.ref 135, .int r6] h5) (fun h7 => am_run (am_G am_prog (N + 30) (d + 1)) eX9_laysTrades uX9_laysTrades n 79 [(0, .ref 135), (1, .int (a0 + (nI 1)))] [] h7)) else am_run (am_G am_prog (N + 30) (d + 1)) eX9_laysTrades uX9_laysTrades n 79 [(0, .ref 135), (1, .int (a0 + (nI 1)))] [] h2)))
def KX9_laysTrades_3 (N d n : Nat) (a0 : Int32) (z : Int32) (h : am_H) : am_O := am_lI h 10 145 z (fun y1 => if y1 < nI 0 then am_cI (am_G am_prog (N + 30) (d + 1) 312 [.ref 135, .int a0] h) (fun r3 h2 => am_cV (am_G am_prog (N + 30) (d + 1) 311 [.ref 135, .int r3] h2) (fun h4 => am_run (am_G am_prog (N + 30) (d + 1)) eX9_laysTrades uX9_laysTrades n 79 [(0, .ref 135), (1, .int (a0 + (nI 1)))] [] h4)) else am_run (am_G am_prog (N + 30) (d + 1)) eX9_laysTrades uX9_laysTrades n 79 [(0, .ref 135), (1, .int (a0 + (nI 1)))] [] h)
def KX9_laysTrades_4 (N d n : Nat) (a0 : Int32) (z : Int32) (h : am_H) : am_O := am_cV (am_G am_prog (N + 30) (d + 1) 311 [.ref 135, .int z] h) (fun h1 => am_run (am_G am_prog (N + 30) (d + 1)) eX9_laysTrades uX9_laysTrades n 79 [(0, .ref 135), (1, .int (a0 + (nI 1)))] [] h1)
def KX9_laysTrades_5 (N d n : Nat) (a0 : Int32) (h : am_H) : am_O := am_run (am_G am_prog (N + 30) (d + 1)) eX9_laysTrades uX9_laysTrades n 79 [(0, .ref 135), (1, .int (a0 + (nI 1)))] [] h
set_option maxHeartbeats 4000000 in
set_option maxRecDepth 100000 in
theorem sX9_laysTrades_0 (N d n : Nat) {X : lt_X} (I : Nat → Nat → Int32) (J : Nat → Nat → Int64) : RX9_laysTrades_0 N d (n + 1) X I J = am_cV (am_G am_prog (N + 30) (d + 1) 303 [.ref 135] (mkh X I J)) (KX9_laysTrades_0 N d n ) := by
  rfl
set_option maxHeartbeats 4000000 in
set_option maxRecDepth 100000 in
theorem sX9_laysTrades_11 (N d n : Nat) {X : lt_X} (x1 : Int32) (I : Nat → Nat → Int32) (J : Nat → Nat → Int64) : RX9_laysTrades_11 N d (n + 1) X x1 I J = if x1 < (I 140 2) then am_cI (am_G am_prog (N + 30) (d + 1) 309 [.ref 135, .int x1] (mkh X I J)) (KX9_laysTrades_1 N d n x1) else RX9_laysTrades_70 N d n X I J := by
  rfl
set_option maxHeartbeats 4000000 in
set_option maxRecDepth 100000 in
theorem sX9_laysTrades_70 (N d n : Nat) {X : lt_X} (I : Nat → Nat → Int32) (J : Nat → Nat → Int64) : RX9_laysTrades_70 N d (n + 1) X I J = if (I 135 30) = nI 0 then some (.null, (mkh X I J)) else RX9_laysTrades_79 N d n X (nI 0) I J := by
  rfl
set_option maxHeartbeats 4000000 in
set_option maxRecDepth 100000 in
theorem sX9_laysTrades_79 (N d n : Nat) {X : lt_X} (x1 : Int32) (I : Nat → Nat → Int32) (J : Nat → Nat → Int64) : RX9_laysTrades_79 N d (n + 1) X x1 I J = if x1 < (I 140 2) then am_cI (am_G am_prog (N + 30) (d + 1) 201 [.int (I 135 30), .int x1] (mkh X I J)) (KX9_laysTrades_2 N d n x1) else RX9_laysTrades_130 N d n X (nI 0) I J := by
  rfl
set_option maxHeartbeats 4000000 in
set_option maxRecDepth 100000 in
theorem sX9_laysTrades_130 (N d n : Nat) {X : lt_X} (x1 : Int32) (I : Nat → Nat → Int32) (J : Nat → Nat → Int64) : RX9_laysTrades_130 N d (n + 1) X x1 I J = if x1 < (I 140 2) then if am_in x1 6 then if (I 145 x1.toNatClampNeg) < nI 0 then RX9_laysTrades_130 N d n X (x1 + (nI 1)) I J else RX9_laysTrades_130 N d n X (x1 + (nI 1)) (u2 I 135 30 ((I 135 30) &&& (((nI 1) <<< (x1 &&& 31)) ^^^ (-1)))) J else none else RX9_laysTrades_70 N d n X I J := by
  rfl
set_option maxHeartbeats 4000000 in
set_option maxRecDepth 100000 in
theorem kX9_laysTrades_0 (N d n : Nat) {X : lt_X} (I : Nat → Nat → Int32) (J : Nat → Nat → Int64) : KX9_laysTrades_0 N d n (mkh X I J) = RX9_laysTrades_11 N d n X (nI 0) (u2 I 135 30 (nI 0)) J := by
  rfl
set_option maxHeartbeats 4000000 in
set_option maxRecDepth 100000 in
theorem kX9_laysTrades_1 (N d n : Nat) {X : lt_X} (a0 : Int32) (z : Int32) (I : Nat → Nat → Int32) (J : Nat → Nat → Int64) : KX9_laysTrades_1 N d n a0 z (mkh X I J) = if am_in a0 6 then if am_in a0 6 then if am_in a0 6 then if ((u2 (u2 I 144 a0.toNatClampNeg z) 145 a0.toNatClampNeg (-1)) 144 a0.toNatClampNeg) < nI 0 then RX9_laysTrades_11 N d n X (a0 + (nI 1)) (u2 (u2 (u2 I 144 a0.toNatClampNeg z) 145 a0.toNatClampNeg (-1)) 135 30 ((I 135 30) ||| (nI 0))) J else RX9_laysTrades_11 N d n X (a0 + (nI 1)) (u2 (u2 (u2 I 144 a0.toNatClampNeg z) 145 a0.toNatClampNeg (-1)) 135 30 ((I 135 30) ||| ((nI 1) <<< (a0 &&& 31)))) J else none else none else none := by
  rfl
set_option maxHeartbeats 4000000 in
set_option maxRecDepth 100000 in
theorem kX9_laysTrades_2 (N d n : Nat) {X : lt_X} (a0 : Int32) (z : Int32) (I : Nat → Nat → Int32) (J : Nat → Nat → Int64) : KX9_laysTrades_2 N d n a0 z (mkh X I J) = if z = nI 0 then RX9_laysTrades_79 N d n X (a0 + (nI 1)) I J else am_cI (am_G am_prog (N + 30) (d + 1) 312 [.ref 135, .int a0] (mkh X I J)) (KX9_laysTrades_3 N d n a0) := by
  rfl
set_option maxHeartbeats 4000000 in
set_option maxRecDepth 100000 in
theorem kX9_laysTrades_3 (N d n : Nat) {X : lt_X} (a0 : Int32) (z : Int32) (I : Nat → Nat → Int32) (J : Nat → Nat → Int64) : KX9_laysTrades_3 N d n a0 z (mkh X I J) = if am_in z 6 then if (I 145 z.toNatClampNeg) < nI 0 then am_cI (am_G am_prog (N + 30) (d + 1) 312 [.ref 135, .int a0] (mkh X I J)) (KX9_laysTrades_4 N d n a0) else RX9_laysTrades_79 N d n X (a0 + (nI 1)) I J else none := by
  rfl
set_option maxHeartbeats 4000000 in
set_option maxRecDepth 100000 in
theorem kX9_laysTrades_4 (N d n : Nat) {X : lt_X} (a0 : Int32) (z : Int32) (I : Nat → Nat → Int32) (J : Nat → Nat → Int64) : KX9_laysTrades_4 N d n a0 z (mkh X I J) = am_cV (am_G am_prog (N + 30) (d + 1) 311 [.ref 135, .int z] (mkh X I J)) (KX9_laysTrades_5 N d n a0) := by
  rfl
set_option maxHeartbeats 4000000 in
set_option maxRecDepth 100000 in
theorem kX9_laysTrades_5 (N d n : Nat) {X : lt_X} (a0 : Int32) (I : Nat → Nat → Int32) (J : Nat → Nat → Int64) : KX9_laysTrades_5 N d n a0 (mkh X I J) = RX9_laysTrades_79 N d n X (a0 + (nI 1)) I J := by
  rfl
theorem fX9_laysTrades (N d : Nat) {X : lt_X} (I : Nat → Nat → Int32) (J : Nat → Nat → Int64) : am_G am_prog N (d + 1) 313 [.ref 135] (mkh X I J) = am_run (am_G am_prog N d) eX9_laysTrades uX9_laysTrades N 0 [(0, .ref 135)] [] (mkh X I J) := by
  refine (am_G_at N d 313 mX9_laysTrades _ _ rfl).trans ?_
  rfl
theorem gX9_laysTrades (N d : Nat) {X : lt_X} (I : Nat → Nat → Int32) (J : Nat → Nat → Int64) : am_G am_prog (N + 30) (d + 2) 313 [.ref 135] (mkh X I J) = RX9_laysTrades_0 N d (N + 30) X I J := fX9_laysTrades (N + 30) (d + 1) I J
def RX9_trade_0 (N d n : Nat) (X : lt_X) (x1 : Int32) (I : Nat → Nat → Int32) (J : Nat → Nat → Int64) : am_O := am_run (am_G am_prog (N + 30) (d + 2)) eX9_trade uX9_trade n 0 [(0, .ref 135), (1, .int x1)] [] (mkh X I J)
def KX9_trade_0 (N d n : Nat) (a0 : Int32) (z : Int32) (h : am_H) : am_O := if z = nI 0 then am_cI (am_G am_prog (N + 30) (d + 2) 188 [.ref 135, .int (nI 2)] h) (fun r2 h1 => some (.int r2, h1)) else am_cV (am_G am_prog (N + 30) (d + 2) 313 [.ref 135] h) (fun h3 => am_gR h3 9 135 28 (fun y4 => am_lI h3 10 y4 a0 (fun y5 => if y5 < nI 0 then am_cI (am_G am_prog (N + 30) (d + 2) 188 [.ref 135, .int (nI 8)] h3) (fun r7 h6 => some (.int r7, h6)) else am_gR h3 9 135 28 (fun y8 => am_lI h3 10 y8 a0 (fun y9 => some (.int y9, h3))))))
def KX9_trade_1 (N d n : Nat) (a0 : Int32) (h : am_H) : am_O := am_gR h 9 135 28 (fun y1 => am_lI h 10 y1 a0 (fun y2 => if y2 < nI 0 then am_cI (am_G am_prog (N + 30) (d + 2) 188 [.ref 135, .int (nI 8)] h) (fun r4 h3 => some (.int r4, h3)) else am_gR h 9 135 28 (fun y5 => am_lI h 10 y5 a0 (fun y6 => some (.int y6, h)))))
set_option maxHeartbeats 4000000 in
set_option maxRecDepth 100000 in
theorem sX9_trade_0 (N d n : Nat) {X : lt_X} (x1 : Int32) (I : Nat → Nat → Int32) (J : Nat → Nat → Int64) : RX9_trade_0 N d (n + 1) X x1 I J = am_cI (am_G am_prog (N + 30) (d + 2) 260 [.ref 135, .long x1.toInt64] (mkh X (u2 (u2 I 135 1 (nI 0)) 135 0 (nI 0)) J)) (KX9_trade_0 N d n x1) := by
  rfl
set_option maxHeartbeats 4000000 in
set_option maxRecDepth 100000 in
theorem kX9_trade_0 (N d n : Nat) {X : lt_X} (a0 : Int32) (z : Int32) (I : Nat → Nat → Int32) (J : Nat → Nat → Int64) : KX9_trade_0 N d n a0 z (mkh X I J) = if z = nI 0 then some (.int (-1), (mkh X (u2 I 135 0 (nI 2)) J)) else am_cV (am_G am_prog (N + 30) (d + 2) 313 [.ref 135] (mkh X I J)) (KX9_trade_1 N d n a0) := by
  rfl
set_option maxHeartbeats 4000000 in
set_option maxRecDepth 100000 in
theorem kX9_trade_1 (N d n : Nat) {X : lt_X} (a0 : Int32) (I : Nat → Nat → Int32) (J : Nat → Nat → Int64) : KX9_trade_1 N d n a0 (mkh X I J) = if am_in a0 6 then if (I 145 a0.toNatClampNeg) < nI 0 then some (.int (-1), (mkh X (u2 I 135 0 (nI 8)) J)) else if am_in a0 6 then some (.int (I 145 a0.toNatClampNeg), (mkh X I J)) else none else none := by
  rfl
theorem fX9_trade (N d : Nat) {X : lt_X} (x1 : Int32) (I : Nat → Nat → Int32) (J : Nat → Nat → Int64) : am_G am_prog N (d + 1) 314 [.ref 135, .int x1] (mkh X I J) = am_run (am_G am_prog N d) eX9_trade uX9_trade N 0 [(0, .ref 135), (1, .int x1)] [] (mkh X I J) := by
  refine (am_G_at N d 314 mX9_trade _ _ rfl).trans ?_
  rfl
theorem gX9_trade (N d : Nat) {X : lt_X} (x1 : Int32) (I : Nat → Nat → Int32) (J : Nat → Nat → Int64) : am_G am_prog (N + 30) (d + 3) 314 [.ref 135, .int x1] (mkh X I J) = RX9_trade_0 N d (N + 30) X x1 I J := fX9_trade (N + 30) (d + 2) x1 I J
def RX9_trades_0 (N d n : Nat) (X : lt_X) (I : Nat → Nat → Int32) (J : Nat → Nat → Int64) : am_O := am_run (am_G am_prog (N + 30) (d + 0)) eX9_trades uX9_trades n 0 [(0, .ref 135)] [] (mkh X I J)
def RX9_trades_18 (N d n : Nat) (X : lt_X) (x1 : Int32) (x2 : Int32) (I : Nat → Nat → Int32) (J : Nat → Nat → Int64) : am_O := am_run (am_G am_prog (N + 30) (d + 0)) eX9_trades uX9_trades n 18 [(0, .ref 135), (1, .int x1), (2, .int x2)] [] (mkh X I J)
def KX9_trades_0 (N d n : Nat) (h : am_H) : am_O := am_run (am_G am_prog (N + 30) (d + 0)) eX9_trades uX9_trades n 18 [(0, .ref 135), (1, .int (nI 0)), (2, .int (nI 0))] [] h
set_option maxHeartbeats 4000000 in
set_option maxRecDepth 100000 in
theorem sX9_trades_0 (N d n : Nat) {X : lt_X} (I : Nat → Nat → Int32) (J : Nat → Nat → Int64) : RX9_trades_0 N d (n + 1) X I J = am_cV (am_G am_prog (N + 30) (d + 0) 313 [.ref 135] (mkh X (u2 (u2 I 135 1 (nI 0)) 135 0 (nI 0)) J)) (KX9_trades_0 N d n ) := by
  rfl
set_option maxHeartbeats 4000000 in
set_option maxRecDepth 100000 in
theorem sX9_trades_18 (N d n : Nat) {X : lt_X} (x1 : Int32) (x2 : Int32) (I : Nat → Nat → Int32) (J : Nat → Nat → Int64) : RX9_trades_18 N d (n + 1) X x1 x2 I J = if x2 < (I 140 2) then if am_in x2 6 then if am_in x2 6 then if (I 145 x2.toNatClampNeg) = (I 144 x2.toNatClampNeg) then RX9_trades_18 N d n X (x1 + (nI 0)) (x2 + (nI 1)) I J else RX9_trades_18 N d n X (x1 + (nI 1)) (x2 + (nI 1)) I J else none else none else some (.int x1, (mkh X I J)) := by
  rfl
set_option maxHeartbeats 4000000 in
set_option maxRecDepth 100000 in
theorem kX9_trades_0 (N d n : Nat) {X : lt_X} (I : Nat → Nat → Int32) (J : Nat → Nat → Int64) : KX9_trades_0 N d n (mkh X I J) = RX9_trades_18 N d n X (nI 0) (nI 0) I J := by
  rfl
theorem fX9_trades (N d : Nat) {X : lt_X} (I : Nat → Nat → Int32) (J : Nat → Nat → Int64) : am_G am_prog N (d + 1) 315 [.ref 135] (mkh X I J) = am_run (am_G am_prog N d) eX9_trades uX9_trades N 0 [(0, .ref 135)] [] (mkh X I J) := by
  refine (am_G_at N d 315 mX9_trades _ _ rfl).trans ?_
  rfl
theorem gX9_trades (N d : Nat) {X : lt_X} (I : Nat → Nat → Int32) (J : Nat → Nat → Int64) : am_G am_prog (N + 30) (d + 1) 315 [.ref 135] (mkh X I J) = RX9_trades_0 N d (N + 30) X I J := fX9_trades (N + 30) (d + 0) I J
def RX9_bestOwned_0 (N d n : Nat) (X : lt_X) (x1 : Int32) (x2 : Int32) (I : Nat → Nat → Int32) (J : Nat → Nat → Int64) : am_O := am_run (am_G am_prog (N + 30) (d + 0)) eX9_bestOwned uX9_bestOwned n 0 [(0, .ref 135), (1, .int x1), (2, .int x2)] [] (mkh X I J)
def RX9_bestOwned_5 (N d n : Nat) (X : lt_X) (x1 : Int32) (x2 : Int32) (x3 : Int32) (x4 : Int32) (I : Nat → Nat → Int32) (J : Nat → Nat → Int64) : am_O := am_run (am_G am_prog (N + 30) (d + 0)) eX9_bestOwned uX9_bestOwned n 5 [(0, .ref 135), (1, .int x1), (2, .int x2), (3, .int x3), (4, .int x4)] [] (mkh X I J)
def KX9_bestOwned_0 (N d n : Nat) (a0 : Int32) (a1 : Int32) (a2 : Int32) (a3 : Int32) (z : Int32) (h : am_H) : am_O := am_run (am_G am_prog (N + 30) (d + 0)) eX9_bestOwned uX9_bestOwned n 5 [(0, .ref 135), (1, .int a0), (2, .int a1), (3, .int (if a3 < z then z else a3)), (4, .int (a2 + (nI 1)))] [] h
set_option maxHeartbeats 4000000 in
set_option maxRecDepth 100000 in
theorem sX9_bestOwned_0 (N d n : Nat) {X : lt_X} (x1 : Int32) (x2 : Int32) (I : Nat → Nat → Int32) (J : Nat → Nat → Int64) : RX9_bestOwned_0 N d (n + 1) X x1 x2 I J = RX9_bestOwned_5 N d n X x1 x2 (nI 0) (nI 0) I J := by
  rfl
set_option maxHeartbeats 4000000 in
set_option maxRecDepth 100000 in
theorem sX9_bestOwned_5 (N d n : Nat) {X : lt_X} (x1 : Int32) (x2 : Int32) (x3 : Int32) (x4 : Int32) (I : Nat → Nat → Int32) (J : Nat → Nat → Int64) : RX9_bestOwned_5 N d (n + 1) X x1 x2 x3 x4 I J = if x4 < (I 140 3) then if am_in ((nI 67) + x4) 2145 then if (I 140 (((nI 67) + x4).toNatClampNeg)) = x2 then am_cI (am_G am_prog (N + 30) (d + 0) 301 [.ref 135, .int x1, .int x4] (mkh X I J)) (KX9_bestOwned_0 N d n x1 x2 x4 x3) else RX9_bestOwned_5 N d n X x1 x2 x3 (x4 + (nI 1)) I J else none else some (.int x3, (mkh X I J)) := by
  rfl
set_option maxHeartbeats 4000000 in
set_option maxRecDepth 100000 in
theorem kX9_bestOwned_0 (N d n : Nat) {X : lt_X} (a0 : Int32) (a1 : Int32) (a2 : Int32) (a3 : Int32) (z : Int32) (I : Nat → Nat → Int32) (J : Nat → Nat → Int64) : KX9_bestOwned_0 N d n a0 a1 a2 a3 z (mkh X I J) = RX9_bestOwned_5 N d n X a0 a1 (if a3 < z then z else a3) (a2 + (nI 1)) I J := by
  rfl
theorem fX9_bestOwned (N d : Nat) {X : lt_X} (x1 : Int32) (x2 : Int32) (I : Nat → Nat → Int32) (J : Nat → Nat → Int64) : am_G am_prog N (d + 1) 316 [.ref 135, .int x1, .int x2] (mkh X I J) = am_run (am_G am_prog N d) eX9_bestOwned uX9_bestOwned N 0 [(0, .ref 135), (1, .int x1), (2, .int x2)] [] (mkh X I J) := by
  refine (am_G_at N d 316 mX9_bestOwned _ _ rfl).trans ?_
  rfl
theorem gX9_bestOwned (N d : Nat) {X : lt_X} (x1 : Int32) (x2 : Int32) (I : Nat → Nat → Int32) (J : Nat → Nat → Int64) : am_G am_prog (N + 30) (d + 1) 316 [.ref 135, .int x1, .int x2] (mkh X I J) = RX9_bestOwned_0 N d (N + 30) X x1 x2 I J := fX9_bestOwned (N + 30) (d + 0) x1 x2 I J
def RX9_envies_0 (N d n : Nat) (X : lt_X) (x1 : Int32) (x2 : Int32) (I : Nat → Nat → Int32) (J : Nat → Nat → Int64) : am_O := am_run (am_G am_prog (N + 30) (d + 2)) eX9_envies uX9_envies n 0 [(0, .ref 135), (1, .int x1), (2, .int x2)] [] (mkh X I J)
def KX9_envies_0 (N d n : Nat) (a0 : Int32) (a1 : Int32) (z : Int32) (h : am_H) : am_O := if z = nI 0 then am_cI (am_G am_prog (N + 30) (d + 2) 188 [.ref 135, .int (nI 2)] h) (fun r2 h1 => some (.int r2, h1)) else am_cI (am_G am_prog (N + 30) (d + 2) 260 [.ref 135, .long a1.toInt64] h) (fun r4 h3 => if r4 = nI 0 then am_cI (am_G am_prog (N + 30) (d + 2) 188 [.ref 135, .int (nI 2)] h3) (fun r6 h5 => some (.int r6, h5)) else if a0 = a1 then am_cI (am_G am_prog (N + 30) (d + 2) 188 [.ref 135, .int (nI 5)] h3) (fun r8 h7 => some (.int r8, h7)) else am_cI (am_G am_prog (N + 30) (d + 2) 316 [.ref 135, .int a0, .int a1] h3) (fun r10 h9 => am_cI (am_G am_prog (N + 30) (d + 2) 316 [.ref 135, .int a0, .int a0] h9) (fun r12 h11 => if r12 < r10 then some (.int (nI 1), h11) else some (.int (nI 0), h11))))
def KX9_envies_1 (N d n : Nat) (a0 : Int32) (a1 : Int32) (z : Int32) (h : am_H) : am_O := if z = nI 0 then am_cI (am_G am_prog (N + 30) (d + 2) 188 [.ref 135, .int (nI 2)] h) (fun r2 h1 => some (.int r2, h1)) else if a0 = a1 then am_cI (am_G am_prog (N + 30) (d + 2) 188 [.ref 135, .int (nI 5)] h) (fun r4 h3 => some (.int r4, h3)) else am_cI (am_G am_prog (N + 30) (d + 2) 316 [.ref 135, .int a0, .int a1] h) (fun r6 h5 => am_cI (am_G am_prog (N + 30) (d + 2) 316 [.ref 135, .int a0, .int a0] h5) (fun r8 h7 => if r8 < r6 then some (.int (nI 1), h7) else some (.int (nI 0), h7)))
def KX9_envies_2 (N d n : Nat) (a0 : Int32) (z : Int32) (h : am_H) : am_O := am_cI (am_G am_prog (N + 30) (d + 2) 316 [.ref 135, .int a0, .int a0] h) (fun r2 h1 => if r2 < z then some (.int (nI 1), h1) else some (.int (nI 0), h1))
def KX9_envies_3 (N d n : Nat) (a0 : Int32) (z : Int32) (h : am_H) : am_O := if z < a0 then some (.int (nI 1), h) else some (.int (nI 0), h)
set_option maxHeartbeats 4000000 in
set_option maxRecDepth 100000 in
theorem sX9_envies_0 (N d n : Nat) {X : lt_X} (x1 : Int32) (x2 : Int32) (I : Nat → Nat → Int32) (J : Nat → Nat → Int64) : RX9_envies_0 N d (n + 1) X x1 x2 I J = am_cI (am_G am_prog (N + 30) (d + 2) 260 [.ref 135, .long x1.toInt64] (mkh X (u2 (u2 I 135 1 (nI 0)) 135 0 (nI 0)) J)) (KX9_envies_0 N d n x1 x2) := by
  rfl
set_option maxHeartbeats 4000000 in
set_option maxRecDepth 100000 in
theorem kX9_envies_0 (N d n : Nat) {X : lt_X} (a0 : Int32) (a1 : Int32) (z : Int32) (I : Nat → Nat → Int32) (J : Nat → Nat → Int64) : KX9_envies_0 N d n a0 a1 z (mkh X I J) = if z = nI 0 then some (.int (-1), (mkh X (u2 I 135 0 (nI 2)) J)) else am_cI (am_G am_prog (N + 30) (d + 2) 260 [.ref 135, .long a1.toInt64] (mkh X I J)) (KX9_envies_1 N d n a0 a1) := by
  rfl
set_option maxHeartbeats 4000000 in
set_option maxRecDepth 100000 in
theorem kX9_envies_1 (N d n : Nat) {X : lt_X} (a0 : Int32) (a1 : Int32) (z : Int32) (I : Nat → Nat → Int32) (J : Nat → Nat → Int64) : KX9_envies_1 N d n a0 a1 z (mkh X I J) = if z = nI 0 then some (.int (-1), (mkh X (u2 I 135 0 (nI 2)) J)) else if a0 = a1 then some (.int (-1), (mkh X (u2 I 135 0 (nI 5)) J)) else am_cI (am_G am_prog (N + 30) (d + 2) 316 [.ref 135, .int a0, .int a1] (mkh X I J)) (KX9_envies_2 N d n a0) := by
  rfl
set_option maxHeartbeats 4000000 in
set_option maxRecDepth 100000 in
theorem kX9_envies_2 (N d n : Nat) {X : lt_X} (a0 : Int32) (z : Int32) (I : Nat → Nat → Int32) (J : Nat → Nat → Int64) : KX9_envies_2 N d n a0 z (mkh X I J) = am_cI (am_G am_prog (N + 30) (d + 2) 316 [.ref 135, .int a0, .int a0] (mkh X I J)) (KX9_envies_3 N d n z) := by
  rfl
set_option maxHeartbeats 4000000 in
set_option maxRecDepth 100000 in
theorem kX9_envies_3 (N d n : Nat) {X : lt_X} (a0 : Int32) (z : Int32) (I : Nat → Nat → Int32) (J : Nat → Nat → Int64) : KX9_envies_3 N d n a0 z (mkh X I J) = if z < a0 then some (.int (nI 1), (mkh X I J)) else some (.int (nI 0), (mkh X I J)) := by
  rfl
theorem fX9_envies (N d : Nat) {X : lt_X} (x1 : Int32) (x2 : Int32) (I : Nat → Nat → Int32) (J : Nat → Nat → Int64) : am_G am_prog N (d + 1) 317 [.ref 135, .int x1, .int x2] (mkh X I J) = am_run (am_G am_prog N d) eX9_envies uX9_envies N 0 [(0, .ref 135), (1, .int x1), (2, .int x2)] [] (mkh X I J) := by
  refine (am_G_at N d 317 mX9_envies _ _ rfl).trans ?_
  rfl
theorem gX9_envies (N d : Nat) {X : lt_X} (x1 : Int32) (x2 : Int32) (I : Nat → Nat → Int32) (J : Nat → Nat → Int64) : am_G am_prog (N + 30) (d + 3) 317 [.ref 135, .int x1, .int x2] (mkh X I J) = RX9_envies_0 N d (N + 30) X x1 x2 I J := fX9_envies (N + 30) (d + 2) x1 x2 I J
def RX9_whyNoPick_0 (N d n : Nat) (X : lt_X) (x1 : Int32) (x2 : Int32) (I : Nat → Nat → Int32) (J : Nat → Nat → Int64) : am_O := am_run (am_G am_prog (N + 30) (d + 2)) eX9_whyNoPick uX9_whyNoPick n 0 [(0, .ref 135), (1, .int x1), (2, .int x2)] [] (mkh X I J)
def RX9_whyNoPick_52 (N d n : Nat) (X : lt_X) (x1 : Int32) (x2 : Int32) (x3 : Int32) (x4 : Int32) (I : Nat → Nat → Int32) (J : Nat → Nat → Int64) : am_O := am_run (am_G am_prog (N + 30) (d + 2)) eX9_whyNoPick uX9_whyNoPick n 52 [(0, .ref 135), (1, .int x1), (2, .int x2), (3, .int x3), (4, .int x4)] [] (mkh X I J)
def KX9_whyNoPick_0 (N d n : Nat) (a0 : Int32) (a1 : Int32) (z : Int32) (h : am_H) : am_O := if z = nI 0 then some (.int (nI 1), h) else am_gR h 9 135 5 (fun y1 => am_lI h 10 y1 a0 (fun y2 => if y2 < nI 0 then some (.int (nI 3), h) else am_gR h 9 135 5 (fun y3 => am_lI h 10 y3 a0 (fun y4 => if y4 < a1 then some (.int (nI 4), h) else am_cI (am_G am_prog (N + 30) (d + 2) 190 [.long a1.toInt64, .long (lN 0), .long (lN 6)] h) (fun r6 h5 => if r6 = nI 0 then some (.int (nI 5), h5) else am_run (am_G am_prog (N + 30) (d + 2)) eX9_whyNoPick uX9_whyNoPick n 52 [(0, .ref 135), (1, .int a0), (2, .int a1), (3, .int (nI 0)), (4, .int (nI 0))] [] h5)))))
def KX9_whyNoPick_1 (N d n : Nat) (a0 : Int32) (a1 : Int32) (a2 : Int32) (a3 : Int32) (z : Int64) (h : am_H) : am_O := am_cI (am_G am_prog (N + 30) (d + 2) 260 [.ref 135, .long z] h) (fun r2 h1 => if r2 = nI 0 then some (.int (nI 5), h1) else am_cL (am_G am_prog (N + 30) (d + 2) 199 [.ref 135, .int a0, .int a3] h1) (fun r4 h3 => am_cI (am_G am_prog (N + 30) (d + 2) 201 [.int a2, .int r4.toInt32] h3) (fun r6 h5 => if r6 = nI 0 then am_cL (am_G am_prog (N + 30) (d + 2) 199 [.ref 135, .int a0, .int a3] h5) (fun r8 h7 => am_run (am_G am_prog (N + 30) (d + 2)) eX9_whyNoPick uX9_whyNoPick n 52 [(0, .ref 135), (1, .int a0), (2, .int a1), (3, .int (a2 ||| ((nI 1) <<< (r8.toInt32 &&& 31)))), (4, .int (a3 + (nI 1)))] [] h7) else some (.int (nI 5), h5))))
def KX9_whyNoPick_2 (N d n : Nat) (a0 : Int32) (a1 : Int32) (z : Int32) (h : am_H) : am_O := if z = nI 0 then some (.int (nI 5), h) else am_run (am_G am_prog (N + 30) (d + 2)) eX9_whyNoPick uX9_whyNoPick n 52 [(0, .ref 135), (1, .int a0), (2, .int a1), (3, .int (nI 0)), (4, .int (nI 0))] [] h
def KX9_whyNoPick_3 (N d n : Nat) (a0 : Int32) (a1 : Int32) (a2 : Int32) (a3 : Int32) (z : Int32) (h : am_H) : am_O := if z = nI 0 then some (.int (nI 5), h) else am_cL (am_G am_prog (N + 30) (d + 2) 199 [.ref 135, .int a0, .int a3] h) (fun r2 h1 => am_cI (am_G am_prog (N + 30) (d + 2) 201 [.int a2, .int r2.toInt32] h1) (fun r4 h3 => if r4 = nI 0 then am_cL (am_G am_prog (N + 30) (d + 2) 199 [.ref 135, .int a0, .int a3] h3) (fun r6 h5 => am_run (am_G am_prog (N + 30) (d + 2)) eX9_whyNoPick uX9_whyNoPick n 52 [(0, .ref 135), (1, .int a0), (2, .int a1), (3, .int (a2 ||| ((nI 1) <<< (r6.toInt32 &&& 31)))), (4, .int (a3 + (nI 1)))] [] h5) else some (.int (nI 5), h3)))
def KX9_whyNoPick_4 (N d n : Nat) (a0 : Int32) (a1 : Int32) (a2 : Int32) (a3 : Int32) (z : Int64) (h : am_H) : am_O := am_cI (am_G am_prog (N + 30) (d + 2) 201 [.int a2, .int z.toInt32] h) (fun r2 h1 => if r2 = nI 0 then am_cL (am_G am_prog (N + 30) (d + 2) 199 [.ref 135, .int a0, .int a3] h1) (fun r4 h3 => am_run (am_G am_prog (N + 30) (d + 2)) eX9_whyNoPick uX9_whyNoPick n 52 [(0, .ref 135), (1, .int a0), (2, .int a1), (3, .int (a2 ||| ((nI 1) <<< (r4.toInt32 &&& 31)))), (4, .int (a3 + (nI 1)))] [] h3) else some (.int (nI 5), h1))
def KX9_whyNoPick_5 (N d n : Nat) (a0 : Int32) (a1 : Int32) (a2 : Int32) (a3 : Int32) (z : Int32) (h : am_H) : am_O := if z = nI 0 then am_cL (am_G am_prog (N + 30) (d + 2) 199 [.ref 135, .int a0, .int a3] h) (fun r2 h1 => am_run (am_G am_prog (N + 30) (d + 2)) eX9_whyNoPick uX9_whyNoPick n 52 [(0, .ref 135), (1, .int a0), (2, .int a1), (3, .int (a2 ||| ((nI 1) <<< (r2.toInt32 &&& 31)))), (4, .int (a3 + (nI 1)))] [] h1) else some (.int (nI 5), h)
def KX9_whyNoPick_6 (N d n : Nat) (a0 : Int32) (a1 : Int32) (a2 : Int32) (a3 : Int32) (z : Int64) (h : am_H) : am_O := am_run (am_G am_prog (N + 30) (d + 2)) eX9_whyNoPick uX9_whyNoPick n 52 [(0, .ref 135), (1, .int a0), (2, .int a1), (3, .int (a3 ||| ((nI 1) <<< (z.toInt32 &&& 31)))), (4, .int (a2 + (nI 1)))] [] h
set_option maxHeartbeats 4000000 in
set_option maxRecDepth 100000 in
theorem sX9_whyNoPick_0 (N d n : Nat) {X : lt_X} (x1 : Int32) (x2 : Int32) (I : Nat → Nat → Int32) (J : Nat → Nat → Int64) : RX9_whyNoPick_0 N d (n + 1) X x1 x2 I J = am_cI (am_G am_prog (N + 30) (d + 2) 200 [.ref 135, .int x1] (mkh X I J)) (KX9_whyNoPick_0 N d n x1 x2) := by
  rfl
set_option maxHeartbeats 4000000 in
set_option maxRecDepth 100000 in
theorem sX9_whyNoPick_52 (N d n : Nat) {X : lt_X} (x1 : Int32) (x2 : Int32) (x3 : Int32) (x4 : Int32) (I : Nat → Nat → Int32) (J : Nat → Nat → Int64) : RX9_whyNoPick_52 N d (n + 1) X x1 x2 x3 x4 I J = if x4 < x2 then am_cL (am_G am_prog (N + 30) (d + 2) 199 [.ref 135, .int x1, .int x4] (mkh X I J)) (KX9_whyNoPick_1 N d n x1 x2 x3 x4) else some (.int (nI 0), (mkh X I J)) := by
  rfl
set_option maxHeartbeats 4000000 in
set_option maxRecDepth 100000 in
theorem kX9_whyNoPick_0 (N d n : Nat) {X : lt_X} (a0 : Int32) (a1 : Int32) (z : Int32) (I : Nat → Nat → Int32) (J : Nat → Nat → Int64) : KX9_whyNoPick_0 N d n a0 a1 z (mkh X I J) = if z = nI 0 then some (.int (nI 1), (mkh X I J)) else if am_in a0 4 then if (I 137 a0.toNatClampNeg) < nI 0 then some (.int (nI 3), (mkh X I J)) else if am_in a0 4 then if (I 137 a0.toNatClampNeg) < a1 then some (.int (nI 4), (mkh X I J)) else am_cI (am_G am_prog (N + 30) (d + 2) 190 [.long a1.toInt64, .long (lN 0), .long (lN 6)] (mkh X I J)) (KX9_whyNoPick_2 N d n a0 a1) else none else none := by
  rfl
set_option maxHeartbeats 4000000 in
set_option maxRecDepth 100000 in
theorem kX9_whyNoPick_1 (N d n : Nat) {X : lt_X} (a0 : Int32) (a1 : Int32) (a2 : Int32) (a3 : Int32) (z : Int64) (I : Nat → Nat → Int32) (J : Nat → Nat → Int64) : KX9_whyNoPick_1 N d n a0 a1 a2 a3 z (mkh X I J) = am_cI (am_G am_prog (N + 30) (d + 2) 260 [.ref 135, .long z] (mkh X I J)) (KX9_whyNoPick_3 N d n a0 a1 a2 a3) := by
  rfl
set_option maxHeartbeats 4000000 in
set_option maxRecDepth 100000 in
theorem kX9_whyNoPick_2 (N d n : Nat) {X : lt_X} (a0 : Int32) (a1 : Int32) (z : Int32) (I : Nat → Nat → Int32) (J : Nat → Nat → Int64) : KX9_whyNoPick_2 N d n a0 a1 z (mkh X I J) = if z = nI 0 then some (.int (nI 5), (mkh X I J)) else RX9_whyNoPick_52 N d n X a0 a1 (nI 0) (nI 0) I J := by
  rfl
set_option maxHeartbeats 4000000 in
set_option maxRecDepth 100000 in
theorem kX9_whyNoPick_3 (N d n : Nat) {X : lt_X} (a0 : Int32) (a1 : Int32) (a2 : Int32) (a3 : Int32) (z : Int32) (I : Nat → Nat → Int32) (J : Nat → Nat → Int64) : KX9_whyNoPick_3 N d n a0 a1 a2 a3 z (mkh X I J) = if z = nI 0 then some (.int (nI 5), (mkh X I J)) else am_cL (am_G am_prog (N + 30) (d + 2) 199 [.ref 135, .int a0, .int a3] (mkh X I J)) (KX9_whyNoPick_4 N d n a0 a1 a2 a3) := by
  rfl
set_option maxHeartbeats 4000000 in
set_option maxRecDepth 100000 in
theorem kX9_whyNoPick_4 (N d n : Nat) {X : lt_X} (a0 : Int32) (a1 : Int32) (a2 : Int32) (a3 : Int32) (z : Int64) (I : Nat → Nat → Int32) (J : Nat → Nat → Int64) : KX9_whyNoPick_4 N d n a0 a1 a2 a3 z (mkh X I J) = am_cI (am_G am_prog (N + 30) (d + 2) 201 [.int a2, .int z.toInt32] (mkh X I J)) (KX9_whyNoPick_5 N d n a0 a1 a2 a3) := by
  rfl
set_option maxHeartbeats 4000000 in
set_option maxRecDepth 100000 in
theorem kX9_whyNoPick_5 (N d n : Nat) {X : lt_X} (a0 : Int32) (a1 : Int32) (a2 : Int32) (a3 : Int32) (z : Int32) (I : Nat → Nat → Int32) (J : Nat → Nat → Int64) : KX9_whyNoPick_5 N d n a0 a1 a2 a3 z (mkh X I J) = if z = nI 0 then am_cL (am_G am_prog (N + 30) (d + 2) 199 [.ref 135, .int a0, .int a3] (mkh X I J)) (KX9_whyNoPick_6 N d n a0 a1 a3 a2) else some (.int (nI 5), (mkh X I J)) := by
  rfl
set_option maxHeartbeats 4000000 in
set_option maxRecDepth 100000 in
theorem kX9_whyNoPick_6 (N d n : Nat) {X : lt_X} (a0 : Int32) (a1 : Int32) (a2 : Int32) (a3 : Int32) (z : Int64) (I : Nat → Nat → Int32) (J : Nat → Nat → Int64) : KX9_whyNoPick_6 N d n a0 a1 a2 a3 z (mkh X I J) = RX9_whyNoPick_52 N d n X a0 a1 (a3 ||| ((nI 1) <<< (z.toInt32 &&& 31))) (a2 + (nI 1)) I J := by
  rfl
theorem fX9_whyNoPick (N d : Nat) {X : lt_X} (x1 : Int32) (x2 : Int32) (I : Nat → Nat → Int32) (J : Nat → Nat → Int64) : am_G am_prog N (d + 1) 318 [.ref 135, .int x1, .int x2] (mkh X I J) = am_run (am_G am_prog N d) eX9_whyNoPick uX9_whyNoPick N 0 [(0, .ref 135), (1, .int x1), (2, .int x2)] [] (mkh X I J) := by
  refine (am_G_at N d 318 mX9_whyNoPick _ _ rfl).trans ?_
  rfl
theorem gX9_whyNoPick (N d : Nat) {X : lt_X} (x1 : Int32) (x2 : Int32) (I : Nat → Nat → Int32) (J : Nat → Nat → Int64) : am_G am_prog (N + 30) (d + 3) 318 [.ref 135, .int x1, .int x2] (mkh X I J) = RX9_whyNoPick_0 N d (N + 30) X x1 x2 I J := fX9_whyNoPick (N + 30) (d + 2) x1 x2 I J
def RX9_pick_0 (N d n : Nat) (X : lt_X) (x1 : Int32) (x2 : Int32) (x3 : Int32) (I : Nat → Nat → Int32) (J : Nat → Nat → Int64) : am_O := am_run (am_G am_prog (N + 30) (d + 1)) eX9_pick uX9_pick n 0 [(0, .ref 135), (1, .int x1), (2, .int x2), (3, .int x3)] [] (mkh X I J)
def RX9_pick_57 (N d n : Nat) (X : lt_X) (x1 : Int32) (x3 : Int32) (x4 : Int32) (x5 : Int32) (x6 : Int32) (I : Nat → Nat → Int32) (J : Nat → Nat → Int64) : am_O := am_run (am_G am_prog (N + 30) (d + 1)) eX9_pick uX9_pick n 57 [(0, .ref 135), (1, .int x1), (3, .int x3), (4, .int x4), (5, .int x5), (6, .int x6)] [] (mkh X I J)
def RX9_pick_79 (N d n : Nat) (X : lt_X) (x1 : Int32) (x3 : Int32) (x4 : Int32) (x5 : Int32) (x6 : Int32) (x7 : Int32) (x8 : Int32) (I : Nat → Nat → Int32) (J : Nat → Nat → Int64) : am_O := am_run (am_G am_prog (N + 30) (d + 1)) eX9_pick uX9_pick n 79 [(0, .ref 135), (1, .int x1), (3, .int x3), (4, .int x4), (5, .int x5), (6, .int x6), (7, .int x7), (8, .int x8)] [] (mkh X I J)
def KX9_pick_0 (N d n : Nat) (a0 : Int32) (a1 : Int32) (a2 : Int32) (z : Int32) (h : am_H) : am_O := am_pI h 9 135 0 z (fun h1 => am_gI h1 9 135 0 (fun y2 => if nI 0 < y2 then some (.int (-1), h1) else am_cI (am_G am_prog (N + 30) (d + 1) 190 [.long a2.toInt64, .long (lN 0), .long ((a1 - (nI 1)).toInt64)] h1) (fun r4 h3 => if r4 = nI 0 then am_cI (am_G am_prog (N + 30) (d + 1) 188 [.ref 135, .int (nI 8)] h3) (fun r6 h5 => some (.int r6, h5)) else am_cV (am_G am_prog (N + 30) (d + 1) 303 [.ref 135] h3) (fun h7 => am_run (am_G am_prog (N + 30) (d + 1)) eX9_pick uX9_pick n 57 [(0, .ref 135), (1, .int a0), (3, .int a2), (4, .int (nI 0)), (5, .int (-1)), (6, .int (nI 0))] [] h7))))
def KX9_pick_1 (N d n : Nat) (a0 : Int32) (a1 : Int32) (a2 : Int32) (a3 : Int32) (z : Int64) (h : am_H) : am_O := am_run (am_G am_prog (N + 30) (d + 1)) eX9_pick uX9_pick n 79 [(0, .ref 135), (1, .int a0), (3, .int a1), (4, .int a2), (5, .int (-1)), (6, .int a3), (7, .int z.toInt32), (8, .int (nI 0))] [] h
def KX9_pick_2 (N d n : Nat) (a0 : Int32) (a1 : Int32) (a2 : Int32) (a3 : Int32) (a4 : Int32) (a5 : Int32) (a6 : Int32) (z : Int32) (h : am_H) : am_O := if z = nI 0 then if a3 < nI 0 then am_run (am_G am_prog (N + 30) (d + 1)) eX9_pick uX9_pick n 79 [(0, .ref 135), (1, .int a0), (3, .int a1), (4, .int a2), (5, .int a6), (6, .int a4), (7, .int a5), (8, .int (a6 + (nI 1)))] [] h else am_gR h 9 135 26 (fun y1 => am_lI h 10 y1 (((nI 6) * a5) + a6) (fun y2 => am_gR h 9 135 26 (fun y3 => am_lI h 10 y3 (((nI 6) * a5) + a3) (fun y4 => if y4 < y2 then am_run (am_G am_prog (N + 30) (d + 1)) eX9_pick uX9_pick n 79 [(0, .ref 135), (1, .int a0), (3, .int a1), (4, .int a2), (5, .int a6), (6, .int a4), (7, .int a5), (8, .int (a6 + (nI 1)))] [] h else am_run (am_G am_prog (N + 30) (d + 1)) eX9_pick uX9_pick n 79 [(0, .ref 135), (1, .int a0), (3, .int a1), (4, .int a2), (5, .int a3), (6, .int a4), (7, .int a5), (8, .int (a6 + (nI 1)))] [] h)))) else am_run (am_G am_prog (N + 30) (d + 1)) eX9_pick uX9_pick n 79 [(0, .ref 135), (1, .int a0), (3, .int a1), (4, .int a2), (5, .int a3), (6, .int a4), (7, .int a5), (8, .int (a6 + (nI 1)))] [] h
def KX9_pick_3 (N d n : Nat) (a0 : Int32) (a1 : Int32) (z : Int32) (h : am_H) : am_O := if z = nI 0 then am_cI (am_G am_prog (N + 30) (d + 1) 188 [.ref 135, .int (nI 8)] h) (fun r2 h1 => some (.int r2, h1)) else am_cV (am_G am_prog (N + 30) (d + 1) 303 [.ref 135] h) (fun h3 => am_run (am_G am_prog (N + 30) (d + 1)) eX9_pick uX9_pick n 57 [(0, .ref 135), (1, .int a0), (3, .int a1), (4, .int (nI 0)), (5, .int (-1)), (6, .int (nI 0))] [] h3)
def KX9_pick_4 (N d n : Nat) (a0 : Int32) (a1 : Int32) (h : am_H) : am_O := am_run (am_G am_prog (N + 30) (d + 1)) eX9_pick uX9_pick n 57 [(0, .ref 135), (1, .int a0), (3, .int a1), (4, .int (nI 0)), (5, .int (-1)), (6, .int (nI 0))] [] h
set_option maxHeartbeats 4000000 in
set_option maxRecDepth 100000 in
theorem sX9_pick_0 (N d n : Nat) {X : lt_X} (x1 : Int32) (x2 : Int32) (x3 : Int32) (I : Nat → Nat → Int32) (J : Nat → Nat → Int64) : RX9_pick_0 N d (n + 1) X x1 x2 x3 I J = am_cI (am_G am_prog (N + 30) (d + 1) 318 [.ref 135, .int x1, .int x2] (mkh X (u2 I 135 1 (nI 0)) J)) (KX9_pick_0 N d n x1 x2 x3) := by
  rfl
set_option maxHeartbeats 4000000 in
set_option maxRecDepth 100000 in
theorem sX9_pick_57 (N d n : Nat) {X : lt_X} (x1 : Int32) (x3 : Int32) (x4 : Int32) (x5 : Int32) (x6 : Int32) (I : Nat → Nat → Int32) (J : Nat → Nat → Int64) : RX9_pick_57 N d (n + 1) X x1 x3 x4 x5 x6 I J = if x3 < x6 then if x5 < nI 0 then some (.int (-1), (mkh X (u2 I 135 0 (nI 8)) J)) else some (.int x5, (mkh X I J)) else am_cL (am_G am_prog (N + 30) (d + 1) 199 [.ref 135, .int x1, .int x6] (mkh X I J)) (KX9_pick_1 N d n x1 x3 x4 x6) := by
  rfl
set_option maxHeartbeats 4000000 in
set_option maxRecDepth 100000 in
theorem sX9_pick_79 (N d n : Nat) {X : lt_X} (x1 : Int32) (x3 : Int32) (x4 : Int32) (x5 : Int32) (x6 : Int32) (x7 : Int32) (x8 : Int32) (I : Nat → Nat → Int32) (J : Nat → Nat → Int64) : RX9_pick_79 N d (n + 1) X x1 x3 x4 x5 x6 x7 x8 I J = if x8 < (I 140 3) then am_cI (am_G am_prog (N + 30) (d + 1) 201 [.int x4, .int x8] (mkh X I J)) (KX9_pick_2 N d n x1 x3 x4 x5 x6 x7 x8) else if x5 < nI 0 then RX9_pick_57 N d n X x1 x3 (x4 ||| (nI 0)) x5 (x6 + (nI 1)) I J else RX9_pick_57 N d n X x1 x3 (x4 ||| ((nI 1) <<< (x5 &&& 31))) x5 (x6 + (nI 1)) I J := by
  rfl
set_option maxHeartbeats 4000000 in
set_option maxRecDepth 100000 in
theorem kX9_pick_0 (N d n : Nat) {X : lt_X} (a0 : Int32) (a1 : Int32) (a2 : Int32) (z : Int32) (I : Nat → Nat → Int32) (J : Nat → Nat → Int64) : KX9_pick_0 N d n a0 a1 a2 z (mkh X I J) = if nI 0 < z then some (.int (-1), (mkh X (u2 I 135 0 z) J)) else am_cI (am_G am_prog (N + 30) (d + 1) 190 [.long a2.toInt64, .long (lN 0), .long ((a1 - (nI 1)).toInt64)] (mkh X (u2 I 135 0 z) J)) (KX9_pick_3 N d n a0 a2) := by
  rfl
set_option maxHeartbeats 4000000 in
set_option maxRecDepth 100000 in
theorem kX9_pick_1 (N d n : Nat) {X : lt_X} (a0 : Int32) (a1 : Int32) (a2 : Int32) (a3 : Int32) (z : Int64) (I : Nat → Nat → Int32) (J : Nat → Nat → Int64) : KX9_pick_1 N d n a0 a1 a2 a3 z (mkh X I J) = RX9_pick_79 N d n X a0 a1 a2 (-1) a3 z.toInt32 (nI 0) I J := by
  rfl
set_option maxHeartbeats 4000000 in
set_option maxRecDepth 100000 in
theorem kX9_pick_3 (N d n : Nat) {X : lt_X} (a0 : Int32) (a1 : Int32) (z : Int32) (I : Nat → Nat → Int32) (J : Nat → Nat → Int64) : KX9_pick_3 N d n a0 a1 z (mkh X I J) = if z = nI 0 then some (.int (-1), (mkh X (u2 I 135 0 (nI 8)) J)) else am_cV (am_G am_prog (N + 30) (d + 1) 303 [.ref 135] (mkh X I J)) (KX9_pick_4 N d n a0 a1) := by
  rfl
set_option maxHeartbeats 4000000 in
set_option maxRecDepth 100000 in
theorem kX9_pick_4 (N d n : Nat) {X : lt_X} (a0 : Int32) (a1 : Int32) (I : Nat → Nat → Int32) (J : Nat → Nat → Int64) : KX9_pick_4 N d n a0 a1 (mkh X I J) = RX9_pick_57 N d n X a0 a1 (nI 0) (-1) (nI 0) I J := by
  rfl
theorem fX9_pick (N d : Nat) {X : lt_X} (x1 : Int32) (x2 : Int32) (x3 : Int32) (I : Nat → Nat → Int32) (J : Nat → Nat → Int64) : am_G am_prog N (d + 1) 319 [.ref 135, .int x1, .int x2, .int x3] (mkh X I J) = am_run (am_G am_prog N d) eX9_pick uX9_pick N 0 [(0, .ref 135), (1, .int x1), (2, .int x2), (3, .int x3)] [] (mkh X I J) := by
  refine (am_G_at N d 319 mX9_pick _ _ rfl).trans ?_
  rfl
theorem gX9_pick (N d : Nat) {X : lt_X} (x1 : Int32) (x2 : Int32) (x3 : Int32) (I : Nat → Nat → Int32) (J : Nat → Nat → Int64) : am_G am_prog (N + 30) (d + 2) 319 [.ref 135, .int x1, .int x2, .int x3] (mkh X I J) = RX9_pick_0 N d (N + 30) X x1 x2 x3 I J := fX9_pick (N + 30) (d + 1) x1 x2 x3 I J
def RX9_whyNotFits_0 (N d n : Nat) (X : lt_X) (x1 : Int32) (x2 : Int32) (I : Nat → Nat → Int32) (J : Nat → Nat → Int64) : am_O := am_run (am_G am_prog (N + 30) (d + 2)) eX9_whyNotFits uX9_whyNotFits n 0 [(0, .ref 135), (1, .int x1), (2, .int x2)] [] (mkh X I J)
def RX9_whyNotFits_56 (N d n : Nat) (X : lt_X) (x1 : Int32) (x2 : Int32) (x3 : Int32) (I : Nat → Nat → Int32) (J : Nat → Nat → Int64) : am_O := am_run (am_G am_prog (N + 30) (d + 2)) eX9_whyNotFits uX9_whyNotFits n 56 [(0, .ref 135), (1, .int x1), (2, .int x2), (3, .int x3)] [] (mkh X I J)
def KX9_whyNotFits_0 (N d n : Nat) (a0 : Int32) (a1 : Int32) (z : Int32) (h : am_H) : am_O := if z = nI 0 then some (.int (nI 1), h) else am_gR h 9 135 5 (fun y1 => am_lI h 10 y1 a0 (fun y2 => if y2 < nI 0 then some (.int (nI 3), h) else am_gR h 9 135 5 (fun y3 => am_lI h 10 y3 a0 (fun y4 => if (lg_cmp y4.toInt64 ((lN 2) * a1.toInt64)) < nI 0 then some (.int (nI 4), h) else am_cI (am_G am_prog (N + 30) (d + 2) 190 [.long a1.toInt64, .long (lN 0), .long (lN 20)] h) (fun r6 h5 => if r6 = nI 0 then some (.int (nI 5), h5) else am_run (am_G am_prog (N + 30) (d + 2)) eX9_whyNotFits uX9_whyNotFits n 56 [(0, .ref 135), (1, .int a0), (2, .int a1), (3, .int (nI 0))] [] h5)))))
def KX9_whyNotFits_1 (N d n : Nat) (a0 : Int32) (a1 : Int32) (a2 : Int32) (z : Int64) (h : am_H) : am_O := am_cI (am_G am_prog (N + 30) (d + 2) 190 [.long z, .long (lN 0), .long (lN 9999)] h) (fun r2 h1 => if r2 = nI 0 then some (.int (nI 5), h1) else am_cL (am_G am_prog (N + 30) (d + 2) 199 [.ref 135, .int a0, .int (((nI 2) * a2) + (nI 1))] h1) (fun r4 h3 => am_cI (am_G am_prog (N + 30) (d + 2) 258 [.ref 135, .long r4] h3) (fun r6 h5 => if r6 = nI 0 then some (.int (nI 5), h5) else am_run (am_G am_prog (N + 30) (d + 2)) eX9_whyNotFits uX9_whyNotFits n 56 [(0, .ref 135), (1, .int a0), (2, .int a1), (3, .int (a2 + (nI 1)))] [] h5)))
def KX9_whyNotFits_2 (N d n : Nat) (a0 : Int32) (a1 : Int32) (z : Int32) (h : am_H) : am_O := if z = nI 0 then some (.int (nI 5), h) else am_run (am_G am_prog (N + 30) (d + 2)) eX9_whyNotFits uX9_whyNotFits n 56 [(0, .ref 135), (1, .int a0), (2, .int a1), (3, .int (nI 0))] [] h
def KX9_whyNotFits_3 (N d n : Nat) (a0 : Int32) (a1 : Int32) (a2 : Int32) (z : Int32) (h : am_H) : am_O := if z = nI 0 then some (.int (nI 5), h) else am_cL (am_G am_prog (N + 30) (d + 2) 199 [.ref 135, .int a0, .int (((nI 2) * a2) + (nI 1))] h) (fun r2 h1 => am_cI (am_G am_prog (N + 30) (d + 2) 258 [.ref 135, .long r2] h1) (fun r4 h3 => if r4 = nI 0 then some (.int (nI 5), h3) else am_run (am_G am_prog (N + 30) (d + 2)) eX9_whyNotFits uX9_whyNotFits n 56 [(0, .ref 135), (1, .int a0), (2, .int a1), (3, .int (a2 + (nI 1)))] [] h3))
def KX9_whyNotFits_4 (N d n : Nat) (a0 : Int32) (a1 : Int32) (a2 : Int32) (z : Int64) (h : am_H) : am_O := am_cI (am_G am_prog (N + 30) (d + 2) 258 [.ref 135, .long z] h) (fun r2 h1 => if r2 = nI 0 then some (.int (nI 5), h1) else am_run (am_G am_prog (N + 30) (d + 2)) eX9_whyNotFits uX9_whyNotFits n 56 [(0, .ref 135), (1, .int a0), (2, .int a1), (3, .int (a2 + (nI 1)))] [] h1)
def KX9_whyNotFits_5 (N d n : Nat) (a0 : Int32) (a1 : Int32) (a2 : Int32) (z : Int32) (h : am_H) : am_O := if z = nI 0 then some (.int (nI 5), h) else am_run (am_G am_prog (N + 30) (d + 2)) eX9_whyNotFits uX9_whyNotFits n 56 [(0, .ref 135), (1, .int a0), (2, .int a1), (3, .int (a2 + (nI 1)))] [] h
set_option maxHeartbeats 4000000 in
set_option maxRecDepth 100000 in
theorem sX9_whyNotFits_0 (N d n : Nat) {X : lt_X} (x1 : Int32) (x2 : Int32) (I : Nat → Nat → Int32) (J : Nat → Nat → Int64) : RX9_whyNotFits_0 N d (n + 1) X x1 x2 I J = am_cI (am_G am_prog (N + 30) (d + 2) 200 [.ref 135, .int x1] (mkh X I J)) (KX9_whyNotFits_0 N d n x1 x2) := by
  rfl
set_option maxHeartbeats 4000000 in
set_option maxRecDepth 100000 in
theorem sX9_whyNotFits_56 (N d n : Nat) {X : lt_X} (x1 : Int32) (x2 : Int32) (x3 : Int32) (I : Nat → Nat → Int32) (J : Nat → Nat → Int64) : RX9_whyNotFits_56 N d (n + 1) X x1 x2 x3 I J = if x3 < x2 then am_cL (am_G am_prog (N + 30) (d + 2) 199 [.ref 135, .int x1, .int ((nI 2) * x3)] (mkh X I J)) (KX9_whyNotFits_1 N d n x1 x2 x3) else some (.int (nI 0), (mkh X I J)) := by
  rfl
set_option maxHeartbeats 4000000 in
set_option maxRecDepth 100000 in
theorem kX9_whyNotFits_0 (N d n : Nat) {X : lt_X} (a0 : Int32) (a1 : Int32) (z : Int32) (I : Nat → Nat → Int32) (J : Nat → Nat → Int64) : KX9_whyNotFits_0 N d n a0 a1 z (mkh X I J) = if z = nI 0 then some (.int (nI 1), (mkh X I J)) else if am_in a0 4 then if (I 137 a0.toNatClampNeg) < nI 0 then some (.int (nI 3), (mkh X I J)) else if am_in a0 4 then if (lg_cmp ((I 137 a0.toNatClampNeg).toInt64) ((lN 2) * a1.toInt64)) < nI 0 then some (.int (nI 4), (mkh X I J)) else am_cI (am_G am_prog (N + 30) (d + 2) 190 [.long a1.toInt64, .long (lN 0), .long (lN 20)] (mkh X I J)) (KX9_whyNotFits_2 N d n a0 a1) else none else none := by
  rfl
set_option maxHeartbeats 4000000 in
set_option maxRecDepth 100000 in
theorem kX9_whyNotFits_1 (N d n : Nat) {X : lt_X} (a0 : Int32) (a1 : Int32) (a2 : Int32) (z : Int64) (I : Nat → Nat → Int32) (J : Nat → Nat → Int64) : KX9_whyNotFits_1 N d n a0 a1 a2 z (mkh X I J) = am_cI (am_G am_prog (N + 30) (d + 2) 190 [.long z, .long (lN 0), .long (lN 9999)] (mkh X I J)) (KX9_whyNotFits_3 N d n a0 a1 a2) := by
  rfl
set_option maxHeartbeats 4000000 in
set_option maxRecDepth 100000 in
theorem kX9_whyNotFits_2 (N d n : Nat) {X : lt_X} (a0 : Int32) (a1 : Int32) (z : Int32) (I : Nat → Nat → Int32) (J : Nat → Nat → Int64) : KX9_whyNotFits_2 N d n a0 a1 z (mkh X I J) = if z = nI 0 then some (.int (nI 5), (mkh X I J)) else RX9_whyNotFits_56 N d n X a0 a1 (nI 0) I J := by
  rfl
set_option maxHeartbeats 4000000 in
set_option maxRecDepth 100000 in
theorem kX9_whyNotFits_3 (N d n : Nat) {X : lt_X} (a0 : Int32) (a1 : Int32) (a2 : Int32) (z : Int32) (I : Nat → Nat → Int32) (J : Nat → Nat → Int64) : KX9_whyNotFits_3 N d n a0 a1 a2 z (mkh X I J) = if z = nI 0 then some (.int (nI 5), (mkh X I J)) else am_cL (am_G am_prog (N + 30) (d + 2) 199 [.ref 135, .int a0, .int (((nI 2) * a2) + (nI 1))] (mkh X I J)) (KX9_whyNotFits_4 N d n a0 a1 a2) := by
  rfl
set_option maxHeartbeats 4000000 in
set_option maxRecDepth 100000 in
theorem kX9_whyNotFits_4 (N d n : Nat) {X : lt_X} (a0 : Int32) (a1 : Int32) (a2 : Int32) (z : Int64) (I : Nat → Nat → Int32) (J : Nat → Nat → Int64) : KX9_whyNotFits_4 N d n a0 a1 a2 z (mkh X I J) = am_cI (am_G am_prog (N + 30) (d + 2) 258 [.ref 135, .long z] (mkh X I J)) (KX9_whyNotFits_5 N d n a0 a1 a2) := by
  rfl
set_option maxHeartbeats 4000000 in
set_option maxRecDepth 100000 in
theorem kX9_whyNotFits_5 (N d n : Nat) {X : lt_X} (a0 : Int32) (a1 : Int32) (a2 : Int32) (z : Int32) (I : Nat → Nat → Int32) (J : Nat → Nat → Int64) : KX9_whyNotFits_5 N d n a0 a1 a2 z (mkh X I J) = if z = nI 0 then some (.int (nI 5), (mkh X I J)) else RX9_whyNotFits_56 N d n X a0 a1 (a2 + (nI 1)) I J := by
  rfl
theorem fX9_whyNotFits (N d : Nat) {X : lt_X} (x1 : Int32) (x2 : Int32) (I : Nat → Nat → Int32) (J : Nat → Nat → Int64) : am_G am_prog N (d + 1) 320 [.ref 135, .int x1, .int x2] (mkh X I J) = am_run (am_G am_prog N d) eX9_whyNotFits uX9_whyNotFits N 0 [(0, .ref 135), (1, .int x1), (2, .int x2)] [] (mkh X I J) := by
  refine (am_G_at N d 320 mX9_whyNotFits _ _ rfl).trans ?_
  rfl
theorem gX9_whyNotFits (N d : Nat) {X : lt_X} (x1 : Int32) (x2 : Int32) (I : Nat → Nat → Int32) (J : Nat → Nat → Int64) : am_G am_prog (N + 30) (d + 3) 320 [.ref 135, .int x1, .int x2] (mkh X I J) = RX9_whyNotFits_0 N d (N + 30) X x1 x2 I J := fX9_whyNotFits (N + 30) (d + 2) x1 x2 I J
def RX9_fitting_0 (N d n : Nat) (X : lt_X) (x1 : Int32) (x2 : Int32) (I : Nat → Nat → Int32) (J : Nat → Nat → Int64) : am_O := am_run (am_G am_prog (N + 30) (d + 1)) eX9_fitting uX9_fitting n 0 [(0, .ref 135), (1, .int x1), (2, .int x2)] [] (mkh X I J)
def RX9_fitting_5 (N d n : Nat) (X : lt_X) (x1 : Int32) (x2 : Int32) (x3 : Int32) (x4 : Int32) (I : Nat → Nat → Int32) (J : Nat → Nat → Int64) : am_O := am_run (am_G am_prog (N + 30) (d + 1)) eX9_fitting uX9_fitting n 5 [(0, .ref 135), (1, .int x1), (2, .int x2), (3, .int x3), (4, .int x4)] [] (mkh X I J)
def RX9_fitting_22 (N d n : Nat) (X : lt_X) (x1 : Int32) (x2 : Int32) (x3 : Int32) (x4 : Int32) (x5 : Int32) (x6 : Int32) (I : Nat → Nat → Int32) (J : Nat → Nat → Int64) : am_O := am_run (am_G am_prog (N + 30) (d + 1)) eX9_fitting uX9_fitting n 22 [(0, .ref 135), (1, .int x1), (2, .int x2), (3, .int x3), (4, .int x4), (5, .int x5), (6, .int x6)] [] (mkh X I J)
def RX9_fitting_78 (N d n : Nat) (X : lt_X) (x1 : Int32) (x2 : Int32) (x3 : Int32) (x4 : Int32) (x5 : Int32) (I : Nat → Nat → Int32) (J : Nat → Nat → Int64) : am_O := am_run (am_G am_prog (N + 30) (d + 1)) eX9_fitting uX9_fitting n 78 [(0, .ref 135), (1, .int x1), (2, .int x2), (3, .int x3), (4, .int x4), (5, .int x5)] [] (mkh X I J)
def KX9_fitting_0 (N d n : Nat) (a0 : Int32) (a1 : Int32) (a2 : Int32) (a3 : Int32) (a4 : Int32) (z : Int64) (h : am_H) : am_O := am_cI (am_G am_prog (N + 30) (d + 1) 272 [.ref 135, .int a3, .int z.toInt32] h) (fun r2 h1 => am_cL (am_G am_prog (N + 30) (d + 1) 199 [.ref 135, .int a0, .int (((nI 2) * a4) + (nI 1))] h1) (fun r4 h3 => if (lg_cmp r2.toInt64 r4) = nI 0 then am_run (am_G am_prog (N + 30) (d + 1)) eX9_fitting uX9_fitting n 22 [(0, .ref 135), (1, .int a0), (2, .int a1), (3, .int a2), (4, .int a3), (5, .int (nI 1)), (6, .int (a4 + (nI 1)))] [] h3 else am_run (am_G am_prog (N + 30) (d + 1)) eX9_fitting uX9_fitting n 22 [(0, .ref 135), (1, .int a0), (2, .int a1), (3, .int a2), (4, .int a3), (5, .int (nI 0)), (6, .int (a4 + (nI 1)))] [] h3))
def KX9_fitting_1 (N d n : Nat) (a0 : Int32) (a1 : Int32) (a2 : Int32) (a3 : Int32) (a4 : Int32) (z : Int32) (h : am_H) : am_O := am_cL (am_G am_prog (N + 30) (d + 1) 199 [.ref 135, .int a0, .int (((nI 2) * a4) + (nI 1))] h) (fun r2 h1 => if (lg_cmp z.toInt64 r2) = nI 0 then am_run (am_G am_prog (N + 30) (d + 1)) eX9_fitting uX9_fitting n 22 [(0, .ref 135), (1, .int a0), (2, .int a1), (3, .int a2), (4, .int a3), (5, .int (nI 1)), (6, .int (a4 + (nI 1)))] [] h1 else am_run (am_G am_prog (N + 30) (d + 1)) eX9_fitting uX9_fitting n 22 [(0, .ref 135), (1, .int a0), (2, .int a1), (3, .int a2), (4, .int a3), (5, .int (nI 0)), (6, .int (a4 + (nI 1)))] [] h1)
def KX9_fitting_2 (N d n : Nat) (a0 : Int32) (a1 : Int32) (a2 : Int32) (a3 : Int32) (a4 : Int32) (a5 : Int64) (z : Int64) (h : am_H) : am_O := if (lg_cmp a5 z) = nI 0 then am_run (am_G am_prog (N + 30) (d + 1)) eX9_fitting uX9_fitting n 22 [(0, .ref 135), (1, .int a0), (2, .int a1), (3, .int a2), (4, .int a3), (5, .int (nI 1)), (6, .int (a4 + (nI 1)))] [] h else am_run (am_G am_prog (N + 30) (d + 1)) eX9_fitting uX9_fitting n 22 [(0, .ref 135), (1, .int a0), (2, .int a1), (3, .int a2), (4, .int a3), (5, .int (nI 0)), (6, .int (a4 + (nI 1)))] [] h
set_option maxHeartbeats 4000000 in
set_option maxRecDepth 100000 in
theorem sX9_fitting_0 (N d n : Nat) {X : lt_X} (x1 : Int32) (x2 : Int32) (I : Nat → Nat → Int32) (J : Nat → Nat → Int64) : RX9_fitting_0 N d (n + 1) X x1 x2 I J = RX9_fitting_5 N d n X x1 x2 (nI 0) (nI 0) I J := by
  rfl
set_option maxHeartbeats 4000000 in
set_option maxRecDepth 100000 in
theorem sX9_fitting_5 (N d n : Nat) {X : lt_X} (x1 : Int32) (x2 : Int32) (x3 : Int32) (x4 : Int32) (I : Nat → Nat → Int32) (J : Nat → Nat → Int64) : RX9_fitting_5 N d (n + 1) X x1 x2 x3 x4 I J = if x4 < (I 140 1) then RX9_fitting_22 N d n X x1 x2 x3 x4 (nI 1) (nI 0) I J else some (.int x3, (mkh X I J)) := by
  rfl
set_option maxHeartbeats 4000000 in
set_option maxRecDepth 100000 in
theorem sX9_fitting_22 (N d n : Nat) {X : lt_X} (x1 : Int32) (x2 : Int32) (x3 : Int32) (x4 : Int32) (x5 : Int32) (x6 : Int32) (I : Nat → Nat → Int32) (J : Nat → Nat → Int64) : RX9_fitting_22 N d (n + 1) X x1 x2 x3 x4 x5 x6 I J = if x6 < x2 then if x5 = nI 0 then RX9_fitting_78 N d n X x1 x2 x3 x4 x5 I J else am_cL (am_G am_prog (N + 30) (d + 1) 199 [.ref 135, .int x1, .int ((nI 2) * x6)] (mkh X I J)) (KX9_fitting_0 N d n x1 x2 x3 x4 x6) else RX9_fitting_78 N d n X x1 x2 x3 x4 x5 I J := by
  rfl
set_option maxHeartbeats 4000000 in
set_option maxRecDepth 100000 in
theorem sX9_fitting_78 (N d n : Nat) {X : lt_X} (x1 : Int32) (x2 : Int32) (x3 : Int32) (x4 : Int32) (x5 : Int32) (I : Nat → Nat → Int32) (J : Nat → Nat → Int64) : RX9_fitting_78 N d (n + 1) X x1 x2 x3 x4 x5 I J = if x5 = nI 0 then RX9_fitting_5 N d n X x1 x2 (x3 ||| (nI 0)) (x4 + (nI 1)) I J else RX9_fitting_5 N d n X x1 x2 (x3 ||| ((nI 1) <<< (x4 &&& 31))) (x4 + (nI 1)) I J := by
  rfl
set_option maxHeartbeats 4000000 in
set_option maxRecDepth 100000 in
theorem kX9_fitting_0 (N d n : Nat) {X : lt_X} (a0 : Int32) (a1 : Int32) (a2 : Int32) (a3 : Int32) (a4 : Int32) (z : Int64) (I : Nat → Nat → Int32) (J : Nat → Nat → Int64) : KX9_fitting_0 N d n a0 a1 a2 a3 a4 z (mkh X I J) = am_cI (am_G am_prog (N + 30) (d + 1) 272 [.ref 135, .int a3, .int z.toInt32] (mkh X I J)) (KX9_fitting_1 N d n a0 a1 a2 a3 a4) := by
  rfl
set_option maxHeartbeats 4000000 in
set_option maxRecDepth 100000 in
theorem kX9_fitting_1 (N d n : Nat) {X : lt_X} (a0 : Int32) (a1 : Int32) (a2 : Int32) (a3 : Int32) (a4 : Int32) (z : Int32) (I : Nat → Nat → Int32) (J : Nat → Nat → Int64) : KX9_fitting_1 N d n a0 a1 a2 a3 a4 z (mkh X I J) = am_cL (am_G am_prog (N + 30) (d + 1) 199 [.ref 135, .int a0, .int (((nI 2) * a4) + (nI 1))] (mkh X I J)) (KX9_fitting_2 N d n a0 a1 a2 a3 a4 z.toInt64) := by
  rfl
set_option maxHeartbeats 4000000 in
set_option maxRecDepth 100000 in
theorem kX9_fitting_2 (N d n : Nat) {X : lt_X} (a0 : Int32) (a1 : Int32) (a2 : Int32) (a3 : Int32) (a4 : Int32) (a5 : Int64) (z : Int64) (I : Nat → Nat → Int32) (J : Nat → Nat → Int64) : KX9_fitting_2 N d n a0 a1 a2 a3 a4 a5 z (mkh X I J) = if (lg_cmp a5 z) = nI 0 then RX9_fitting_22 N d n X a0 a1 a2 a3 (nI 1) (a4 + (nI 1)) I J else RX9_fitting_22 N d n X a0 a1 a2 a3 (nI 0) (a4 + (nI 1)) I J := by
  rfl
theorem fX9_fitting (N d : Nat) {X : lt_X} (x1 : Int32) (x2 : Int32) (I : Nat → Nat → Int32) (J : Nat → Nat → Int64) : am_G am_prog N (d + 1) 321 [.ref 135, .int x1, .int x2] (mkh X I J) = am_run (am_G am_prog N d) eX9_fitting uX9_fitting N 0 [(0, .ref 135), (1, .int x1), (2, .int x2)] [] (mkh X I J) := by
  refine (am_G_at N d 321 mX9_fitting _ _ rfl).trans ?_
  rfl
theorem gX9_fitting (N d : Nat) {X : lt_X} (x1 : Int32) (x2 : Int32) (I : Nat → Nat → Int32) (J : Nat → Nat → Int64) : am_G am_prog (N + 30) (d + 2) 321 [.ref 135, .int x1, .int x2] (mkh X I J) = RX9_fitting_0 N d (N + 30) X x1 x2 I J := fX9_fitting (N + 30) (d + 1) x1 x2 I J
def RX9_fits_0 (N d n : Nat) (X : lt_X) (x1 : Int32) (x2 : Int32) (I : Nat → Nat → Int32) (J : Nat → Nat → Int64) : am_O := am_run (am_G am_prog (N + 30) (d + 0)) eX9_fits uX9_fits n 0 [(0, .ref 135), (1, .int x1), (2, .int x2)] [] (mkh X I J)
def KX9_fits_0 (N d n : Nat) (a0 : Int32) (a1 : Int32) (z : Int32) (h : am_H) : am_O := am_pI h 9 135 0 z (fun h1 => am_gI h1 9 135 0 (fun y2 => if nI 0 < y2 then some (.int (-1), h1) else am_cI (am_G am_prog (N + 30) (d + 0) 321 [.ref 135, .int a0, .int a1] h1) (fun r4 h3 => some (.int r4, h3))))
def KX9_fits_1 (N d n : Nat) (z : Int32) (h : am_H) : am_O := some (.int z, h)
set_option maxHeartbeats 4000000 in
set_option maxRecDepth 100000 in
theorem sX9_fits_0 (N d n : Nat) {X : lt_X} (x1 : Int32) (x2 : Int32) (I : Nat → Nat → Int32) (J : Nat → Nat → Int64) : RX9_fits_0 N d (n + 1) X x1 x2 I J = am_cI (am_G am_prog (N + 30) (d + 0) 320 [.ref 135, .int x1, .int x2] (mkh X (u2 I 135 1 (nI 0)) J)) (KX9_fits_0 N d n x1 x2) := by
  rfl
set_option maxHeartbeats 4000000 in
set_option maxRecDepth 100000 in
theorem kX9_fits_0 (N d n : Nat) {X : lt_X} (a0 : Int32) (a1 : Int32) (z : Int32) (I : Nat → Nat → Int32) (J : Nat → Nat → Int64) : KX9_fits_0 N d n a0 a1 z (mkh X I J) = if nI 0 < z then some (.int (-1), (mkh X (u2 I 135 0 z) J)) else am_cI (am_G am_prog (N + 30) (d + 0) 321 [.ref 135, .int a0, .int a1] (mkh X (u2 I 135 0 z) J)) (KX9_fits_1 N d n ) := by
  rfl
set_option maxHeartbeats 4000000 in
set_option maxRecDepth 100000 in
theorem kX9_fits_1 (N d n : Nat) {X : lt_X} (z : Int32) (I : Nat → Nat → Int32) (J : Nat → Nat → Int64) : KX9_fits_1 N d n z (mkh X I J) = some (.int z, (mkh X I J)) := by
  rfl
theorem fX9_fits (N d : Nat) {X : lt_X} (x1 : Int32) (x2 : Int32) (I : Nat → Nat → Int32) (J : Nat → Nat → Int64) : am_G am_prog N (d + 1) 322 [.ref 135, .int x1, .int x2] (mkh X I J) = am_run (am_G am_prog N d) eX9_fits uX9_fits N 0 [(0, .ref 135), (1, .int x1), (2, .int x2)] [] (mkh X I J) := by
  refine (am_G_at N d 322 mX9_fits _ _ rfl).trans ?_
  rfl
theorem gX9_fits (N d : Nat) {X : lt_X} (x1 : Int32) (x2 : Int32) (I : Nat → Nat → Int32) (J : Nat → Nat → Int64) : am_G am_prog (N + 30) (d + 1) 322 [.ref 135, .int x1, .int x2] (mkh X I J) = RX9_fits_0 N d (N + 30) X x1 x2 I J := fX9_fits (N + 30) (d + 0) x1 x2 I J
def RX9_alikeIn_0 (N d n : Nat) (X : lt_X) (x1 : Int32) (x2 : Int32) (I : Nat → Nat → Int32) (J : Nat → Nat → Int64) : am_O := am_run (am_G am_prog (N + 30) (d + 1)) eX9_alikeIn uX9_alikeIn n 0 [(0, .ref 135), (1, .int x1), (2, .int x2)] [] (mkh X I J)
def RX9_alikeIn_5 (N d n : Nat) (X : lt_X) (x1 : Int32) (x2 : Int32) (x3 : Int32) (x4 : Int32) (I : Nat → Nat → Int32) (J : Nat → Nat → Int64) : am_O := am_run (am_G am_prog (N + 30) (d + 1)) eX9_alikeIn uX9_alikeIn n 5 [(0, .ref 135), (1, .int x1), (2, .int x2), (3, .int x3), (4, .int x4)] [] (mkh X I J)
def RX9_alikeIn_22 (N d n : Nat) (X : lt_X) (x1 : Int32) (x2 : Int32) (x3 : Int32) (x4 : Int32) (x5 : Int32) (x6 : Int32) (I : Nat → Nat → Int32) (J : Nat → Nat → Int64) : am_O := am_run (am_G am_prog (N + 30) (d + 1)) eX9_alikeIn uX9_alikeIn n 22 [(0, .ref 135), (1, .int x1), (2, .int x2), (3, .int x3), (4, .int x4), (5, .int x5), (6, .int x6)] [] (mkh X I J)
def KX9_alikeIn_0 (N d n : Nat) (a0 : Int32) (a1 : Int32) (a2 : Int32) (a3 : Int32) (a4 : Int32) (a5 : Int32) (z : Int32) (h : am_H) : am_O := if z = nI 0 then am_run (am_G am_prog (N + 30) (d + 1)) eX9_alikeIn uX9_alikeIn n 22 [(0, .ref 135), (1, .int a0), (2, .int a1), (3, .int a2), (4, .int a3), (5, .int (a5 + (nI 0))), (6, .int (a4 + (nI 1)))] [] h else am_cI (am_G am_prog (N + 30) (d + 1) 272 [.ref 135, .int a4, .int a1] h) (fun r2 h1 => if r2 = a3 then am_run (am_G am_prog (N + 30) (d + 1)) eX9_alikeIn uX9_alikeIn n 22 [(0, .ref 135), (1, .int a0), (2, .int a1), (3, .int a2), (4, .int a3), (5, .int (a5 + (nI 1))), (6, .int (a4 + (nI 1)))] [] h1 else am_run (am_G am_prog (N + 30) (d + 1)) eX9_alikeIn uX9_alikeIn n 22 [(0, .ref 135), (1, .int a0), (2, .int a1), (3, .int a2), (4, .int a3), (5, .int (a5 + (nI 0))), (6, .int (a4 + (nI 1)))] [] h1)
def KX9_alikeIn_1 (N d n : Nat) (a0 : Int32) (a1 : Int32) (a2 : Int32) (a3 : Int32) (a4 : Int32) (a5 : Int32) (z : Int32) (h : am_H) : am_O := if z = a3 then am_run (am_G am_prog (N + 30) (d + 1)) eX9_alikeIn uX9_alikeIn n 22 [(0, .ref 135), (1, .int a0), (2, .int a1), (3, .int a2), (4, .int a3), (5, .int (a5 + (nI 1))), (6, .int (a4 + (nI 1)))] [] h else am_run (am_G am_prog (N + 30) (d + 1)) eX9_alikeIn uX9_alikeIn n 22 [(0, .ref 135), (1, .int a0), (2, .int a1), (3, .int a2), (4, .int a3), (5, .int (a5 + (nI 0))), (6, .int (a4 + (nI 1)))] [] h
set_option maxHeartbeats 4000000 in
set_option maxRecDepth 100000 in
theorem sX9_alikeIn_0 (N d n : Nat) {X : lt_X} (x1 : Int32) (x2 : Int32) (I : Nat → Nat → Int32) (J : Nat → Nat → Int64) : RX9_alikeIn_0 N d (n + 1) X x1 x2 I J = RX9_alikeIn_5 N d n X x1 x2 (nI 0) (nI 0) I J := by
  rfl
set_option maxHeartbeats 4000000 in
set_option maxRecDepth 100000 in
theorem sX9_alikeIn_5 (N d n : Nat) {X : lt_X} (x1 : Int32) (x2 : Int32) (x3 : Int32) (x4 : Int32) (I : Nat → Nat → Int32) (J : Nat → Nat → Int64) : RX9_alikeIn_5 N d (n + 1) X x1 x2 x3 x4 I J = if x4 < (I 140 0) then RX9_alikeIn_22 N d n X x1 x2 x3 x4 (nI 0) (nI 0) I J else some (.int x3, (mkh X I J)) := by
  rfl
set_option maxHeartbeats 4000000 in
set_option maxRecDepth 100000 in
theorem sX9_alikeIn_22 (N d n : Nat) {X : lt_X} (x1 : Int32) (x2 : Int32) (x3 : Int32) (x4 : Int32) (x5 : Int32) (x6 : Int32) (I : Nat → Nat → Int32) (J : Nat → Nat → Int64) : RX9_alikeIn_22 N d (n + 1) X x1 x2 x3 x4 x5 x6 I J = if x6 < (I 140 1) then am_cI (am_G am_prog (N + 30) (d + 1) 201 [.int x1, .int x6] (mkh X I J)) (KX9_alikeIn_0 N d n x1 x2 x3 x4 x6 x5) else RX9_alikeIn_5 N d n X x1 x2 (if x3 < x5 then x5 else x3) (x4 + (nI 1)) I J := by
  rfl
set_option maxHeartbeats 4000000 in
set_option maxRecDepth 100000 in
theorem kX9_alikeIn_0 (N d n : Nat) {X : lt_X} (a0 : Int32) (a1 : Int32) (a2 : Int32) (a3 : Int32) (a4 : Int32) (a5 : Int32) (z : Int32) (I : Nat → Nat → Int32) (J : Nat → Nat → Int64) : KX9_alikeIn_0 N d n a0 a1 a2 a3 a4 a5 z (mkh X I J) = if z = nI 0 then RX9_alikeIn_22 N d n X a0 a1 a2 a3 (a5 + (nI 0)) (a4 + (nI 1)) I J else am_cI (am_G am_prog (N + 30) (d + 1) 272 [.ref 135, .int a4, .int a1] (mkh X I J)) (KX9_alikeIn_1 N d n a0 a1 a2 a3 a4 a5) := by
  rfl
set_option maxHeartbeats 4000000 in
set_option maxRecDepth 100000 in
theorem kX9_alikeIn_1 (N d n : Nat) {X : lt_X} (a0 : Int32) (a1 : Int32) (a2 : Int32) (a3 : Int32) (a4 : Int32) (a5 : Int32) (z : Int32) (I : Nat → Nat → Int32) (J : Nat → Nat → Int64) : KX9_alikeIn_1 N d n a0 a1 a2 a3 a4 a5 z (mkh X I J) = if z = a3 then RX9_alikeIn_22 N d n X a0 a1 a2 a3 (a5 + (nI 1)) (a4 + (nI 1)) I J else RX9_alikeIn_22 N d n X a0 a1 a2 a3 (a5 + (nI 0)) (a4 + (nI 1)) I J := by
  rfl
theorem fX9_alikeIn (N d : Nat) {X : lt_X} (x1 : Int32) (x2 : Int32) (I : Nat → Nat → Int32) (J : Nat → Nat → Int64) : am_G am_prog N (d + 1) 323 [.ref 135, .int x1, .int x2] (mkh X I J) = am_run (am_G am_prog N d) eX9_alikeIn uX9_alikeIn N 0 [(0, .ref 135), (1, .int x1), (2, .int x2)] [] (mkh X I J) := by
  refine (am_G_at N d 323 mX9_alikeIn _ _ rfl).trans ?_
  rfl
theorem gX9_alikeIn (N d : Nat) {X : lt_X} (x1 : Int32) (x2 : Int32) (I : Nat → Nat → Int32) (J : Nat → Nat → Int64) : am_G am_prog (N + 30) (d + 2) 323 [.ref 135, .int x1, .int x2] (mkh X I J) = RX9_alikeIn_0 N d (N + 30) X x1 x2 I J := fX9_alikeIn (N + 30) (d + 1) x1 x2 I J
def RX9_ask_0 (N d n : Nat) (X : lt_X) (x1 : Int32) (x2 : Int32) (I : Nat → Nat → Int32) (J : Nat → Nat → Int64) : am_O := am_run (am_G am_prog (N + 30) (d + 1)) eX9_ask uX9_ask n 0 [(0, .ref 135), (1, .int x1), (2, .int x2)] [] (mkh X I J)
def RX9_ask_52 (N d n : Nat) (X : lt_X) (x3 : Int32) (x4 : Int32) (x5 : Int32) (I : Nat → Nat → Int32) (J : Nat → Nat → Int64) : am_O := am_run (am_G am_prog (N + 30) (d + 1)) eX9_ask uX9_ask n 52 [(0, .ref 135), (3, .int x3), (4, .int x4), (5, .int x5)] [] (mkh X I J)
def KX9_ask_0 (N d n : Nat) (a0 : Int32) (a1 : Int32) (z : Int32) (h : am_H) : am_O := am_pI h 9 135 0 z (fun h1 => am_gI h1 9 135 0 (fun y2 => if nI 0 < y2 then some (.int (-1), h1) else am_cI (am_G am_prog (N + 30) (d + 1) 321 [.ref 135, .int a0, .int a1] h1) (fun r4 h3 => am_cI (am_G am_prog (N + 30) (d + 1) 202 [.int r4] h3) (fun r6 h5 => if r6 < (nI 2) then am_cI (am_G am_prog (N + 30) (d + 1) 188 [.ref 135, .int (nI 8)] h5) (fun r8 h7 => some (.int r8, h7)) else am_run (am_G am_prog (N + 30) (d + 1)) eX9_ask uX9_ask n 52 [(0, .ref 135), (3, .int r4), (4, .int (nI 0)), (5, .int (nI 1))] [] h5))))
def KX9_ask_1 (N d n : Nat) (a0 : Int32) (a1 : Int32) (a2 : Int32) (z : Int32) (h : am_H) : am_O := am_cI (am_G am_prog (N + 30) (d + 1) 323 [.ref 135, .int a0, .int a1] h) (fun r2 h1 => if z < r2 then am_run (am_G am_prog (N + 30) (d + 1)) eX9_ask uX9_ask n 52 [(0, .ref 135), (3, .int a0), (4, .int a2), (5, .int (a2 + (nI 1)))] [] h1 else am_run (am_G am_prog (N + 30) (d + 1)) eX9_ask uX9_ask n 52 [(0, .ref 135), (3, .int a0), (4, .int a1), (5, .int (a2 + (nI 1)))] [] h1)
def KX9_ask_2 (N d n : Nat) (z : Int32) (h : am_H) : am_O := am_cI (am_G am_prog (N + 30) (d + 1) 202 [.int z] h) (fun r2 h1 => if r2 < (nI 2) then am_cI (am_G am_prog (N + 30) (d + 1) 188 [.ref 135, .int (nI 8)] h1) (fun r4 h3 => some (.int r4, h3)) else am_run (am_G am_prog (N + 30) (d + 1)) eX9_ask uX9_ask n 52 [(0, .ref 135), (3, .int z), (4, .int (nI 0)), (5, .int (nI 1))] [] h1)
def KX9_ask_3 (N d n : Nat) (a0 : Int32) (a1 : Int32) (a2 : Int32) (a3 : Int32) (z : Int32) (h : am_H) : am_O := if a3 < z then am_run (am_G am_prog (N + 30) (d + 1)) eX9_ask uX9_ask n 52 [(0, .ref 135), (3, .int a0), (4, .int a2), (5, .int (a2 + (nI 1)))] [] h else am_run (am_G am_prog (N + 30) (d + 1)) eX9_ask uX9_ask n 52 [(0, .ref 135), (3, .int a0), (4, .int a1), (5, .int (a2 + (nI 1)))] [] h
def KX9_ask_4 (N d n : Nat) (a0 : Int32) (z : Int32) (h : am_H) : am_O := if z < (nI 2) then am_cI (am_G am_prog (N + 30) (d + 1) 188 [.ref 135, .int (nI 8)] h) (fun r2 h1 => some (.int r2, h1)) else am_run (am_G am_prog (N + 30) (d + 1)) eX9_ask uX9_ask n 52 [(0, .ref 135), (3, .int a0), (4, .int (nI 0)), (5, .int (nI 1))] [] h
set_option maxHeartbeats 4000000 in
set_option maxRecDepth 100000 in
theorem sX9_ask_0 (N d n : Nat) {X : lt_X} (x1 : Int32) (x2 : Int32) (I : Nat → Nat → Int32) (J : Nat → Nat → Int64) : RX9_ask_0 N d (n + 1) X x1 x2 I J = am_cI (am_G am_prog (N + 30) (d + 1) 320 [.ref 135, .int x1, .int x2] (mkh X (u2 I 135 1 (nI 0)) J)) (KX9_ask_0 N d n x1 x2) := by
  rfl
set_option maxHeartbeats 4000000 in
set_option maxRecDepth 100000 in
theorem sX9_ask_52 (N d n : Nat) {X : lt_X} (x3 : Int32) (x4 : Int32) (x5 : Int32) (I : Nat → Nat → Int32) (J : Nat → Nat → Int64) : RX9_ask_52 N d (n + 1) X x3 x4 x5 I J = if (nI 99) < x5 then some (.int x4, (mkh X I J)) else am_cI (am_G am_prog (N + 30) (d + 1) 323 [.ref 135, .int x3, .int x5] (mkh X I J)) (KX9_ask_1 N d n x3 x4 x5) := by
  rfl
set_option maxHeartbeats 4000000 in
set_option maxRecDepth 100000 in
theorem kX9_ask_0 (N d n : Nat) {X : lt_X} (a0 : Int32) (a1 : Int32) (z : Int32) (I : Nat → Nat → Int32) (J : Nat → Nat → Int64) : KX9_ask_0 N d n a0 a1 z (mkh X I J) = if nI 0 < z then some (.int (-1), (mkh X (u2 I 135 0 z) J)) else am_cI (am_G am_prog (N + 30) (d + 1) 321 [.ref 135, .int a0, .int a1] (mkh X (u2 I 135 0 z) J)) (KX9_ask_2 N d n ) := by
  rfl
set_option maxHeartbeats 4000000 in
set_option maxRecDepth 100000 in
theorem kX9_ask_1 (N d n : Nat) {X : lt_X} (a0 : Int32) (a1 : Int32) (a2 : Int32) (z : Int32) (I : Nat → Nat → Int32) (J : Nat → Nat → Int64) : KX9_ask_1 N d n a0 a1 a2 z (mkh X I J) = am_cI (am_G am_prog (N + 30) (d + 1) 323 [.ref 135, .int a0, .int a1] (mkh X I J)) (KX9_ask_3 N d n a0 a1 a2 z) := by
  rfl
set_option maxHeartbeats 4000000 in
set_option maxRecDepth 100000 in
theorem kX9_ask_2 (N d n : Nat) {X : lt_X} (z : Int32) (I : Nat → Nat → Int32) (J : Nat → Nat → Int64) : KX9_ask_2 N d n z (mkh X I J) = am_cI (am_G am_prog (N + 30) (d + 1) 202 [.int z] (mkh X I J)) (KX9_ask_4 N d n z) := by
  rfl
set_option maxHeartbeats 4000000 in
set_option maxRecDepth 100000 in
theorem kX9_ask_3 (N d n : Nat) {X : lt_X} (a0 : Int32) (a1 : Int32) (a2 : Int32) (a3 : Int32) (z : Int32) (I : Nat → Nat → Int32) (J : Nat → Nat → Int64) : KX9_ask_3 N d n a0 a1 a2 a3 z (mkh X I J) = if a3 < z then RX9_ask_52 N d n X a0 a2 (a2 + (nI 1)) I J else RX9_ask_52 N d n X a0 a1 (a2 + (nI 1)) I J := by
  rfl
set_option maxHeartbeats 4000000 in
set_option maxRecDepth 100000 in
theorem kX9_ask_4 (N d n : Nat) {X : lt_X} (a0 : Int32) (z : Int32) (I : Nat → Nat → Int32) (J : Nat → Nat → Int64) : KX9_ask_4 N d n a0 z (mkh X I J) = if z < (nI 2) then some (.int (-1), (mkh X (u2 I 135 0 (nI 8)) J)) else RX9_ask_52 N d n X a0 (nI 0) (nI 1) I J := by
  rfl
theorem fX9_ask (N d : Nat) {X : lt_X} (x1 : Int32) (x2 : Int32) (I : Nat → Nat → Int32) (J : Nat → Nat → Int64) : am_G am_prog N (d + 1) 324 [.ref 135, .int x1, .int x2] (mkh X I J) = am_run (am_G am_prog N d) eX9_ask uX9_ask N 0 [(0, .ref 135), (1, .int x1), (2, .int x2)] [] (mkh X I J) := by
  refine (am_G_at N d 324 mX9_ask _ _ rfl).trans ?_
  rfl
theorem gX9_ask (N d : Nat) {X : lt_X} (x1 : Int32) (x2 : Int32) (I : Nat → Nat → Int32) (J : Nat → Nat → Int64) : am_G am_prog (N + 30) (d + 2) 324 [.ref 135, .int x1, .int x2] (mkh X I J) = RX9_ask_0 N d (N + 30) X x1 x2 I J := fX9_ask (N + 30) (d + 1) x1 x2 I J
