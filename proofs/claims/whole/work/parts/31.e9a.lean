/-! printed by wip/whole/eqs4.py (sym4.py) -/
def RX9_status_0 (N d n : Nat) (X : lt_X) (I : Nat → Nat → Int32) (J : Nat → Nat → Int64) : am_O := am_run (am_G am_prog (N + 30) (d + 0)) eX9_status uX9_status n 0 [(0, .ref 135)] [] (mkh X I J)
set_option maxHeartbeats 4000000 in
set_option maxRecDepth 100000 in
theorem sX9_status_0 (N d n : Nat) {X : lt_X} (I : Nat → Nat → Int32) (J : Nat → Nat → Int64) : RX9_status_0 N d (n + 1) X I J = some (.int (I 135 0), (mkh X (u2 I 135 1 (nI 0)) J)) := by
  rfl
theorem fX9_status (N d : Nat) {X : lt_X} (I : Nat → Nat → Int32) (J : Nat → Nat → Int64) : am_G am_prog N (d + 1) 185 [.ref 135] (mkh X I J) = am_run (am_G am_prog N d) eX9_status uX9_status N 0 [(0, .ref 135)] [] (mkh X I J) := by
  refine (am_G_at N d 185 mX9_status _ _ rfl).trans ?_
  rfl
theorem gX9_status (N d : Nat) {X : lt_X} (I : Nat → Nat → Int32) (J : Nat → Nat → Int64) : am_G am_prog (N + 30) (d + 1) 185 [.ref 135] (mkh X I J) = RX9_status_0 N d (N + 30) X I J := fX9_status (N + 30) (d + 0) I J
def RX9_top_0 (N d n : Nat) (X : lt_X) (I : Nat → Nat → Int32) (J : Nat → Nat → Int64) : am_O := am_run (am_G am_prog (N + 30) (d + 0)) eX9_top uX9_top n 0 [(0, .ref 135)] [] (mkh X I J)
set_option maxHeartbeats 4000000 in
set_option maxRecDepth 100000 in
theorem sX9_top_0 (N d n : Nat) {X : lt_X} (I : Nat → Nat → Int32) (J : Nat → Nat → Int64) : RX9_top_0 N d (n + 1) X I J = some (.long (J 135 2), (mkh X (u2 I 135 1 (nI 0)) J)) := by
  rfl
theorem fX9_top (N d : Nat) {X : lt_X} (I : Nat → Nat → Int32) (J : Nat → Nat → Int64) : am_G am_prog N (d + 1) 186 [.ref 135] (mkh X I J) = am_run (am_G am_prog N d) eX9_top uX9_top N 0 [(0, .ref 135)] [] (mkh X I J) := by
  refine (am_G_at N d 186 mX9_top _ _ rfl).trans ?_
  rfl
theorem gX9_top (N d : Nat) {X : lt_X} (I : Nat → Nat → Int32) (J : Nat → Nat → Int64) : am_G am_prog (N + 30) (d + 1) 186 [.ref 135] (mkh X I J) = RX9_top_0 N d (N + 30) X I J := fX9_top (N + 30) (d + 0) I J
def RX9_bottom_0 (N d n : Nat) (X : lt_X) (I : Nat → Nat → Int32) (J : Nat → Nat → Int64) : am_O := am_run (am_G am_prog (N + 30) (d + 0)) eX9_bottom uX9_bottom n 0 [(0, .ref 135)] [] (mkh X I J)
set_option maxHeartbeats 4000000 in
set_option maxRecDepth 100000 in
theorem sX9_bottom_0 (N d n : Nat) {X : lt_X} (I : Nat → Nat → Int32) (J : Nat → Nat → Int64) : RX9_bottom_0 N d (n + 1) X I J = some (.long (J 135 3), (mkh X (u2 I 135 1 (nI 0)) J)) := by
  rfl
theorem fX9_bottom (N d : Nat) {X : lt_X} (I : Nat → Nat → Int32) (J : Nat → Nat → Int64) : am_G am_prog N (d + 1) 187 [.ref 135] (mkh X I J) = am_run (am_G am_prog N d) eX9_bottom uX9_bottom N 0 [(0, .ref 135)] [] (mkh X I J) := by
  refine (am_G_at N d 187 mX9_bottom _ _ rfl).trans ?_
  rfl
theorem gX9_bottom (N d : Nat) {X : lt_X} (I : Nat → Nat → Int32) (J : Nat → Nat → Int64) : am_G am_prog (N + 30) (d + 1) 187 [.ref 135] (mkh X I J) = RX9_bottom_0 N d (N + 30) X I J := fX9_bottom (N + 30) (d + 0) I J
def RX9_refuse_0 (N d n : Nat) (X : lt_X) (x1 : Int32) (I : Nat → Nat → Int32) (J : Nat → Nat → Int64) : am_O := am_run (am_G am_prog (N + 30) (d + 0)) eX9_refuse uX9_refuse n 0 [(0, .ref 135), (1, .int x1)] [] (mkh X I J)
set_option maxHeartbeats 4000000 in
set_option maxRecDepth 100000 in
theorem sX9_refuse_0 (N d n : Nat) {X : lt_X} (x1 : Int32) (I : Nat → Nat → Int32) (J : Nat → Nat → Int64) : RX9_refuse_0 N d (n + 1) X x1 I J = some (.int (-1), (mkh X (u2 I 135 0 x1) J)) := by
  rfl
theorem fX9_refuse (N d : Nat) {X : lt_X} (x1 : Int32) (I : Nat → Nat → Int32) (J : Nat → Nat → Int64) : am_G am_prog N (d + 1) 188 [.ref 135, .int x1] (mkh X I J) = am_run (am_G am_prog N d) eX9_refuse uX9_refuse N 0 [(0, .ref 135), (1, .int x1)] [] (mkh X I J) := by
  refine (am_G_at N d 188 mX9_refuse _ _ rfl).trans ?_
  rfl
theorem gX9_refuse (N d : Nat) {X : lt_X} (x1 : Int32) (I : Nat → Nat → Int32) (J : Nat → Nat → Int64) : am_G am_prog (N + 30) (d + 1) 188 [.ref 135, .int x1] (mkh X I J) = RX9_refuse_0 N d (N + 30) X x1 I J := fX9_refuse (N + 30) (d + 0) x1 I J
def RX9_no_0 (N d n : Nat) (X : lt_X) (x1 : Int32) (I : Nat → Nat → Int32) (J : Nat → Nat → Int64) : am_O := am_run (am_G am_prog (N + 30) (d + 0)) eX9_no uX9_no n 0 [(0, .ref 135), (1, .int x1)] [] (mkh X I J)
set_option maxHeartbeats 4000000 in
set_option maxRecDepth 100000 in
theorem sX9_no_0 (N d n : Nat) {X : lt_X} (x1 : Int32) (I : Nat → Nat → Int32) (J : Nat → Nat → Int64) : RX9_no_0 N d (n + 1) X x1 I J = some (.int (nI 0), (mkh X (u2 I 135 0 x1) J)) := by
  rfl
theorem fX9_no (N d : Nat) {X : lt_X} (x1 : Int32) (I : Nat → Nat → Int32) (J : Nat → Nat → Int64) : am_G am_prog N (d + 1) 189 [.ref 135, .int x1] (mkh X I J) = am_run (am_G am_prog N d) eX9_no uX9_no N 0 [(0, .ref 135), (1, .int x1)] [] (mkh X I J) := by
  refine (am_G_at N d 189 mX9_no _ _ rfl).trans ?_
  rfl
theorem gX9_no (N d : Nat) {X : lt_X} (x1 : Int32) (I : Nat → Nat → Int32) (J : Nat → Nat → Int64) : am_G am_prog (N + 30) (d + 1) 189 [.ref 135, .int x1] (mkh X I J) = RX9_no_0 N d (N + 30) X x1 I J := fX9_no (N + 30) (d + 0) x1 I J
def RX9_isIn_0 (N d n : Nat) (X : lt_X) (x0 : Int64) (x2 : Int64) (x4 : Int64) (I : Nat → Nat → Int32) (J : Nat → Nat → Int64) : am_O := am_run (am_G am_prog (N + 30) (d + 0)) eX9_isIn uX9_isIn n 0 [(0, .long x0), (2, .long x2), (4, .long x4)] [] (mkh X I J)
set_option maxHeartbeats 4000000 in
set_option maxRecDepth 100000 in
theorem sX9_isIn_0 (N d n : Nat) {X : lt_X} (x0 : Int64) (x2 : Int64) (x4 : Int64) (I : Nat → Nat → Int32) (J : Nat → Nat → Int64) : RX9_isIn_0 N d (n + 1) X x0 x2 x4 I J = if (lg_cmp x0 x2) < nI 0 then some (.int (nI 0), (mkh X I J)) else if nI 0 < (lg_cmp x0 x4) then some (.int (nI 0), (mkh X I J)) else some (.int (nI 1), (mkh X I J)) := by
  rfl
theorem fX9_isIn (N d : Nat) {X : lt_X} (x0 : Int64) (x2 : Int64) (x4 : Int64) (I : Nat → Nat → Int32) (J : Nat → Nat → Int64) : am_G am_prog N (d + 1) 190 [.long x0, .long x2, .long x4] (mkh X I J) = am_run (am_G am_prog N d) eX9_isIn uX9_isIn N 0 [(0, .long x0), (2, .long x2), (4, .long x4)] [] (mkh X I J) := by
  refine (am_G_at N d 190 mX9_isIn _ _ rfl).trans ?_
  rfl
theorem gX9_isIn (N d : Nat) {X : lt_X} (x0 : Int64) (x2 : Int64) (x4 : Int64) (I : Nat → Nat → Int32) (J : Nat → Nat → Int64) : am_G am_prog (N + 30) (d + 1) 190 [.long x0, .long x2, .long x4] (mkh X I J) = RX9_isIn_0 N d (N + 30) X x0 x2 x4 I J := fX9_isIn (N + 30) (d + 0) x0 x2 x4 I J
def RX9_fraction_0 (N d n : Nat) (X : lt_X) (x1 : Int64) (x3 : Int64) (I : Nat → Nat → Int32) (J : Nat → Nat → Int64) : am_O := am_run (am_G am_prog (N + 30) (d + 0)) eX9_fraction uX9_fraction n 0 [(0, .ref 135), (1, .long x1), (3, .long x3)] [] (mkh X I J)
def RX9_fraction_9 (N d n : Nat) (X : lt_X) (x1 : Int64) (x3 : Int64) (x5 : Int64) (x7 : Int64) (I : Nat → Nat → Int32) (J : Nat → Nat → Int64) : am_O := am_run (am_G am_prog (N + 30) (d + 0)) eX9_fraction uX9_fraction n 9 [(0, .ref 135), (1, .long x1), (3, .long x3), (5, .long x5), (7, .long x7)] [] (mkh X I J)
set_option maxHeartbeats 4000000 in
set_option maxRecDepth 100000 in
theorem sX9_fraction_0 (N d n : Nat) {X : lt_X} (x1 : Int64) (x3 : Int64) (I : Nat → Nat → Int32) (J : Nat → Nat → Int64) : RX9_fraction_0 N d (n + 1) X x1 x3 I J = RX9_fraction_9 N d n X x1 x3 (if 0 < x1 then x1 else -x1) x3 I J := by
  rfl
set_option maxHeartbeats 4000000 in
set_option maxRecDepth 100000 in
theorem sX9_fraction_9 (N d n : Nat) {X : lt_X} (x1 : Int64) (x3 : Int64) (x5 : Int64) (x7 : Int64) (I : Nat → Nat → Int32) (J : Nat → Nat → Int64) : RX9_fraction_9 N d (n + 1) X x1 x3 x5 x7 I J = if (lg_cmp x7 (lN 0)) = nI 0 then am_nzL x5 (am_nzL x5 (some (.int (nI 1), (mkh X I (u2L (u2L J 135 2 (x1 / x5)) 135 3 (x3 / x5)))))) else am_nzL x7 (RX9_fraction_9 N d n X x1 x3 x7 (x5 - x5 / x7 * x7) I J) := by
  rfl
theorem fX9_fraction (N d : Nat) {X : lt_X} (x1 : Int64) (x3 : Int64) (I : Nat → Nat → Int32) (J : Nat → Nat → Int64) : am_G am_prog N (d + 1) 191 [.ref 135, .long x1, .long x3] (mkh X I J) = am_run (am_G am_prog N d) eX9_fraction uX9_fraction N 0 [(0, .ref 135), (1, .long x1), (3, .long x3)] [] (mkh X I J) := by
  refine (am_G_at N d 191 mX9_fraction _ _ rfl).trans ?_
  rfl
theorem gX9_fraction (N d : Nat) {X : lt_X} (x1 : Int64) (x3 : Int64) (I : Nat → Nat → Int32) (J : Nat → Nat → Int64) : am_G am_prog (N + 30) (d + 1) 191 [.ref 135, .long x1, .long x3] (mkh X I J) = RX9_fraction_0 N d (N + 30) X x1 x3 I J := fX9_fraction (N + 30) (d + 0) x1 x3 I J
def RX9_cut_0 (N d n : Nat) (X : lt_X) (x0 : Int32) (x1 : Int64) (I : Nat → Nat → Int32) (J : Nat → Nat → Int64) : am_O := am_run (am_G am_prog (N + 30) (d + 0)) eX9_cut uX9_cut n 0 [(0, .int x0), (1, .long x1)] [] (mkh X I J)
set_option maxHeartbeats 4000000 in
set_option maxRecDepth 100000 in
theorem sX9_cut_0 (N d n : Nat) {X : lt_X} (x0 : Int32) (x1 : Int64) (I : Nat → Nat → Int32) (J : Nat → Nat → Int64) : RX9_cut_0 N d (n + 1) X x0 x1 I J = if x0 = nI 0 then some (.long x1.toInt32.toInt8.toInt32.toInt64, (mkh X I J)) else if x0 = (nI 1) then some (.long x1.toInt32.toInt16.toInt32.toInt64, (mkh X I J)) else if x0 = (nI 2) then some (.long x1.toInt32.toInt64, (mkh X I J)) else some (.long x1, (mkh X I J)) := by
  rfl
theorem fX9_cut (N d : Nat) {X : lt_X} (x0 : Int32) (x1 : Int64) (I : Nat → Nat → Int32) (J : Nat → Nat → Int64) : am_G am_prog N (d + 1) 192 [.int x0, .long x1] (mkh X I J) = am_run (am_G am_prog N d) eX9_cut uX9_cut N 0 [(0, .int x0), (1, .long x1)] [] (mkh X I J) := by
  refine (am_G_at N d 192 mX9_cut _ _ rfl).trans ?_
  rfl
theorem gX9_cut (N d : Nat) {X : lt_X} (x0 : Int32) (x1 : Int64) (I : Nat → Nat → Int32) (J : Nat → Nat → Int64) : am_G am_prog (N + 30) (d + 1) 192 [.int x0, .long x1] (mkh X I J) = RX9_cut_0 N d (N + 30) X x0 x1 I J := fX9_cut (N + 30) (d + 0) x0 x1 I J
def RX9_tray_0 (N d n : Nat) (X : lt_X) (x1 : Int32) (x2 : Int32) (x3 : Int32) (I : Nat → Nat → Int32) (J : Nat → Nat → Int64) : am_O := am_run (am_G am_prog (N + 30) (d + 1)) eX9_tray uX9_tray n 0 [(0, .ref 135), (1, .int x1), (2, .int x2), (3, .int x3)] [] (mkh X I J)
def RX9_tray_74 (N d n : Nat) (X : lt_X) (x1 : Int32) (x3 : Int32) (x4 : Int32) (I : Nat → Nat → Int32) (J : Nat → Nat → Int64) : am_O := am_run (am_G am_prog (N + 30) (d + 1)) eX9_tray uX9_tray n 74 [(0, .ref 135), (1, .int x1), (3, .int x3), (4, .int x4)] [] (mkh X I J)
set_option maxHeartbeats 4000000 in
set_option maxRecDepth 100000 in
theorem sX9_tray_0 (N d n : Nat) {X : lt_X} (x1 : Int32) (x2 : Int32) (x3 : Int32) (I : Nat → Nat → Int32) (J : Nat → Nat → Int64) : RX9_tray_0 N d (n + 1) X x1 x2 x3 I J = if x1 < nI 0 then some (.int (nI 0), (mkh X (u2 (u2 (u2 I 135 1 (nI 0)) 135 0 (nI 0)) 135 0 (nI 1)) J)) else if x1 < (nI 4) then if x2 < nI 0 then some (.int (nI 0), (mkh X (u2 (u2 (u2 I 135 1 (nI 0)) 135 0 (nI 0)) 135 0 (nI 1)) J)) else if (nI 3) < x2 then some (.int (nI 0), (mkh X (u2 (u2 (u2 I 135 1 (nI 0)) 135 0 (nI 0)) 135 0 (nI 1)) J)) else if (nI 60) < x3 then some (.int (nI 0), (mkh X (u2 (u2 (u2 I 135 1 (nI 0)) 135 0 (nI 0)) 135 0 (nI 5)) J)) else if x3 < nI 0 then some (.int (nI 0), (mkh X (u2 (u2 (u2 I 135 1 (nI 0)) 135 0 (nI 0)) 135 0 (nI 6)) J)) else if am_in x1 4 then if am_in x1 4 then RX9_tray_74 N d n X x1 x3 (nI 0) (u2 (u2 (u2 (u2 I 135 1 (nI 0)) 135 0 (nI 0)) 136 x1.toNatClampNeg x2) 137 x1.toNatClampNeg x3) J else none else none else some (.int (nI 0), (mkh X (u2 (u2 (u2 I 135 1 (nI 0)) 135 0 (nI 0)) 135 0 (nI 1)) J)) := by
  rfl
set_option maxHeartbeats 4000000 in
set_option maxRecDepth 100000 in
theorem sX9_tray_74 (N d n : Nat) {X : lt_X} (x1 : Int32) (x3 : Int32) (x4 : Int32) (I : Nat → Nat → Int32) (J : Nat → Nat → Int64) : RX9_tray_74 N d (n + 1) X x1 x3 x4 I J = if x4 < x3 then if am_in (((nI 60) * x1) + x4) 240 then RX9_tray_74 N d n X x1 x3 (x4 + (nI 1)) I (u2L J 138 ((((nI 60) * x1) + x4).toNatClampNeg) (lN 0)) else none else some (.int (nI 1), (mkh X I J)) := by
  rfl
theorem fX9_tray (N d : Nat) {X : lt_X} (x1 : Int32) (x2 : Int32) (x3 : Int32) (I : Nat → Nat → Int32) (J : Nat → Nat → Int64) : am_G am_prog N (d + 1) 193 [.ref 135, .int x1, .int x2, .int x3] (mkh X I J) = am_run (am_G am_prog N d) eX9_tray uX9_tray N 0 [(0, .ref 135), (1, .int x1), (2, .int x2), (3, .int x3)] [] (mkh X I J) := by
  refine (am_G_at N d 193 mX9_tray _ _ rfl).trans ?_
  rfl
theorem gX9_tray (N d : Nat) {X : lt_X} (x1 : Int32) (x2 : Int32) (x3 : Int32) (I : Nat → Nat → Int32) (J : Nat → Nat → Int64) : am_G am_prog (N + 30) (d + 2) 193 [.ref 135, .int x1, .int x2, .int x3] (mkh X I J) = RX9_tray_0 N d (N + 30) X x1 x2 x3 I J := fX9_tray (N + 30) (d + 1) x1 x2 x3 I J
def RX9_trayed_0 (N d n : Nat) (X : lt_X) (x1 : Int32) (I : Nat → Nat → Int32) (J : Nat → Nat → Int64) : am_O := am_run (am_G am_prog (N + 30) (d + 0)) eX9_trayed uX9_trayed n 0 [(0, .ref 135), (1, .int x1)] [] (mkh X I J)
set_option maxHeartbeats 4000000 in
set_option maxRecDepth 100000 in
theorem sX9_trayed_0 (N d n : Nat) {X : lt_X} (x1 : Int32) (I : Nat → Nat → Int32) (J : Nat → Nat → Int64) : RX9_trayed_0 N d (n + 1) X x1 I J = if x1 < nI 0 then some (.int (nI 1), (mkh X I J)) else if x1 < (nI 4) then if am_in x1 4 then if (I 137 x1.toNatClampNeg) < nI 0 then some (.int (nI 3), (mkh X I J)) else some (.int (nI 0), (mkh X I J)) else none else some (.int (nI 1), (mkh X I J)) := by
  rfl
theorem fX9_trayed (N d : Nat) {X : lt_X} (x1 : Int32) (I : Nat → Nat → Int32) (J : Nat → Nat → Int64) : am_G am_prog N (d + 1) 194 [.ref 135, .int x1] (mkh X I J) = am_run (am_G am_prog N d) eX9_trayed uX9_trayed N 0 [(0, .ref 135), (1, .int x1)] [] (mkh X I J) := by
  refine (am_G_at N d 194 mX9_trayed _ _ rfl).trans ?_
  rfl
theorem gX9_trayed (N d : Nat) {X : lt_X} (x1 : Int32) (I : Nat → Nat → Int32) (J : Nat → Nat → Int64) : am_G am_prog (N + 30) (d + 1) 194 [.ref 135, .int x1] (mkh X I J) = RX9_trayed_0 N d (N + 30) X x1 I J := fX9_trayed (N + 30) (d + 0) x1 I J
def RX9_placed_0 (N d n : Nat) (X : lt_X) (x1 : Int32) (x2 : Int32) (I : Nat → Nat → Int32) (J : Nat → Nat → Int64) : am_O := am_run (am_G am_prog (N + 30) (d + 1)) eX9_placed uX9_placed n 0 [(0, .ref 135), (1, .int x1), (2, .int x2)] [] (mkh X I J)
def KX9_placed_0 (N d n : Nat) (a0 : Int32) (a1 : Int32) (z : Int32) (h : am_H) : am_O := if nI 0 < z then some (.int z, h) else if a1 < nI 0 then some (.int (nI 4), h) else am_gR h 9 135 5 (fun y1 => am_lI h 10 y1 a0 (fun y2 => if a1 < y2 then some (.int (nI 0), h) else some (.int (nI 4), h)))
set_option maxHeartbeats 4000000 in
set_option maxRecDepth 100000 in
theorem sX9_placed_0 (N d n : Nat) {X : lt_X} (x1 : Int32) (x2 : Int32) (I : Nat → Nat → Int32) (J : Nat → Nat → Int64) : RX9_placed_0 N d (n + 1) X x1 x2 I J = am_cI (am_G am_prog (N + 30) (d + 1) 194 [.ref 135, .int x1] (mkh X I J)) (KX9_placed_0 N d n x1 x2) := by
  rfl
set_option maxHeartbeats 4000000 in
set_option maxRecDepth 100000 in
theorem kX9_placed_0 (N d n : Nat) {X : lt_X} (a0 : Int32) (a1 : Int32) (z : Int32) (I : Nat → Nat → Int32) (J : Nat → Nat → Int64) : KX9_placed_0 N d n a0 a1 z (mkh X I J) = if nI 0 < z then some (.int z, (mkh X I J)) else if a1 < nI 0 then some (.int (nI 4), (mkh X I J)) else if am_in a0 4 then if a1 < (I 137 a0.toNatClampNeg) then some (.int (nI 0), (mkh X I J)) else some (.int (nI 4), (mkh X I J)) else none := by
  rfl
theorem fX9_placed (N d : Nat) {X : lt_X} (x1 : Int32) (x2 : Int32) (I : Nat → Nat → Int32) (J : Nat → Nat → Int64) : am_G am_prog N (d + 1) 195 [.ref 135, .int x1, .int x2] (mkh X I J) = am_run (am_G am_prog N d) eX9_placed uX9_placed N 0 [(0, .ref 135), (1, .int x1), (2, .int x2)] [] (mkh X I J) := by
  refine (am_G_at N d 195 mX9_placed _ _ rfl).trans ?_
  rfl
theorem gX9_placed (N d : Nat) {X : lt_X} (x1 : Int32) (x2 : Int32) (I : Nat → Nat → Int32) (J : Nat → Nat → Int64) : am_G am_prog (N + 30) (d + 2) 195 [.ref 135, .int x1, .int x2] (mkh X I J) = RX9_placed_0 N d (N + 30) X x1 x2 I J := fX9_placed (N + 30) (d + 1) x1 x2 I J
def RX9_write_0 (N d n : Nat) (X : lt_X) (x1 : Int32) (x2 : Int32) (x3 : Int64) (I : Nat → Nat → Int32) (J : Nat → Nat → Int64) : am_O := am_run (am_G am_prog (N + 30) (d + 2)) eX9_write uX9_write n 0 [(0, .ref 135), (1, .int x1), (2, .int x2), (3, .long x3)] [] (mkh X I J)
def KX9_write_0 (N d n : Nat) (a0 : Int32) (a1 : Int32) (a2 : Int64) (z : Int32) (h : am_H) : am_O := am_pI h 9 135 0 z (fun h1 => am_gI h1 9 135 0 (fun y2 => if nI 0 < y2 then some (.int (nI 0), h1) else am_gR h1 9 135 6 (fun y3 => am_gR h1 9 135 4 (fun y4 => am_lI h1 10 y4 a0 (fun y5 => am_cL (am_G am_prog (N + 30) (d + 2) 192 [.int y5, .long a2] h1) (fun r7 h6 => am_tL h6 y3 (((nI 60) * a0) + a1) r7 (fun h8 => some (.int (nI 1), h8))))))))
def KX9_write_1 (N d n : Nat) (a0 : Int32) (z : Int64) (h : am_H) : am_O := am_tL h 138 a0 z (fun h1 => some (.int (nI 1), h1))
set_option maxHeartbeats 4000000 in
set_option maxRecDepth 100000 in
theorem sX9_write_0 (N d n : Nat) {X : lt_X} (x1 : Int32) (x2 : Int32) (x3 : Int64) (I : Nat → Nat → Int32) (J : Nat → Nat → Int64) : RX9_write_0 N d (n + 1) X x1 x2 x3 I J = am_cI (am_G am_prog (N + 30) (d + 2) 195 [.ref 135, .int x1, .int x2] (mkh X (u2 I 135 1 (nI 0)) J)) (KX9_write_0 N d n x1 x2 x3) := by
  rfl
set_option maxHeartbeats 4000000 in
set_option maxRecDepth 100000 in
theorem kX9_write_0 (N d n : Nat) {X : lt_X} (a0 : Int32) (a1 : Int32) (a2 : Int64) (z : Int32) (I : Nat → Nat → Int32) (J : Nat → Nat → Int64) : KX9_write_0 N d n a0 a1 a2 z (mkh X I J) = if nI 0 < z then some (.int (nI 0), (mkh X (u2 I 135 0 z) J)) else if am_in a0 4 then am_cL (am_G am_prog (N + 30) (d + 2) 192 [.int (I 136 a0.toNatClampNeg), .long a2] (mkh X (u2 I 135 0 z) J)) (KX9_write_1 N d n (((nI 60) * a0) + a1)) else none := by
  rfl
set_option maxHeartbeats 4000000 in
set_option maxRecDepth 100000 in
theorem kX9_write_1 (N d n : Nat) {X : lt_X} (a0 : Int32) (z : Int64) (I : Nat → Nat → Int32) (J : Nat → Nat → Int64) : KX9_write_1 N d n a0 z (mkh X I J) = if am_in a0 240 then some (.int (nI 1), (mkh X I (u2L J 138 a0.toNatClampNeg z))) else none := by
  rfl
theorem fX9_write (N d : Nat) {X : lt_X} (x1 : Int32) (x2 : Int32) (x3 : Int64) (I : Nat → Nat → Int32) (J : Nat → Nat → Int64) : am_G am_prog N (d + 1) 196 [.ref 135, .int x1, .int x2, .long x3] (mkh X I J) = am_run (am_G am_prog N d) eX9_write uX9_write N 0 [(0, .ref 135), (1, .int x1), (2, .int x2), (3, .long x3)] [] (mkh X I J) := by
  refine (am_G_at N d 196 mX9_write _ _ rfl).trans ?_
  rfl
theorem gX9_write (N d : Nat) {X : lt_X} (x1 : Int32) (x2 : Int32) (x3 : Int64) (I : Nat → Nat → Int32) (J : Nat → Nat → Int64) : am_G am_prog (N + 30) (d + 3) 196 [.ref 135, .int x1, .int x2, .long x3] (mkh X I J) = RX9_write_0 N d (N + 30) X x1 x2 x3 I J := fX9_write (N + 30) (d + 2) x1 x2 x3 I J
def RX9_read_0 (N d n : Nat) (X : lt_X) (x1 : Int32) (x2 : Int32) (I : Nat → Nat → Int32) (J : Nat → Nat → Int64) : am_O := am_run (am_G am_prog (N + 30) (d + 2)) eX9_read uX9_read n 0 [(0, .ref 135), (1, .int x1), (2, .int x2)] [] (mkh X I J)
def KX9_read_0 (N d n : Nat) (a0 : Int32) (a1 : Int32) (z : Int32) (h : am_H) : am_O := am_pI h 9 135 0 z (fun h1 => am_gI h1 9 135 0 (fun y2 => if nI 0 < y2 then some (.long (-1), h1) else am_gR h1 9 135 6 (fun y3 => am_lL h1 y3 (((nI 60) * a0) + a1) (fun y4 => some (.long y4, h1)))))
set_option maxHeartbeats 4000000 in
set_option maxRecDepth 100000 in
theorem sX9_read_0 (N d n : Nat) {X : lt_X} (x1 : Int32) (x2 : Int32) (I : Nat → Nat → Int32) (J : Nat → Nat → Int64) : RX9_read_0 N d (n + 1) X x1 x2 I J = am_cI (am_G am_prog (N + 30) (d + 2) 195 [.ref 135, .int x1, .int x2] (mkh X (u2 I 135 1 (nI 0)) J)) (KX9_read_0 N d n x1 x2) := by
  rfl
set_option maxHeartbeats 4000000 in
set_option maxRecDepth 100000 in
theorem kX9_read_0 (N d n : Nat) {X : lt_X} (a0 : Int32) (a1 : Int32) (z : Int32) (I : Nat → Nat → Int32) (J : Nat → Nat → Int64) : KX9_read_0 N d n a0 a1 z (mkh X I J) = if nI 0 < z then some (.long (-1), (mkh X (u2 I 135 0 z) J)) else if am_in (((nI 60) * a0) + a1) 240 then some (.long (J 138 ((((nI 60) * a0) + a1).toNatClampNeg)), (mkh X (u2 I 135 0 z) J)) else none := by
  rfl
theorem fX9_read (N d : Nat) {X : lt_X} (x1 : Int32) (x2 : Int32) (I : Nat → Nat → Int32) (J : Nat → Nat → Int64) : am_G am_prog N (d + 1) 197 [.ref 135, .int x1, .int x2] (mkh X I J) = am_run (am_G am_prog N d) eX9_read uX9_read N 0 [(0, .ref 135), (1, .int x1), (2, .int x2)] [] (mkh X I J) := by
  refine (am_G_at N d 197 mX9_read _ _ rfl).trans ?_
  rfl
theorem gX9_read (N d : Nat) {X : lt_X} (x1 : Int32) (x2 : Int32) (I : Nat → Nat → Int32) (J : Nat → Nat → Int64) : am_G am_prog (N + 30) (d + 3) 197 [.ref 135, .int x1, .int x2] (mkh X I J) = RX9_read_0 N d (N + 30) X x1 x2 I J := fX9_read (N + 30) (d + 2) x1 x2 I J
def RX9_pour_0 (N d n : Nat) (X : lt_X) (x1 : Int32) (x2 : Int32) (x3 : Int32) (x4 : Int32) (x5 : Int32) (I : Nat → Nat → Int32) (J : Nat → Nat → Int64) : am_O := am_run (am_G am_prog (N + 30) (d + 1)) eX9_pour uX9_pour n 0 [(0, .ref 135), (1, .int x1), (2, .int x2), (3, .int x3), (4, .int x4), (5, .int x5)] [] (mkh X I J)
def RX9_pour_158 (N d n : Nat) (X : lt_X) (x1 : Int32) (x2 : Int32) (x3 : Int32) (x4 : Int32) (x5 : Int32) (x6 : Int32) (x7 : Int32) (I : Nat → Nat → Int32) (J : Nat → Nat → Int64) : am_O := am_run (am_G am_prog (N + 30) (d + 1)) eX9_pour uX9_pour n 158 [(0, .ref 135), (1, .int x1), (2, .int x2), (3, .int x3), (4, .int x4), (5, .int x5), (6, .int x6), (7, .int x7)] [] (mkh X I J)
def RX9_pour_182 (N d n : Nat) (X : lt_X) (x1 : Int32) (x2 : Int32) (x3 : Int32) (x4 : Int32) (x5 : Int32) (x6 : Int32) (x7 : Int32) (s0 : Int32) (I : Nat → Nat → Int32) (J : Nat → Nat → Int64) : am_O := am_run (am_G am_prog (N + 30) (d + 1)) eX9_pour uX9_pour n 182 [(0, .ref 135), (1, .int x1), (2, .int x2), (3, .int x3), (4, .int x4), (5, .int x5), (6, .int x6), (7, .int x7)] [.int s0] (mkh X I J)
set_option maxHeartbeats 4000000 in
set_option maxRecDepth 100000 in
theorem sX9_pour_0 (N d n : Nat) {X : lt_X} (x1 : Int32) (x2 : Int32) (x3 : Int32) (x4 : Int32) (x5 : Int32) (I : Nat → Nat → Int32) (J : Nat → Nat → Int64) : RX9_pour_0 N d (n + 1) X x1 x2 x3 x4 x5 I J = if x1 < nI 0 then some (.int (nI 0), (mkh X (u2 (u2 (u2 I 135 1 (nI 0)) 135 0 (nI 0)) 135 0 (nI 1)) J)) else if x1 < (nI 4) then if x3 < nI 0 then some (.int (nI 0), (mkh X (u2 (u2 (u2 I 135 1 (nI 0)) 135 0 (nI 0)) 135 0 (nI 1)) J)) else if x3 < (nI 4) then if am_in x1 4 then if (I 137 x1.toNatClampNeg) < nI 0 then some (.int (nI 0), (mkh X (u2 (u2 (u2 I 135 1 (nI 0)) 135 0 (nI 0)) 135 0 (nI 3)) J)) else if am_in x3 4 then if (I 137 x3.toNatClampNeg) < nI 0 then some (.int (nI 0), (mkh X (u2 (u2 (u2 I 135 1 (nI 0)) 135 0 (nI 0)) 135 0 (nI 3)) J)) else if am_in x1 4 then if am_in x3 4 then if (I 136 x1.toNatClampNeg) = (I 136 x3.toNatClampNeg) then if x5 < nI 0 then some (.int (nI 0), (mkh X (u2 (u2 (u2 I 135 1 (nI 0)) 135 0 (nI 0)) 135 0 (nI 6)) J)) else if x2 < nI 0 then some (.int (nI 0), (mkh X (u2 (u2 (u2 I 135 1 (nI 0)) 135 0 (nI 0)) 135 0 (nI 4)) J)) else if x4 < nI 0 then some (.int (nI 0), (mkh X (u2 (u2 (u2 I 135 1 (nI 0)) 135 0 (nI 0)) 135 0 (nI 4)) J)) else if am_in x1 4 then if nI 0 < (lg_cmp (x2.toInt64 + x5.toInt64) ((I 137 x1.toNatClampNeg).toInt64)) then some (.int (nI 0), (mkh X (u2 (u2 (u2 I 135 1 (nI 0)) 135 0 (nI 0)) 135 0 (nI 4)) J)) else if am_in x3 4 then if nI 0 < (lg_cmp (x4.toInt64 + x5.toInt64) ((I 137 x3.toNatClampNeg).toInt64)) then some (.int (nI 0), (mkh X (u2 (u2 (u2 I 135 1 (nI 0)) 135 0 (nI 0)) 135 0 (nI 4)) J)) else if x2 < x4 then RX9_pour_158 N d n X x1 x2 x3 x4 x5 (nI 1) (nI 0) (u2 (u2 I 135 1 (nI 0)) 135 0 (nI 0)) J else RX9_pour_158 N d n X x1 x2 x3 x4 x5 (nI 0) (nI 0) (u2 (u2 I 135 1 (nI 0)) 135 0 (nI 0)) J else none else none else some (.int (nI 0), (mkh X (u2 (u2 (u2 I 135 1 (nI 0)) 135 0 (nI 0)) 135 0 (nI 11)) J)) else none else none else none else none else some (.int (nI 0), (mkh X (u2 (u2 (u2 I 135 1 (nI 0)) 135 0 (nI 0)) 135 0 (nI 1)) J)) else some (.int (nI 0), (mkh X (u2 (u2 (u2 I 135 1 (nI 0)) 135 0 (nI 0)) 135 0 (nI 1)) J)) := by
  rfl
set_option maxHeartbeats 4000000 in
set_option maxRecDepth 100000 in
theorem sX9_pour_158 (N d n : Nat) {X : lt_X} (x1 : Int32) (x2 : Int32) (x3 : Int32) (x4 : Int32) (x5 : Int32) (x6 : Int32) (x7 : Int32) (I : Nat → Nat → Int32) (J : Nat → Nat → Int64) : RX9_pour_158 N d (n + 1) X x1 x2 x3 x4 x5 x6 x7 I J = if x7 < x5 then if x6 = nI 0 then RX9_pour_182 N d n X x1 x2 x3 x4 x5 x6 x7 x7 I J else RX9_pour_182 N d n X x1 x2 x3 x4 x5 x6 x7 ((x5 - (nI 1)) - x7) I J else some (.int (nI 1), (mkh X I J)) := by
  rfl
set_option maxHeartbeats 4000000 in
set_option maxRecDepth 100000 in
theorem sX9_pour_182 (N d n : Nat) {X : lt_X} (x1 : Int32) (x2 : Int32) (x3 : Int32) (x4 : Int32) (x5 : Int32) (x6 : Int32) (x7 : Int32) (s0 : Int32) (I : Nat → Nat → Int32) (J : Nat → Nat → Int64) : RX9_pour_182 N d (n + 1) X x1 x2 x3 x4 x5 x6 x7 s0 I J = if am_in ((((nI 60) * x1) + x2) + s0) 240 then if am_in ((((nI 60) * x3) + x4) + s0) 240 then RX9_pour_158 N d n X x1 x2 x3 x4 x5 x6 (x7 + (nI 1)) I (u2L J 138 (((((nI 60) * x3) + x4) + s0).toNatClampNeg) (J 138 (((((nI 60) * x1) + x2) + s0).toNatClampNeg))) else none else none := by
  rfl
theorem fX9_pour (N d : Nat) {X : lt_X} (x1 : Int32) (x2 : Int32) (x3 : Int32) (x4 : Int32) (x5 : Int32) (I : Nat → Nat → Int32) (J : Nat → Nat → Int64) : am_G am_prog N (d + 1) 198 [.ref 135, .int x1, .int x2, .int x3, .int x4, .int x5] (mkh X I J) = am_run (am_G am_prog N d) eX9_pour uX9_pour N 0 [(0, .ref 135), (1, .int x1), (2, .int x2), (3, .int x3), (4, .int x4), (5, .int x5)] [] (mkh X I J) := by
  refine (am_G_at N d 198 mX9_pour _ _ rfl).trans ?_
  rfl
theorem gX9_pour (N d : Nat) {X : lt_X} (x1 : Int32) (x2 : Int32) (x3 : Int32) (x4 : Int32) (x5 : Int32) (I : Nat → Nat → Int32) (J : Nat → Nat → Int64) : am_G am_prog (N + 30) (d + 2) 198 [.ref 135, .int x1, .int x2, .int x3, .int x4, .int x5] (mkh X I J) = RX9_pour_0 N d (N + 30) X x1 x2 x3 x4 x5 I J := fX9_pour (N + 30) (d + 1) x1 x2 x3 x4 x5 I J
def RX9_numberOf_0 (N d n : Nat) (X : lt_X) (x1 : Int32) (x2 : Int32) (I : Nat → Nat → Int32) (J : Nat → Nat → Int64) : am_O := am_run (am_G am_prog (N + 30) (d + 0)) eX9_numberOf uX9_numberOf n 0 [(0, .ref 135), (1, .int x1), (2, .int x2)] [] (mkh X I J)
set_option maxHeartbeats 4000000 in
set_option maxRecDepth 100000 in
theorem sX9_numberOf_0 (N d n : Nat) {X : lt_X} (x1 : Int32) (x2 : Int32) (I : Nat → Nat → Int32) (J : Nat → Nat → Int64) : RX9_numberOf_0 N d (n + 1) X x1 x2 I J = if am_in (((nI 60) * x1) + x2) 240 then some (.long (J 138 ((((nI 60) * x1) + x2).toNatClampNeg)), (mkh X I J)) else none := by
  rfl
theorem fX9_numberOf (N d : Nat) {X : lt_X} (x1 : Int32) (x2 : Int32) (I : Nat → Nat → Int32) (J : Nat → Nat → Int64) : am_G am_prog N (d + 1) 199 [.ref 135, .int x1, .int x2] (mkh X I J) = am_run (am_G am_prog N d) eX9_numberOf uX9_numberOf N 0 [(0, .ref 135), (1, .int x1), (2, .int x2)] [] (mkh X I J) := by
  refine (am_G_at N d 199 mX9_numberOf _ _ rfl).trans ?_
  rfl
theorem gX9_numberOf (N d : Nat) {X : lt_X} (x1 : Int32) (x2 : Int32) (I : Nat → Nat → Int32) (J : Nat → Nat → Int64) : am_G am_prog (N + 30) (d + 1) 199 [.ref 135, .int x1, .int x2] (mkh X I J) = RX9_numberOf_0 N d (N + 30) X x1 x2 I J := fX9_numberOf (N + 30) (d + 0) x1 x2 I J
def RX9_isTray_0 (N d n : Nat) (X : lt_X) (x1 : Int32) (I : Nat → Nat → Int32) (J : Nat → Nat → Int64) : am_O := am_run (am_G am_prog (N + 30) (d + 1)) eX9_isTray uX9_isTray n 0 [(0, .ref 135), (1, .int x1)] [] (mkh X I J)
def KX9_isTray_0 (N d n : Nat) (z : Int32) (h : am_H) : am_O := am_nb z (some (.int z, h))
set_option maxHeartbeats 4000000 in
set_option maxRecDepth 100000 in
theorem sX9_isTray_0 (N d n : Nat) {X : lt_X} (x1 : Int32) (I : Nat → Nat → Int32) (J : Nat → Nat → Int64) : RX9_isTray_0 N d (n + 1) X x1 I J = am_cI (am_G am_prog (N + 30) (d + 1) 190 [.long x1.toInt64, .long (lN 0), .long (lN 3)] (mkh X I J)) (KX9_isTray_0 N d n ) := by
  rfl
set_option maxHeartbeats 4000000 in
set_option maxRecDepth 100000 in
theorem kX9_isTray_0 (N d n : Nat) {X : lt_X} (z : Int32) (I : Nat → Nat → Int32) (J : Nat → Nat → Int64) : KX9_isTray_0 N d n z (mkh X I J) = am_nb z (some (.int z, (mkh X I J))) := by
  rfl
theorem fX9_isTray (N d : Nat) {X : lt_X} (x1 : Int32) (I : Nat → Nat → Int32) (J : Nat → Nat → Int64) : am_G am_prog N (d + 1) 200 [.ref 135, .int x1] (mkh X I J) = am_run (am_G am_prog N d) eX9_isTray uX9_isTray N 0 [(0, .ref 135), (1, .int x1)] [] (mkh X I J) := by
  refine (am_G_at N d 200 mX9_isTray _ _ rfl).trans ?_
  rfl
theorem gX9_isTray (N d : Nat) {X : lt_X} (x1 : Int32) (I : Nat → Nat → Int32) (J : Nat → Nat → Int64) : am_G am_prog (N + 30) (d + 2) 200 [.ref 135, .int x1] (mkh X I J) = RX9_isTray_0 N d (N + 30) X x1 I J := fX9_isTray (N + 30) (d + 1) x1 I J
def RX9_has_0 (N d n : Nat) (X : lt_X) (x0 : Int32) (x1 : Int32) (I : Nat → Nat → Int32) (J : Nat → Nat → Int64) : am_O := am_run (am_G am_prog (N + 30) (d + 0)) eX9_has uX9_has n 0 [(0, .int x0), (1, .int x1)] [] (mkh X I J)
set_option maxHeartbeats 4000000 in
set_option maxRecDepth 100000 in
theorem sX9_has_0 (N d n : Nat) {X : lt_X} (x0 : Int32) (x1 : Int32) (I : Nat → Nat → Int32) (J : Nat → Nat → Int64) : RX9_has_0 N d (n + 1) X x0 x1 I J = if ((x0 >>> (x1 &&& 31)) &&& (nI 1)) = (nI 1) then some (.int (nI 1), (mkh X I J)) else some (.int (nI 0), (mkh X I J)) := by
  rfl
theorem fX9_has (N d : Nat) {X : lt_X} (x0 : Int32) (x1 : Int32) (I : Nat → Nat → Int32) (J : Nat → Nat → Int64) : am_G am_prog N (d + 1) 201 [.int x0, .int x1] (mkh X I J) = am_run (am_G am_prog N d) eX9_has uX9_has N 0 [(0, .int x0), (1, .int x1)] [] (mkh X I J) := by
  refine (am_G_at N d 201 mX9_has _ _ rfl).trans ?_
  rfl
theorem gX9_has (N d : Nat) {X : lt_X} (x0 : Int32) (x1 : Int32) (I : Nat → Nat → Int32) (J : Nat → Nat → Int64) : am_G am_prog (N + 30) (d + 1) 201 [.int x0, .int x1] (mkh X I J) = RX9_has_0 N d (N + 30) X x0 x1 I J := fX9_has (N + 30) (d + 0) x0 x1 I J
def RX9_sizeOf_0 (N d n : Nat) (X : lt_X) (x0 : Int32) (I : Nat → Nat → Int32) (J : Nat → Nat → Int64) : am_O := am_run (am_G am_prog (N + 30) (d + 1)) eX9_sizeOf uX9_sizeOf n 0 [(0, .int x0)] [] (mkh X I J)
def RX9_sizeOf_4 (N d n : Nat) (X : lt_X) (x0 : Int32) (x1 : Int32) (x2 : Int32) (I : Nat → Nat → Int32) (J : Nat → Nat → Int64) : am_O := am_run (am_G am_prog (N + 30) (d + 1)) eX9_sizeOf uX9_sizeOf n 4 [(0, .int x0), (1, .int x1), (2, .int x2)] [] (mkh X I J)
def KX9_sizeOf_0 (N d n : Nat) (a0 : Int32) (a1 : Int32) (a2 : Int32) (z : Int32) (h : am_H) : am_O := if z = nI 0 then am_run (am_G am_prog (N + 30) (d + 1)) eX9_sizeOf uX9_sizeOf n 4 [(0, .int a0), (1, .int (a2 + (nI 0))), (2, .int (a1 + (nI 1)))] [] h else am_run (am_G am_prog (N + 30) (d + 1)) eX9_sizeOf uX9_sizeOf n 4 [(0, .int a0), (1, .int (a2 + (nI 1))), (2, .int (a1 + (nI 1)))] [] h
set_option maxHeartbeats 4000000 in
set_option maxRecDepth 100000 in
theorem sX9_sizeOf_0 (N d n : Nat) {X : lt_X} (x0 : Int32) (I : Nat → Nat → Int32) (J : Nat → Nat → Int64) : RX9_sizeOf_0 N d (n + 1) X x0 I J = RX9_sizeOf_4 N d n X x0 (nI 0) (nI 0) I J := by
  rfl
set_option maxHeartbeats 4000000 in
set_option maxRecDepth 100000 in
theorem sX9_sizeOf_4 (N d n : Nat) {X : lt_X} (x0 : Int32) (x1 : Int32) (x2 : Int32) (I : Nat → Nat → Int32) (J : Nat → Nat → Int64) : RX9_sizeOf_4 N d (n + 1) X x0 x1 x2 I J = if x2 < (nI 6) then am_cI (am_G am_prog (N + 30) (d + 1) 201 [.int x0, .int x2] (mkh X I J)) (KX9_sizeOf_0 N d n x0 x2 x1) else some (.int x1, (mkh X I J)) := by
  rfl
set_option maxHeartbeats 4000000 in
set_option maxRecDepth 100000 in
theorem kX9_sizeOf_0 (N d n : Nat) {X : lt_X} (a0 : Int32) (a1 : Int32) (a2 : Int32) (z : Int32) (I : Nat → Nat → Int32) (J : Nat → Nat → Int64) : KX9_sizeOf_0 N d n a0 a1 a2 z (mkh X I J) = if z = nI 0 then RX9_sizeOf_4 N d n X a0 (a2 + (nI 0)) (a1 + (nI 1)) I J else RX9_sizeOf_4 N d n X a0 (a2 + (nI 1)) (a1 + (nI 1)) I J := by
  rfl
theorem fX9_sizeOf (N d : Nat) {X : lt_X} (x0 : Int32) (I : Nat → Nat → Int32) (J : Nat → Nat → Int64) : am_G am_prog N (d + 1) 202 [.int x0] (mkh X I J) = am_run (am_G am_prog N d) eX9_sizeOf uX9_sizeOf N 0 [(0, .int x0)] [] (mkh X I J) := by
  refine (am_G_at N d 202 mX9_sizeOf _ _ rfl).trans ?_
  rfl
theorem gX9_sizeOf (N d : Nat) {X : lt_X} (x0 : Int32) (I : Nat → Nat → Int32) (J : Nat → Nat → Int64) : am_G am_prog (N + 30) (d + 2) 202 [.int x0] (mkh X I J) = RX9_sizeOf_0 N d (N + 30) X x0 I J := fX9_sizeOf (N + 30) (d + 1) x0 I J
def RX9_look2_0 (N d n : Nat) (X : lt_X) (x1 : Int32) (I : Nat → Nat → Int32) (J : Nat → Nat → Int64) : am_O := am_run (am_G am_prog (N + 30) (d + 0)) eX9_look2 uX9_look2 n 0 [(0, .ref 135), (1, .int x1)] [] (mkh X I J)
set_option maxHeartbeats 4000000 in
set_option maxRecDepth 100000 in
theorem sX9_look2_0 (N d n : Nat) {X : lt_X} (x1 : Int32) (I : Nat → Nat → Int32) (J : Nat → Nat → Int64) : RX9_look2_0 N d (n + 1) X x1 I J = if x1 < (I 135 9) then if am_in x1 900 then some (.int ((I 139 x1.toNatClampNeg) &&& (nI 255)), (mkh X I J)) else none else some (.int (nI 0), (mkh X I J)) := by
  rfl
theorem fX9_look2 (N d : Nat) {X : lt_X} (x1 : Int32) (I : Nat → Nat → Int32) (J : Nat → Nat → Int64) : am_G am_prog N (d + 1) 203 [.ref 135, .int x1] (mkh X I J) = am_run (am_G am_prog N d) eX9_look2 uX9_look2 N 0 [(0, .ref 135), (1, .int x1)] [] (mkh X I J) := by
  refine (am_G_at N d 203 mX9_look2 _ _ rfl).trans ?_
  rfl
theorem gX9_look2 (N d : Nat) {X : lt_X} (x1 : Int32) (I : Nat → Nat → Int32) (J : Nat → Nat → Int64) : am_G am_prog (N + 30) (d + 1) 203 [.ref 135, .int x1] (mkh X I J) = RX9_look2_0 N d (N + 30) X x1 I J := fX9_look2 (N + 30) (d + 0) x1 I J
def RX9_isLetter_0 (N d n : Nat) (X : lt_X) (x0 : Int32) (I : Nat → Nat → Int32) (J : Nat → Nat → Int64) : am_O := am_run (am_G am_prog (N + 30) (d + 0)) eX9_isLetter uX9_isLetter n 0 [(0, .int x0)] [] (mkh X I J)
set_option maxHeartbeats 4000000 in
set_option maxRecDepth 100000 in
theorem sX9_isLetter_0 (N d n : Nat) {X : lt_X} (x0 : Int32) (I : Nat → Nat → Int32) (J : Nat → Nat → Int64) : RX9_isLetter_0 N d (n + 1) X x0 I J = if x0 < (nI 97) then some (.int (nI 0), (mkh X I J)) else if (nI 122) < x0 then some (.int (nI 0), (mkh X I J)) else some (.int (nI 1), (mkh X I J)) := by
  rfl
theorem fX9_isLetter (N d : Nat) {X : lt_X} (x0 : Int32) (I : Nat → Nat → Int32) (J : Nat → Nat → Int64) : am_G am_prog N (d + 1) 204 [.int x0] (mkh X I J) = am_run (am_G am_prog N d) eX9_isLetter uX9_isLetter N 0 [(0, .int x0)] [] (mkh X I J) := by
  refine (am_G_at N d 204 mX9_isLetter _ _ rfl).trans ?_
  rfl
theorem gX9_isLetter (N d : Nat) {X : lt_X} (x0 : Int32) (I : Nat → Nat → Int32) (J : Nat → Nat → Int64) : am_G am_prog (N + 30) (d + 1) 204 [.int x0] (mkh X I J) = RX9_isLetter_0 N d (N + 30) X x0 I J := fX9_isLetter (N + 30) (d + 0) x0 I J
def RX9_isDigit_0 (N d n : Nat) (X : lt_X) (x0 : Int32) (I : Nat → Nat → Int32) (J : Nat → Nat → Int64) : am_O := am_run (am_G am_prog (N + 30) (d + 0)) eX9_isDigit uX9_isDigit n 0 [(0, .int x0)] [] (mkh X I J)
set_option maxHeartbeats 4000000 in
set_option maxRecDepth 100000 in
theorem sX9_isDigit_0 (N d n : Nat) {X : lt_X} (x0 : Int32) (I : Nat → Nat → Int32) (J : Nat → Nat → Int64) : RX9_isDigit_0 N d (n + 1) X x0 I J = if x0 < (nI 48) then some (.int (nI 0), (mkh X I J)) else if (nI 57) < x0 then some (.int (nI 0), (mkh X I J)) else some (.int (nI 1), (mkh X I J)) := by
  rfl
theorem fX9_isDigit (N d : Nat) {X : lt_X} (x0 : Int32) (I : Nat → Nat → Int32) (J : Nat → Nat → Int64) : am_G am_prog N (d + 1) 205 [.int x0] (mkh X I J) = am_run (am_G am_prog N d) eX9_isDigit uX9_isDigit N 0 [(0, .int x0)] [] (mkh X I J) := by
  refine (am_G_at N d 205 mX9_isDigit _ _ rfl).trans ?_
  rfl
theorem gX9_isDigit (N d : Nat) {X : lt_X} (x0 : Int32) (I : Nat → Nat → Int32) (J : Nat → Nat → Int64) : am_G am_prog (N + 30) (d + 1) 205 [.int x0] (mkh X I J) = RX9_isDigit_0 N d (N + 30) X x0 I J := fX9_isDigit (N + 30) (d + 0) x0 I J
def RX9_isSignByte_0 (N d n : Nat) (X : lt_X) (x1 : Int32) (I : Nat → Nat → Int32) (J : Nat → Nat → Int64) : am_O := am_run (am_G am_prog (N + 30) (d + 0)) eX9_isSignByte uX9_isSignByte n 0 [(0, .ref 135), (1, .int x1)] [] (mkh X I J)
set_option maxHeartbeats 4000000 in
set_option maxRecDepth 100000 in
theorem sX9_isSignByte_0 (N d n : Nat) {X : lt_X} (x1 : Int32) (I : Nat → Nat → Int32) (J : Nat → Nat → Int64) : RX9_isSignByte_0 N d (n + 1) X x1 I J = if x1 = (nI 59) then some (.int (nI 1), (mkh X I J)) else if x1 = (nI 60) then some (.int (nI 1), (mkh X I J)) else if x1 = (nI 62) then some (.int (nI 1), (mkh X I J)) else if x1 = (nI 61) then some (.int (nI 1), (mkh X I J)) else some (.int (nI 0), (mkh X I J)) := by
  rfl
theorem fX9_isSignByte (N d : Nat) {X : lt_X} (x1 : Int32) (I : Nat → Nat → Int32) (J : Nat → Nat → Int64) : am_G am_prog N (d + 1) 206 [.ref 135, .int x1] (mkh X I J) = am_run (am_G am_prog N d) eX9_isSignByte uX9_isSignByte N 0 [(0, .ref 135), (1, .int x1)] [] (mkh X I J) := by
  refine (am_G_at N d 206 mX9_isSignByte _ _ rfl).trans ?_
  rfl
theorem gX9_isSignByte (N d : Nat) {X : lt_X} (x1 : Int32) (I : Nat → Nat → Int32) (J : Nat → Nat → Int64) : am_G am_prog (N + 30) (d + 1) 206 [.ref 135, .int x1] (mkh X I J) = RX9_isSignByte_0 N d (N + 30) X x1 I J := fX9_isSignByte (N + 30) (d + 0) x1 I J
def RX9_advance_0 (N d n : Nat) (X : lt_X) (I : Nat → Nat → Int32) (J : Nat → Nat → Int64) : am_O := am_run (am_G am_prog (N + 30) (d + 0)) eX9_advance uX9_advance n 0 [(0, .ref 135)] [] (mkh X I J)
def RX9_advance_8 (N d n : Nat) (X : lt_X) (I : Nat → Nat → Int32) (J : Nat → Nat → Int64) : am_O := am_run (am_G am_prog (N + 30) (d + 0)) eX9_advance uX9_advance n 8 [(0, .ref 135)] [] (mkh X I J)
def RX9_advance_58 (N d n : Nat) (X : lt_X) (I : Nat → Nat → Int32) (J : Nat → Nat → Int64) : am_O := am_run (am_G am_prog (N + 30) (d + 0)) eX9_advance uX9_advance n 58 [(0, .ref 135)] [] (mkh X I J)
def RX9_advance_109 (N d n : Nat) (X : lt_X) (I : Nat → Nat → Int32) (J : Nat → Nat → Int64) : am_O := am_run (am_G am_prog (N + 30) (d + 0)) eX9_advance uX9_advance n 109 [(0, .ref 135)] [] (mkh X I J)
def RX9_advance_210 (N d n : Nat) (X : lt_X) (I : Nat → Nat → Int32) (J : Nat → Nat → Int64) : am_O := am_run (am_G am_prog (N + 30) (d + 0)) eX9_advance uX9_advance n 210 [(0, .ref 135)] [] (mkh X I J)
def KX9_advance_0 (N d n : Nat) (z : Int32) (h : am_H) : am_O := if z = (nI 10) then am_gI h 9 135 15 (fun y1 => am_pI h 9 135 15 (y1 + (nI 1)) (fun h2 => am_run (am_G am_prog (N + 30) (d + 0)) eX9_advance uX9_advance n 8 [(0, .ref 135)] [] h2)) else am_gI h 9 135 15 (fun y3 => am_cI (am_G am_prog (N + 30) (d + 0) 203 [.ref 135, .int y3] h) (fun r5 h4 => if r5 = (nI 32) then am_gI h4 9 135 15 (fun y6 => am_pI h4 9 135 15 (y6 + (nI 1)) (fun h7 => am_run (am_G am_prog (N + 30) (d + 0)) eX9_advance uX9_advance n 8 [(0, .ref 135)] [] h7)) else am_run (am_G am_prog (N + 30) (d + 0)) eX9_advance uX9_advance n 58 [(0, .ref 135)] [] h4))
def KX9_advance_1 (N d n : Nat) (z : Int32) (h : am_H) : am_O := am_cI (am_G am_prog (N + 30) (d + 0) 204 [.int z] h) (fun r2 h1 => if r2 = nI 0 then am_cI (am_G am_prog (N + 30) (d + 0) 205 [.int z] h1) (fun r4 h3 => if r4 = nI 0 then am_gI h3 9 135 15 (fun y5 => am_pI h3 9 135 16 (y5 + (nI 1)) (fun h6 => am_pI h6 9 135 17 z (fun h7 => am_cI (am_G am_prog (N + 30) (d + 0) 206 [.ref 135, .int z] h7) (fun r9 h8 => if r9 = nI 0 then am_pI h8 9 135 14 (nI 4) (fun h10 => some (.null, h10)) else am_pI h8 9 135 14 (nI 3) (fun h11 => some (.null, h11)))))) else am_pI h3 9 135 17 (nI 0) (fun h12 => am_run (am_G am_prog (N + 30) (d + 0)) eX9_advance uX9_advance n 210 [(0, .ref 135)] [] h12)) else am_pI h1 9 135 14 (nI 1) (fun h13 => am_pL h13 9 135 19 (lN 0) (fun h14 => am_run (am_G am_prog (N + 30) (d + 0)) eX9_advance uX9_advance n 109 [(0, .ref 135)] [] h14)))
def KX9_advance_2 (N d n : Nat) (z : Int32) (h : am_H) : am_O := am_cI (am_G am_prog (N + 30) (d + 0) 204 [.int z] h) (fun r2 h1 => if r2 = nI 0 then am_gI h1 9 135 16 (fun y3 => am_gI h1 9 135 15 (fun y4 => am_pI h1 9 135 18 (y3 - y4) (fun h5 => some (.null, h5)))) else am_gI h1 9 135 16 (fun y6 => am_gI h1 9 135 15 (fun y7 => if (y6 - y7) < (nI 8) then am_gL h1 9 135 19 (fun y8 => am_gI h1 9 135 16 (fun y9 => am_cI (am_G am_prog (N + 30) (d + 0) 203 [.ref 135, .int y9] h1) (fun r11 h10 => am_pL h10 9 135 19 (((y8 * (lN 32)) + r11.toInt64) - (lN 96)) (fun h12 => am_gI h12 9 135 16 (fun y13 => am_pI h12 9 135 16 (y13 + (nI 1)) (fun h14 => am_run (am_G am_prog (N + 30) (d + 0)) eX9_advance uX9_advance n 109 [(0, .ref 135)] [] h14)))))) else am_pL h1 9 135 19 (-1) (fun h15 => am_gI h15 9 135 16 (fun y16 => am_pI h15 9 135 16 (y16 + (nI 1)) (fun h17 => am_run (am_G am_prog (N + 30) (d + 0)) eX9_advance uX9_advance n 109 [(0, .ref 135)] [] h17))))))
def KX9_advance_3 (N d n : Nat) (z : Int32) (h : am_H) : am_O := am_cI (am_G am_prog (N + 30) (d + 0) 205 [.int z] h) (fun r2 h1 => if r2 = nI 0 then am_gI h1 9 135 16 (fun y3 => am_gI h1 9 135 15 (fun y4 => if (nI 4) < (y3 - y4) then am_pI h1 9 135 14 (nI 4) (fun h5 => some (.null, h5)) else am_pI h1 9 135 14 (nI 2) (fun h6 => some (.null, h6)))) else am_gI h1 9 135 16 (fun y7 => am_gI h1 9 135 15 (fun y8 => if (y7 - y8) < (nI 4) then am_gI h1 9 135 17 (fun y9 => am_gI h1 9 135 16 (fun y10 => am_cI (am_G am_prog (N + 30) (d + 0) 203 [.ref 135, .int y10] h1) (fun r12 h11 => am_pI h11 9 135 17 ((((nI 10) * y9) + r12) - (nI 48)) (fun h13 => am_gI h13 9 135 16 (fun y14 => am_pI h13 9 135 16 (y14 + (nI 1)) (fun h15 => am_run (am_G am_prog (N + 30) (d + 0)) eX9_advance uX9_advance n 210 [(0, .ref 135)] [] h15)))))) else am_gI h1 9 135 16 (fun y16 => am_pI h1 9 135 16 (y16 + (nI 1)) (fun h17 => am_run (am_G am_prog (N + 30) (d + 0)) eX9_advance uX9_advance n 210 [(0, .ref 135)] [] h17)))))
def KX9_advance_4 (N d n : Nat) (z : Int32) (h : am_H) : am_O := if z = (nI 32) then am_gI h 9 135 15 (fun y1 => am_pI h 9 135 15 (y1 + (nI 1)) (fun h2 => am_run (am_G am_prog (N + 30) (d + 0)) eX9_advance uX9_advance n 8 [(0, .ref 135)] [] h2)) else am_run (am_G am_prog (N + 30) (d + 0)) eX9_advance uX9_advance n 58 [(0, .ref 135)] [] h
def KX9_advance_5 (N d n : Nat) (a0 : Int32) (z : Int32) (h : am_H) : am_O := if z = nI 0 then am_cI (am_G am_prog (N + 30) (d + 0) 205 [.int a0] h) (fun r2 h1 => if r2 = nI 0 then am_gI h1 9 135 15 (fun y3 => am_pI h1 9 135 16 (y3 + (nI 1)) (fun h4 => am_pI h4 9 135 17 a0 (fun h5 => am_cI (am_G am_prog (N + 30) (d + 0) 206 [.ref 135, .int a0] h5) (fun r7 h6 => if r7 = nI 0 then am_pI h6 9 135 14 (nI 4) (fun h8 => some (.null, h8)) else am_pI h6 9 135 14 (nI 3) (fun h9 => some (.null, h9)))))) else am_pI h1 9 135 17 (nI 0) (fun h10 => am_run (am_G am_prog (N + 30) (d + 0)) eX9_advance uX9_advance n 210 [(0, .ref 135)] [] h10)) else am_pI h 9 135 14 (nI 1) (fun h11 => am_pL h11 9 135 19 (lN 0) (fun h12 => am_run (am_G am_prog (N + 30) (d + 0)) eX9_advance uX9_advance n 109 [(0, .ref 135)] [] h12))
def KX9_advance_6 (N d n : Nat) (z : Int32) (h : am_H) : am_O := if z = nI 0 then am_gI h 9 135 16 (fun y1 => am_gI h 9 135 15 (fun y2 => am_pI h 9 135 18 (y1 - y2) (fun h3 => some (.null, h3)))) else am_gI h 9 135 16 (fun y4 => am_gI h 9 135 15 (fun y5 => if (y4 - y5) < (nI 8) then am_gL h 9 135 19 (fun y6 => am_gI h 9 135 16 (fun y7 => am_cI (am_G am_prog (N + 30) (d + 0) 203 [.ref 135, .int y7] h) (fun r9 h8 => am_pL h8 9 135 19 (((y6 * (lN 32)) + r9.toInt64) - (lN 96)) (fun h10 => am_gI h10 9 135 16 (fun y11 => am_pI h10 9 135 16 (y11 + (nI 1)) (fun h12 => am_run (am_G am_prog (N + 30) (d + 0)) eX9_advance uX9_advance n 109 [(0, .ref 135)] [] h12)))))) else am_pL h 9 135 19 (-1) (fun h13 => am_gI h13 9 135 16 (fun y14 => am_pI h13 9 135 16 (y14 + (nI 1)) (fun h15 => am_run (am_G am_prog (N + 30) (d + 0)) eX9_advance uX9_advance n 109 [(0, .ref 135)] [] h15)))))
def KX9_advance_7 (N d n : Nat) (z : Int32) (h : am_H) : am_O := if z = nI 0 then am_gI h 9 135 16 (fun y1 => am_gI h 9 135 15 (fun y2 => if (nI 4) < (y1 - y2) then am_pI h 9 135 14 (nI 4) (fun h3 => some (.null, h3)) else am_pI h 9 135 14 (nI 2) (fun h4 => some (.null, h4)))) else am_gI h 9 135 16 (fun y5 => am_gI h 9 135 15 (fun y6 => if (y5 - y6) < (nI 4) then am_gI h 9 135 17 (fun y7 => am_gI h 9 135 16 (fun y8 => am_cI (am_G am_prog (N + 30) (d + 0) 203 [.ref 135, .int y8] h) (fun r10 h9 => am_pI h9 9 135 17 ((((nI 10) * y7) + r10) - (nI 48)) (fun h11 => am_gI h11 9 135 16 (fun y12 => am_pI h11 9 135 16 (y12 + (nI 1)) (fun h13 => am_run (am_G am_prog (N + 30) (d + 0)) eX9_advance uX9_advance n 210 [(0, .ref 135)] [] h13)))))) else am_gI h 9 135 16 (fun y14 => am_pI h 9 135 16 (y14 + (nI 1)) (fun h15 => am_run (am_G am_prog (N + 30) (d + 0)) eX9_advance uX9_advance n 210 [(0, .ref 135)] [] h15))))
def KX9_advance_8 (N d n : Nat) (a0 : Int32) (z : Int32) (h : am_H) : am_O := if z = nI 0 then am_gI h 9 135 15 (fun y1 => am_pI h 9 135 16 (y1 + (nI 1)) (fun h2 => am_pI h2 9 135 17 a0 (fun h3 => am_cI (am_G am_prog (N + 30) (d + 0) 206 [.ref 135, .int a0] h3) (fun r5 h4 => if r5 = nI 0 then am_pI h4 9 135 14 (nI 4) (fun h6 => some (.null, h6)) else am_pI h4 9 135 14 (nI 3) (fun h7 => some (.null, h7)))))) else am_pI h 9 135 17 (nI 0) (fun h8 => am_run (am_G am_prog (N + 30) (d + 0)) eX9_advance uX9_advance n 210 [(0, .ref 135)] [] h8)
def KX9_advance_9 (N d n : Nat) (a0 : Int64) (z : Int32) (h : am_H) : am_O := am_pL h 9 135 19 ((a0 + z.toInt64) - (lN 96)) (fun h1 => am_gI h1 9 135 16 (fun y2 => am_pI h1 9 135 16 (y2 + (nI 1)) (fun h3 => am_run (am_G am_prog (N + 30) (d + 0)) eX9_advance uX9_advance n 109 [(0, .ref 135)] [] h3)))
def KX9_advance_10 (N d n : Nat) (a0 : Int32) (z : Int32) (h : am_H) : am_O := am_pI h 9 135 17 ((a0 + z) - (nI 48)) (fun h1 => am_gI h1 9 135 16 (fun y2 => am_pI h1 9 135 16 (y2 + (nI 1)) (fun h3 => am_run (am_G am_prog (N + 30) (d + 0)) eX9_advance uX9_advance n 210 [(0, .ref 135)] [] h3)))
def KX9_advance_11 (N d n : Nat) (z : Int32) (h : am_H) : am_O := if z = nI 0 then am_pI h 9 135 14 (nI 4) (fun h1 => some (.null, h1)) else am_pI h 9 135 14 (nI 3) (fun h2 => some (.null, h2))
set_option maxHeartbeats 4000000 in
set_option maxRecDepth 100000 in
theorem sX9_advance_0 (N d n : Nat) {X : lt_X} (I : Nat → Nat → Int32) (J : Nat → Nat → Int64) : RX9_advance_0 N d (n + 1) X I J = RX9_advance_8 N d n X (u2 I 135 15 (I 135 16)) J := by
  rfl
set_option maxHeartbeats 4000000 in
set_option maxRecDepth 100000 in
theorem sX9_advance_8 (N d n : Nat) {X : lt_X} (I : Nat → Nat → Int32) (J : Nat → Nat → Int64) : RX9_advance_8 N d (n + 1) X I J = if (I 135 15) < (I 135 9) then am_cI (am_G am_prog (N + 30) (d + 0) 203 [.ref 135, .int (I 135 15)] (mkh X I J)) (KX9_advance_0 N d n ) else RX9_advance_58 N d n X I J := by
  rfl
set_option maxHeartbeats 4000000 in
set_option maxRecDepth 100000 in
theorem sX9_advance_58 (N d n : Nat) {X : lt_X} (I : Nat → Nat → Int32) (J : Nat → Nat → Int64) : RX9_advance_58 N d (n + 1) X I J = if (I 135 15) < (I 135 9) then am_cI (am_G am_prog (N + 30) (d + 0) 203 [.ref 135, .int (I 135 15)] (mkh X (u2 I 135 16 (I 135 15)) J)) (KX9_advance_1 N d n ) else some (.null, (mkh X (u2 (u2 I 135 16 (I 135 15)) 135 14 (nI 0)) J)) := by
  rfl
set_option maxHeartbeats 4000000 in
set_option maxRecDepth 100000 in
theorem sX9_advance_109 (N d n : Nat) {X : lt_X} (I : Nat → Nat → Int32) (J : Nat → Nat → Int64) : RX9_advance_109 N d (n + 1) X I J = am_cI (am_G am_prog (N + 30) (d + 0) 203 [.ref 135, .int (I 135 16)] (mkh X I J)) (KX9_advance_2 N d n ) := by
  rfl
set_option maxHeartbeats 4000000 in
set_option maxRecDepth 100000 in
theorem sX9_advance_210 (N d n : Nat) {X : lt_X} (I : Nat → Nat → Int32) (J : Nat → Nat → Int64) : RX9_advance_210 N d (n + 1) X I J = am_cI (am_G am_prog (N + 30) (d + 0) 203 [.ref 135, .int (I 135 16)] (mkh X I J)) (KX9_advance_3 N d n ) := by
  rfl
set_option maxHeartbeats 4000000 in
set_option maxRecDepth 100000 in
theorem kX9_advance_0 (N d n : Nat) {X : lt_X} (z : Int32) (I : Nat → Nat → Int32) (J : Nat → Nat → Int64) : KX9_advance_0 N d n z (mkh X I J) = if z = (nI 10) then RX9_advance_8 N d n X (u2 I 135 15 ((I 135 15) + (nI 1))) J else am_cI (am_G am_prog (N + 30) (d + 0) 203 [.ref 135, .int (I 135 15)] (mkh X I J)) (KX9_advance_4 N d n ) := by
  rfl
set_option maxHeartbeats 4000000 in
set_option maxRecDepth 100000 in
theorem kX9_advance_1 (N d n : Nat) {X : lt_X} (z : Int32) (I : Nat → Nat → Int32) (J : Nat → Nat → Int64) : KX9_advance_1 N d n z (mkh X I J) = am_cI (am_G am_prog (N + 30) (d + 0) 204 [.int z] (mkh X I J)) (KX9_advance_5 N d n z) := by
  rfl
set_option maxHeartbeats 4000000 in
set_option maxRecDepth 100000 in
theorem kX9_advance_2 (N d n : Nat) {X : lt_X} (z : Int32) (I : Nat → Nat → Int32) (J : Nat → Nat → Int64) : KX9_advance_2 N d n z (mkh X I J) = am_cI (am_G am_prog (N + 30) (d + 0) 204 [.int z] (mkh X I J)) (KX9_advance_6 N d n ) := by
  rfl
set_option maxHeartbeats 4000000 in
set_option maxRecDepth 100000 in
theorem kX9_advance_3 (N d n : Nat) {X : lt_X} (z : Int32) (I : Nat → Nat → Int32) (J : Nat → Nat → Int64) : KX9_advance_3 N d n z (mkh X I J) = am_cI (am_G am_prog (N + 30) (d + 0) 205 [.int z] (mkh X I J)) (KX9_advance_7 N d n ) := by
  rfl
set_option maxHeartbeats 4000000 in
set_option maxRecDepth 100000 in
theorem kX9_advance_4 (N d n : Nat) {X : lt_X} (z : Int32) (I : Nat → Nat → Int32) (J : Nat → Nat → Int64) : KX9_advance_4 N d n z (mkh X I J) = if z = (nI 32) then RX9_advance_8 N d n X (u2 I 135 15 ((I 135 15) + (nI 1))) J else RX9_advance_58 N d n X I J := by
  rfl
set_option maxHeartbeats 4000000 in
set_option maxRecDepth 100000 in
theorem kX9_advance_5 (N d n : Nat) {X : lt_X} (a0 : Int32) (z : Int32) (I : Nat → Nat → Int32) (J : Nat → Nat → Int64) : KX9_advance_5 N d n a0 z (mkh X I J) = if z = nI 0 then am_cI (am_G am_prog (N + 30) (d + 0) 205 [.int a0] (mkh X I J)) (KX9_advance_8 N d n a0) else RX9_advance_109 N d n X (u2 I 135 14 (nI 1)) (u2L J 135 19 (lN 0)) := by
  rfl
set_option maxHeartbeats 4000000 in
set_option maxRecDepth 100000 in
theorem kX9_advance_6 (N d n : Nat) {X : lt_X} (z : Int32) (I : Nat → Nat → Int32) (J : Nat → Nat → Int64) : KX9_advance_6 N d n z (mkh X I J) = if z = nI 0 then some (.null, (mkh X (u2 I 135 18 ((I 135 16) - (I 135 15))) J)) else if ((I 135 16) - (I 135 15)) < (nI 8) then am_cI (am_G am_prog (N + 30) (d + 0) 203 [.ref 135, .int (I 135 16)] (mkh X I J)) (KX9_advance_9 N d n ((J 135 19) * (lN 32))) else RX9_advance_109 N d n X (u2 I 135 16 ((I 135 16) + (nI 1))) (u2L J 135 19 (-1)) := by
  rfl
set_option maxHeartbeats 4000000 in
set_option maxRecDepth 100000 in
theorem kX9_advance_7 (N d n : Nat) {X : lt_X} (z : Int32) (I : Nat → Nat → Int32) (J : Nat → Nat → Int64) : KX9_advance_7 N d n z (mkh X I J) = if z = nI 0 then if (nI 4) < ((I 135 16) - (I 135 15)) then some (.null, (mkh X (u2 I 135 14 (nI 4)) J)) else some (.null, (mkh X (u2 I 135 14 (nI 2)) J)) else if ((I 135 16) - (I 135 15)) < (nI 4) then am_cI (am_G am_prog (N + 30) (d + 0) 203 [.ref 135, .int (I 135 16)] (mkh X I J)) (KX9_advance_10 N d n ((nI 10) * (I 135 17))) else RX9_advance_210 N d n X (u2 I 135 16 ((I 135 16) + (nI 1))) J := by
  rfl
set_option maxHeartbeats 4000000 in
set_option maxRecDepth 100000 in
theorem kX9_advance_8 (N d n : Nat) {X : lt_X} (a0 : Int32) (z : Int32) (I : Nat → Nat → Int32) (J : Nat → Nat → Int64) : KX9_advance_8 N d n a0 z (mkh X I J) = if z = nI 0 then am_cI (am_G am_prog (N + 30) (d + 0) 206 [.ref 135, .int a0] (mkh X (u2 (u2 I 135 16 ((I 135 15) + (nI 1))) 135 17 a0) J)) (KX9_advance_11 N d n ) else RX9_advance_210 N d n X (u2 I 135 17 (nI 0)) J := by
  rfl
set_option maxHeartbeats 4000000 in
set_option maxRecDepth 100000 in
theorem kX9_advance_9 (N d n : Nat) {X : lt_X} (a0 : Int64) (z : Int32) (I : Nat → Nat → Int32) (J : Nat → Nat → Int64) : KX9_advance_9 N d n a0 z (mkh X I J) = RX9_advance_109 N d n X (u2 I 135 16 ((I 135 16) + (nI 1))) (u2L J 135 19 ((a0 + z.toInt64) - (lN 96))) := by
  rfl
set_option maxHeartbeats 4000000 in
set_option maxRecDepth 100000 in
theorem kX9_advance_10 (N d n : Nat) {X : lt_X} (a0 : Int32) (z : Int32) (I : Nat → Nat → Int32) (J : Nat → Nat → Int64) : KX9_advance_10 N d n a0 z (mkh X I J) = RX9_advance_210 N d n X (u2 (u2 I 135 17 ((a0 + z) - (nI 48))) 135 16 ((I 135 16) + (nI 1))) J := by
  rfl
set_option maxHeartbeats 4000000 in
set_option maxRecDepth 100000 in
theorem kX9_advance_11 (N d n : Nat) {X : lt_X} (z : Int32) (I : Nat → Nat → Int32) (J : Nat → Nat → Int64) : KX9_advance_11 N d n z (mkh X I J) = if z = nI 0 then some (.null, (mkh X (u2 I 135 14 (nI 4)) J)) else some (.null, (mkh X (u2 I 135 14 (nI 3)) J)) := by
  rfl
theorem fX9_advance (N d : Nat) {X : lt_X} (I : Nat → Nat → Int32) (J : Nat → Nat → Int64) : am_G am_prog N (d + 1) 207 [.ref 135] (mkh X I J) = am_run (am_G am_prog N d) eX9_advance uX9_advance N 0 [(0, .ref 135)] [] (mkh X I J) := by
  refine (am_G_at N d 207 mX9_advance _ _ rfl).trans ?_
  rfl
theorem gX9_advance (N d : Nat) {X : lt_X} (I : Nat → Nat → Int32) (J : Nat → Nat → Int64) : am_G am_prog (N + 30) (d + 1) 207 [.ref 135] (mkh X I J) = RX9_advance_0 N d (N + 30) X I J := fX9_advance (N + 30) (d + 0) I J
def RX9_isSign_0 (N d n : Nat) (X : lt_X) (x1 : Int32) (I : Nat → Nat → Int32) (J : Nat → Nat → Int64) : am_O := am_run (am_G am_prog (N + 30) (d + 0)) eX9_isSign uX9_isSign n 0 [(0, .ref 135), (1, .int x1)] [] (mkh X I J)
set_option maxHeartbeats 4000000 in
set_option maxRecDepth 100000 in
theorem sX9_isSign_0 (N d n : Nat) {X : lt_X} (x1 : Int32) (I : Nat → Nat → Int32) (J : Nat → Nat → Int64) : RX9_isSign_0 N d (n + 1) X x1 I J = if (I 135 14) = (nI 3) then if (I 135 17) = x1 then some (.int (nI 1), (mkh X I J)) else some (.int (nI 0), (mkh X I J)) else some (.int (nI 0), (mkh X I J)) := by
  rfl
theorem fX9_isSign (N d : Nat) {X : lt_X} (x1 : Int32) (I : Nat → Nat → Int32) (J : Nat → Nat → Int64) : am_G am_prog N (d + 1) 208 [.ref 135, .int x1] (mkh X I J) = am_run (am_G am_prog N d) eX9_isSign uX9_isSign N 0 [(0, .ref 135), (1, .int x1)] [] (mkh X I J) := by
  refine (am_G_at N d 208 mX9_isSign _ _ rfl).trans ?_
  rfl
theorem gX9_isSign (N d : Nat) {X : lt_X} (x1 : Int32) (I : Nat → Nat → Int32) (J : Nat → Nat → Int64) : am_G am_prog (N + 30) (d + 1) 208 [.ref 135, .int x1] (mkh X I J) = RX9_isSign_0 N d (N + 30) X x1 I J := fX9_isSign (N + 30) (d + 0) x1 I J
def RX9_spelled_0 (N d n : Nat) (X : lt_X) (x0 : Int32) (x1 : Int32) (x2 : Int32) (x3 : Int32) (x4 : Int32) (x5 : Int32) (I : Nat → Nat → Int32) (J : Nat → Nat → Int64) : am_O := am_run (am_G am_prog (N + 30) (d + 0)) eX9_spelled uX9_spelled n 0 [(0, .int x0), (1, .int x1), (2, .int x2), (3, .int x3), (4, .int x4), (5, .int x5)] [] (mkh X I J)
def RX9_spelled_41 (N d n : Nat) (X : lt_X) (x3 : Int32) (x4 : Int32) (x5 : Int32) (s0 : Int64) (I : Nat → Nat → Int32) (J : Nat → Nat → Int64) : am_O := am_run (am_G am_prog (N + 30) (d + 0)) eX9_spelled uX9_spelled n 41 [(3, .int x3), (4, .int x4), (5, .int x5)] [.long s0] (mkh X I J)
def RX9_spelled_65 (N d n : Nat) (X : lt_X) (x4 : Int32) (x5 : Int32) (s0 : Int64) (I : Nat → Nat → Int32) (J : Nat → Nat → Int64) : am_O := am_run (am_G am_prog (N + 30) (d + 0)) eX9_spelled uX9_spelled n 65 [(4, .int x4), (5, .int x5)] [.long s0] (mkh X I J)
def RX9_spelled_91 (N d n : Nat) (X : lt_X) (x5 : Int32) (s0 : Int64) (I : Nat → Nat → Int32) (J : Nat → Nat → Int64) : am_O := am_run (am_G am_prog (N + 30) (d + 0)) eX9_spelled uX9_spelled n 91 [(5, .int x5)] [.long s0] (mkh X I J)
set_option maxHeartbeats 4000000 in
set_option maxRecDepth 100000 in
theorem sX9_spelled_0 (N d n : Nat) {X : lt_X} (x0 : Int32) (x1 : Int32) (x2 : Int32) (x3 : Int32) (x4 : Int32) (x5 : Int32) (I : Nat → Nat → Int32) (J : Nat → Nat → Int64) : RX9_spelled_0 N d (n + 1) X x0 x1 x2 x3 x4 x5 I J = if nI 0 < x2 then RX9_spelled_41 N d n X x3 x4 x5 (((((((x0.toInt64 - (lN 96)) * (lN 32)) + x1.toInt64) - (lN 96)) * (lN 32)) + x2.toInt64) - (lN 96)) I J else RX9_spelled_41 N d n X x3 x4 x5 ((((x0.toInt64 - (lN 96)) * (lN 32)) + x1.toInt64) - (lN 96)) I J := by
  rfl
set_option maxHeartbeats 4000000 in
set_option maxRecDepth 100000 in
theorem sX9_spelled_41 (N d n : Nat) {X : lt_X} (x3 : Int32) (x4 : Int32) (x5 : Int32) (s0 : Int64) (I : Nat → Nat → Int32) (J : Nat → Nat → Int64) : RX9_spelled_41 N d (n + 1) X x3 x4 x5 s0 I J = if nI 0 < x3 then RX9_spelled_65 N d n X x4 x5 (((s0 * (lN 32)) + x3.toInt64) - (lN 96)) I J else RX9_spelled_65 N d n X x4 x5 s0 I J := by
  rfl
set_option maxHeartbeats 4000000 in
set_option maxRecDepth 100000 in
theorem sX9_spelled_65 (N d n : Nat) {X : lt_X} (x4 : Int32) (x5 : Int32) (s0 : Int64) (I : Nat → Nat → Int32) (J : Nat → Nat → Int64) : RX9_spelled_65 N d (n + 1) X x4 x5 s0 I J = if nI 0 < x4 then RX9_spelled_91 N d n X x5 (((s0 * (lN 32)) + x4.toInt64) - (lN 96)) I J else RX9_spelled_91 N d n X x5 s0 I J := by
  rfl
set_option maxHeartbeats 4000000 in
set_option maxRecDepth 100000 in
theorem sX9_spelled_91 (N d n : Nat) {X : lt_X} (x5 : Int32) (s0 : Int64) (I : Nat → Nat → Int32) (J : Nat → Nat → Int64) : RX9_spelled_91 N d (n + 1) X x5 s0 I J = if nI 0 < x5 then some (.long (((s0 * (lN 32)) + x5.toInt64) - (lN 96)), (mkh X I J)) else some (.long s0, (mkh X I J)) := by
  rfl
theorem fX9_spelled (N d : Nat) {X : lt_X} (x0 : Int32) (x1 : Int32) (x2 : Int32) (x3 : Int32) (x4 : Int32) (x5 : Int32) (I : Nat → Nat → Int32) (J : Nat → Nat → Int64) : am_G am_prog N (d + 1) 209 [.int x0, .int x1, .int x2, .int x3, .int x4, .int x5] (mkh X I J) = am_run (am_G am_prog N d) eX9_spelled uX9_spelled N 0 [(0, .int x0), (1, .int x1), (2, .int x2), (3, .int x3), (4, .int x4), (5, .int x5)] [] (mkh X I J) := by
  refine (am_G_at N d 209 mX9_spelled _ _ rfl).trans ?_
  rfl
theorem gX9_spelled (N d : Nat) {X : lt_X} (x0 : Int32) (x1 : Int32) (x2 : Int32) (x3 : Int32) (x4 : Int32) (x5 : Int32) (I : Nat → Nat → Int32) (J : Nat → Nat → Int64) : am_G am_prog (N + 30) (d + 1) 209 [.int x0, .int x1, .int x2, .int x3, .int x4, .int x5] (mkh X I J) = RX9_spelled_0 N d (N + 30) X x0 x1 x2 x3 x4 x5 I J := fX9_spelled (N + 30) (d + 0) x0 x1 x2 x3 x4 x5 I J
def RX9_isWord_0 (N d n : Nat) (X : lt_X) (x1 : Int64) (I : Nat → Nat → Int32) (J : Nat → Nat → Int64) : am_O := am_run (am_G am_prog (N + 30) (d + 0)) eX9_isWord uX9_isWord n 0 [(0, .ref 135), (1, .long x1)] [] (mkh X I J)
set_option maxHeartbeats 4000000 in
set_option maxRecDepth 100000 in
theorem sX9_isWord_0 (N d n : Nat) {X : lt_X} (x1 : Int64) (I : Nat → Nat → Int32) (J : Nat → Nat → Int64) : RX9_isWord_0 N d (n + 1) X x1 I J = if (I 135 14) = (nI 1) then if (lg_cmp (J 135 19) x1) = nI 0 then some (.int (nI 1), (mkh X I J)) else some (.int (nI 0), (mkh X I J)) else some (.int (nI 0), (mkh X I J)) := by
  rfl
theorem fX9_isWord (N d : Nat) {X : lt_X} (x1 : Int64) (I : Nat → Nat → Int32) (J : Nat → Nat → Int64) : am_G am_prog N (d + 1) 210 [.ref 135, .long x1] (mkh X I J) = am_run (am_G am_prog N d) eX9_isWord uX9_isWord N 0 [(0, .ref 135), (1, .long x1)] [] (mkh X I J) := by
  refine (am_G_at N d 210 mX9_isWord _ _ rfl).trans ?_
  rfl
theorem gX9_isWord (N d : Nat) {X : lt_X} (x1 : Int64) (I : Nat → Nat → Int32) (J : Nat → Nat → Int64) : am_G am_prog (N + 30) (d + 1) 210 [.ref 135, .long x1] (mkh X I J) = RX9_isWord_0 N d (N + 30) X x1 I J := fX9_isWord (N + 30) (d + 0) x1 I J
def RX9_isOdds_0 (N d n : Nat) (X : lt_X) (I : Nat → Nat → Int32) (J : Nat → Nat → Int64) : am_O := am_run (am_G am_prog (N + 30) (d + 1)) eX9_isOdds uX9_isOdds n 0 [(0, .ref 135)] [] (mkh X I J)
def KX9_isOdds_0 (N d n : Nat) (z : Int32) (h : am_H) : am_O := am_nb z (some (.int z, h))
set_option maxHeartbeats 4000000 in
set_option maxRecDepth 100000 in
theorem sX9_isOdds_0 (N d n : Nat) {X : lt_X} (I : Nat → Nat → Int32) (J : Nat → Nat → Int64) : RX9_isOdds_0 N d (n + 1) X I J = am_cI (am_G am_prog (N + 30) (d + 1) 210 [.ref 135, .long (lN 495763)] (mkh X I J)) (KX9_isOdds_0 N d n ) := by
  rfl
set_option maxHeartbeats 4000000 in
set_option maxRecDepth 100000 in
theorem kX9_isOdds_0 (N d n : Nat) {X : lt_X} (z : Int32) (I : Nat → Nat → Int32) (J : Nat → Nat → Int64) : KX9_isOdds_0 N d n z (mkh X I J) = am_nb z (some (.int z, (mkh X I J))) := by
  rfl
theorem fX9_isOdds (N d : Nat) {X : lt_X} (I : Nat → Nat → Int32) (J : Nat → Nat → Int64) : am_G am_prog N (d + 1) 211 [.ref 135] (mkh X I J) = am_run (am_G am_prog N d) eX9_isOdds uX9_isOdds N 0 [(0, .ref 135)] [] (mkh X I J) := by
  refine (am_G_at N d 211 mX9_isOdds _ _ rfl).trans ?_
  rfl
theorem gX9_isOdds (N d : Nat) {X : lt_X} (I : Nat → Nat → Int32) (J : Nat → Nat → Int64) : am_G am_prog (N + 30) (d + 2) 211 [.ref 135] (mkh X I J) = RX9_isOdds_0 N d (N + 30) X I J := fX9_isOdds (N + 30) (d + 1) I J
def RX9_isSubject_0 (N d n : Nat) (X : lt_X) (I : Nat → Nat → Int32) (J : Nat → Nat → Int64) : am_O := am_run (am_G am_prog (N + 30) (d + 1)) eX9_isSubject uX9_isSubject n 0 [(0, .ref 135)] [] (mkh X I J)
def KX9_isSubject_0 (N d n : Nat) (z : Int32) (h : am_H) : am_O := am_nb z (some (.int z, h))
set_option maxHeartbeats 4000000 in
set_option maxRecDepth 100000 in
theorem sX9_isSubject_0 (N d n : Nat) {X : lt_X} (I : Nat → Nat → Int32) (J : Nat → Nat → Int64) : RX9_isSubject_0 N d (n + 1) X I J = am_cI (am_G am_prog (N + 30) (d + 1) 210 [.ref 135, .long (lN 21108167796)] (mkh X I J)) (KX9_isSubject_0 N d n ) := by
  rfl
set_option maxHeartbeats 4000000 in
set_option maxRecDepth 100000 in
theorem kX9_isSubject_0 (N d n : Nat) {X : lt_X} (z : Int32) (I : Nat → Nat → Int32) (J : Nat → Nat → Int64) : KX9_isSubject_0 N d n z (mkh X I J) = am_nb z (some (.int z, (mkh X I J))) := by
  rfl
theorem fX9_isSubject (N d : Nat) {X : lt_X} (I : Nat → Nat → Int32) (J : Nat → Nat → Int64) : am_G am_prog N (d + 1) 212 [.ref 135] (mkh X I J) = am_run (am_G am_prog N d) eX9_isSubject uX9_isSubject N 0 [(0, .ref 135)] [] (mkh X I J) := by
  refine (am_G_at N d 212 mX9_isSubject _ _ rfl).trans ?_
  rfl
theorem gX9_isSubject (N d : Nat) {X : lt_X} (I : Nat → Nat → Int32) (J : Nat → Nat → Int64) : am_G am_prog (N + 30) (d + 2) 212 [.ref 135] (mkh X I J) = RX9_isSubject_0 N d (N + 30) X I J := fX9_isSubject (N + 30) (d + 1) I J
def RX9_isVoice_0 (N d n : Nat) (X : lt_X) (I : Nat → Nat → Int32) (J : Nat → Nat → Int64) : am_O := am_run (am_G am_prog (N + 30) (d + 1)) eX9_isVoice uX9_isVoice n 0 [(0, .ref 135)] [] (mkh X I J)
def KX9_isVoice_0 (N d n : Nat) (z : Int32) (h : am_H) : am_O := am_nb z (some (.int z, h))
set_option maxHeartbeats 4000000 in
set_option maxRecDepth 100000 in
theorem sX9_isVoice_0 (N d n : Nat) {X : lt_X} (I : Nat → Nat → Int32) (J : Nat → Nat → Int64) : RX9_isVoice_0 N d (n + 1) X I J = am_cI (am_G am_prog (N + 30) (d + 1) 210 [.ref 135, .long (lN 23569509)] (mkh X I J)) (KX9_isVoice_0 N d n ) := by
  rfl
set_option maxHeartbeats 4000000 in
set_option maxRecDepth 100000 in
theorem kX9_isVoice_0 (N d n : Nat) {X : lt_X} (z : Int32) (I : Nat → Nat → Int32) (J : Nat → Nat → Int64) : KX9_isVoice_0 N d n z (mkh X I J) = am_nb z (some (.int z, (mkh X I J))) := by
  rfl
theorem fX9_isVoice (N d : Nat) {X : lt_X} (I : Nat → Nat → Int32) (J : Nat → Nat → Int64) : am_G am_prog N (d + 1) 213 [.ref 135] (mkh X I J) = am_run (am_G am_prog N d) eX9_isVoice uX9_isVoice N 0 [(0, .ref 135)] [] (mkh X I J) := by
  refine (am_G_at N d 213 mX9_isVoice _ _ rfl).trans ?_
  rfl
theorem gX9_isVoice (N d : Nat) {X : lt_X} (I : Nat → Nat → Int32) (J : Nat → Nat → Int64) : am_G am_prog (N + 30) (d + 2) 213 [.ref 135] (mkh X I J) = RX9_isVoice_0 N d (N + 30) X I J := fX9_isVoice (N + 30) (d + 1) I J
def RX9_isAge_0 (N d n : Nat) (X : lt_X) (I : Nat → Nat → Int32) (J : Nat → Nat → Int64) : am_O := am_run (am_G am_prog (N + 30) (d + 1)) eX9_isAge uX9_isAge n 0 [(0, .ref 135)] [] (mkh X I J)
def KX9_isAge_0 (N d n : Nat) (z : Int32) (h : am_H) : am_O := am_nb z (some (.int z, h))
set_option maxHeartbeats 4000000 in
set_option maxRecDepth 100000 in
theorem sX9_isAge_0 (N d n : Nat) {X : lt_X} (I : Nat → Nat → Int32) (J : Nat → Nat → Int64) : RX9_isAge_0 N d (n + 1) X I J = am_cI (am_G am_prog (N + 30) (d + 1) 210 [.ref 135, .long (lN 1253)] (mkh X I J)) (KX9_isAge_0 N d n ) := by
  rfl
set_option maxHeartbeats 4000000 in
set_option maxRecDepth 100000 in
theorem kX9_isAge_0 (N d n : Nat) {X : lt_X} (z : Int32) (I : Nat → Nat → Int32) (J : Nat → Nat → Int64) : KX9_isAge_0 N d n z (mkh X I J) = am_nb z (some (.int z, (mkh X I J))) := by
  rfl
theorem fX9_isAge (N d : Nat) {X : lt_X} (I : Nat → Nat → Int32) (J : Nat → Nat → Int64) : am_G am_prog N (d + 1) 214 [.ref 135] (mkh X I J) = am_run (am_G am_prog N d) eX9_isAge uX9_isAge N 0 [(0, .ref 135)] [] (mkh X I J) := by
  refine (am_G_at N d 214 mX9_isAge _ _ rfl).trans ?_
  rfl
theorem gX9_isAge (N d : Nat) {X : lt_X} (I : Nat → Nat → Int32) (J : Nat → Nat → Int64) : am_G am_prog (N + 30) (d + 2) 214 [.ref 135] (mkh X I J) = RX9_isAge_0 N d (N + 30) X I J := fX9_isAge (N + 30) (d + 1) I J
def RX9_isLife_0 (N d n : Nat) (X : lt_X) (I : Nat → Nat → Int32) (J : Nat → Nat → Int64) : am_O := am_run (am_G am_prog (N + 30) (d + 1)) eX9_isLife uX9_isLife n 0 [(0, .ref 135)] [] (mkh X I J)
def KX9_isLife_0 (N d n : Nat) (z : Int32) (h : am_H) : am_O := am_nb z (some (.int z, h))
set_option maxHeartbeats 4000000 in
set_option maxRecDepth 100000 in
theorem sX9_isLife_0 (N d n : Nat) {X : lt_X} (I : Nat → Nat → Int32) (J : Nat → Nat → Int64) : RX9_isLife_0 N d (n + 1) X I J = am_cI (am_G am_prog (N + 30) (d + 1) 210 [.ref 135, .long (lN 402629)] (mkh X I J)) (KX9_isLife_0 N d n ) := by
  rfl
set_option maxHeartbeats 4000000 in
set_option maxRecDepth 100000 in
theorem kX9_isLife_0 (N d n : Nat) {X : lt_X} (z : Int32) (I : Nat → Nat → Int32) (J : Nat → Nat → Int64) : KX9_isLife_0 N d n z (mkh X I J) = am_nb z (some (.int z, (mkh X I J))) := by
  rfl
theorem fX9_isLife (N d : Nat) {X : lt_X} (I : Nat → Nat → Int32) (J : Nat → Nat → Int64) : am_G am_prog N (d + 1) 215 [.ref 135] (mkh X I J) = am_run (am_G am_prog N d) eX9_isLife uX9_isLife N 0 [(0, .ref 135)] [] (mkh X I J) := by
  refine (am_G_at N d 215 mX9_isLife _ _ rfl).trans ?_
  rfl
theorem gX9_isLife (N d : Nat) {X : lt_X} (I : Nat → Nat → Int32) (J : Nat → Nat → Int64) : am_G am_prog (N + 30) (d + 2) 215 [.ref 135] (mkh X I J) = RX9_isLife_0 N d (N + 30) X I J := fX9_isLife (N + 30) (d + 1) I J
def RX9_isSays_0 (N d n : Nat) (X : lt_X) (I : Nat → Nat → Int32) (J : Nat → Nat → Int64) : am_O := am_run (am_G am_prog (N + 30) (d + 1)) eX9_isSays uX9_isSays n 0 [(0, .ref 135)] [] (mkh X I J)
def KX9_isSays_0 (N d n : Nat) (z : Int32) (h : am_H) : am_O := am_nb z (some (.int z, h))
set_option maxHeartbeats 4000000 in
set_option maxRecDepth 100000 in
theorem sX9_isSays_0 (N d n : Nat) {X : lt_X} (I : Nat → Nat → Int32) (J : Nat → Nat → Int64) : RX9_isSays_0 N d (n + 1) X I J = am_cI (am_G am_prog (N + 30) (d + 1) 210 [.ref 135, .long (lN 624435)] (mkh X I J)) (KX9_isSays_0 N d n ) := by
  rfl
set_option maxHeartbeats 4000000 in
set_option maxRecDepth 100000 in
theorem kX9_isSays_0 (N d n : Nat) {X : lt_X} (z : Int32) (I : Nat → Nat → Int32) (J : Nat → Nat → Int64) : KX9_isSays_0 N d n z (mkh X I J) = am_nb z (some (.int z, (mkh X I J))) := by
  rfl
theorem fX9_isSays (N d : Nat) {X : lt_X} (I : Nat → Nat → Int32) (J : Nat → Nat → Int64) : am_G am_prog N (d + 1) 216 [.ref 135] (mkh X I J) = am_run (am_G am_prog N d) eX9_isSays uX9_isSays N 0 [(0, .ref 135)] [] (mkh X I J) := by
  refine (am_G_at N d 216 mX9_isSays _ _ rfl).trans ?_
  rfl
theorem gX9_isSays (N d : Nat) {X : lt_X} (I : Nat → Nat → Int32) (J : Nat → Nat → Int64) : am_G am_prog (N + 30) (d + 2) 216 [.ref 135] (mkh X I J) = RX9_isSays_0 N d (N + 30) X I J := fX9_isSays (N + 30) (d + 1) I J
def RX9_isPerson_0 (N d n : Nat) (X : lt_X) (I : Nat → Nat → Int32) (J : Nat → Nat → Int64) : am_O := am_run (am_G am_prog (N + 30) (d + 1)) eX9_isPerson uX9_isPerson n 0 [(0, .ref 135)] [] (mkh X I J)
def KX9_isPerson_0 (N d n : Nat) (z : Int32) (h : am_H) : am_O := am_nb z (some (.int z, h))
set_option maxHeartbeats 4000000 in
set_option maxRecDepth 100000 in
theorem sX9_isPerson_0 (N d n : Nat) {X : lt_X} (I : Nat → Nat → Int32) (J : Nat → Nat → Int64) : RX9_isPerson_0 N d (n + 1) X I J = am_cI (am_G am_prog (N + 30) (d + 1) 210 [.ref 135, .long (lN 542723566)] (mkh X I J)) (KX9_isPerson_0 N d n ) := by
  rfl
set_option maxHeartbeats 4000000 in
set_option maxRecDepth 100000 in
theorem kX9_isPerson_0 (N d n : Nat) {X : lt_X} (z : Int32) (I : Nat → Nat → Int32) (J : Nat → Nat → Int64) : KX9_isPerson_0 N d n z (mkh X I J) = am_nb z (some (.int z, (mkh X I J))) := by
  rfl
theorem fX9_isPerson (N d : Nat) {X : lt_X} (I : Nat → Nat → Int32) (J : Nat → Nat → Int64) : am_G am_prog N (d + 1) 217 [.ref 135] (mkh X I J) = am_run (am_G am_prog N d) eX9_isPerson uX9_isPerson N 0 [(0, .ref 135)] [] (mkh X I J) := by
  refine (am_G_at N d 217 mX9_isPerson _ _ rfl).trans ?_
  rfl
theorem gX9_isPerson (N d : Nat) {X : lt_X} (I : Nat → Nat → Int32) (J : Nat → Nat → Int64) : am_G am_prog (N + 30) (d + 2) 217 [.ref 135] (mkh X I J) = RX9_isPerson_0 N d (N + 30) X I J := fX9_isPerson (N + 30) (d + 1) I J
def RX9_isCoins_0 (N d n : Nat) (X : lt_X) (I : Nat → Nat → Int32) (J : Nat → Nat → Int64) : am_O := am_run (am_G am_prog (N + 30) (d + 1)) eX9_isCoins uX9_isCoins n 0 [(0, .ref 135)] [] (mkh X I J)
def KX9_isCoins_0 (N d n : Nat) (z : Int32) (h : am_H) : am_O := am_nb z (some (.int z, h))
set_option maxHeartbeats 4000000 in
set_option maxRecDepth 100000 in
theorem sX9_isCoins_0 (N d n : Nat) {X : lt_X} (I : Nat → Nat → Int32) (J : Nat → Nat → Int64) : RX9_isCoins_0 N d (n + 1) X I J = am_cI (am_G am_prog (N + 30) (d + 1) 210 [.ref 135, .long (lN 3646931)] (mkh X I J)) (KX9_isCoins_0 N d n ) := by
  rfl
set_option maxHeartbeats 4000000 in
set_option maxRecDepth 100000 in
theorem kX9_isCoins_0 (N d n : Nat) {X : lt_X} (z : Int32) (I : Nat → Nat → Int32) (J : Nat → Nat → Int64) : KX9_isCoins_0 N d n z (mkh X I J) = am_nb z (some (.int z, (mkh X I J))) := by
  rfl
theorem fX9_isCoins (N d : Nat) {X : lt_X} (I : Nat → Nat → Int32) (J : Nat → Nat → Int64) : am_G am_prog N (d + 1) 218 [.ref 135] (mkh X I J) = am_run (am_G am_prog N d) eX9_isCoins uX9_isCoins N 0 [(0, .ref 135)] [] (mkh X I J) := by
  refine (am_G_at N d 218 mX9_isCoins _ _ rfl).trans ?_
  rfl
theorem gX9_isCoins (N d : Nat) {X : lt_X} (I : Nat → Nat → Int32) (J : Nat → Nat → Int64) : am_G am_prog (N + 30) (d + 2) 218 [.ref 135] (mkh X I J) = RX9_isCoins_0 N d (N + 30) X I J := fX9_isCoins (N + 30) (d + 1) I J
def RX9_isLikes_0 (N d n : Nat) (X : lt_X) (I : Nat → Nat → Int32) (J : Nat → Nat → Int64) : am_O := am_run (am_G am_prog (N + 30) (d + 1)) eX9_isLikes uX9_isLikes n 0 [(0, .ref 135)] [] (mkh X I J)
def KX9_isLikes_0 (N d n : Nat) (z : Int32) (h : am_H) : am_O := am_nb z (some (.int z, h))
set_option maxHeartbeats 4000000 in
set_option maxRecDepth 100000 in
theorem sX9_isLikes_0 (N d n : Nat) {X : lt_X} (I : Nat → Nat → Int32) (J : Nat → Nat → Int64) : RX9_isLikes_0 N d (n + 1) X I J = am_cI (am_G am_prog (N + 30) (d + 1) 210 [.ref 135, .long (lN 12889267)] (mkh X I J)) (KX9_isLikes_0 N d n ) := by
  rfl
set_option maxHeartbeats 4000000 in
set_option maxRecDepth 100000 in
theorem kX9_isLikes_0 (N d n : Nat) {X : lt_X} (z : Int32) (I : Nat → Nat → Int32) (J : Nat → Nat → Int64) : KX9_isLikes_0 N d n z (mkh X I J) = am_nb z (some (.int z, (mkh X I J))) := by
  rfl
theorem fX9_isLikes (N d : Nat) {X : lt_X} (I : Nat → Nat → Int32) (J : Nat → Nat → Int64) : am_G am_prog N (d + 1) 219 [.ref 135] (mkh X I J) = am_run (am_G am_prog N d) eX9_isLikes uX9_isLikes N 0 [(0, .ref 135)] [] (mkh X I J) := by
  refine (am_G_at N d 219 mX9_isLikes _ _ rfl).trans ?_
  rfl
theorem gX9_isLikes (N d : Nat) {X : lt_X} (I : Nat → Nat → Int32) (J : Nat → Nat → Int64) : am_G am_prog (N + 30) (d + 2) 219 [.ref 135] (mkh X I J) = RX9_isLikes_0 N d (N + 30) X I J := fX9_isLikes (N + 30) (d + 1) I J
def RX9_isSet_0 (N d n : Nat) (X : lt_X) (I : Nat → Nat → Int32) (J : Nat → Nat → Int64) : am_O := am_run (am_G am_prog (N + 30) (d + 1)) eX9_isSet uX9_isSet n 0 [(0, .ref 135)] [] (mkh X I J)
def KX9_isSet_0 (N d n : Nat) (z : Int32) (h : am_H) : am_O := am_nb z (some (.int z, h))
set_option maxHeartbeats 4000000 in
set_option maxRecDepth 100000 in
theorem sX9_isSet_0 (N d n : Nat) {X : lt_X} (I : Nat → Nat → Int32) (J : Nat → Nat → Int64) : RX9_isSet_0 N d (n + 1) X I J = am_cI (am_G am_prog (N + 30) (d + 1) 210 [.ref 135, .long (lN 19636)] (mkh X I J)) (KX9_isSet_0 N d n ) := by
  rfl
set_option maxHeartbeats 4000000 in
set_option maxRecDepth 100000 in
theorem kX9_isSet_0 (N d n : Nat) {X : lt_X} (z : Int32) (I : Nat → Nat → Int32) (J : Nat → Nat → Int64) : KX9_isSet_0 N d n z (mkh X I J) = am_nb z (some (.int z, (mkh X I J))) := by
  rfl
theorem fX9_isSet (N d : Nat) {X : lt_X} (I : Nat → Nat → Int32) (J : Nat → Nat → Int64) : am_G am_prog N (d + 1) 220 [.ref 135] (mkh X I J) = am_run (am_G am_prog N d) eX9_isSet uX9_isSet N 0 [(0, .ref 135)] [] (mkh X I J) := by
  refine (am_G_at N d 220 mX9_isSet _ _ rfl).trans ?_
  rfl
theorem gX9_isSet (N d : Nat) {X : lt_X} (I : Nat → Nat → Int32) (J : Nat → Nat → Int64) : am_G am_prog (N + 30) (d + 2) 220 [.ref 135] (mkh X I J) = RX9_isSet_0 N d (N + 30) X I J := fX9_isSet (N + 30) (d + 1) I J
def RX9_isGets_0 (N d n : Nat) (X : lt_X) (I : Nat → Nat → Int32) (J : Nat → Nat → Int64) : am_O := am_run (am_G am_prog (N + 30) (d + 1)) eX9_isGets uX9_isGets n 0 [(0, .ref 135)] [] (mkh X I J)
def KX9_isGets_0 (N d n : Nat) (z : Int32) (h : am_H) : am_O := am_nb z (some (.int z, h))
set_option maxHeartbeats 4000000 in
set_option maxRecDepth 100000 in
theorem sX9_isGets_0 (N d n : Nat) {X : lt_X} (I : Nat → Nat → Int32) (J : Nat → Nat → Int64) : RX9_isGets_0 N d (n + 1) X I J = am_cI (am_G am_prog (N + 30) (d + 1) 210 [.ref 135, .long (lN 235155)] (mkh X I J)) (KX9_isGets_0 N d n ) := by
  rfl
set_option maxHeartbeats 4000000 in
set_option maxRecDepth 100000 in
theorem kX9_isGets_0 (N d n : Nat) {X : lt_X} (z : Int32) (I : Nat → Nat → Int32) (J : Nat → Nat → Int64) : KX9_isGets_0 N d n z (mkh X I J) = am_nb z (some (.int z, (mkh X I J))) := by
  rfl
theorem fX9_isGets (N d : Nat) {X : lt_X} (I : Nat → Nat → Int32) (J : Nat → Nat → Int64) : am_G am_prog N (d + 1) 221 [.ref 135] (mkh X I J) = am_run (am_G am_prog N d) eX9_isGets uX9_isGets N 0 [(0, .ref 135)] [] (mkh X I J) := by
  refine (am_G_at N d 221 mX9_isGets _ _ rfl).trans ?_
  rfl
theorem gX9_isGets (N d : Nat) {X : lt_X} (I : Nat → Nat → Int32) (J : Nat → Nat → Int64) : am_G am_prog (N + 30) (d + 2) 221 [.ref 135] (mkh X I J) = RX9_isGets_0 N d (N + 30) X I J := fX9_isGets (N + 30) (d + 1) I J
def RX9_isFlaw_0 (N d n : Nat) (X : lt_X) (I : Nat → Nat → Int32) (J : Nat → Nat → Int64) : am_O := am_run (am_G am_prog (N + 30) (d + 1)) eX9_isFlaw uX9_isFlaw n 0 [(0, .ref 135)] [] (mkh X I J)
def KX9_isFlaw_0 (N d n : Nat) (z : Int32) (h : am_H) : am_O := am_nb z (some (.int z, h))
set_option maxHeartbeats 4000000 in
set_option maxRecDepth 100000 in
theorem sX9_isFlaw_0 (N d n : Nat) {X : lt_X} (I : Nat → Nat → Int32) (J : Nat → Nat → Int64) : RX9_isFlaw_0 N d (n + 1) X I J = am_cI (am_G am_prog (N + 30) (d + 1) 210 [.ref 135, .long (lN 208951)] (mkh X I J)) (KX9_isFlaw_0 N d n ) := by
  rfl
set_option maxHeartbeats 4000000 in
set_option maxRecDepth 100000 in
theorem kX9_isFlaw_0 (N d n : Nat) {X : lt_X} (z : Int32) (I : Nat → Nat → Int32) (J : Nat → Nat → Int64) : KX9_isFlaw_0 N d n z (mkh X I J) = am_nb z (some (.int z, (mkh X I J))) := by
  rfl
theorem fX9_isFlaw (N d : Nat) {X : lt_X} (I : Nat → Nat → Int32) (J : Nat → Nat → Int64) : am_G am_prog N (d + 1) 222 [.ref 135] (mkh X I J) = am_run (am_G am_prog N d) eX9_isFlaw uX9_isFlaw N 0 [(0, .ref 135)] [] (mkh X I J) := by
  refine (am_G_at N d 222 mX9_isFlaw _ _ rfl).trans ?_
  rfl
theorem gX9_isFlaw (N d : Nat) {X : lt_X} (I : Nat → Nat → Int32) (J : Nat → Nat → Int64) : am_G am_prog (N + 30) (d + 2) 222 [.ref 135] (mkh X I J) = RX9_isFlaw_0 N d (N + 30) X I J := fX9_isFlaw (N + 30) (d + 1) I J
def RX9_isFor_0 (N d n : Nat) (X : lt_X) (I : Nat → Nat → Int32) (J : Nat → Nat → Int64) : am_O := am_run (am_G am_prog (N + 30) (d + 1)) eX9_isFor uX9_isFor n 0 [(0, .ref 135)] [] (mkh X I J)
def KX9_isFor_0 (N d n : Nat) (z : Int32) (h : am_H) : am_O := am_nb z (some (.int z, h))
set_option maxHeartbeats 4000000 in
set_option maxRecDepth 100000 in
theorem sX9_isFor_0 (N d n : Nat) {X : lt_X} (I : Nat → Nat → Int32) (J : Nat → Nat → Int64) : RX9_isFor_0 N d (n + 1) X I J = am_cI (am_G am_prog (N + 30) (d + 1) 210 [.ref 135, .long (lN 6642)] (mkh X I J)) (KX9_isFor_0 N d n ) := by
  rfl
set_option maxHeartbeats 4000000 in
set_option maxRecDepth 100000 in
theorem kX9_isFor_0 (N d n : Nat) {X : lt_X} (z : Int32) (I : Nat → Nat → Int32) (J : Nat → Nat → Int64) : KX9_isFor_0 N d n z (mkh X I J) = am_nb z (some (.int z, (mkh X I J))) := by
  rfl
theorem fX9_isFor (N d : Nat) {X : lt_X} (I : Nat → Nat → Int32) (J : Nat → Nat → Int64) : am_G am_prog N (d + 1) 223 [.ref 135] (mkh X I J) = am_run (am_G am_prog N d) eX9_isFor uX9_isFor N 0 [(0, .ref 135)] [] (mkh X I J) := by
  refine (am_G_at N d 223 mX9_isFor _ _ rfl).trans ?_
  rfl
theorem gX9_isFor (N d : Nat) {X : lt_X} (I : Nat → Nat → Int32) (J : Nat → Nat → Int64) : am_G am_prog (N + 30) (d + 2) 223 [.ref 135] (mkh X I J) = RX9_isFor_0 N d (N + 30) X I J := fX9_isFor (N + 30) (d + 1) I J
def RX9_stepWord_0 (N d n : Nat) (X : lt_X) (I : Nat → Nat → Int32) (J : Nat → Nat → Int64) : am_O := am_run (am_G am_prog (N + 30) (d + 1)) eX9_stepWord uX9_stepWord n 0 [(0, .ref 135)] [] (mkh X I J)
def KX9_stepWord_0 (N d n : Nat) (z : Int32) (h : am_H) : am_O := if z = nI 0 then am_cL (am_G am_prog (N + 30) (d + 1) 209 [.int (nI 121), .int (nI 101), .int (nI 97), .int (nI 114), .int (nI 0), .int (nI 0)] h) (fun r2 h1 => am_cI (am_G am_prog (N + 30) (d + 1) 210 [.ref 135, .long r2] h1) (fun r4 h3 => if r4 = nI 0 then am_cL (am_G am_prog (N + 30) (d + 1) 209 [.int (nI 115), .int (nI 101), .int (nI 108), .int (nI 108), .int (nI 0), .int (nI 0)] h3) (fun r6 h5 => am_cI (am_G am_prog (N + 30) (d + 1) 210 [.ref 135, .long r6] h5) (fun r8 h7 => if r8 = nI 0 then am_cL (am_G am_prog (N + 30) (d + 1) 209 [.int (nI 103), .int (nI 105), .int (nI 118), .int (nI 101), .int (nI 0), .int (nI 0)] h7) (fun r10 h9 => am_cI (am_G am_prog (N + 30) (d + 1) 210 [.ref 135, .long r10] h9) (fun r12 h11 => if r12 = nI 0 then am_cL (am_G am_prog (N + 30) (d + 1) 209 [.int (nI 99), .int (nI 111), .int (nI 108), .int (nI 100), .int (nI 0), .int (nI 0)] h11) (fun r14 h13 => am_cI (am_G am_prog (N + 30) (d + 1) 210 [.ref 135, .long r14] h13) (fun r16 h15 => if r16 = nI 0 then am_cL (am_G am_prog (N + 30) (d + 1) 209 [.int (nI 119), .int (nI 101), .int (nI 108), .int (nI 108), .int (nI 0), .int (nI 0)] h15) (fun r18 h17 => am_cI (am_G am_prog (N + 30) (d + 1) 210 [.ref 135, .long r18] h17) (fun r20 h19 => if r20 = nI 0 then am_cL (am_G am_prog (N + 30) (d + 1) 209 [.int (nI 97), .int (nI 110), .int (nI 121), .int (nI 0), .int (nI 0), .int (nI 0)] h19) (fun r22 h21 => am_cI (am_G am_prog (N + 30) (d + 1) 210 [.ref 135, .long r22] h21) (fun r24 h23 => if r24 = nI 0 then am_cL (am_G am_prog (N + 30) (d + 1) 209 [.int (nI 119), .int (nI 104), .int (nI 101), .int (nI 110), .int (nI 0), .int (nI 0)] h23) (fun r26 h25 => am_cI (am_G am_prog (N + 30) (d + 1) 210 [.ref 135, .long r26] h25) (fun r28 h27 => if r28 = nI 0 then am_cL (am_G am_prog (N + 30) (d + 1) 209 [.int (nI 108), .int (nI 111), .int (nI 111), .int (nI 112), .int (nI 0), .int (nI 0)] h27) (fun r30 h29 => am_cI (am_G am_prog (N + 30) (d + 1) 210 [.ref 135, .long r30] h29) (fun r32 h31 => if r32 = nI 0 then am_cL (am_G am_prog (N + 30) (d + 1) 209 [.int (nI 115), .int (nI 116), .int (nI 111), .int (nI 112), .int (nI 0), .int (nI 0)] h31) (fun r34 h33 => am_cI (am_G am_prog (N + 30) (d + 1) 210 [.ref 135, .long r34] h33) (fun r36 h35 => if r36 = nI 0 then some (.int (-1), h35) else some (.int (nI 9), h35))) else some (.int (nI 8), h31))) else some (.int (nI 7), h27))) else some (.int (nI 6), h23))) else some (.int (nI 5), h19))) else some (.int (nI 4), h15))) else some (.int (nI 3), h11))) else some (.int (nI 2), h7))) else some (.int (nI 1), h3))) else some (.int (nI 0), h)
def KX9_stepWord_1 (N d n : Nat) (z : Int32) (h : am_H) : am_O := if z = nI 0 then am_cL (am_G am_prog (N + 30) (d + 1) 209 [.int (nI 115), .int (nI 101), .int (nI 108), .int (nI 108), .int (nI 0), .int (nI 0)] h) (fun r2 h1 => am_cI (am_G am_prog (N + 30) (d + 1) 210 [.ref 135, .long r2] h1) (fun r4 h3 => if r4 = nI 0 then am_cL (am_G am_prog (N + 30) (d + 1) 209 [.int (nI 103), .int (nI 105), .int (nI 118), .int (nI 101), .int (nI 0), .int (nI 0)] h3) (fun r6 h5 => am_cI (am_G am_prog (N + 30) (d + 1) 210 [.ref 135, .long r6] h5) (fun r8 h7 => if r8 = nI 0 then am_cL (am_G am_prog (N + 30) (d + 1) 209 [.int (nI 99), .int (nI 111), .int (nI 108), .int (nI 100), .int (nI 0), .int (nI 0)] h7) (fun r10 h9 => am_cI (am_G am_prog (N + 30) (d + 1) 210 [.ref 135, .long r10] h9) (fun r12 h11 => if r12 = nI 0 then am_cL (am_G am_prog (N + 30) (d + 1) 209 [.int (nI 119), .int (nI 101), .int (nI 108), .int (nI 108), .int (nI 0), .int (nI 0)] h11) (fun r14 h13 => am_cI (am_G am_prog (N + 30) (d + 1) 210 [.ref 135, .long r14] h13) (fun r16 h15 => if r16 = nI 0 then am_cL (am_G am_prog (N + 30) (d + 1) 209 [.int (nI 97), .int (nI 110), .int (nI 121), .int (nI 0), .int (nI 0), .int (nI 0)] h15) (fun r18 h17 => am_cI (am_G am_prog (N + 30) (d + 1) 210 [.ref 135, .long r18] h17) (fun r20 h19 => if r20 = nI 0 then am_cL (am_G am_prog (N + 30) (d + 1) 209 [.int (nI 119), .int (nI 104), .int (nI 101), .int (nI 110), .int (nI 0), .int (nI 0)] h19) (fun r22 h21 => am_cI (am_G am_prog (N + 30) (d + 1) 210 [.ref 135, .long r22] h21) (fun r24 h23 => if r24 = nI 0 then am_cL (am_G am_prog (N + 30) (d + 1) 209 [.int (nI 108), .int (nI 111), .int (nI 111), .int (nI 112), .int (nI 0), .int (nI 0)] h23) (fun r26 h25 => am_cI (am_G am_prog (N + 30) (d + 1) 210 [.ref 135, .long r26] h25) (fun r28 h27 => if r28 = nI 0 then am_cL (am_G am_prog (N + 30) (d + 1) 209 [.int (nI 115), .int (nI 116), .int (nI 111), .int (nI 112), .int (nI 0), .int (nI 0)] h27) (fun r30 h29 => am_cI (am_G am_prog (N + 30) (d + 1) 210 [.ref 135, .long r30] h29) (fun r32 h31 => if r32 = nI 0 then some (.int (-1), h31) else some (.int (nI 9), h31))) else some (.int (nI 8), h27))) else some (.int (nI 7), h23))) else some (.int (nI 6), h19))) else some (.int (nI 5), h15))) else some (.int (nI 4), h11))) else some (.int (nI 3), h7))) else some (.int (nI 2), h3))) else some (.int (nI 1), h)
def KX9_stepWord_2 (N d n : Nat) (z : Int32) (h : am_H) : am_O := if z = nI 0 then am_cL (am_G am_prog (N + 30) (d + 1) 209 [.int (nI 103), .int (nI 105), .int (nI 118), .int (nI 101), .int (nI 0), .int (nI 0)] h) (fun r2 h1 => am_cI (am_G am_prog (N + 30) (d + 1) 210 [.ref 135, .long r2] h1) (fun r4 h3 => if r4 = nI 0 then am_cL (am_G am_prog (N + 30) (d + 1) 209 [.int (nI 99), .int (nI 111), .int (nI 108), .int (nI 100), .int (nI 0), .int (nI 0)] h3) (fun r6 h5 => am_cI (am_G am_prog (N + 30) (d + 1) 210 [.ref 135, .long r6] h5) (fun r8 h7 => if r8 = nI 0 then am_cL (am_G am_prog (N + 30) (d + 1) 209 [.int (nI 119), .int (nI 101), .int (nI 108), .int (nI 108), .int (nI 0), .int (nI 0)] h7) (fun r10 h9 => am_cI (am_G am_prog (N + 30) (d + 1) 210 [.ref 135, .long r10] h9) (fun r12 h11 => if r12 = nI 0 then am_cL (am_G am_prog (N + 30) (d + 1) 209 [.int (nI 97), .int (nI 110), .int (nI 121), .int (nI 0), .int (nI 0), .int (nI 0)] h11) (fun r14 h13 => am_cI (am_G am_prog (N + 30) (d + 1) 210 [.ref 135, .long r14] h13) (fun r16 h15 => if r16 = nI 0 then am_cL (am_G am_prog (N + 30) (d + 1) 209 [.int (nI 119), .int (nI 104), .int (nI 101), .int (nI 110), .int (nI 0), .int (nI 0)] h15) (fun r18 h17 => am_cI (am_G am_prog (N + 30) (d + 1) 210 [.ref 135, .long r18] h17) (fun r20 h19 => if r20 = nI 0 then am_cL (am_G am_prog (N + 30) (d + 1) 209 [.int (nI 108), .int (nI 111), .int (nI 111), .int (nI 112), .int (nI 0), .int (nI 0)] h19) (fun r22 h21 => am_cI (am_G am_prog (N + 30) (d + 1) 210 [.ref 135, .long r22] h21) (fun r24 h23 => if r24 = nI 0 then am_cL (am_G am_prog (N + 30) (d + 1) 209 [.int (nI 115), .int (nI 116), .int (nI 111), .int (nI 112), .int (nI 0), .int (nI 0)] h23) (fun r26 h25 => am_cI (am_G am_prog (N + 30) (d + 1) 210 [.ref 135, .long r26] h25) (fun r28 h27 => if r28 = nI 0 then some (.int (-1), h27) else some (.int (nI 9), h27))) else some (.int (nI 8), h23))) else some (.int (nI 7), h19))) else some (.int (nI 6), h15))) else some (.int (nI 5), h11))) else some (.int (nI 4), h7))) else some (.int (nI 3), h3))) else some (.int (nI 2), h)
def KX9_stepWord_3 (N d n : Nat) (z : Int32) (h : am_H) : am_O := if z = nI 0 then am_cL (am_G am_prog (N + 30) (d + 1) 209 [.int (nI 99), .int (nI 111), .int (nI 108), .int (nI 100), .int (nI 0), .int (nI 0)] h) (fun r2 h1 => am_cI (am_G am_prog (N + 30) (d + 1) 210 [.ref 135, .long r2] h1) (fun r4 h3 => if r4 = nI 0 then am_cL (am_G am_prog (N + 30) (d + 1) 209 [.int (nI 119), .int (nI 101), .int (nI 108), .int (nI 108), .int (nI 0), .int (nI 0)] h3) (fun r6 h5 => am_cI (am_G am_prog (N + 30) (d + 1) 210 [.ref 135, .long r6] h5) (fun r8 h7 => if r8 = nI 0 then am_cL (am_G am_prog (N + 30) (d + 1) 209 [.int (nI 97), .int (nI 110), .int (nI 121), .int (nI 0), .int (nI 0), .int (nI 0)] h7) (fun r10 h9 => am_cI (am_G am_prog (N + 30) (d + 1) 210 [.ref 135, .long r10] h9) (fun r12 h11 => if r12 = nI 0 then am_cL (am_G am_prog (N + 30) (d + 1) 209 [.int (nI 119), .int (nI 104), .int (nI 101), .int (nI 110), .int (nI 0), .int (nI 0)] h11) (fun r14 h13 => am_cI (am_G am_prog (N + 30) (d + 1) 210 [.ref 135, .long r14] h13) (fun r16 h15 => if r16 = nI 0 then am_cL (am_G am_prog (N + 30) (d + 1) 209 [.int (nI 108), .int (nI 111), .int (nI 111), .int (nI 112), .int (nI 0), .int (nI 0)] h15) (fun r18 h17 => am_cI (am_G am_prog (N + 30) (d + 1) 210 [.ref 135, .long r18] h17) (fun r20 h19 => if r20 = nI 0 then am_cL (am_G am_prog (N + 30) (d + 1) 209 [.int (nI 115), .int (nI 116), .int (nI 111), .int (nI 112), .int (nI 0), .int (nI 0)] h19) (fun r22 h21 => am_cI (am_G am_prog (N + 30) (d + 1) 210 [.ref 135, .long r22] h21) (fun r24 h23 => if r24 = nI 0 then some (.int (-1), h23) else some (.int (nI 9), h23))) else some (.int (nI 8), h19))) else some (.int (nI 7), h15))) else some (.int (nI 6), h11))) else some (.int (nI 5), h7))) else some (.int (nI 4), h3))) else some (.int (nI 3), h)
def KX9_stepWord_4 (N d n : Nat) (z : Int32) (h : am_H) : am_O := if z = nI 0 then am_cL (am_G am_prog (N + 30) (d + 1) 209 [.int (nI 119), .int (nI 101), .int (nI 108), .int (nI 108), .int (nI 0), .int (nI 0)] h) (fun r2 h1 => am_cI (am_G am_prog (N + 30) (d + 1) 210 [.ref 135, .long r2] h1) (fun r4 h3 => if r4 = nI 0 then am_cL (am_G am_prog (N + 30) (d + 1) 209 [.int (nI 97), .int (nI 110), .int (nI 121), .int (nI 0), .int (nI 0), .int (nI 0)] h3) (fun r6 h5 => am_cI (am_G am_prog (N + 30) (d + 1) 210 [.ref 135, .long r6] h5) (fun r8 h7 => if r8 = nI 0 then am_cL (am_G am_prog (N + 30) (d + 1) 209 [.int (nI 119), .int (nI 104), .int (nI 101), .int (nI 110), .int (nI 0), .int (nI 0)] h7) (fun r10 h9 => am_cI (am_G am_prog (N + 30) (d + 1) 210 [.ref 135, .long r10] h9) (fun r12 h11 => if r12 = nI 0 then am_cL (am_G am_prog (N + 30) (d + 1) 209 [.int (nI 108), .int (nI 111), .int (nI 111), .int (nI 112), .int (nI 0), .int (nI 0)] h11) (fun r14 h13 => am_cI (am_G am_prog (N + 30) (d + 1) 210 [.ref 135, .long r14] h13) (fun r16 h15 => if r16 = nI 0 then am_cL (am_G am_prog (N + 30) (d + 1) 209 [.int (nI 115), .int (nI 116), .int (nI 111), .int (nI 112), .int (nI 0), .int (nI 0)] h15) (fun r18 h17 => am_cI (am_G am_prog (N + 30) (d + 1) 210 [.ref 135, .long r18] h17) (fun r20 h19 => if r20 = nI 0 then some (.int (-1), h19) else some (.int (nI 9), h19))) else some (.int (nI 8), h15))) else some (.int (nI 7), h11))) else some (.int (nI 6), h7))) else some (.int (nI 5), h3))) else some (.int (nI 4), h)
def KX9_stepWord_5 (N d n : Nat) (z : Int32) (h : am_H) : am_O := if z = nI 0 then am_cL (am_G am_prog (N + 30) (d + 1) 209 [.int (nI 97), .int (nI 110), .int (nI 121), .int (nI 0), .int (nI 0), .int (nI 0)] h) (fun r2 h1 => am_cI (am_G am_prog (N + 30) (d + 1) 210 [.ref 135, .long r2] h1) (fun r4 h3 => if r4 = nI 0 then am_cL (am_G am_prog (N + 30) (d + 1) 209 [.int (nI 119), .int (nI 104), .int (nI 101), .int (nI 110), .int (nI 0), .int (nI 0)] h3) (fun r6 h5 => am_cI (am_G am_prog (N + 30) (d + 1) 210 [.ref 135, .long r6] h5) (fun r8 h7 => if r8 = nI 0 then am_cL (am_G am_prog (N + 30) (d + 1) 209 [.int (nI 108), .int (nI 111), .int (nI 111), .int (nI 112), .int (nI 0), .int (nI 0)] h7) (fun r10 h9 => am_cI (am_G am_prog (N + 30) (d + 1) 210 [.ref 135, .long r10] h9) (fun r12 h11 => if r12 = nI 0 then am_cL (am_G am_prog (N + 30) (d + 1) 209 [.int (nI 115), .int (nI 116), .int (nI 111), .int (nI 112), .int (nI 0), .int (nI 0)] h11) (fun r14 h13 => am_cI (am_G am_prog (N + 30) (d + 1) 210 [.ref 135, .long r14] h13) (fun r16 h15 => if r16 = nI 0 then some (.int (-1), h15) else some (.int (nI 9), h15))) else some (.int (nI 8), h11))) else some (.int (nI 7), h7))) else some (.int (nI 6), h3))) else some (.int (nI 5), h)
def KX9_stepWord_6 (N d n : Nat) (z : Int32) (h : am_H) : am_O := if z = nI 0 then am_cL (am_G am_prog (N + 30) (d + 1) 209 [.int (nI 119), .int (nI 104), .int (nI 101), .int (nI 110), .int (nI 0), .int (nI 0)] h) (fun r2 h1 => am_cI (am_G am_prog (N + 30) (d + 1) 210 [.ref 135, .long r2] h1) (fun r4 h3 => if r4 = nI 0 then am_cL (am_G am_prog (N + 30) (d + 1) 209 [.int (nI 108), .int (nI 111), .int (nI 111), .int (nI 112), .int (nI 0), .int (nI 0)] h3) (fun r6 h5 => am_cI (am_G am_prog (N + 30) (d + 1) 210 [.ref 135, .long r6] h5) (fun r8 h7 => if r8 = nI 0 then am_cL (am_G am_prog (N + 30) (d + 1) 209 [.int (nI 115), .int (nI 116), .int (nI 111), .int (nI 112), .int (nI 0), .int (nI 0)] h7) (fun r10 h9 => am_cI (am_G am_prog (N + 30) (d + 1) 210 [.ref 135, .long r10] h9) (fun r12 h11 => if r12 = nI 0 then some (.int (-1), h11) else some (.int (nI 9), h11))) else some (.int (nI 8), h7))) else some (.int (nI 7), h3))) else some (.int (nI 6), h)
def KX9_stepWord_7 (N d n : Nat) (z : Int32) (h : am_H) : am_O := if z = nI 0 then am_cL (am_G am_prog (N + 30) (d + 1) 209 [.int (nI 108), .int (nI 111), .int (nI 111), .int (nI 112), .int (nI 0), .int (nI 0)] h) (fun r2 h1 => am_cI (am_G am_prog (N + 30) (d + 1) 210 [.ref 135, .long r2] h1) (fun r4 h3 => if r4 = nI 0 then am_cL (am_G am_prog (N + 30) (d + 1) 209 [.int (nI 115), .int (nI 116), .int (nI 111), .int (nI 112), .int (nI 0), .int (nI 0)] h3) (fun r6 h5 => am_cI (am_G am_prog (N + 30) (d + 1) 210 [.ref 135, .long r6] h5) (fun r8 h7 => if r8 = nI 0 then some (.int (-1), h7) else some (.int (nI 9), h7))) else some (.int (nI 8), h3))) else some (.int (nI 7), h)
def KX9_stepWord_8 (N d n : Nat) (z : Int32) (h : am_H) : am_O := if z = nI 0 then am_cL (am_G am_prog (N + 30) (d + 1) 209 [.int (nI 115), .int (nI 116), .int (nI 111), .int (nI 112), .int (nI 0), .int (nI 0)] h) (fun r2 h1 => am_cI (am_G am_prog (N + 30) (d + 1) 210 [.ref 135, .long r2] h1) (fun r4 h3 => if r4 = nI 0 then some (.int (-1), h3) else some (.int (nI 9), h3))) else some (.int (nI 8), h)
def KX9_stepWord_9 (N d n : Nat) (z : Int32) (h : am_H) : am_O := if z = nI 0 then some (.int (-1), h) else some (.int (nI 9), h)
set_option maxHeartbeats 4000000 in
set_option maxRecDepth 100000 in
theorem sX9_stepWord_0 (N d n : Nat) {X : lt_X} (I : Nat → Nat → Int32) (J : Nat → Nat → Int64) : RX9_stepWord_0 N d (n + 1) X I J = am_cI (am_G am_prog (N + 30) (d + 1) 210 [.ref 135, .long (lN 278194)] (mkh X I J)) (KX9_stepWord_0 N d n ) := by
  rfl
set_option maxHeartbeats 4000000 in
set_option maxRecDepth 100000 in
theorem kX9_stepWord_0 (N d n : Nat) {X : lt_X} (z : Int32) (I : Nat → Nat → Int32) (J : Nat → Nat → Int64) : KX9_stepWord_0 N d n z (mkh X I J) = if z = nI 0 then am_cI (am_G am_prog (N + 30) (d + 1) 210 [.ref 135, .long (lN 824370)] (mkh X I J)) (KX9_stepWord_1 N d n ) else some (.int (nI 0), (mkh X I J)) := by
  rfl
set_option maxHeartbeats 4000000 in
set_option maxRecDepth 100000 in
theorem kX9_stepWord_1 (N d n : Nat) {X : lt_X} (z : Int32) (I : Nat → Nat → Int32) (J : Nat → Nat → Int64) : KX9_stepWord_1 N d n z (mkh X I J) = if z = nI 0 then am_cI (am_G am_prog (N + 30) (d + 1) 210 [.ref 135, .long (lN 628108)] (mkh X I J)) (KX9_stepWord_2 N d n ) else some (.int (nI 1), (mkh X I J)) := by
  rfl
set_option maxHeartbeats 4000000 in
set_option maxRecDepth 100000 in
theorem kX9_stepWord_2 (N d n : Nat) {X : lt_X} (z : Int32) (I : Nat → Nat → Int32) (J : Nat → Nat → Int64) : KX9_stepWord_2 N d n z (mkh X I J) = if z = nI 0 then am_cI (am_G am_prog (N + 30) (d + 1) 210 [.ref 135, .long (lN 239301)] (mkh X I J)) (KX9_stepWord_3 N d n ) else some (.int (nI 2), (mkh X I J)) := by
  rfl
set_option maxHeartbeats 4000000 in
set_option maxRecDepth 100000 in
theorem kX9_stepWord_3 (N d n : Nat) {X : lt_X} (z : Int32) (I : Nat → Nat → Int32) (J : Nat → Nat → Int64) : KX9_stepWord_3 N d n z (mkh X I J) = if z = nI 0 then am_cI (am_G am_prog (N + 30) (d + 1) 210 [.ref 135, .long (lN 114052)] (mkh X I J)) (KX9_stepWord_4 N d n ) else some (.int (nI 3), (mkh X I J)) := by
  rfl
set_option maxHeartbeats 4000000 in
set_option maxRecDepth 100000 in
theorem kX9_stepWord_4 (N d n : Nat) {X : lt_X} (z : Int32) (I : Nat → Nat → Int32) (J : Nat → Nat → Int64) : KX9_stepWord_4 N d n z (mkh X I J) = if z = nI 0 then am_cI (am_G am_prog (N + 30) (d + 1) 210 [.ref 135, .long (lN 759180)] (mkh X I J)) (KX9_stepWord_5 N d n ) else some (.int (nI 4), (mkh X I J)) := by
  rfl
set_option maxHeartbeats 4000000 in
set_option maxRecDepth 100000 in
theorem kX9_stepWord_5 (N d n : Nat) {X : lt_X} (z : Int32) (I : Nat → Nat → Int32) (J : Nat → Nat → Int64) : KX9_stepWord_5 N d n z (mkh X I J) = if z = nI 0 then am_cI (am_G am_prog (N + 30) (d + 1) 210 [.ref 135, .long (lN 1497)] (mkh X I J)) (KX9_stepWord_6 N d n ) else some (.int (nI 5), (mkh X I J)) := by
  rfl
set_option maxHeartbeats 4000000 in
set_option maxRecDepth 100000 in
theorem kX9_stepWord_6 (N d n : Nat) {X : lt_X} (z : Int32) (I : Nat → Nat → Int32) (J : Nat → Nat → Int64) : KX9_stepWord_6 N d n z (mkh X I J) = if z = nI 0 then am_cI (am_G am_prog (N + 30) (d + 1) 210 [.ref 135, .long (lN 762030)] (mkh X I J)) (KX9_stepWord_7 N d n ) else some (.int (nI 6), (mkh X I J)) := by
  rfl
set_option maxHeartbeats 4000000 in
set_option maxRecDepth 100000 in
theorem kX9_stepWord_7 (N d n : Nat) {X : lt_X} (z : Int32) (I : Nat → Nat → Int32) (J : Nat → Nat → Int64) : KX9_stepWord_7 N d n z (mkh X I J) = if z = nI 0 then am_cI (am_G am_prog (N + 30) (d + 1) 210 [.ref 135, .long (lN 409072)] (mkh X I J)) (KX9_stepWord_8 N d n ) else some (.int (nI 7), (mkh X I J)) := by
  rfl
set_option maxHeartbeats 4000000 in
set_option maxRecDepth 100000 in
theorem kX9_stepWord_8 (N d n : Nat) {X : lt_X} (z : Int32) (I : Nat → Nat → Int32) (J : Nat → Nat → Int64) : KX9_stepWord_8 N d n z (mkh X I J) = if z = nI 0 then am_cI (am_G am_prog (N + 30) (d + 1) 210 [.ref 135, .long (lN 643568)] (mkh X I J)) (KX9_stepWord_9 N d n ) else some (.int (nI 8), (mkh X I J)) := by
  rfl
set_option maxHeartbeats 4000000 in
set_option maxRecDepth 100000 in
theorem kX9_stepWord_9 (N d n : Nat) {X : lt_X} (z : Int32) (I : Nat → Nat → Int32) (J : Nat → Nat → Int64) : KX9_stepWord_9 N d n z (mkh X I J) = if z = nI 0 then some (.int (-1), (mkh X I J)) else some (.int (nI 9), (mkh X I J)) := by
  rfl
theorem fX9_stepWord (N d : Nat) {X : lt_X} (I : Nat → Nat → Int32) (J : Nat → Nat → Int64) : am_G am_prog N (d + 1) 224 [.ref 135] (mkh X I J) = am_run (am_G am_prog N d) eX9_stepWord uX9_stepWord N 0 [(0, .ref 135)] [] (mkh X I J) := by
  refine (am_G_at N d 224 mX9_stepWord _ _ rfl).trans ?_
  rfl
theorem gX9_stepWord (N d : Nat) {X : lt_X} (I : Nat → Nat → Int32) (J : Nat → Nat → Int64) : am_G am_prog (N + 30) (d + 2) 224 [.ref 135] (mkh X I J) = RX9_stepWord_0 N d (N + 30) X I J := fX9_stepWord (N + 30) (d + 1) I J
def RX9_testWord_0 (N d n : Nat) (X : lt_X) (I : Nat → Nat → Int32) (J : Nat → Nat → Int64) : am_O := am_run (am_G am_prog (N + 30) (d + 1)) eX9_testWord uX9_testWord n 0 [(0, .ref 135)] [] (mkh X I J)
def KX9_testWord_0 (N d n : Nat) (z : Int32) (h : am_H) : am_O := if z = nI 0 then am_cL (am_G am_prog (N + 30) (d + 1) 209 [.int (nI 108), .int (nI 105), .int (nI 118), .int (nI 101), .int (nI 115), .int (nI 0)] h) (fun r2 h1 => am_cI (am_G am_prog (N + 30) (d + 1) 210 [.ref 135, .long r2] h1) (fun r4 h3 => if r4 = nI 0 then am_cL (am_G am_prog (N + 30) (d + 1) 209 [.int (nI 111), .int (nI 119), .int (nI 110), .int (nI 115), .int (nI 0), .int (nI 0)] h3) (fun r6 h5 => am_cI (am_G am_prog (N + 30) (d + 1) 210 [.ref 135, .long r6] h5) (fun r8 h7 => if r8 = nI 0 then some (.int (-1), h7) else some (.int (nI 2), h7))) else some (.int (nI 1), h3))) else some (.int (nI 0), h)
def KX9_testWord_1 (N d n : Nat) (z : Int32) (h : am_H) : am_O := if z = nI 0 then am_cL (am_G am_prog (N + 30) (d + 1) 209 [.int (nI 111), .int (nI 119), .int (nI 110), .int (nI 115), .int (nI 0), .int (nI 0)] h) (fun r2 h1 => am_cI (am_G am_prog (N + 30) (d + 1) 210 [.ref 135, .long r2] h1) (fun r4 h3 => if r4 = nI 0 then some (.int (-1), h3) else some (.int (nI 2), h3))) else some (.int (nI 1), h)
def KX9_testWord_2 (N d n : Nat) (z : Int32) (h : am_H) : am_O := if z = nI 0 then some (.int (-1), h) else some (.int (nI 2), h)
set_option maxHeartbeats 4000000 in
set_option maxRecDepth 100000 in
theorem sX9_testWord_0 (N d n : Nat) {X : lt_X} (I : Nat → Nat → Int32) (J : Nat → Nat → Int64) : RX9_testWord_0 N d (n + 1) X I J = am_cI (am_G am_prog (N + 30) (d + 1) 210 [.ref 135, .long (lN 241700)] (mkh X I J)) (KX9_testWord_0 N d n ) := by
  rfl
set_option maxHeartbeats 4000000 in
set_option maxRecDepth 100000 in
theorem kX9_testWord_0 (N d n : Nat) {X : lt_X} (z : Int32) (I : Nat → Nat → Int32) (J : Nat → Nat → Int64) : KX9_testWord_0 N d n z (mkh X I J) = if z = nI 0 then am_cI (am_G am_prog (N + 30) (d + 1) 210 [.ref 135, .long (lN 12900531)] (mkh X I J)) (KX9_testWord_1 N d n ) else some (.int (nI 0), (mkh X I J)) := by
  rfl
set_option maxHeartbeats 4000000 in
set_option maxRecDepth 100000 in
theorem kX9_testWord_1 (N d n : Nat) {X : lt_X} (z : Int32) (I : Nat → Nat → Int32) (J : Nat → Nat → Int64) : KX9_testWord_1 N d n z (mkh X I J) = if z = nI 0 then am_cI (am_G am_prog (N + 30) (d + 1) 210 [.ref 135, .long (lN 515539)] (mkh X I J)) (KX9_testWord_2 N d n ) else some (.int (nI 1), (mkh X I J)) := by
  rfl
set_option maxHeartbeats 4000000 in
set_option maxRecDepth 100000 in
theorem kX9_testWord_2 (N d n : Nat) {X : lt_X} (z : Int32) (I : Nat → Nat → Int32) (J : Nat → Nat → Int64) : KX9_testWord_2 N d n z (mkh X I J) = if z = nI 0 then some (.int (-1), (mkh X I J)) else some (.int (nI 2), (mkh X I J)) := by
  rfl
theorem fX9_testWord (N d : Nat) {X : lt_X} (I : Nat → Nat → Int32) (J : Nat → Nat → Int64) : am_G am_prog N (d + 1) 225 [.ref 135] (mkh X I J) = am_run (am_G am_prog N d) eX9_testWord uX9_testWord N 0 [(0, .ref 135)] [] (mkh X I J) := by
  refine (am_G_at N d 225 mX9_testWord _ _ rfl).trans ?_
  rfl
theorem gX9_testWord (N d : Nat) {X : lt_X} (I : Nat → Nat → Int32) (J : Nat → Nat → Int64) : am_G am_prog (N + 30) (d + 2) 225 [.ref 135] (mkh X I J) = RX9_testWord_0 N d (N + 30) X I J := fX9_testWord (N + 30) (d + 1) I J
def RX9_isEnd_0 (N d n : Nat) (X : lt_X) (I : Nat → Nat → Int32) (J : Nat → Nat → Int64) : am_O := am_run (am_G am_prog (N + 30) (d + 1)) eX9_isEnd uX9_isEnd n 0 [(0, .ref 135)] [] (mkh X I J)
def KX9_isEnd_0 (N d n : Nat) (z : Int32) (h : am_H) : am_O := am_nb z (some (.int z, h))
set_option maxHeartbeats 4000000 in
set_option maxRecDepth 100000 in
theorem sX9_isEnd_0 (N d n : Nat) {X : lt_X} (I : Nat → Nat → Int32) (J : Nat → Nat → Int64) : RX9_isEnd_0 N d (n + 1) X I J = am_cI (am_G am_prog (N + 30) (d + 1) 210 [.ref 135, .long (lN 5572)] (mkh X I J)) (KX9_isEnd_0 N d n ) := by
  rfl
set_option maxHeartbeats 4000000 in
set_option maxRecDepth 100000 in
theorem kX9_isEnd_0 (N d n : Nat) {X : lt_X} (z : Int32) (I : Nat → Nat → Int32) (J : Nat → Nat → Int64) : KX9_isEnd_0 N d n z (mkh X I J) = am_nb z (some (.int z, (mkh X I J))) := by
  rfl
theorem fX9_isEnd (N d : Nat) {X : lt_X} (I : Nat → Nat → Int32) (J : Nat → Nat → Int64) : am_G am_prog N (d + 1) 226 [.ref 135] (mkh X I J) = am_run (am_G am_prog N d) eX9_isEnd uX9_isEnd N 0 [(0, .ref 135)] [] (mkh X I J) := by
  refine (am_G_at N d 226 mX9_isEnd _ _ rfl).trans ?_
  rfl
theorem gX9_isEnd (N d : Nat) {X : lt_X} (I : Nat → Nat → Int32) (J : Nat → Nat → Int64) : am_G am_prog (N + 30) (d + 2) 226 [.ref 135] (mkh X I J) = RX9_isEnd_0 N d (N + 30) X I J := fX9_isEnd (N + 30) (d + 1) I J
def RX9_isKept_0 (N d n : Nat) (X : lt_X) (I : Nat → Nat → Int32) (J : Nat → Nat → Int64) : am_O := am_run (am_G am_prog (N + 30) (d + 0)) eX9_isKept uX9_isKept n 0 [(0, .ref 135)] [] (mkh X I J)
def KX9_isKept_0 (N d n : Nat) (z : Int32) (h : am_H) : am_O := if z = nI 0 then am_cI (am_G am_prog (N + 30) (d + 0) 212 [.ref 135] h) (fun r2 h1 => if r2 = nI 0 then am_cI (am_G am_prog (N + 30) (d + 0) 213 [.ref 135] h1) (fun r4 h3 => if r4 = nI 0 then am_cI (am_G am_prog (N + 30) (d + 0) 214 [.ref 135] h3) (fun r6 h5 => if r6 = nI 0 then am_cI (am_G am_prog (N + 30) (d + 0) 215 [.ref 135] h5) (fun r8 h7 => if r8 = nI 0 then am_cI (am_G am_prog (N + 30) (d + 0) 216 [.ref 135] h7) (fun r10 h9 => if r10 = nI 0 then am_cI (am_G am_prog (N + 30) (d + 0) 217 [.ref 135] h9) (fun r12 h11 => if r12 = nI 0 then am_cI (am_G am_prog (N + 30) (d + 0) 218 [.ref 135] h11) (fun r14 h13 => if r14 = nI 0 then am_cI (am_G am_prog (N + 30) (d + 0) 219 [.ref 135] h13) (fun r16 h15 => if r16 = nI 0 then am_cI (am_G am_prog (N + 30) (d + 0) 220 [.ref 135] h15) (fun r18 h17 => if r18 = nI 0 then am_cI (am_G am_prog (N + 30) (d + 0) 221 [.ref 135] h17) (fun r20 h19 => if r20 = nI 0 then am_cI (am_G am_prog (N + 30) (d + 0) 222 [.ref 135] h19) (fun r22 h21 => if r22 = nI 0 then am_cI (am_G am_prog (N + 30) (d + 0) 223 [.ref 135] h21) (fun r24 h23 => if r24 = nI 0 then am_cI (am_G am_prog (N + 30) (d + 0) 224 [.ref 135] h23) (fun r26 h25 => if r26 < nI 0 then am_cI (am_G am_prog (N + 30) (d + 0) 225 [.ref 135] h25) (fun r28 h27 => if r28 < nI 0 then am_cI (am_G am_prog (N + 30) (d + 0) 226 [.ref 135] h27) (fun r30 h29 => if r30 = nI 0 then some (.int (nI 0), h29) else some (.int (nI 1), h29)) else some (.int (nI 1), h27)) else some (.int (nI 1), h25)) else some (.int (nI 1), h23)) else some (.int (nI 1), h21)) else some (.int (nI 1), h19)) else some (.int (nI 1), h17)) else some (.int (nI 1), h15)) else some (.int (nI 1), h13)) else some (.int (nI 1), h11)) else some (.int (nI 1), h9)) else some (.int (nI 1), h7)) else some (.int (nI 1), h5)) else some (.int (nI 1), h3)) else some (.int (nI 1), h1)) else some (.int (nI 1), h)
def KX9_isKept_1 (N d n : Nat) (z : Int32) (h : am_H) : am_O := if z = nI 0 then am_cI (am_G am_prog (N + 30) (d + 0) 213 [.ref 135] h) (fun r2 h1 => if r2 = nI 0 then am_cI (am_G am_prog (N + 30) (d + 0) 214 [.ref 135] h1) (fun r4 h3 => if r4 = nI 0 then am_cI (am_G am_prog (N + 30) (d + 0) 215 [.ref 135] h3) (fun r6 h5 => if r6 = nI 0 then am_cI (am_G am_prog (N + 30) (d + 0) 216 [.ref 135] h5) (fun r8 h7 => if r8 = nI 0 then am_cI (am_G am_prog (N + 30) (d + 0) 217 [.ref 135] h7) (fun r10 h9 => if r10 = nI 0 then am_cI (am_G am_prog (N + 30) (d + 0) 218 [.ref 135] h9) (fun r12 h11 => if r12 = nI 0 then am_cI (am_G am_prog (N + 30) (d + 0) 219 [.ref 135] h11) (fun r14 h13 => if r14 = nI 0 then am_cI (am_G am_prog (N + 30) (d + 0) 220 [.ref 135] h13) (fun r16 h15 => if r16 = nI 0 then am_cI (am_G am_prog (N + 30) (d + 0) 221 [.ref 135] h15) (fun r18 h17 => if r18 = nI 0 then am_cI (am_G am_prog (N + 30) (d + 0) 222 [.ref 135] h17) (fun r20 h19 => if r20 = nI 0 then am_cI (am_G am_prog (N + 30) (d + 0) 223 [.ref 135] h19) (fun r22 h21 => if r22 = nI 0 then am_cI (am_G am_prog (N + 30) (d + 0) 224 [.ref 135] h21) (fun r24 h23 => if r24 < nI 0 then am_cI (am_G am_prog (N + 30) (d + 0) 225 [.ref 135] h23) (fun r26 h25 => if r26 < nI 0 then am_cI (am_G am_prog (N + 30) (d + 0) 226 [.ref 135] h25) (fun r28 h27 => if r28 = nI 0 then some (.int (nI 0), h27) else some (.int (nI 1), h27)) else some (.int (nI 1), h25)) else some (.int (nI 1), h23)) else some (.int (nI 1), h21)) else some (.int (nI 1), h19)) else some (.int (nI 1), h17)) else some (.int (nI 1), h15)) else some (.int (nI 1), h13)) else some (.int (nI 1), h11)) else some (.int (nI 1), h9)) else some (.int (nI 1), h7)) else some (.int (nI 1), h5)) else some (.int (nI 1), h3)) else some (.int (nI 1), h1)) else some (.int (nI 1), h)
def KX9_isKept_2 (N d n : Nat) (z : Int32) (h : am_H) : am_O := if z = nI 0 then am_cI (am_G am_prog (N + 30) (d + 0) 214 [.ref 135] h) (fun r2 h1 => if r2 = nI 0 then am_cI (am_G am_prog (N + 30) (d + 0) 215 [.ref 135] h1) (fun r4 h3 => if r4 = nI 0 then am_cI (am_G am_prog (N + 30) (d + 0) 216 [.ref 135] h3) (fun r6 h5 => if r6 = nI 0 then am_cI (am_G am_prog (N + 30) (d + 0) 217 [.ref 135] h5) (fun r8 h7 => if r8 = nI 0 then am_cI (am_G am_prog (N + 30) (d + 0) 218 [.ref 135] h7) (fun r10 h9 => if r10 = nI 0 then am_cI (am_G am_prog (N + 30) (d + 0) 219 [.ref 135] h9) (fun r12 h11 => if r12 = nI 0 then am_cI (am_G am_prog (N + 30) (d + 0) 220 [.ref 135] h11) (fun r14 h13 => if r14 = nI 0 then am_cI (am_G am_prog (N + 30) (d + 0) 221 [.ref 135] h13) (fun r16 h15 => if r16 = nI 0 then am_cI (am_G am_prog (N + 30) (d + 0) 222 [.ref 135] h15) (fun r18 h17 => if r18 = nI 0 then am_cI (am_G am_prog (N + 30) (d + 0) 223 [.ref 135] h17) (fun r20 h19 => if r20 = nI 0 then am_cI (am_G am_prog (N + 30) (d + 0) 224 [.ref 135] h19) (fun r22 h21 => if r22 < nI 0 then am_cI (am_G am_prog (N + 30) (d + 0) 225 [.ref 135] h21) (fun r24 h23 => if r24 < nI 0 then am_cI (am_G am_prog (N + 30) (d + 0) 226 [.ref 135] h23) (fun r26 h25 => if r26 = nI 0 then some (.int (nI 0), h25) else some (.int (nI 1), h25)) else some (.int (nI 1), h23)) else some (.int (nI 1), h21)) else some (.int (nI 1), h19)) else some (.int (nI 1), h17)) else some (.int (nI 1), h15)) else some (.int (nI 1), h13)) else some (.int (nI 1), h11)) else some (.int (nI 1), h9)) else some (.int (nI 1), h7)) else some (.int (nI 1), h5)) else some (.int (nI 1), h3)) else some (.int (nI 1), h1)) else some (.int (nI 1), h)
def KX9_isKept_3 (N d n : Nat) (z : Int32) (h : am_H) : am_O := if z = nI 0 then am_cI (am_G am_prog (N + 30) (d + 0) 215 [.ref 135] h) (fun r2 h1 => if r2 = nI 0 then am_cI (am_G am_prog (N + 30) (d + 0) 216 [.ref 135] h1) (fun r4 h3 => if r4 = nI 0 then am_cI (am_G am_prog (N + 30) (d + 0) 217 [.ref 135] h3) (fun r6 h5 => if r6 = nI 0 then am_cI (am_G am_prog (N + 30) (d + 0) 218 [.ref 135] h5) (fun r8 h7 => if r8 = nI 0 then am_cI (am_G am_prog (N + 30) (d + 0) 219 [.ref 135] h7) (fun r10 h9 => if r10 = nI 0 then am_cI (am_G am_prog (N + 30) (d + 0) 220 [.ref 135] h9) (fun r12 h11 => if r12 = nI 0 then am_cI (am_G am_prog (N + 30) (d + 0) 221 [.ref 135] h11) (fun r14 h13 => if r14 = nI 0 then am_cI (am_G am_prog (N + 30) (d + 0) 222 [.ref 135] h13) (fun r16 h15 => if r16 = nI 0 then am_cI (am_G am_prog (N + 30) (d + 0) 223 [.ref 135] h15) (fun r18 h17 => if r18 = nI 0 then am_cI (am_G am_prog (N + 30) (d + 0) 224 [.ref 135] h17) (fun r20 h19 => if r20 < nI 0 then am_cI (am_G am_prog (N + 30) (d + 0) 225 [.ref 135] h19) (fun r22 h21 => if r22 < nI 0 then am_cI (am_G am_prog (N + 30) (d + 0) 226 [.ref 135] h21) (fun r24 h23 => if r24 = nI 0 then some (.int (nI 0), h23) else some (.int (nI 1), h23)) else some (.int (nI 1), h21)) else some (.int (nI 1), h19)) else some (.int (nI 1), h17)) else some (.int (nI 1), h15)) else some (.int (nI 1), h13)) else some (.int (nI 1), h11)) else some (.int (nI 1), h9)) else some (.int (nI 1), h7)) else some (.int (nI 1), h5)) else some (.int (nI 1), h3)) else some (.int (nI 1), h1)) else some (.int (nI 1), h)
def KX9_isKept_4 (N d n : Nat) (z : Int32) (h : am_H) : am_O := if z = nI 0 then am_cI (am_G am_prog (N + 30) (d + 0) 216 [.ref 135] h) (fun r2 h1 => if r2 = nI 0 then am_cI (am_G am_prog (N + 30) (d + 0) 217 [.ref 135] h1) (fun r4 h3 => if r4 = nI 0 then am_cI (am_G am_prog (N + 30) (d + 0) 218 [.ref 135] h3) (fun r6 h5 => if r6 = nI 0 then am_cI (am_G am_prog (N + 30) (d + 0) 219 [.ref 135] h5) (fun r8 h7 => if r8 = nI 0 then am_cI (am_G am_prog (N + 30) (d + 0) 220 [.ref 135] h7) (fun r10 h9 => if r10 = nI 0 then am_cI (am_G am_prog (N + 30) (d + 0) 221 [.ref 135] h9) (fun r12 h11 => if r12 = nI 0 then am_cI (am_G am_prog (N + 30) (d + 0) 222 [.ref 135] h11) (fun r14 h13 => if r14 = nI 0 then am_cI (am_G am_prog (N + 30) (d + 0) 223 [.ref 135] h13) (fun r16 h15 => if r16 = nI 0 then am_cI (am_G am_prog (N + 30) (d + 0) 224 [.ref 135] h15) (fun r18 h17 => if r18 < nI 0 then am_cI (am_G am_prog (N + 30) (d + 0) 225 [.ref 135] h17) (fun r20 h19 => if r20 < nI 0 then am_cI (am_G am_prog (N + 30) (d + 0) 226 [.ref 135] h19) (fun r22 h21 => if r22 = nI 0 then some (.int (nI 0), h21) else some (.int (nI 1), h21)) else some (.int (nI 1), h19)) else some (.int (nI 1), h17)) else some (.int (nI 1), h15)) else some (.int (nI 1), h13)) else some (.int (nI 1), h11)) else some (.int (nI 1), h9)) else some (.int (nI 1), h7)) else some (.int (nI 1), h5)) else some (.int (nI 1), h3)) else some (.int (nI 1), h1)) else some (.int (nI 1), h)
def KX9_isKept_5 (N d n : Nat) (z : Int32) (h : am_H) : am_O := if z = nI 0 then am_cI (am_G am_prog (N + 30) (d + 0) 217 [.ref 135] h) (fun r2 h1 => if r2 = nI 0 then am_cI (am_G am_prog (N + 30) (d + 0) 218 [.ref 135] h1) (fun r4 h3 => if r4 = nI 0 then am_cI (am_G am_prog (N + 30) (d + 0) 219 [.ref 135] h3) (fun r6 h5 => if r6 = nI 0 then am_cI (am_G am_prog (N + 30) (d + 0) 220 [.ref 135] h5) (fun r8 h7 => if r8 = nI 0 then am_cI (am_G am_prog (N + 30) (d + 0) 221 [.ref 135] h7) (fun r10 h9 => if r10 = nI 0 then am_cI (am_G am_prog (N + 30) (d + 0) 222 [.ref 135] h9) (fun r12 h11 => if r12 = nI 0 then am_cI (am_G am_prog (N + 30) (d + 0) 223 [.ref 135] h11) (fun r14 h13 => if r14 = nI 0 then am_cI (am_G am_prog (N + 30) (d + 0) 224 [.ref 135] h13) (fun r16 h15 => if r16 < nI 0 then am_cI (am_G am_prog (N + 30) (d + 0) 225 [.ref 135] h15) (fun r18 h17 => if r18 < nI 0 then am_cI (am_G am_prog (N + 30) (d + 0) 226 [.ref 135] h17) (fun r20 h19 => if r20 = nI 0 then some (.int (nI 0), h19) else some (.int (nI 1), h19)) else some (.int (nI 1), h17)) else some (.int (nI 1), h15)) else some (.int (nI 1), h13)) else some (.int (nI 1), h11)) else some (.int (nI 1), h9)) else some (.int (nI 1), h7)) else some (.int (nI 1), h5)) else some (.int (nI 1), h3)) else some (.int (nI 1), h1)) else some (.int (nI 1), h)
def KX9_isKept_6 (N d n : Nat) (z : Int32) (h : am_H) : am_O := if z = nI 0 then am_cI (am_G am_prog (N + 30) (d + 0) 218 [.ref 135] h) (fun r2 h1 => if r2 = nI 0 then am_cI (am_G am_prog (N + 30) (d + 0) 219 [.ref 135] h1) (fun r4 h3 => if r4 = nI 0 then am_cI (am_G am_prog (N + 30) (d + 0) 220 [.ref 135] h3) (fun r6 h5 => if r6 = nI 0 then am_cI (am_G am_prog (N + 30) (d + 0) 221 [.ref 135] h5) (fun r8 h7 => if r8 = nI 0 then am_cI (am_G am_prog (N + 30) (d + 0) 222 [.ref 135] h7) (fun r10 h9 => if r10 = nI 0 then am_cI (am_G am_prog (N + 30) (d + 0) 223 [.ref 135] h9) (fun r12 h11 => if r12 = nI 0 then am_cI (am_G am_prog (N + 30) (d + 0) 224 [.ref 135] h11) (fun r14 h13 => if r14 < nI 0 then am_cI (am_G am_prog (N + 30) (d + 0) 225 [.ref 135] h13) (fun r16 h15 => if r16 < nI 0 then am_cI (am_G am_prog (N + 30) (d + 0) 226 [.ref 135] h15) (fun r18 h17 => if r18 = nI 0 then some (.int (nI 0), h17) else some (.int (nI 1), h17)) else some (.int (nI 1), h15)) else some (.int (nI 1), h13)) else some (.int (nI 1), h11)) else some (.int (nI 1), h9)) else some (.int (nI 1), h7)) else some (.int (nI 1), h5)) else some (.int (nI 1), h3)) else some (.int (nI 1), h1)) else some (.int (nI 1), h)
def KX9_isKept_7 (N d n : Nat) (z : Int32) (h : am_H) : am_O := if z = nI 0 then am_cI (am_G am_prog (N + 30) (d + 0) 219 [.ref 135] h) (fun r2 h1 => if r2 = nI 0 then am_cI (am_G am_prog (N + 30) (d + 0) 220 [.ref 135] h1) (fun r4 h3 => if r4 = nI 0 then am_cI (am_G am_prog (N + 30) (d + 0) 221 [.ref 135] h3) (fun r6 h5 => if r6 = nI 0 then am_cI (am_G am_prog (N + 30) (d + 0) 222 [.ref 135] h5) (fun r8 h7 => if r8 = nI 0 then am_cI (am_G am_prog (N + 30) (d + 0) 223 [.ref 135] h7) (fun r10 h9 => if r10 = nI 0 then am_cI (am_G am_prog (N + 30) (d + 0) 224 [.ref 135] h9) (fun r12 h11 => if r12 < nI 0 then am_cI (am_G am_prog (N + 30) (d + 0) 225 [.ref 135] h11) (fun r14 h13 => if r14 < nI 0 then am_cI (am_G am_prog (N + 30) (d + 0) 226 [.ref 135] h13) (fun r16 h15 => if r16 = nI 0 then some (.int (nI 0), h15) else some (.int (nI 1), h15)) else some (.int (nI 1), h13)) else some (.int (nI 1), h11)) else some (.int (nI 1), h9)) else some (.int (nI 1), h7)) else some (.int (nI 1), h5)) else some (.int (nI 1), h3)) else some (.int (nI 1), h1)) else some (.int (nI 1), h)
def KX9_isKept_8 (N d n : Nat) (z : Int32) (h : am_H) : am_O := if z = nI 0 then am_cI (am_G am_prog (N + 30) (d + 0) 220 [.ref 135] h) (fun r2 h1 => if r2 = nI 0 then am_cI (am_G am_prog (N + 30) (d + 0) 221 [.ref 135] h1) (fun r4 h3 => if r4 = nI 0 then am_cI (am_G am_prog (N + 30) (d + 0) 222 [.ref 135] h3) (fun r6 h5 => if r6 = nI 0 then am_cI (am_G am_prog (N + 30) (d + 0) 223 [.ref 135] h5) (fun r8 h7 => if r8 = nI 0 then am_cI (am_G am_prog (N + 30) (d + 0) 224 [.ref 135] h7) (fun r10 h9 => if r10 < nI 0 then am_cI (am_G am_prog (N + 30) (d + 0) 225 [.ref 135] h9) (fun r12 h11 => if r12 < nI 0 then am_cI (am_G am_prog (N + 30) (d + 0) 226 [.ref 135] h11) (fun r14 h13 => if r14 = nI 0 then some (.int (nI 0), h13) else some (.int (nI 1), h13)) else some (.int (nI 1), h11)) else some (.int (nI 1), h9)) else some (.int (nI 1), h7)) else some (.int (nI 1), h5)) else some (.int (nI 1), h3)) else some (.int (nI 1), h1)) else some (.int (nI 1), h)
def KX9_isKept_9 (N d n : Nat) (z : Int32) (h : am_H) : am_O := if z = nI 0 then am_cI (am_G am_prog (N + 30) (d + 0) 221 [.ref 135] h) (fun r2 h1 => if r2 = nI 0 then am_cI (am_G am_prog (N + 30) (d + 0) 222 [.ref 135] h1) (fun r4 h3 => if r4 = nI 0 then am_cI (am_G am_prog (N + 30) (d + 0) 223 [.ref 135] h3) (fun r6 h5 => if r6 = nI 0 then am_cI (am_G am_prog (N + 30) (d + 0) 224 [.ref 135] h5) (fun r8 h7 => if r8 < nI 0 then am_cI (am_G am_prog (N + 30) (d + 0) 225 [.ref 135] h7) (fun r10 h9 => if r10 < nI 0 then am_cI (am_G am_prog (N + 30) (d + 0) 226 [.ref 135] h9) (fun r12 h11 => if r12 = nI 0 then some (.int (nI 0), h11) else some (.int (nI 1), h11)) else some (.int (nI 1), h9)) else some (.int (nI 1), h7)) else some (.int (nI 1), h5)) else some (.int (nI 1), h3)) else some (.int (nI 1), h1)) else some (.int (nI 1), h)
def KX9_isKept_10 (N d n : Nat) (z : Int32) (h : am_H) : am_O := if z = nI 0 then am_cI (am_G am_prog (N + 30) (d + 0) 222 [.ref 135] h) (fun r2 h1 => if r2 = nI 0 then am_cI (am_G am_prog (N + 30) (d + 0) 223 [.ref 135] h1) (fun r4 h3 => if r4 = nI 0 then am_cI (am_G am_prog (N + 30) (d + 0) 224 [.ref 135] h3) (fun r6 h5 => if r6 < nI 0 then am_cI (am_G am_prog (N + 30) (d + 0) 225 [.ref 135] h5) (fun r8 h7 => if r8 < nI 0 then am_cI (am_G am_prog (N + 30) (d + 0) 226 [.ref 135] h7) (fun r10 h9 => if r10 = nI 0 then some (.int (nI 0), h9) else some (.int (nI 1), h9)) else some (.int (nI 1), h7)) else some (.int (nI 1), h5)) else some (.int (nI 1), h3)) else some (.int (nI 1), h1)) else some (.int (nI 1), h)
def KX9_isKept_11 (N d n : Nat) (z : Int32) (h : am_H) : am_O := if z = nI 0 then am_cI (am_G am_prog (N + 30) (d + 0) 223 [.ref 135] h) (fun r2 h1 => if r2 = nI 0 then am_cI (am_G am_prog (N + 30) (d + 0) 224 [.ref 135] h1) (fun r4 h3 => if r4 < nI 0 then am_cI (am_G am_prog (N + 30) (d + 0) 225 [.ref 135] h3) (fun r6 h5 => if r6 < nI 0 then am_cI (am_G am_prog (N + 30) (d + 0) 226 [.ref 135] h5) (fun r8 h7 => if r8 = nI 0 then some (.int (nI 0), h7) else some (.int (nI 1), h7)) else some (.int (nI 1), h5)) else some (.int (nI 1), h3)) else some (.int (nI 1), h1)) else some (.int (nI 1), h)
def KX9_isKept_12 (N d n : Nat) (z : Int32) (h : am_H) : am_O := if z = nI 0 then am_cI (am_G am_prog (N + 30) (d + 0) 224 [.ref 135] h) (fun r2 h1 => if r2 < nI 0 then am_cI (am_G am_prog (N + 30) (d + 0) 225 [.ref 135] h1) (fun r4 h3 => if r4 < nI 0 then am_cI (am_G am_prog (N + 30) (d + 0) 226 [.ref 135] h3) (fun r6 h5 => if r6 = nI 0 then some (.int (nI 0), h5) else some (.int (nI 1), h5)) else some (.int (nI 1), h3)) else some (.int (nI 1), h1)) else some (.int (nI 1), h)
def KX9_isKept_13 (N d n : Nat) (z : Int32) (h : am_H) : am_O := if z < nI 0 then am_cI (am_G am_prog (N + 30) (d + 0) 225 [.ref 135] h) (fun r2 h1 => if r2 < nI 0 then am_cI (am_G am_prog (N + 30) (d + 0) 226 [.ref 135] h1) (fun r4 h3 => if r4 = nI 0 then some (.int (nI 0), h3) else some (.int (nI 1), h3)) else some (.int (nI 1), h1)) else some (.int (nI 1), h)
def KX9_isKept_14 (N d n : Nat) (z : Int32) (h : am_H) : am_O := if z < nI 0 then am_cI (am_G am_prog (N + 30) (d + 0) 226 [.ref 135] h) (fun r2 h1 => if r2 = nI 0 then some (.int (nI 0), h1) else some (.int (nI 1), h1)) else some (.int (nI 1), h)
def KX9_isKept_15 (N d n : Nat) (z : Int32) (h : am_H) : am_O := if z = nI 0 then some (.int (nI 0), h) else some (.int (nI 1), h)
set_option maxHeartbeats 4000000 in
set_option maxRecDepth 100000 in
theorem sX9_isKept_0 (N d n : Nat) {X : lt_X} (I : Nat → Nat → Int32) (J : Nat → Nat → Int64) : RX9_isKept_0 N d (n + 1) X I J = am_cI (am_G am_prog (N + 30) (d + 0) 211 [.ref 135] (mkh X I J)) (KX9_isKept_0 N d n ) := by
  rfl
set_option maxHeartbeats 4000000 in
set_option maxRecDepth 100000 in
theorem kX9_isKept_0 (N d n : Nat) {X : lt_X} (z : Int32) (I : Nat → Nat → Int32) (J : Nat → Nat → Int64) : KX9_isKept_0 N d n z (mkh X I J) = if z = nI 0 then am_cI (am_G am_prog (N + 30) (d + 0) 212 [.ref 135] (mkh X I J)) (KX9_isKept_1 N d n ) else some (.int (nI 1), (mkh X I J)) := by
  rfl
set_option maxHeartbeats 4000000 in
set_option maxRecDepth 100000 in
theorem kX9_isKept_1 (N d n : Nat) {X : lt_X} (z : Int32) (I : Nat → Nat → Int32) (J : Nat → Nat → Int64) : KX9_isKept_1 N d n z (mkh X I J) = if z = nI 0 then am_cI (am_G am_prog (N + 30) (d + 0) 213 [.ref 135] (mkh X I J)) (KX9_isKept_2 N d n ) else some (.int (nI 1), (mkh X I J)) := by
  rfl
set_option maxHeartbeats 4000000 in
set_option maxRecDepth 100000 in
theorem kX9_isKept_2 (N d n : Nat) {X : lt_X} (z : Int32) (I : Nat → Nat → Int32) (J : Nat → Nat → Int64) : KX9_isKept_2 N d n z (mkh X I J) = if z = nI 0 then am_cI (am_G am_prog (N + 30) (d + 0) 214 [.ref 135] (mkh X I J)) (KX9_isKept_3 N d n ) else some (.int (nI 1), (mkh X I J)) := by
  rfl
set_option maxHeartbeats 4000000 in
set_option maxRecDepth 100000 in
theorem kX9_isKept_3 (N d n : Nat) {X : lt_X} (z : Int32) (I : Nat → Nat → Int32) (J : Nat → Nat → Int64) : KX9_isKept_3 N d n z (mkh X I J) = if z = nI 0 then am_cI (am_G am_prog (N + 30) (d + 0) 215 [.ref 135] (mkh X I J)) (KX9_isKept_4 N d n ) else some (.int (nI 1), (mkh X I J)) := by
  rfl
set_option maxHeartbeats 4000000 in
set_option maxRecDepth 100000 in
theorem kX9_isKept_4 (N d n : Nat) {X : lt_X} (z : Int32) (I : Nat → Nat → Int32) (J : Nat → Nat → Int64) : KX9_isKept_4 N d n z (mkh X I J) = if z = nI 0 then am_cI (am_G am_prog (N + 30) (d + 0) 216 [.ref 135] (mkh X I J)) (KX9_isKept_5 N d n ) else some (.int (nI 1), (mkh X I J)) := by
  rfl
set_option maxHeartbeats 4000000 in
set_option maxRecDepth 100000 in
theorem kX9_isKept_5 (N d n : Nat) {X : lt_X} (z : Int32) (I : Nat → Nat → Int32) (J : Nat → Nat → Int64) : KX9_isKept_5 N d n z (mkh X I J) = if z = nI 0 then am_cI (am_G am_prog (N + 30) (d + 0) 217 [.ref 135] (mkh X I J)) (KX9_isKept_6 N d n ) else some (.int (nI 1), (mkh X I J)) := by
  rfl
set_option maxHeartbeats 4000000 in
set_option maxRecDepth 100000 in
theorem kX9_isKept_6 (N d n : Nat) {X : lt_X} (z : Int32) (I : Nat → Nat → Int32) (J : Nat → Nat → Int64) : KX9_isKept_6 N d n z (mkh X I J) = if z = nI 0 then am_cI (am_G am_prog (N + 30) (d + 0) 218 [.ref 135] (mkh X I J)) (KX9_isKept_7 N d n ) else some (.int (nI 1), (mkh X I J)) := by
  rfl
set_option maxHeartbeats 4000000 in
set_option maxRecDepth 100000 in
theorem kX9_isKept_7 (N d n : Nat) {X : lt_X} (z : Int32) (I : Nat → Nat → Int32) (J : Nat → Nat → Int64) : KX9_isKept_7 N d n z (mkh X I J) = if z = nI 0 then am_cI (am_G am_prog (N + 30) (d + 0) 219 [.ref 135] (mkh X I J)) (KX9_isKept_8 N d n ) else some (.int (nI 1), (mkh X I J)) := by
  rfl
set_option maxHeartbeats 4000000 in
set_option maxRecDepth 100000 in
theorem kX9_isKept_8 (N d n : Nat) {X : lt_X} (z : Int32) (I : Nat → Nat → Int32) (J : Nat → Nat → Int64) : KX9_isKept_8 N d n z (mkh X I J) = if z = nI 0 then am_cI (am_G am_prog (N + 30) (d + 0) 220 [.ref 135] (mkh X I J)) (KX9_isKept_9 N d n ) else some (.int (nI 1), (mkh X I J)) := by
  rfl
set_option maxHeartbeats 4000000 in
set_option maxRecDepth 100000 in
theorem kX9_isKept_9 (N d n : Nat) {X : lt_X} (z : Int32) (I : Nat → Nat → Int32) (J : Nat → Nat → Int64) : KX9_isKept_9 N d n z (mkh X I J) = if z = nI 0 then am_cI (am_G am_prog (N + 30) (d + 0) 221 [.ref 135] (mkh X I J)) (KX9_isKept_10 N d n ) else some (.int (nI 1), (mkh X I J)) := by
  rfl
set_option maxHeartbeats 4000000 in
set_option maxRecDepth 100000 in
theorem kX9_isKept_10 (N d n : Nat) {X : lt_X} (z : Int32) (I : Nat → Nat → Int32) (J : Nat → Nat → Int64) : KX9_isKept_10 N d n z (mkh X I J) = if z = nI 0 then am_cI (am_G am_prog (N + 30) (d + 0) 222 [.ref 135] (mkh X I J)) (KX9_isKept_11 N d n ) else some (.int (nI 1), (mkh X I J)) := by
  rfl
set_option maxHeartbeats 4000000 in
set_option maxRecDepth 100000 in
theorem kX9_isKept_11 (N d n : Nat) {X : lt_X} (z : Int32) (I : Nat → Nat → Int32) (J : Nat → Nat → Int64) : KX9_isKept_11 N d n z (mkh X I J) = if z = nI 0 then am_cI (am_G am_prog (N + 30) (d + 0) 223 [.ref 135] (mkh X I J)) (KX9_isKept_12 N d n ) else some (.int (nI 1), (mkh X I J)) := by
  rfl
set_option maxHeartbeats 4000000 in
set_option maxRecDepth 100000 in
theorem kX9_isKept_12 (N d n : Nat) {X : lt_X} (z : Int32) (I : Nat → Nat → Int32) (J : Nat → Nat → Int64) : KX9_isKept_12 N d n z (mkh X I J) = if z = nI 0 then am_cI (am_G am_prog (N + 30) (d + 0) 224 [.ref 135] (mkh X I J)) (KX9_isKept_13 N d n ) else some (.int (nI 1), (mkh X I J)) := by
  rfl
set_option maxHeartbeats 4000000 in
set_option maxRecDepth 100000 in
theorem kX9_isKept_13 (N d n : Nat) {X : lt_X} (z : Int32) (I : Nat → Nat → Int32) (J : Nat → Nat → Int64) : KX9_isKept_13 N d n z (mkh X I J) = if z < nI 0 then am_cI (am_G am_prog (N + 30) (d + 0) 225 [.ref 135] (mkh X I J)) (KX9_isKept_14 N d n ) else some (.int (nI 1), (mkh X I J)) := by
  rfl
set_option maxHeartbeats 4000000 in
set_option maxRecDepth 100000 in
theorem kX9_isKept_14 (N d n : Nat) {X : lt_X} (z : Int32) (I : Nat → Nat → Int32) (J : Nat → Nat → Int64) : KX9_isKept_14 N d n z (mkh X I J) = if z < nI 0 then am_cI (am_G am_prog (N + 30) (d + 0) 226 [.ref 135] (mkh X I J)) (KX9_isKept_15 N d n ) else some (.int (nI 1), (mkh X I J)) := by
  rfl
set_option maxHeartbeats 4000000 in
set_option maxRecDepth 100000 in
theorem kX9_isKept_15 (N d n : Nat) {X : lt_X} (z : Int32) (I : Nat → Nat → Int32) (J : Nat → Nat → Int64) : KX9_isKept_15 N d n z (mkh X I J) = if z = nI 0 then some (.int (nI 0), (mkh X I J)) else some (.int (nI 1), (mkh X I J)) := by
  rfl
theorem fX9_isKept (N d : Nat) {X : lt_X} (I : Nat → Nat → Int32) (J : Nat → Nat → Int64) : am_G am_prog N (d + 1) 227 [.ref 135] (mkh X I J) = am_run (am_G am_prog N d) eX9_isKept uX9_isKept N 0 [(0, .ref 135)] [] (mkh X I J) := by
  refine (am_G_at N d 227 mX9_isKept _ _ rfl).trans ?_
  rfl
theorem gX9_isKept (N d : Nat) {X : lt_X} (I : Nat → Nat → Int32) (J : Nat → Nat → Int64) : am_G am_prog (N + 30) (d + 1) 227 [.ref 135] (mkh X I J) = RX9_isKept_0 N d (N + 30) X I J := fX9_isKept (N + 30) (d + 0) I J
def RX9_isName_0 (N d n : Nat) (X : lt_X) (I : Nat → Nat → Int32) (J : Nat → Nat → Int64) : am_O := am_run (am_G am_prog (N + 30) (d + 0)) eX9_isName uX9_isName n 0 [(0, .ref 135)] [] (mkh X I J)
def KX9_isName_0 (N d n : Nat) (z : Int32) (h : am_H) : am_O := if z = nI 0 then some (.int (nI 1), h) else some (.int (nI 0), h)
set_option maxHeartbeats 4000000 in
set_option maxRecDepth 100000 in
theorem sX9_isName_0 (N d n : Nat) {X : lt_X} (I : Nat → Nat → Int32) (J : Nat → Nat → Int64) : RX9_isName_0 N d (n + 1) X I J = if (I 135 14) = (nI 1) then if (nI 8) < (I 135 18) then some (.int (nI 0), (mkh X I J)) else am_cI (am_G am_prog (N + 30) (d + 0) 227 [.ref 135] (mkh X I J)) (KX9_isName_0 N d n ) else some (.int (nI 0), (mkh X I J)) := by
  rfl
set_option maxHeartbeats 4000000 in
set_option maxRecDepth 100000 in
theorem kX9_isName_0 (N d n : Nat) {X : lt_X} (z : Int32) (I : Nat → Nat → Int32) (J : Nat → Nat → Int64) : KX9_isName_0 N d n z (mkh X I J) = if z = nI 0 then some (.int (nI 1), (mkh X I J)) else some (.int (nI 0), (mkh X I J)) := by
  rfl
theorem fX9_isName (N d : Nat) {X : lt_X} (I : Nat → Nat → Int32) (J : Nat → Nat → Int64) : am_G am_prog N (d + 1) 228 [.ref 135] (mkh X I J) = am_run (am_G am_prog N d) eX9_isName uX9_isName N 0 [(0, .ref 135)] [] (mkh X I J) := by
  refine (am_G_at N d 228 mX9_isName _ _ rfl).trans ?_
  rfl
theorem gX9_isName (N d : Nat) {X : lt_X} (I : Nat → Nat → Int32) (J : Nat → Nat → Int64) : am_G am_prog (N + 30) (d + 1) 228 [.ref 135] (mkh X I J) = RX9_isName_0 N d (N + 30) X I J := fX9_isName (N + 30) (d + 0) I J
def RX9_fail_0 (N d n : Nat) (X : lt_X) (x1 : Int32) (x2 : Int32) (I : Nat → Nat → Int32) (J : Nat → Nat → Int64) : am_O := am_run (am_G am_prog (N + 30) (d + 0)) eX9_fail uX9_fail n 0 [(0, .ref 135), (1, .int x1), (2, .int x2)] [] (mkh X I J)
set_option maxHeartbeats 4000000 in
set_option maxRecDepth 100000 in
theorem sX9_fail_0 (N d n : Nat) {X : lt_X} (x1 : Int32) (x2 : Int32) (I : Nat → Nat → Int32) (J : Nat → Nat → Int64) : RX9_fail_0 N d (n + 1) X x1 x2 I J = if nI 0 < (I 135 12) then some (.null, (mkh X I J)) else some (.null, (mkh X (u2 (u2 I 135 12 x1) 135 13 x2) J)) := by
  rfl
theorem fX9_fail (N d : Nat) {X : lt_X} (x1 : Int32) (x2 : Int32) (I : Nat → Nat → Int32) (J : Nat → Nat → Int64) : am_G am_prog N (d + 1) 229 [.ref 135, .int x1, .int x2] (mkh X I J) = am_run (am_G am_prog N d) eX9_fail uX9_fail N 0 [(0, .ref 135), (1, .int x1), (2, .int x2)] [] (mkh X I J) := by
  refine (am_G_at N d 229 mX9_fail _ _ rfl).trans ?_
  rfl
theorem gX9_fail (N d : Nat) {X : lt_X} (x1 : Int32) (x2 : Int32) (I : Nat → Nat → Int32) (J : Nat → Nat → Int64) : am_G am_prog (N + 30) (d + 1) 229 [.ref 135, .int x1, .int x2] (mkh X I J) = RX9_fail_0 N d (N + 30) X x1 x2 I J := fX9_fail (N + 30) (d + 0) x1 x2 I J
def RX9_amiss_0 (N d n : Nat) (X : lt_X) (I : Nat → Nat → Int32) (J : Nat → Nat → Int64) : am_O := am_run (am_G am_prog (N + 30) (d + 0)) eX9_amiss uX9_amiss n 0 [(0, .ref 135)] [] (mkh X I J)
def KX9_amiss_0 (N d n : Nat) (h : am_H) : am_O := some (.null, h)
set_option maxHeartbeats 4000000 in
set_option maxRecDepth 100000 in
theorem sX9_amiss_0 (N d n : Nat) {X : lt_X} (I : Nat → Nat → Int32) (J : Nat → Nat → Int64) : RX9_amiss_0 N d (n + 1) X I J = if (I 135 14) = (nI 4) then am_cV (am_G am_prog (N + 30) (d + 0) 229 [.ref 135, .int (nI 1), .int (I 135 15)] (mkh X I J)) (KX9_amiss_0 N d n ) else am_cV (am_G am_prog (N + 30) (d + 0) 229 [.ref 135, .int (nI 2), .int (I 135 15)] (mkh X I J)) (KX9_amiss_0 N d n ) := by
  rfl
set_option maxHeartbeats 4000000 in
set_option maxRecDepth 100000 in
theorem kX9_amiss_0 (N d n : Nat) {X : lt_X} (I : Nat → Nat → Int32) (J : Nat → Nat → Int64) : KX9_amiss_0 N d n (mkh X I J) = some (.null, (mkh X I J)) := by
  rfl
theorem fX9_amiss (N d : Nat) {X : lt_X} (I : Nat → Nat → Int32) (J : Nat → Nat → Int64) : am_G am_prog N (d + 1) 230 [.ref 135] (mkh X I J) = am_run (am_G am_prog N d) eX9_amiss uX9_amiss N 0 [(0, .ref 135)] [] (mkh X I J) := by
  refine (am_G_at N d 230 mX9_amiss _ _ rfl).trans ?_
  rfl
theorem gX9_amiss (N d : Nat) {X : lt_X} (I : Nat → Nat → Int32) (J : Nat → Nat → Int64) : am_G am_prog (N + 30) (d + 1) 230 [.ref 135] (mkh X I J) = RX9_amiss_0 N d (N + 30) X I J := fX9_amiss (N + 30) (d + 0) I J
def RX9_must_0 (N d n : Nat) (X : lt_X) (x1 : Int32) (I : Nat → Nat → Int32) (J : Nat → Nat → Int64) : am_O := am_run (am_G am_prog (N + 30) (d + 0)) eX9_must uX9_must n 0 [(0, .ref 135), (1, .int x1)] [] (mkh X I J)
def KX9_must_0 (N d n : Nat) (h : am_H) : am_O := some (.null, h)
def KX9_must_1 (N d n : Nat) (h : am_H) : am_O := some (.null, h)
set_option maxHeartbeats 4000000 in
set_option maxRecDepth 100000 in
theorem sX9_must_0 (N d n : Nat) {X : lt_X} (x1 : Int32) (I : Nat → Nat → Int32) (J : Nat → Nat → Int64) : RX9_must_0 N d (n + 1) X x1 I J = if nI 0 < (I 135 12) then some (.null, (mkh X I J)) else if x1 = nI 0 then am_cV (am_G am_prog (N + 30) (d + 0) 230 [.ref 135] (mkh X I J)) (KX9_must_0 N d n ) else am_cV (am_G am_prog (N + 30) (d + 0) 207 [.ref 135] (mkh X I J)) (KX9_must_1 N d n ) := by
  rfl
set_option maxHeartbeats 4000000 in
set_option maxRecDepth 100000 in
theorem kX9_must_0 (N d n : Nat) {X : lt_X} (I : Nat → Nat → Int32) (J : Nat → Nat → Int64) : KX9_must_0 N d n (mkh X I J) = some (.null, (mkh X I J)) := by
  rfl
set_option maxHeartbeats 4000000 in
set_option maxRecDepth 100000 in
theorem kX9_must_1 (N d n : Nat) {X : lt_X} (I : Nat → Nat → Int32) (J : Nat → Nat → Int64) : KX9_must_1 N d n (mkh X I J) = some (.null, (mkh X I J)) := by
  rfl
theorem fX9_must (N d : Nat) {X : lt_X} (x1 : Int32) (I : Nat → Nat → Int32) (J : Nat → Nat → Int64) : am_G am_prog N (d + 1) 231 [.ref 135, .int x1] (mkh X I J) = am_run (am_G am_prog N d) eX9_must uX9_must N 0 [(0, .ref 135), (1, .int x1)] [] (mkh X I J) := by
  refine (am_G_at N d 231 mX9_must _ _ rfl).trans ?_
  rfl
theorem gX9_must (N d : Nat) {X : lt_X} (x1 : Int32) (I : Nat → Nat → Int32) (J : Nat → Nat → Int64) : am_G am_prog (N + 30) (d + 1) 231 [.ref 135, .int x1] (mkh X I J) = RX9_must_0 N d (N + 30) X x1 I J := fX9_must (N + 30) (d + 0) x1 I J
def RX9_count_0 (N d n : Nat) (X : lt_X) (x1 : Int32) (x2 : Int32) (I : Nat → Nat → Int32) (J : Nat → Nat → Int64) : am_O := am_run (am_G am_prog (N + 30) (d + 1)) eX9_count uX9_count n 0 [(0, .ref 135), (1, .int x1), (2, .int x2)] [] (mkh X I J)
def RX9_count_19 (N d n : Nat) (X : lt_X) (x1 : Int32) (x2 : Int32) (I : Nat → Nat → Int32) (J : Nat → Nat → Int64) : am_O := am_run (am_G am_prog (N + 30) (d + 1)) eX9_count uX9_count n 19 [(0, .ref 135), (1, .int x1), (2, .int x2)] [] (mkh X I J)
def RX9_count_50 (N d n : Nat) (X : lt_X) (I : Nat → Nat → Int32) (J : Nat → Nat → Int64) : am_O := am_run (am_G am_prog (N + 30) (d + 1)) eX9_count uX9_count n 50 [(0, .ref 135)] [] (mkh X I J)
def KX9_count_0 (N d n : Nat) (a0 : Int32) (a1 : Int32) (h : am_H) : am_O := am_run (am_G am_prog (N + 30) (d + 1)) eX9_count uX9_count n 19 [(0, .ref 135), (1, .int a0), (2, .int a1)] [] h
def KX9_count_1 (N d n : Nat) (z : Int32) (h : am_H) : am_O := if z = nI 0 then am_gI h 9 135 15 (fun y1 => am_cV (am_G am_prog (N + 30) (d + 1) 229 [.ref 135, .int (nI 4), .int y1] h) (fun h2 => am_run (am_G am_prog (N + 30) (d + 1)) eX9_count uX9_count n 50 [(0, .ref 135)] [] h2)) else am_run (am_G am_prog (N + 30) (d + 1)) eX9_count uX9_count n 50 [(0, .ref 135)] [] h
def KX9_count_2 (N d n : Nat) (a0 : Int32) (h : am_H) : am_O := some (.int a0, h)
def KX9_count_3 (N d n : Nat) (h : am_H) : am_O := am_run (am_G am_prog (N + 30) (d + 1)) eX9_count uX9_count n 50 [(0, .ref 135)] [] h
set_option maxHeartbeats 4000000 in
set_option maxRecDepth 100000 in
theorem sX9_count_0 (N d n : Nat) {X : lt_X} (x1 : Int32) (x2 : Int32) (I : Nat → Nat → Int32) (J : Nat → Nat → Int64) : RX9_count_0 N d (n + 1) X x1 x2 I J = if (I 135 12) = nI 0 then if (I 135 14) = (nI 2) then RX9_count_19 N d n X x1 x2 I J else am_cV (am_G am_prog (N + 30) (d + 1) 230 [.ref 135] (mkh X I J)) (KX9_count_0 N d n x1 x2) else RX9_count_19 N d n X x1 x2 I J := by
  rfl
set_option maxHeartbeats 4000000 in
set_option maxRecDepth 100000 in
theorem sX9_count_19 (N d n : Nat) {X : lt_X} (x1 : Int32) (x2 : Int32) (I : Nat → Nat → Int32) (J : Nat → Nat → Int64) : RX9_count_19 N d (n + 1) X x1 x2 I J = if (I 135 12) = nI 0 then am_cI (am_G am_prog (N + 30) (d + 1) 190 [.long ((I 135 17).toInt64), .long x1.toInt64, .long x2.toInt64] (mkh X I J)) (KX9_count_1 N d n ) else RX9_count_50 N d n X I J := by
  rfl
set_option maxHeartbeats 4000000 in
set_option maxRecDepth 100000 in
theorem sX9_count_50 (N d n : Nat) {X : lt_X} (I : Nat → Nat → Int32) (J : Nat → Nat → Int64) : RX9_count_50 N d (n + 1) X I J = if nI 0 < (I 135 12) then some (.int (nI 0), (mkh X I J)) else am_cV (am_G am_prog (N + 30) (d + 1) 207 [.ref 135] (mkh X I J)) (KX9_count_2 N d n (I 135 17)) := by
  rfl
set_option maxHeartbeats 4000000 in
set_option maxRecDepth 100000 in
theorem kX9_count_0 (N d n : Nat) {X : lt_X} (a0 : Int32) (a1 : Int32) (I : Nat → Nat → Int32) (J : Nat → Nat → Int64) : KX9_count_0 N d n a0 a1 (mkh X I J) = RX9_count_19 N d n X a0 a1 I J := by
  rfl
set_option maxHeartbeats 4000000 in
set_option maxRecDepth 100000 in
theorem kX9_count_1 (N d n : Nat) {X : lt_X} (z : Int32) (I : Nat → Nat → Int32) (J : Nat → Nat → Int64) : KX9_count_1 N d n z (mkh X I J) = if z = nI 0 then am_cV (am_G am_prog (N + 30) (d + 1) 229 [.ref 135, .int (nI 4), .int (I 135 15)] (mkh X I J)) (KX9_count_3 N d n ) else RX9_count_50 N d n X I J := by
  rfl
set_option maxHeartbeats 4000000 in
set_option maxRecDepth 100000 in
theorem kX9_count_2 (N d n : Nat) {X : lt_X} (a0 : Int32) (I : Nat → Nat → Int32) (J : Nat → Nat → Int64) : KX9_count_2 N d n a0 (mkh X I J) = some (.int a0, (mkh X I J)) := by
  rfl
set_option maxHeartbeats 4000000 in
set_option maxRecDepth 100000 in
theorem kX9_count_3 (N d n : Nat) {X : lt_X} (I : Nat → Nat → Int32) (J : Nat → Nat → Int64) : KX9_count_3 N d n (mkh X I J) = RX9_count_50 N d n X I J := by
  rfl
theorem fX9_count (N d : Nat) {X : lt_X} (x1 : Int32) (x2 : Int32) (I : Nat → Nat → Int32) (J : Nat → Nat → Int64) : am_G am_prog N (d + 1) 232 [.ref 135, .int x1, .int x2] (mkh X I J) = am_run (am_G am_prog N d) eX9_count uX9_count N 0 [(0, .ref 135), (1, .int x1), (2, .int x2)] [] (mkh X I J) := by
  refine (am_G_at N d 232 mX9_count _ _ rfl).trans ?_
  rfl
theorem gX9_count (N d : Nat) {X : lt_X} (x1 : Int32) (x2 : Int32) (I : Nat → Nat → Int32) (J : Nat → Nat → Int64) : am_G am_prog (N + 30) (d + 2) 232 [.ref 135, .int x1, .int x2] (mkh X I J) = RX9_count_0 N d (N + 30) X x1 x2 I J := fX9_count (N + 30) (d + 1) x1 x2 I J
def RX9_behindWord_0 (N d n : Nat) (X : lt_X) (x1 : Int32) (x2 : Int32) (x3 : Int32) (I : Nat → Nat → Int32) (J : Nat → Nat → Int64) : am_O := am_run (am_G am_prog (N + 30) (d + 0)) eX9_behindWord uX9_behindWord n 0 [(0, .ref 135), (1, .int x1), (2, .int x2), (3, .int x3)] [] (mkh X I J)
def KX9_behindWord_0 (N d n : Nat) (a0 : Int32) (a1 : Int32) (h : am_H) : am_O := am_cI (am_G am_prog (N + 30) (d + 0) 232 [.ref 135, .int a0, .int a1] h) (fun r2 h1 => some (.int r2, h1))
def KX9_behindWord_1 (N d n : Nat) (z : Int32) (h : am_H) : am_O := some (.int z, h)
set_option maxHeartbeats 4000000 in
set_option maxRecDepth 100000 in
theorem sX9_behindWord_0 (N d n : Nat) {X : lt_X} (x1 : Int32) (x2 : Int32) (x3 : Int32) (I : Nat → Nat → Int32) (J : Nat → Nat → Int64) : RX9_behindWord_0 N d (n + 1) X x1 x2 x3 I J = am_cV (am_G am_prog (N + 30) (d + 0) 231 [.ref 135, .int x1] (mkh X I J)) (KX9_behindWord_0 N d n x2 x3) := by
  rfl
set_option maxHeartbeats 4000000 in
set_option maxRecDepth 100000 in
theorem kX9_behindWord_0 (N d n : Nat) {X : lt_X} (a0 : Int32) (a1 : Int32) (I : Nat → Nat → Int32) (J : Nat → Nat → Int64) : KX9_behindWord_0 N d n a0 a1 (mkh X I J) = am_cI (am_G am_prog (N + 30) (d + 0) 232 [.ref 135, .int a0, .int a1] (mkh X I J)) (KX9_behindWord_1 N d n ) := by
  rfl
set_option maxHeartbeats 4000000 in
set_option maxRecDepth 100000 in
theorem kX9_behindWord_1 (N d n : Nat) {X : lt_X} (z : Int32) (I : Nat → Nat → Int32) (J : Nat → Nat → Int64) : KX9_behindWord_1 N d n z (mkh X I J) = some (.int z, (mkh X I J)) := by
  rfl
theorem fX9_behindWord (N d : Nat) {X : lt_X} (x1 : Int32) (x2 : Int32) (x3 : Int32) (I : Nat → Nat → Int32) (J : Nat → Nat → Int64) : am_G am_prog N (d + 1) 233 [.ref 135, .int x1, .int x2, .int x3] (mkh X I J) = am_run (am_G am_prog N d) eX9_behindWord uX9_behindWord N 0 [(0, .ref 135), (1, .int x1), (2, .int x2), (3, .int x3)] [] (mkh X I J) := by
  refine (am_G_at N d 233 mX9_behindWord _ _ rfl).trans ?_
  rfl
theorem gX9_behindWord (N d : Nat) {X : lt_X} (x1 : Int32) (x2 : Int32) (x3 : Int32) (I : Nat → Nat → Int32) (J : Nat → Nat → Int64) : am_G am_prog (N + 30) (d + 1) 233 [.ref 135, .int x1, .int x2, .int x3] (mkh X I J) = RX9_behindWord_0 N d (N + 30) X x1 x2 x3 I J := fX9_behindWord (N + 30) (d + 0) x1 x2 x3 I J
def RX9_perhaps_0 (N d n : Nat) (X : lt_X) (x1 : Int32) (I : Nat → Nat → Int32) (J : Nat → Nat → Int64) : am_O := am_run (am_G am_prog (N + 30) (d + 0)) eX9_perhaps uX9_perhaps n 0 [(0, .ref 135), (1, .int x1)] [] (mkh X I J)
def KX9_perhaps_0 (N d n : Nat) (h : am_H) : am_O := some (.int (nI 1), h)
set_option maxHeartbeats 4000000 in
set_option maxRecDepth 100000 in
theorem sX9_perhaps_0 (N d n : Nat) {X : lt_X} (x1 : Int32) (I : Nat → Nat → Int32) (J : Nat → Nat → Int64) : RX9_perhaps_0 N d (n + 1) X x1 I J = if nI 0 < (I 135 12) then some (.int (nI 0), (mkh X I J)) else if x1 = nI 0 then some (.int (nI 0), (mkh X I J)) else am_cV (am_G am_prog (N + 30) (d + 0) 207 [.ref 135] (mkh X I J)) (KX9_perhaps_0 N d n ) := by
  rfl
set_option maxHeartbeats 4000000 in
set_option maxRecDepth 100000 in
theorem kX9_perhaps_0 (N d n : Nat) {X : lt_X} (I : Nat → Nat → Int32) (J : Nat → Nat → Int64) : KX9_perhaps_0 N d n (mkh X I J) = some (.int (nI 1), (mkh X I J)) := by
  rfl
theorem fX9_perhaps (N d : Nat) {X : lt_X} (x1 : Int32) (I : Nat → Nat → Int32) (J : Nat → Nat → Int64) : am_G am_prog N (d + 1) 234 [.ref 135, .int x1] (mkh X I J) = am_run (am_G am_prog N d) eX9_perhaps uX9_perhaps N 0 [(0, .ref 135), (1, .int x1)] [] (mkh X I J) := by
  refine (am_G_at N d 234 mX9_perhaps _ _ rfl).trans ?_
  rfl
theorem gX9_perhaps (N d : Nat) {X : lt_X} (x1 : Int32) (I : Nat → Nat → Int32) (J : Nat → Nat → Int64) : am_G am_prog (N + 30) (d + 1) 234 [.ref 135, .int x1] (mkh X I J) = RX9_perhaps_0 N d (N + 30) X x1 I J := fX9_perhaps (N + 30) (d + 0) x1 I J
def RX9_feed_0 (N d n : Nat) (X : lt_X) (x1 : Int32) (x2 : Int32) (x3 : Int32) (x4 : Int32) (x5 : Int32) (I : Nat → Nat → Int32) (J : Nat → Nat → Int64) : am_O := am_run (am_G am_prog (N + 30) (d + 0)) eX9_feed uX9_feed n 0 [(0, .ref 135), (1, .int x1), (2, .int x2), (3, .int x3), (4, .int x4), (5, .int x5)] [] (mkh X I J)
def KX9_feed_0 (N d n : Nat) (a0 : Int32) (a1 : Int32) (a2 : Int32) (a3 : Int32) (h : am_H) : am_O := am_cV (am_G am_prog (N + 30) (d + 0) 236 [.ref 135, .int a0] h) (fun h1 => am_cV (am_G am_prog (N + 30) (d + 0) 236 [.ref 135, .int a1] h1) (fun h2 => am_cV (am_G am_prog (N + 30) (d + 0) 236 [.ref 135, .int a2] h2) (fun h3 => am_cV (am_G am_prog (N + 30) (d + 0) 236 [.ref 135, .int a3] h3) (fun h4 => am_gI h4 9 135 8 (fun y5 => some (.int y5, h4))))))
def KX9_feed_1 (N d n : Nat) (a0 : Int32) (a1 : Int32) (a2 : Int32) (h : am_H) : am_O := am_cV (am_G am_prog (N + 30) (d + 0) 236 [.ref 135, .int a0] h) (fun h1 => am_cV (am_G am_prog (N + 30) (d + 0) 236 [.ref 135, .int a1] h1) (fun h2 => am_cV (am_G am_prog (N + 30) (d + 0) 236 [.ref 135, .int a2] h2) (fun h3 => am_gI h3 9 135 8 (fun y4 => some (.int y4, h3)))))
def KX9_feed_2 (N d n : Nat) (a0 : Int32) (a1 : Int32) (h : am_H) : am_O := am_cV (am_G am_prog (N + 30) (d + 0) 236 [.ref 135, .int a0] h) (fun h1 => am_cV (am_G am_prog (N + 30) (d + 0) 236 [.ref 135, .int a1] h1) (fun h2 => am_gI h2 9 135 8 (fun y3 => some (.int y3, h2))))
def KX9_feed_3 (N d n : Nat) (a0 : Int32) (h : am_H) : am_O := am_cV (am_G am_prog (N + 30) (d + 0) 236 [.ref 135, .int a0] h) (fun h1 => am_gI h1 9 135 8 (fun y2 => some (.int y2, h1)))
def KX9_feed_4 (N d n : Nat) (h : am_H) : am_O := am_gI h 9 135 8 (fun y1 => some (.int y1, h))
set_option maxHeartbeats 4000000 in
set_option maxRecDepth 100000 in
theorem sX9_feed_0 (N d n : Nat) {X : lt_X} (x1 : Int32) (x2 : Int32) (x3 : Int32) (x4 : Int32) (x5 : Int32) (I : Nat → Nat → Int32) (J : Nat → Nat → Int64) : RX9_feed_0 N d (n + 1) X x1 x2 x3 x4 x5 I J = if (nI 900) < ((I 135 8) + (nI 20)) then some (.int (-1), (mkh X (u2 I 135 1 (nI 0)) J)) else am_cV (am_G am_prog (N + 30) (d + 0) 236 [.ref 135, .int x1] (mkh X (u2 I 135 1 (nI 0)) J)) (KX9_feed_0 N d n x2 x3 x4 x5) := by
  rfl
set_option maxHeartbeats 4000000 in
set_option maxRecDepth 100000 in
theorem kX9_feed_0 (N d n : Nat) {X : lt_X} (a0 : Int32) (a1 : Int32) (a2 : Int32) (a3 : Int32) (I : Nat → Nat → Int32) (J : Nat → Nat → Int64) : KX9_feed_0 N d n a0 a1 a2 a3 (mkh X I J) = am_cV (am_G am_prog (N + 30) (d + 0) 236 [.ref 135, .int a0] (mkh X I J)) (KX9_feed_1 N d n a1 a2 a3) := by
  rfl
set_option maxHeartbeats 4000000 in
set_option maxRecDepth 100000 in
theorem kX9_feed_1 (N d n : Nat) {X : lt_X} (a0 : Int32) (a1 : Int32) (a2 : Int32) (I : Nat → Nat → Int32) (J : Nat → Nat → Int64) : KX9_feed_1 N d n a0 a1 a2 (mkh X I J) = am_cV (am_G am_prog (N + 30) (d + 0) 236 [.ref 135, .int a0] (mkh X I J)) (KX9_feed_2 N d n a1 a2) := by
  rfl
set_option maxHeartbeats 4000000 in
set_option maxRecDepth 100000 in
theorem kX9_feed_2 (N d n : Nat) {X : lt_X} (a0 : Int32) (a1 : Int32) (I : Nat → Nat → Int32) (J : Nat → Nat → Int64) : KX9_feed_2 N d n a0 a1 (mkh X I J) = am_cV (am_G am_prog (N + 30) (d + 0) 236 [.ref 135, .int a0] (mkh X I J)) (KX9_feed_3 N d n a1) := by
  rfl
set_option maxHeartbeats 4000000 in
set_option maxRecDepth 100000 in
theorem kX9_feed_3 (N d n : Nat) {X : lt_X} (a0 : Int32) (I : Nat → Nat → Int32) (J : Nat → Nat → Int64) : KX9_feed_3 N d n a0 (mkh X I J) = am_cV (am_G am_prog (N + 30) (d + 0) 236 [.ref 135, .int a0] (mkh X I J)) (KX9_feed_4 N d n ) := by
  rfl
set_option maxHeartbeats 4000000 in
set_option maxRecDepth 100000 in
theorem kX9_feed_4 (N d n : Nat) {X : lt_X} (I : Nat → Nat → Int32) (J : Nat → Nat → Int64) : KX9_feed_4 N d n (mkh X I J) = some (.int (I 135 8), (mkh X I J)) := by
  rfl
theorem fX9_feed (N d : Nat) {X : lt_X} (x1 : Int32) (x2 : Int32) (x3 : Int32) (x4 : Int32) (x5 : Int32) (I : Nat → Nat → Int32) (J : Nat → Nat → Int64) : am_G am_prog N (d + 1) 235 [.ref 135, .int x1, .int x2, .int x3, .int x4, .int x5] (mkh X I J) = am_run (am_G am_prog N d) eX9_feed uX9_feed N 0 [(0, .ref 135), (1, .int x1), (2, .int x2), (3, .int x3), (4, .int x4), (5, .int x5)] [] (mkh X I J) := by
  refine (am_G_at N d 235 mX9_feed _ _ rfl).trans ?_
  rfl
theorem gX9_feed (N d : Nat) {X : lt_X} (x1 : Int32) (x2 : Int32) (x3 : Int32) (x4 : Int32) (x5 : Int32) (I : Nat → Nat → Int32) (J : Nat → Nat → Int64) : am_G am_prog (N + 30) (d + 1) 235 [.ref 135, .int x1, .int x2, .int x3, .int x4, .int x5] (mkh X I J) = RX9_feed_0 N d (N + 30) X x1 x2 x3 x4 x5 I J := fX9_feed (N + 30) (d + 0) x1 x2 x3 x4 x5 I J
def RX9_lay_0 (N d n : Nat) (X : lt_X) (x1 : Int32) (I : Nat → Nat → Int32) (J : Nat → Nat → Int64) : am_O := am_run (am_G am_prog (N + 30) (d + 0)) eX9_lay uX9_lay n 0 [(0, .ref 135), (1, .int x1)] [] (mkh X I J)
def RX9_lay_2 (N d n : Nat) (X : lt_X) (x1 : Int32) (x2 : Int32) (I : Nat → Nat → Int32) (J : Nat → Nat → Int64) : am_O := am_run (am_G am_prog (N + 30) (d + 0)) eX9_lay uX9_lay n 2 [(0, .ref 135), (1, .int x1), (2, .int x2)] [] (mkh X I J)
set_option maxHeartbeats 4000000 in
set_option maxRecDepth 100000 in
theorem sX9_lay_0 (N d n : Nat) {X : lt_X} (x1 : Int32) (I : Nat → Nat → Int32) (J : Nat → Nat → Int64) : RX9_lay_0 N d (n + 1) X x1 I J = RX9_lay_2 N d n X x1 (nI 3) I J := by
  rfl
set_option maxHeartbeats 4000000 in
set_option maxRecDepth 100000 in
theorem sX9_lay_2 (N d n : Nat) {X : lt_X} (x1 : Int32) (x2 : Int32) (I : Nat → Nat → Int32) (J : Nat → Nat → Int64) : RX9_lay_2 N d (n + 1) X x1 x2 I J = if x2 < nI 0 then some (.null, (mkh X I J)) else if am_in (I 135 8) 900 then RX9_lay_2 N d n X x1 (x2 + (-1)) (u2 (u2 I 139 ((I 135 8).toNatClampNeg) (((x1 >>> (((nI 8) * x2) &&& 31)).toInt8.toInt32).toInt8.toInt32)) 135 8 ((I 135 8) + (nI 1))) J else none := by
  rfl
theorem fX9_lay (N d : Nat) {X : lt_X} (x1 : Int32) (I : Nat → Nat → Int32) (J : Nat → Nat → Int64) : am_G am_prog N (d + 1) 236 [.ref 135, .int x1] (mkh X I J) = am_run (am_G am_prog N d) eX9_lay uX9_lay N 0 [(0, .ref 135), (1, .int x1)] [] (mkh X I J) := by
  refine (am_G_at N d 236 mX9_lay _ _ rfl).trans ?_
  rfl
theorem gX9_lay (N d : Nat) {X : lt_X} (x1 : Int32) (I : Nat → Nat → Int32) (J : Nat → Nat → Int64) : am_G am_prog (N + 30) (d + 1) 236 [.ref 135, .int x1] (mkh X I J) = RX9_lay_0 N d (N + 30) X x1 I J := fX9_lay (N + 30) (d + 0) x1 I J
def RX9_starts_0 (N d n : Nat) (X : lt_X) (x1 : Int32) (x2 : Int32) (I : Nat → Nat → Int32) (J : Nat → Nat → Int64) : am_O := am_run (am_G am_prog (N + 30) (d + 1)) eX9_starts uX9_starts n 0 [(0, .ref 135), (1, .int x1), (2, .int x2)] [] (mkh X I J)
def KX9_starts_0 (N d n : Nat) (h : am_H) : am_O := some (.int (nI 1), h)
set_option maxHeartbeats 4000000 in
set_option maxRecDepth 100000 in
theorem sX9_starts_0 (N d n : Nat) {X : lt_X} (x1 : Int32) (x2 : Int32) (I : Nat → Nat → Int32) (J : Nat → Nat → Int64) : RX9_starts_0 N d (n + 1) X x1 x2 I J = if x1 < nI 0 then some (.int (nI 0), (mkh X (u2 I 135 0 (nI 5)) J)) else if (I 135 8) < x1 then some (.int (nI 0), (mkh X (u2 I 135 0 (nI 5)) J)) else if x2 < x1 then some (.int (nI 0), (mkh X (u2 I 135 0 (nI 5)) J)) else am_cV (am_G am_prog (N + 30) (d + 1) 207 [.ref 135] (mkh X (u2 (u2 (u2 (u2 I 135 9 x1) 135 8 (nI 0)) 135 16 (nI 0)) 135 12 (nI 0)) J)) (KX9_starts_0 N d n ) := by
  rfl
set_option maxHeartbeats 4000000 in
set_option maxRecDepth 100000 in
theorem kX9_starts_0 (N d n : Nat) {X : lt_X} (I : Nat → Nat → Int32) (J : Nat → Nat → Int64) : KX9_starts_0 N d n (mkh X I J) = some (.int (nI 1), (mkh X I J)) := by
  rfl
theorem fX9_starts (N d : Nat) {X : lt_X} (x1 : Int32) (x2 : Int32) (I : Nat → Nat → Int32) (J : Nat → Nat → Int64) : am_G am_prog N (d + 1) 237 [.ref 135, .int x1, .int x2] (mkh X I J) = am_run (am_G am_prog N d) eX9_starts uX9_starts N 0 [(0, .ref 135), (1, .int x1), (2, .int x2)] [] (mkh X I J) := by
  refine (am_G_at N d 237 mX9_starts _ _ rfl).trans ?_
  rfl
theorem gX9_starts (N d : Nat) {X : lt_X} (x1 : Int32) (x2 : Int32) (I : Nat → Nat → Int32) (J : Nat → Nat → Int64) : am_G am_prog (N + 30) (d + 2) 237 [.ref 135, .int x1, .int x2] (mkh X I J) = RX9_starts_0 N d (N + 30) X x1 x2 I J := fX9_starts (N + 30) (d + 1) x1 x2 I J
def RX9_isWell_0 (N d n : Nat) (X : lt_X) (I : Nat → Nat → Int32) (J : Nat → Nat → Int64) : am_O := am_run (am_G am_prog (N + 30) (d + 1)) eX9_isWell uX9_isWell n 0 [(0, .ref 135)] [] (mkh X I J)
def RX9_isWell_24 (N d n : Nat) (X : lt_X) (s0 : Int32) (s1 : Nat) (I : Nat → Nat → Int32) (J : Nat → Nat → Int64) : am_O := am_run (am_G am_prog (N + 30) (d + 1)) eX9_isWell uX9_isWell n 24 [(0, .ref 135)] [.int s0, .ref s1] (mkh X I J)
set_option maxHeartbeats 4000000 in
set_option maxRecDepth 100000 in
theorem sX9_isWell_0 (N d n : Nat) {X : lt_X} (I : Nat → Nat → Int32) (J : Nat → Nat → Int64) : RX9_isWell_0 N d (n + 1) X I J = if (I 135 12) = nI 0 then am_run (am_G am_prog (N + 30) (d + 1)) eX9_isWell uX9_isWell n 24 [(0, .ref 135)] [.int (-1), .ref 135] (mkh X (u2 I 135 10 (I 135 12)) J) else am_run (am_G am_prog (N + 30) (d + 1)) eX9_isWell uX9_isWell n 24 [(0, .ref 135)] [.int (I 135 13), .ref 135] (mkh X (u2 I 135 10 (I 135 12)) J) := by
  rfl
set_option maxHeartbeats 4000000 in
set_option maxRecDepth 100000 in
theorem sX9_isWell_24 (N d n : Nat) {X : lt_X} (s0 : Int32) (s1 : Nat) (I : Nat → Nat → Int32) (J : Nat → Nat → Int64) : RX9_isWell_24 N d (n + 1) X s0 s1 I J = am_pI (mkh X I J) 9 s1 11 s0 (fun h1 => am_gI h1 9 135 12 (fun y2 => if y2 = nI 0 then some (.int (nI 1), h1) else am_cI (am_G am_prog (N + 30) (d + 1) 189 [.ref 135, .int (nI 10)] h1) (fun r4 h3 => if r4 = nI 0 then some (.int (nI 0), h3) else some (.int (nI 1), h3)))) := by
  rfl
theorem fX9_isWell (N d : Nat) {X : lt_X} (I : Nat → Nat → Int32) (J : Nat → Nat → Int64) : am_G am_prog N (d + 1) 238 [.ref 135] (mkh X I J) = am_run (am_G am_prog N d) eX9_isWell uX9_isWell N 0 [(0, .ref 135)] [] (mkh X I J) := by
  refine (am_G_at N d 238 mX9_isWell _ _ rfl).trans ?_
  rfl
theorem gX9_isWell (N d : Nat) {X : lt_X} (I : Nat → Nat → Int32) (J : Nat → Nat → Int64) : am_G am_prog (N + 30) (d + 2) 238 [.ref 135] (mkh X I J) = RX9_isWell_0 N d (N + 30) X I J := fX9_isWell (N + 30) (d + 1) I J
def RX9_fault_0 (N d n : Nat) (X : lt_X) (x1 : Int32) (I : Nat → Nat → Int32) (J : Nat → Nat → Int64) : am_O := am_run (am_G am_prog (N + 30) (d + 0)) eX9_fault uX9_fault n 0 [(0, .ref 135), (1, .int x1)] [] (mkh X I J)
set_option maxHeartbeats 4000000 in
set_option maxRecDepth 100000 in
theorem sX9_fault_0 (N d n : Nat) {X : lt_X} (x1 : Int32) (I : Nat → Nat → Int32) (J : Nat → Nat → Int64) : RX9_fault_0 N d (n + 1) X x1 I J = if x1 = nI 0 then some (.int (I 135 10), (mkh X (u2 I 135 1 (nI 0)) J)) else if x1 = (nI 1) then some (.int (I 135 11), (mkh X (u2 I 135 1 (nI 0)) J)) else some (.int (-1), (mkh X (u2 I 135 1 (nI 0)) J)) := by
  rfl
theorem fX9_fault (N d : Nat) {X : lt_X} (x1 : Int32) (I : Nat → Nat → Int32) (J : Nat → Nat → Int64) : am_G am_prog N (d + 1) 239 [.ref 135, .int x1] (mkh X I J) = am_run (am_G am_prog N d) eX9_fault uX9_fault N 0 [(0, .ref 135), (1, .int x1)] [] (mkh X I J) := by
  refine (am_G_at N d 239 mX9_fault _ _ rfl).trans ?_
  rfl
theorem gX9_fault (N d : Nat) {X : lt_X} (x1 : Int32) (I : Nat → Nat → Int32) (J : Nat → Nat → Int64) : am_G am_prog (N + 30) (d + 1) 239 [.ref 135, .int x1] (mkh X I J) = RX9_fault_0 N d (N + 30) X x1 I J := fX9_fault (N + 30) (d + 0) x1 I J
def RX9_empties_0 (N d n : Nat) (X : lt_X) (x1 : Int32) (I : Nat → Nat → Int32) (J : Nat → Nat → Int64) : am_O := am_run (am_G am_prog (N + 30) (d + 0)) eX9_empties uX9_empties n 0 [(0, .ref 135), (1, .int x1)] [] (mkh X I J)
def RX9_empties_8 (N d n : Nat) (X : lt_X) (x2 : Int32) (x3 : Int32) (I : Nat → Nat → Int32) (J : Nat → Nat → Int64) : am_O := am_run (am_G am_prog (N + 30) (d + 0)) eX9_empties uX9_empties n 8 [(0, .ref 135), (2, .int x2), (3, .int x3)] [] (mkh X I J)
set_option maxHeartbeats 4000000 in
set_option maxRecDepth 100000 in
theorem sX9_empties_0 (N d n : Nat) {X : lt_X} (x1 : Int32) (I : Nat → Nat → Int32) (J : Nat → Nat → Int64) : RX9_empties_0 N d (n + 1) X x1 I J = RX9_empties_8 N d n X ((nI 429) * x1) (nI 0) I J := by
  rfl
set_option maxHeartbeats 4000000 in
set_option maxRecDepth 100000 in
theorem sX9_empties_8 (N d n : Nat) {X : lt_X} (x2 : Int32) (x3 : Int32) (I : Nat → Nat → Int32) (J : Nat → Nat → Int64) : RX9_empties_8 N d (n + 1) X x2 x3 I J = if x3 < (nI 429) then if am_in (x2 + x3) 2145 then RX9_empties_8 N d n X x2 (x3 + (nI 1)) (u2 I 140 ((x2 + x3).toNatClampNeg) (nI 0)) J else none else if am_in (x2 + (nI 4)) 2145 then some (.null, (mkh X (u2 I 140 ((x2 + (nI 4)).toNatClampNeg) (nI 1)) J)) else none := by
  rfl
theorem fX9_empties (N d : Nat) {X : lt_X} (x1 : Int32) (I : Nat → Nat → Int32) (J : Nat → Nat → Int64) : am_G am_prog N (d + 1) 240 [.ref 135, .int x1] (mkh X I J) = am_run (am_G am_prog N d) eX9_empties uX9_empties N 0 [(0, .ref 135), (1, .int x1)] [] (mkh X I J) := by
  refine (am_G_at N d 240 mX9_empties _ _ rfl).trans ?_
  rfl
theorem gX9_empties (N d : Nat) {X : lt_X} (x1 : Int32) (I : Nat → Nat → Int32) (J : Nat → Nat → Int64) : am_G am_prog (N + 30) (d + 1) 240 [.ref 135, .int x1] (mkh X I J) = RX9_empties_0 N d (N + 30) X x1 I J := fX9_empties (N + 30) (d + 0) x1 I J
def RX9_named_0 (N d n : Nat) (X : lt_X) (x1 : Int32) (x2 : Int32) (I : Nat → Nat → Int32) (J : Nat → Nat → Int64) : am_O := am_run (am_G am_prog (N + 30) (d + 0)) eX9_named uX9_named n 0 [(0, .ref 135), (1, .int x1), (2, .int x2)] [] (mkh X I J)
def RX9_named_2 (N d n : Nat) (X : lt_X) (x1 : Int32) (x2 : Int32) (x3 : Int32) (I : Nat → Nat → Int32) (J : Nat → Nat → Int64) : am_O := am_run (am_G am_prog (N + 30) (d + 0)) eX9_named uX9_named n 2 [(0, .ref 135), (1, .int x1), (2, .int x2), (3, .int x3)] [] (mkh X I J)
set_option maxHeartbeats 4000000 in
set_option maxRecDepth 100000 in
theorem sX9_named_0 (N d n : Nat) {X : lt_X} (x1 : Int32) (x2 : Int32) (I : Nat → Nat → Int32) (J : Nat → Nat → Int64) : RX9_named_0 N d (n + 1) X x1 x2 I J = RX9_named_2 N d n X x1 x2 (nI 0) I J := by
  rfl
set_option maxHeartbeats 4000000 in
set_option maxRecDepth 100000 in
theorem sX9_named_2 (N d n : Nat) {X : lt_X} (x1 : Int32) (x2 : Int32) (x3 : Int32) (I : Nat → Nat → Int32) (J : Nat → Nat → Int64) : RX9_named_2 N d (n + 1) X x1 x2 x3 I J = if am_in (((nI 429) * x1) + x2) 2145 then if x3 < (I 140 ((((nI 429) * x1) + x2).toNatClampNeg)) then if am_in ((((nI 24) * x1) + ((nI 6) * x2)) + x3) 120 then if (lg_cmp (J 142 (((((nI 24) * x1) + ((nI 6) * x2)) + x3).toNatClampNeg)) (J 135 19)) = nI 0 then some (.int x3, (mkh X I J)) else RX9_named_2 N d n X x1 x2 (x3 + (nI 1)) I J else none else some (.int (-1), (mkh X I J)) else none := by
  rfl
theorem fX9_named (N d : Nat) {X : lt_X} (x1 : Int32) (x2 : Int32) (I : Nat → Nat → Int32) (J : Nat → Nat → Int64) : am_G am_prog N (d + 1) 241 [.ref 135, .int x1, .int x2] (mkh X I J) = am_run (am_G am_prog N d) eX9_named uX9_named N 0 [(0, .ref 135), (1, .int x1), (2, .int x2)] [] (mkh X I J) := by
  refine (am_G_at N d 241 mX9_named _ _ rfl).trans ?_
  rfl
theorem gX9_named (N d : Nat) {X : lt_X} (x1 : Int32) (x2 : Int32) (I : Nat → Nat → Int32) (J : Nat → Nat → Int64) : am_G am_prog (N + 30) (d + 1) 241 [.ref 135, .int x1, .int x2] (mkh X I J) = RX9_named_0 N d (N + 30) X x1 x2 I J := fX9_named (N + 30) (d + 0) x1 x2 I J
def RX9_isTaken_0 (N d n : Nat) (X : lt_X) (I : Nat → Nat → Int32) (J : Nat → Nat → Int64) : am_O := am_run (am_G am_prog (N + 30) (d + 0)) eX9_isTaken uX9_isTaken n 0 [(0, .ref 135)] [] (mkh X I J)
def KX9_isTaken_0 (N d n : Nat) (z : Int32) (h : am_H) : am_O := if z < nI 0 then am_cI (am_G am_prog (N + 30) (d + 0) 241 [.ref 135, .int (nI 4), .int (nI 1)] h) (fun r2 h1 => if r2 < nI 0 then am_cI (am_G am_prog (N + 30) (d + 0) 241 [.ref 135, .int (nI 4), .int (nI 2)] h1) (fun r4 h3 => if r4 < nI 0 then am_cI (am_G am_prog (N + 30) (d + 0) 241 [.ref 135, .int (nI 4), .int (nI 3)] h3) (fun r6 h5 => if r6 < nI 0 then some (.int (nI 0), h5) else some (.int (nI 1), h5)) else some (.int (nI 1), h3)) else some (.int (nI 1), h1)) else some (.int (nI 1), h)
def KX9_isTaken_1 (N d n : Nat) (z : Int32) (h : am_H) : am_O := if z < nI 0 then am_cI (am_G am_prog (N + 30) (d + 0) 241 [.ref 135, .int (nI 4), .int (nI 2)] h) (fun r2 h1 => if r2 < nI 0 then am_cI (am_G am_prog (N + 30) (d + 0) 241 [.ref 135, .int (nI 4), .int (nI 3)] h1) (fun r4 h3 => if r4 < nI 0 then some (.int (nI 0), h3) else some (.int (nI 1), h3)) else some (.int (nI 1), h1)) else some (.int (nI 1), h)
def KX9_isTaken_2 (N d n : Nat) (z : Int32) (h : am_H) : am_O := if z < nI 0 then am_cI (am_G am_prog (N + 30) (d + 0) 241 [.ref 135, .int (nI 4), .int (nI 3)] h) (fun r2 h1 => if r2 < nI 0 then some (.int (nI 0), h1) else some (.int (nI 1), h1)) else some (.int (nI 1), h)
def KX9_isTaken_3 (N d n : Nat) (z : Int32) (h : am_H) : am_O := if z < nI 0 then some (.int (nI 0), h) else some (.int (nI 1), h)
set_option maxHeartbeats 4000000 in
set_option maxRecDepth 100000 in
theorem sX9_isTaken_0 (N d n : Nat) {X : lt_X} (I : Nat → Nat → Int32) (J : Nat → Nat → Int64) : RX9_isTaken_0 N d (n + 1) X I J = am_cI (am_G am_prog (N + 30) (d + 0) 241 [.ref 135, .int (nI 4), .int (nI 0)] (mkh X I J)) (KX9_isTaken_0 N d n ) := by
  rfl
set_option maxHeartbeats 4000000 in
set_option maxRecDepth 100000 in
theorem kX9_isTaken_0 (N d n : Nat) {X : lt_X} (z : Int32) (I : Nat → Nat → Int32) (J : Nat → Nat → Int64) : KX9_isTaken_0 N d n z (mkh X I J) = if z < nI 0 then am_cI (am_G am_prog (N + 30) (d + 0) 241 [.ref 135, .int (nI 4), .int (nI 1)] (mkh X I J)) (KX9_isTaken_1 N d n ) else some (.int (nI 1), (mkh X I J)) := by
  rfl
set_option maxHeartbeats 4000000 in
set_option maxRecDepth 100000 in
theorem kX9_isTaken_1 (N d n : Nat) {X : lt_X} (z : Int32) (I : Nat → Nat → Int32) (J : Nat → Nat → Int64) : KX9_isTaken_1 N d n z (mkh X I J) = if z < nI 0 then am_cI (am_G am_prog (N + 30) (d + 0) 241 [.ref 135, .int (nI 4), .int (nI 2)] (mkh X I J)) (KX9_isTaken_2 N d n ) else some (.int (nI 1), (mkh X I J)) := by
  rfl
set_option maxHeartbeats 4000000 in
set_option maxRecDepth 100000 in
theorem kX9_isTaken_2 (N d n : Nat) {X : lt_X} (z : Int32) (I : Nat → Nat → Int32) (J : Nat → Nat → Int64) : KX9_isTaken_2 N d n z (mkh X I J) = if z < nI 0 then am_cI (am_G am_prog (N + 30) (d + 0) 241 [.ref 135, .int (nI 4), .int (nI 3)] (mkh X I J)) (KX9_isTaken_3 N d n ) else some (.int (nI 1), (mkh X I J)) := by
  rfl
set_option maxHeartbeats 4000000 in
set_option maxRecDepth 100000 in
theorem kX9_isTaken_3 (N d n : Nat) {X : lt_X} (z : Int32) (I : Nat → Nat → Int32) (J : Nat → Nat → Int64) : KX9_isTaken_3 N d n z (mkh X I J) = if z < nI 0 then some (.int (nI 0), (mkh X I J)) else some (.int (nI 1), (mkh X I J)) := by
  rfl
theorem fX9_isTaken (N d : Nat) {X : lt_X} (I : Nat → Nat → Int32) (J : Nat → Nat → Int64) : am_G am_prog N (d + 1) 242 [.ref 135] (mkh X I J) = am_run (am_G am_prog N d) eX9_isTaken uX9_isTaken N 0 [(0, .ref 135)] [] (mkh X I J) := by
  refine (am_G_at N d 242 mX9_isTaken _ _ rfl).trans ?_
  rfl
theorem gX9_isTaken (N d : Nat) {X : lt_X} (I : Nat → Nat → Int32) (J : Nat → Nat → Int64) : am_G am_prog (N + 30) (d + 1) 242 [.ref 135] (mkh X I J) = RX9_isTaken_0 N d (N + 30) X I J := fX9_isTaken (N + 30) (d + 0) I J
def RX9_readNew_0 (N d n : Nat) (X : lt_X) (x1 : Int32) (I : Nat → Nat → Int32) (J : Nat → Nat → Int64) : am_O := am_run (am_G am_prog (N + 30) (d + 0)) eX9_readNew uX9_readNew n 0 [(0, .ref 135), (1, .int x1)] [] (mkh X I J)
def RX9_readNew_27 (N d n : Nat) (X : lt_X) (x1 : Int32) (x2 : Int32) (I : Nat → Nat → Int32) (J : Nat → Nat → Int64) : am_O := am_run (am_G am_prog (N + 30) (d + 0)) eX9_readNew uX9_readNew n 27 [(0, .ref 135), (1, .int x1), (2, .int x2)] [] (mkh X I J)
def RX9_readNew_51 (N d n : Nat) (X : lt_X) (x1 : Int32) (x2 : Int32) (I : Nat → Nat → Int32) (J : Nat → Nat → Int64) : am_O := am_run (am_G am_prog (N + 30) (d + 0)) eX9_readNew uX9_readNew n 51 [(0, .ref 135), (1, .int x1), (2, .int x2)] [] (mkh X I J)
def RX9_readNew_74 (N d n : Nat) (X : lt_X) (x1 : Int32) (x2 : Int32) (I : Nat → Nat → Int32) (J : Nat → Nat → Int64) : am_O := am_run (am_G am_prog (N + 30) (d + 0)) eX9_readNew uX9_readNew n 74 [(0, .ref 135), (1, .int x1), (2, .int x2)] [] (mkh X I J)
def KX9_readNew_0 (N d n : Nat) (a0 : Int32) (a1 : Int32) (h : am_H) : am_O := am_run (am_G am_prog (N + 30) (d + 0)) eX9_readNew uX9_readNew n 27 [(0, .ref 135), (1, .int a1), (2, .int a0)] [] h
def KX9_readNew_1 (N d n : Nat) (a0 : Int32) (a1 : Int32) (h : am_H) : am_O := am_cI (am_G am_prog (N + 30) (d + 0) 228 [.ref 135] h) (fun r2 h1 => if r2 = nI 0 then am_cV (am_G am_prog (N + 30) (d + 0) 230 [.ref 135] h1) (fun h3 => am_run (am_G am_prog (N + 30) (d + 0)) eX9_readNew uX9_readNew n 51 [(0, .ref 135), (1, .int a0), (2, .int a1)] [] h3) else am_run (am_G am_prog (N + 30) (d + 0)) eX9_readNew uX9_readNew n 51 [(0, .ref 135), (1, .int a0), (2, .int a1)] [] h1)
def KX9_readNew_2 (N d n : Nat) (a0 : Int32) (a1 : Int32) (z : Int32) (h : am_H) : am_O := if z = nI 0 then am_run (am_G am_prog (N + 30) (d + 0)) eX9_readNew uX9_readNew n 74 [(0, .ref 135), (1, .int a0), (2, .int a1)] [] h else am_gI h 9 135 15 (fun y1 => am_cV (am_G am_prog (N + 30) (d + 0) 229 [.ref 135, .int (nI 3), .int y1] h) (fun h2 => am_run (am_G am_prog (N + 30) (d + 0)) eX9_readNew uX9_readNew n 74 [(0, .ref 135), (1, .int a0), (2, .int a1)] [] h2))
def KX9_readNew_3 (N d n : Nat) (a0 : Int32) (h : am_H) : am_O := some (.int a0, h)
def KX9_readNew_4 (N d n : Nat) (a0 : Int32) (a1 : Int32) (z : Int32) (h : am_H) : am_O := if z = nI 0 then am_cV (am_G am_prog (N + 30) (d + 0) 230 [.ref 135] h) (fun h1 => am_run (am_G am_prog (N + 30) (d + 0)) eX9_readNew uX9_readNew n 51 [(0, .ref 135), (1, .int a0), (2, .int a1)] [] h1) else am_run (am_G am_prog (N + 30) (d + 0)) eX9_readNew uX9_readNew n 51 [(0, .ref 135), (1, .int a0), (2, .int a1)] [] h
def KX9_readNew_5 (N d n : Nat) (a0 : Int32) (a1 : Int32) (h : am_H) : am_O := am_run (am_G am_prog (N + 30) (d + 0)) eX9_readNew uX9_readNew n 74 [(0, .ref 135), (1, .int a0), (2, .int a1)] [] h
def KX9_readNew_6 (N d n : Nat) (a0 : Int32) (a1 : Int32) (h : am_H) : am_O := am_run (am_G am_prog (N + 30) (d + 0)) eX9_readNew uX9_readNew n 51 [(0, .ref 135), (1, .int a0), (2, .int a1)] [] h
set_option maxHeartbeats 4000000 in
set_option maxRecDepth 100000 in
theorem sX9_readNew_0 (N d n : Nat) {X : lt_X} (x1 : Int32) (I : Nat → Nat → Int32) (J : Nat → Nat → Int64) : RX9_readNew_0 N d (n + 1) X x1 I J = if am_in ((nI 1716) + x1) 2145 then if (I 140 (((nI 1716) + x1).toNatClampNeg)) = (nI 6) then am_cV (am_G am_prog (N + 30) (d + 0) 229 [.ref 135, .int (nI 6), .int (I 135 15)] (mkh X I J)) (KX9_readNew_0 N d n (I 140 (((nI 1716) + x1).toNatClampNeg)) x1) else RX9_readNew_27 N d n X x1 (I 140 (((nI 1716) + x1).toNatClampNeg)) I J else none := by
  rfl
set_option maxHeartbeats 4000000 in
set_option maxRecDepth 100000 in
theorem sX9_readNew_27 (N d n : Nat) {X : lt_X} (x1 : Int32) (x2 : Int32) (I : Nat → Nat → Int32) (J : Nat → Nat → Int64) : RX9_readNew_27 N d (n + 1) X x1 x2 I J = if nI 0 < (I 135 12) then some (.int (nI 0), (mkh X I J)) else am_cV (am_G am_prog (N + 30) (d + 0) 207 [.ref 135] (mkh X I J)) (KX9_readNew_1 N d n x1 x2) := by
  rfl
set_option maxHeartbeats 4000000 in
set_option maxRecDepth 100000 in
theorem sX9_readNew_51 (N d n : Nat) {X : lt_X} (x1 : Int32) (x2 : Int32) (I : Nat → Nat → Int32) (J : Nat → Nat → Int64) : RX9_readNew_51 N d (n + 1) X x1 x2 I J = if (I 135 12) = nI 0 then am_cI (am_G am_prog (N + 30) (d + 0) 242 [.ref 135] (mkh X I J)) (KX9_readNew_2 N d n x1 x2) else RX9_readNew_74 N d n X x1 x2 I J := by
  rfl
set_option maxHeartbeats 4000000 in
set_option maxRecDepth 100000 in
theorem sX9_readNew_74 (N d n : Nat) {X : lt_X} (x1 : Int32) (x2 : Int32) (I : Nat → Nat → Int32) (J : Nat → Nat → Int64) : RX9_readNew_74 N d (n + 1) X x1 x2 I J = if nI 0 < (I 135 12) then some (.int (nI 0), (mkh X I J)) else if am_in (((nI 96) + ((nI 6) * x1)) + x2) 120 then am_cV (am_G am_prog (N + 30) (d + 0) 207 [.ref 135] (mkh X I (u2L J 142 ((((nI 96) + ((nI 6) * x1)) + x2).toNatClampNeg) (J 135 19)))) (KX9_readNew_3 N d n x2) else none := by
  rfl
set_option maxHeartbeats 4000000 in
set_option maxRecDepth 100000 in
theorem kX9_readNew_0 (N d n : Nat) {X : lt_X} (a0 : Int32) (a1 : Int32) (I : Nat → Nat → Int32) (J : Nat → Nat → Int64) : KX9_readNew_0 N d n a0 a1 (mkh X I J) = RX9_readNew_27 N d n X a1 a0 I J := by
  rfl
set_option maxHeartbeats 4000000 in
set_option maxRecDepth 100000 in
theorem kX9_readNew_1 (N d n : Nat) {X : lt_X} (a0 : Int32) (a1 : Int32) (I : Nat → Nat → Int32) (J : Nat → Nat → Int64) : KX9_readNew_1 N d n a0 a1 (mkh X I J) = am_cI (am_G am_prog (N + 30) (d + 0) 228 [.ref 135] (mkh X I J)) (KX9_readNew_4 N d n a0 a1) := by
  rfl
set_option maxHeartbeats 4000000 in
set_option maxRecDepth 100000 in
theorem kX9_readNew_2 (N d n : Nat) {X : lt_X} (a0 : Int32) (a1 : Int32) (z : Int32) (I : Nat → Nat → Int32) (J : Nat → Nat → Int64) : KX9_readNew_2 N d n a0 a1 z (mkh X I J) = if z = nI 0 then RX9_readNew_74 N d n X a0 a1 I J else am_cV (am_G am_prog (N + 30) (d + 0) 229 [.ref 135, .int (nI 3), .int (I 135 15)] (mkh X I J)) (KX9_readNew_5 N d n a0 a1) := by
  rfl
set_option maxHeartbeats 4000000 in
set_option maxRecDepth 100000 in
theorem kX9_readNew_3 (N d n : Nat) {X : lt_X} (a0 : Int32) (I : Nat → Nat → Int32) (J : Nat → Nat → Int64) : KX9_readNew_3 N d n a0 (mkh X I J) = some (.int a0, (mkh X I J)) := by
  rfl
set_option maxHeartbeats 4000000 in
set_option maxRecDepth 100000 in
theorem kX9_readNew_4 (N d n : Nat) {X : lt_X} (a0 : Int32) (a1 : Int32) (z : Int32) (I : Nat → Nat → Int32) (J : Nat → Nat → Int64) : KX9_readNew_4 N d n a0 a1 z (mkh X I J) = if z = nI 0 then am_cV (am_G am_prog (N + 30) (d + 0) 230 [.ref 135] (mkh X I J)) (KX9_readNew_6 N d n a0 a1) else RX9_readNew_51 N d n X a0 a1 I J := by
  rfl
set_option maxHeartbeats 4000000 in
set_option maxRecDepth 100000 in
theorem kX9_readNew_5 (N d n : Nat) {X : lt_X} (a0 : Int32) (a1 : Int32) (I : Nat → Nat → Int32) (J : Nat → Nat → Int64) : KX9_readNew_5 N d n a0 a1 (mkh X I J) = RX9_readNew_74 N d n X a0 a1 I J := by
  rfl
set_option maxHeartbeats 4000000 in
set_option maxRecDepth 100000 in
theorem kX9_readNew_6 (N d n : Nat) {X : lt_X} (a0 : Int32) (a1 : Int32) (I : Nat → Nat → Int32) (J : Nat → Nat → Int64) : KX9_readNew_6 N d n a0 a1 (mkh X I J) = RX9_readNew_51 N d n X a0 a1 I J := by
  rfl
theorem fX9_readNew (N d : Nat) {X : lt_X} (x1 : Int32) (I : Nat → Nat → Int32) (J : Nat → Nat → Int64) : am_G am_prog N (d + 1) 243 [.ref 135, .int x1] (mkh X I J) = am_run (am_G am_prog N d) eX9_readNew uX9_readNew N 0 [(0, .ref 135), (1, .int x1)] [] (mkh X I J) := by
  refine (am_G_at N d 243 mX9_readNew _ _ rfl).trans ?_
  rfl
theorem gX9_readNew (N d : Nat) {X : lt_X} (x1 : Int32) (I : Nat → Nat → Int32) (J : Nat → Nat → Int64) : am_G am_prog (N + 30) (d + 1) 243 [.ref 135, .int x1] (mkh X I J) = RX9_readNew_0 N d (N + 30) X x1 I J := fX9_readNew (N + 30) (d + 0) x1 I J
def RX9_told_0 (N d n : Nat) (X : lt_X) (x1 : Int32) (x2 : Int32) (I : Nat → Nat → Int32) (J : Nat → Nat → Int64) : am_O := am_run (am_G am_prog (N + 30) (d + 0)) eX9_told uX9_told n 0 [(0, .ref 135), (1, .int x1), (2, .int x2)] [] (mkh X I J)
def RX9_told_18 (N d n : Nat) (X : lt_X) (x1 : Int32) (x2 : Int32) (I : Nat → Nat → Int32) (J : Nat → Nat → Int64) : am_O := am_run (am_G am_prog (N + 30) (d + 0)) eX9_told uX9_told n 18 [(0, .ref 135), (1, .int x1), (2, .int x2)] [] (mkh X I J)
def KX9_told_0 (N d n : Nat) (a0 : Int32) (a1 : Int32) (z : Int32) (h : am_H) : am_O := if z = nI 0 then am_cV (am_G am_prog (N + 30) (d + 0) 230 [.ref 135] h) (fun h1 => am_run (am_G am_prog (N + 30) (d + 0)) eX9_told uX9_told n 18 [(0, .ref 135), (1, .int a0), (2, .int a1)] [] h1) else am_run (am_G am_prog (N + 30) (d + 0)) eX9_told uX9_told n 18 [(0, .ref 135), (1, .int a0), (2, .int a1)] [] h
def KX9_told_1 (N d n : Nat) (z : Int32) (h : am_H) : am_O := if z < nI 0 then am_gI h 9 135 15 (fun y1 => am_cV (am_G am_prog (N + 30) (d + 0) 229 [.ref 135, .int (nI 3), .int y1] h) (fun h2 => some (.int (if (nI 0) < z then z else (nI 0)), h2))) else some (.int (if (nI 0) < z then z else (nI 0)), h)
def KX9_told_2 (N d n : Nat) (a0 : Int32) (a1 : Int32) (h : am_H) : am_O := am_run (am_G am_prog (N + 30) (d + 0)) eX9_told uX9_told n 18 [(0, .ref 135), (1, .int a0), (2, .int a1)] [] h
def KX9_told_3 (N d n : Nat) (a0 : Int32) (h : am_H) : am_O := some (.int (if (nI 0) < a0 then a0 else (nI 0)), h)
set_option maxHeartbeats 4000000 in
set_option maxRecDepth 100000 in
theorem sX9_told_0 (N d n : Nat) {X : lt_X} (x1 : Int32) (x2 : Int32) (I : Nat → Nat → Int32) (J : Nat → Nat → Int64) : RX9_told_0 N d (n + 1) X x1 x2 I J = if (I 135 12) = nI 0 then am_cI (am_G am_prog (N + 30) (d + 0) 228 [.ref 135] (mkh X I J)) (KX9_told_0 N d n x1 x2) else RX9_told_18 N d n X x1 x2 I J := by
  rfl
set_option maxHeartbeats 4000000 in
set_option maxRecDepth 100000 in
theorem sX9_told_18 (N d n : Nat) {X : lt_X} (x1 : Int32) (x2 : Int32) (I : Nat → Nat → Int32) (J : Nat → Nat → Int64) : RX9_told_18 N d (n + 1) X x1 x2 I J = if nI 0 < (I 135 12) then some (.int (nI 0), (mkh X I J)) else am_cI (am_G am_prog (N + 30) (d + 0) 241 [.ref 135, .int x1, .int x2] (mkh X I J)) (KX9_told_1 N d n ) := by
  rfl
set_option maxHeartbeats 4000000 in
set_option maxRecDepth 100000 in
theorem kX9_told_0 (N d n : Nat) {X : lt_X} (a0 : Int32) (a1 : Int32) (z : Int32) (I : Nat → Nat → Int32) (J : Nat → Nat → Int64) : KX9_told_0 N d n a0 a1 z (mkh X I J) = if z = nI 0 then am_cV (am_G am_prog (N + 30) (d + 0) 230 [.ref 135] (mkh X I J)) (KX9_told_2 N d n a0 a1) else RX9_told_18 N d n X a0 a1 I J := by
  rfl
set_option maxHeartbeats 4000000 in
set_option maxRecDepth 100000 in
theorem kX9_told_1 (N d n : Nat) {X : lt_X} (z : Int32) (I : Nat → Nat → Int32) (J : Nat → Nat → Int64) : KX9_told_1 N d n z (mkh X I J) = if z < nI 0 then am_cV (am_G am_prog (N + 30) (d + 0) 229 [.ref 135, .int (nI 3), .int (I 135 15)] (mkh X I J)) (KX9_told_3 N d n z) else some (.int (if (nI 0) < z then z else (nI 0)), (mkh X I J)) := by
  rfl
set_option maxHeartbeats 4000000 in
set_option maxRecDepth 100000 in
theorem kX9_told_2 (N d n : Nat) {X : lt_X} (a0 : Int32) (a1 : Int32) (I : Nat → Nat → Int32) (J : Nat → Nat → Int64) : KX9_told_2 N d n a0 a1 (mkh X I J) = RX9_told_18 N d n X a0 a1 I J := by
  rfl
set_option maxHeartbeats 4000000 in
set_option maxRecDepth 100000 in
theorem kX9_told_3 (N d n : Nat) {X : lt_X} (a0 : Int32) (I : Nat → Nat → Int32) (J : Nat → Nat → Int64) : KX9_told_3 N d n a0 (mkh X I J) = some (.int (if (nI 0) < a0 then a0 else (nI 0)), (mkh X I J)) := by
  rfl
theorem fX9_told (N d : Nat) {X : lt_X} (x1 : Int32) (x2 : Int32) (I : Nat → Nat → Int32) (J : Nat → Nat → Int64) : am_G am_prog N (d + 1) 244 [.ref 135, .int x1, .int x2] (mkh X I J) = am_run (am_G am_prog N d) eX9_told uX9_told N 0 [(0, .ref 135), (1, .int x1), (2, .int x2)] [] (mkh X I J) := by
  refine (am_G_at N d 244 mX9_told _ _ rfl).trans ?_
  rfl
theorem gX9_told (N d : Nat) {X : lt_X} (x1 : Int32) (x2 : Int32) (I : Nat → Nat → Int32) (J : Nat → Nat → Int64) : am_G am_prog (N + 30) (d + 1) 244 [.ref 135, .int x1, .int x2] (mkh X I J) = RX9_told_0 N d (N + 30) X x1 x2 I J := fX9_told (N + 30) (d + 0) x1 x2 I J
def RX9_readTold_0 (N d n : Nat) (X : lt_X) (x1 : Int32) (x2 : Int32) (I : Nat → Nat → Int32) (J : Nat → Nat → Int64) : am_O := am_run (am_G am_prog (N + 30) (d + 0)) eX9_readTold uX9_readTold n 0 [(0, .ref 135), (1, .int x1), (2, .int x2)] [] (mkh X I J)
def KX9_readTold_0 (N d n : Nat) (z : Int32) (h : am_H) : am_O := am_cV (am_G am_prog (N + 30) (d + 0) 231 [.ref 135, .int (nI 1)] h) (fun h1 => some (.int z, h1))
def KX9_readTold_1 (N d n : Nat) (a0 : Int32) (h : am_H) : am_O := some (.int a0, h)
set_option maxHeartbeats 4000000 in
set_option maxRecDepth 100000 in
theorem sX9_readTold_0 (N d n : Nat) {X : lt_X} (x1 : Int32) (x2 : Int32) (I : Nat → Nat → Int32) (J : Nat → Nat → Int64) : RX9_readTold_0 N d (n + 1) X x1 x2 I J = am_cI (am_G am_prog (N + 30) (d + 0) 244 [.ref 135, .int x1, .int x2] (mkh X I J)) (KX9_readTold_0 N d n ) := by
  rfl
set_option maxHeartbeats 4000000 in
set_option maxRecDepth 100000 in
theorem kX9_readTold_0 (N d n : Nat) {X : lt_X} (z : Int32) (I : Nat → Nat → Int32) (J : Nat → Nat → Int64) : KX9_readTold_0 N d n z (mkh X I J) = am_cV (am_G am_prog (N + 30) (d + 0) 231 [.ref 135, .int (nI 1)] (mkh X I J)) (KX9_readTold_1 N d n z) := by
  rfl
set_option maxHeartbeats 4000000 in
set_option maxRecDepth 100000 in
theorem kX9_readTold_1 (N d n : Nat) {X : lt_X} (a0 : Int32) (I : Nat → Nat → Int32) (J : Nat → Nat → Int64) : KX9_readTold_1 N d n a0 (mkh X I J) = some (.int a0, (mkh X I J)) := by
  rfl
theorem fX9_readTold (N d : Nat) {X : lt_X} (x1 : Int32) (x2 : Int32) (I : Nat → Nat → Int32) (J : Nat → Nat → Int64) : am_G am_prog N (d + 1) 245 [.ref 135, .int x1, .int x2] (mkh X I J) = am_run (am_G am_prog N d) eX9_readTold uX9_readTold N 0 [(0, .ref 135), (1, .int x1), (2, .int x2)] [] (mkh X I J) := by
  refine (am_G_at N d 245 mX9_readTold _ _ rfl).trans ?_
  rfl
theorem gX9_readTold (N d : Nat) {X : lt_X} (x1 : Int32) (x2 : Int32) (I : Nat → Nat → Int32) (J : Nat → Nat → Int64) : am_G am_prog (N + 30) (d + 1) 245 [.ref 135, .int x1, .int x2] (mkh X I J) = RX9_readTold_0 N d (N + 30) X x1 x2 I J := fX9_readTold (N + 30) (d + 0) x1 x2 I J
def RX9_readOdds_0 (N d n : Nat) (X : lt_X) (I : Nat → Nat → Int32) (J : Nat → Nat → Int64) : am_O := am_run (am_G am_prog (N + 30) (d + 0)) eX9_readOdds uX9_readOdds n 0 [(0, .ref 135)] [] (mkh X I J)
def RX9_readOdds_16 (N d n : Nat) (X : lt_X) (I : Nat → Nat → Int32) (J : Nat → Nat → Int64) : am_O := am_run (am_G am_prog (N + 30) (d + 0)) eX9_readOdds uX9_readOdds n 16 [(0, .ref 135)] [] (mkh X I J)
def KX9_readOdds_0 (N d n : Nat) (h : am_H) : am_O := am_run (am_G am_prog (N + 30) (d + 0)) eX9_readOdds uX9_readOdds n 16 [(0, .ref 135)] [] h
def KX9_readOdds_1 (N d n : Nat) (h : am_H) : am_O := am_gR h 9 135 20 (fun y1 => am_cI (am_G am_prog (N + 30) (d + 0) 232 [.ref 135, .int (nI 0), .int (nI 16)] h) (fun r3 h2 => am_tI h2 y1 (nI 1720) r3 (fun h4 => some (.null, h4))))
def KX9_readOdds_2 (N d n : Nat) (z : Int32) (h : am_H) : am_O := am_tI h 140 (nI 1720) z (fun h1 => some (.null, h1))
set_option maxHeartbeats 4000000 in
set_option maxRecDepth 100000 in
theorem sX9_readOdds_0 (N d n : Nat) {X : lt_X} (I : Nat → Nat → Int32) (J : Nat → Nat → Int64) : RX9_readOdds_0 N d (n + 1) X I J = if (I 135 24) = nI 0 then RX9_readOdds_16 N d n X I J else am_cV (am_G am_prog (N + 30) (d + 0) 229 [.ref 135, .int (nI 5), .int (I 135 15)] (mkh X I J)) (KX9_readOdds_0 N d n ) := by
  rfl
set_option maxHeartbeats 4000000 in
set_option maxRecDepth 100000 in
theorem sX9_readOdds_16 (N d n : Nat) {X : lt_X} (I : Nat → Nat → Int32) (J : Nat → Nat → Int64) : RX9_readOdds_16 N d (n + 1) X I J = if nI 0 < (I 135 12) then some (.null, (mkh X I J)) else am_cV (am_G am_prog (N + 30) (d + 0) 207 [.ref 135] (mkh X (u2 I 135 24 (nI 1)) J)) (KX9_readOdds_1 N d n ) := by
  rfl
set_option maxHeartbeats 4000000 in
set_option maxRecDepth 100000 in
theorem kX9_readOdds_0 (N d n : Nat) {X : lt_X} (I : Nat → Nat → Int32) (J : Nat → Nat → Int64) : KX9_readOdds_0 N d n (mkh X I J) = RX9_readOdds_16 N d n X I J := by
  rfl
set_option maxHeartbeats 4000000 in
set_option maxRecDepth 100000 in
theorem kX9_readOdds_1 (N d n : Nat) {X : lt_X} (I : Nat → Nat → Int32) (J : Nat → Nat → Int64) : KX9_readOdds_1 N d n (mkh X I J) = am_cI (am_G am_prog (N + 30) (d + 0) 232 [.ref 135, .int (nI 0), .int (nI 16)] (mkh X I J)) (KX9_readOdds_2 N d n ) := by
  rfl
set_option maxHeartbeats 4000000 in
set_option maxRecDepth 100000 in
theorem kX9_readOdds_2 (N d n : Nat) {X : lt_X} (z : Int32) (I : Nat → Nat → Int32) (J : Nat → Nat → Int64) : KX9_readOdds_2 N d n z (mkh X I J) = some (.null, (mkh X (u2 I 140 1720 z) J)) := by
  rfl
theorem fX9_readOdds (N d : Nat) {X : lt_X} (I : Nat → Nat → Int32) (J : Nat → Nat → Int64) : am_G am_prog N (d + 1) 246 [.ref 135] (mkh X I J) = am_run (am_G am_prog N d) eX9_readOdds uX9_readOdds N 0 [(0, .ref 135)] [] (mkh X I J) := by
  refine (am_G_at N d 246 mX9_readOdds _ _ rfl).trans ?_
  rfl
theorem gX9_readOdds (N d : Nat) {X : lt_X} (I : Nat → Nat → Int32) (J : Nat → Nat → Int64) : am_G am_prog (N + 30) (d + 1) 246 [.ref 135] (mkh X I J) = RX9_readOdds_0 N d (N + 30) X I J := fX9_readOdds (N + 30) (d + 0) I J
def RX9_readSubject_0 (N d n : Nat) (X : lt_X) (I : Nat → Nat → Int32) (J : Nat → Nat → Int64) : am_O := am_run (am_G am_prog (N + 30) (d + 0)) eX9_readSubject uX9_readSubject n 0 [(0, .ref 135)] [] (mkh X I J)
def KX9_readSubject_0 (N d n : Nat) (z : Int32) (h : am_H) : am_O := am_gI h 9 135 12 (fun y1 => if y1 = nI 0 then am_gR h 9 135 20 (fun y2 => am_lI h 10 y2 (nI 1716) (fun y3 => am_tI h y2 (nI 1716) (y3 + (nI 1)) (fun h4 => some (.null, h4)))) else some (.null, h))
set_option maxHeartbeats 4000000 in
set_option maxRecDepth 100000 in
theorem sX9_readSubject_0 (N d n : Nat) {X : lt_X} (I : Nat → Nat → Int32) (J : Nat → Nat → Int64) : RX9_readSubject_0 N d (n + 1) X I J = am_cI (am_G am_prog (N + 30) (d + 0) 243 [.ref 135, .int (nI 0)] (mkh X I J)) (KX9_readSubject_0 N d n ) := by
  rfl
set_option maxHeartbeats 4000000 in
set_option maxRecDepth 100000 in
theorem kX9_readSubject_0 (N d n : Nat) {X : lt_X} (z : Int32) (I : Nat → Nat → Int32) (J : Nat → Nat → Int64) : KX9_readSubject_0 N d n z (mkh X I J) = if (I 135 12) = nI 0 then some (.null, (mkh X (u2 I 140 1716 ((I 140 1716) + (nI 1))) J)) else some (.null, (mkh X I J)) := by
  rfl
theorem fX9_readSubject (N d : Nat) {X : lt_X} (I : Nat → Nat → Int32) (J : Nat → Nat → Int64) : am_G am_prog N (d + 1) 247 [.ref 135] (mkh X I J) = am_run (am_G am_prog N d) eX9_readSubject uX9_readSubject N 0 [(0, .ref 135)] [] (mkh X I J) := by
  refine (am_G_at N d 247 mX9_readSubject _ _ rfl).trans ?_
  rfl
theorem gX9_readSubject (N d : Nat) {X : lt_X} (I : Nat → Nat → Int32) (J : Nat → Nat → Int64) : am_G am_prog (N + 30) (d + 1) 247 [.ref 135] (mkh X I J) = RX9_readSubject_0 N d (N + 30) X I J := fX9_readSubject (N + 30) (d + 0) I J
def RX9_readVoice_0 (N d n : Nat) (X : lt_X) (I : Nat → Nat → Int32) (J : Nat → Nat → Int64) : am_O := am_run (am_G am_prog (N + 30) (d + 0)) eX9_readVoice uX9_readVoice n 0 [(0, .ref 135)] [] (mkh X I J)
def RX9_readVoice_41 (N d n : Nat) (X : lt_X) (x1 : Int32) (x2 : Int32) (x3 : Int32) (x4 : Int32) (I : Nat → Nat → Int32) (J : Nat → Nat → Int64) : am_O := am_run (am_G am_prog (N + 30) (d + 0)) eX9_readVoice uX9_readVoice n 41 [(0, .ref 135), (1, .int x1), (2, .int x2), (3, .int x3), (4, .int x4)] [] (mkh X I J)
def RX9_readVoice_73 (N d n : Nat) (X : lt_X) (x1 : Int32) (x2 : Int32) (x3 : Int32) (x4 : Int32) (x5 : Int32) (I : Nat → Nat → Int32) (J : Nat → Nat → Int64) : am_O := am_run (am_G am_prog (N + 30) (d + 0)) eX9_readVoice uX9_readVoice n 73 [(0, .ref 135), (1, .int x1), (2, .int x2), (3, .int x3), (4, .int x4), (5, .int x5)] [] (mkh X I J)
def KX9_readVoice_0 (N d n : Nat) (z : Int32) (h : am_H) : am_O := am_cI (am_G am_prog (N + 30) (d + 0) 214 [.ref 135] h) (fun r2 h1 => am_cI (am_G am_prog (N + 30) (d + 0) 233 [.ref 135, .int r2, .int (nI 0), .int (nI 119)] h1) (fun r4 h3 => am_cI (am_G am_prog (N + 30) (d + 0) 215 [.ref 135] h3) (fun r6 h5 => am_cI (am_G am_prog (N + 30) (d + 0) 233 [.ref 135, .int r6, .int (nI 1), .int (nI 120)] h5) (fun r8 h7 => am_cI (am_G am_prog (N + 30) (d + 0) 216 [.ref 135] h7) (fun r10 h9 => am_cV (am_G am_prog (N + 30) (d + 0) 231 [.ref 135, .int r10] h9) (fun h11 => am_run (am_G am_prog (N + 30) (d + 0)) eX9_readVoice uX9_readVoice n 41 [(0, .ref 135), (1, .int z), (2, .int r4), (3, .int r8), (4, .int (nI 0))] [] h11))))))
def KX9_readVoice_1 (N d n : Nat) (a0 : Int32) (a1 : Int32) (a2 : Int32) (a3 : Int32) (z : Int32) (h : am_H) : am_O := am_gI h 9 135 12 (fun y1 => if y1 = nI 0 then if a3 = (nI 8) then am_gI h 9 135 15 (fun y2 => am_cV (am_G am_prog (N + 30) (d + 0) 229 [.ref 135, .int (nI 6), .int y2] h) (fun h3 => am_run (am_G am_prog (N + 30) (d + 0)) eX9_readVoice uX9_readVoice n 73 [(0, .ref 135), (1, .int a0), (2, .int a1), (3, .int a2), (4, .int a3), (5, .int z)] [] h3)) else am_run (am_G am_prog (N + 30) (d + 0)) eX9_readVoice uX9_readVoice n 73 [(0, .ref 135), (1, .int a0), (2, .int a1), (3, .int a2), (4, .int a3), (5, .int z)] [] h else am_run (am_G am_prog (N + 30) (d + 0)) eX9_readVoice uX9_readVoice n 73 [(0, .ref 135), (1, .int a0), (2, .int a1), (3, .int a2), (4, .int a3), (5, .int z)] [] h)
def KX9_readVoice_2 (N d n : Nat) (a0 : Int32) (a1 : Int32) (a2 : Int32) (a3 : Int32) (a4 : Int32) (h : am_H) : am_O := am_gI h 9 135 12 (fun y1 => if nI 0 < y1 then some (.null, h) else am_gR h 9 135 20 (fun y2 => am_tI h y2 (((nI 1789) + ((nI 8) * a0)) + a3) a4 (fun h3 => am_gI h3 9 135 14 (fun y4 => if y4 = (nI 1) then am_run (am_G am_prog (N + 30) (d + 0)) eX9_readVoice uX9_readVoice n 41 [(0, .ref 135), (1, .int a0), (2, .int a1), (3, .int a2), (4, .int (a3 + (nI 1)))] [] h3 else am_gR h3 9 135 20 (fun y5 => am_tI h3 y5 ((nI 1723) + a0) a1 (fun h6 => am_gR h6 9 135 20 (fun y7 => am_tI h6 y7 ((nI 1729) + a0) a2 (fun h8 => am_gR h8 9 135 20 (fun y9 => am_tI h8 y9 ((nI 1735) + a0) (a3 + (nI 1)) (fun h10 => am_gR h10 9 135 20 (fun y11 => am_tI h10 y11 ((nI 1741) + a0) (nI 1) (fun h12 => am_gR h12 9 135 20 (fun y13 => am_lI h12 10 y13 (nI 1717) (fun y14 => am_tI h12 y13 (nI 1717) (y14 + (nI 1)) (fun h15 => some (.null, h15))))))))))))))))
def KX9_readVoice_3 (N d n : Nat) (a0 : Int32) (z : Int32) (h : am_H) : am_O := am_cI (am_G am_prog (N + 30) (d + 0) 233 [.ref 135, .int z, .int (nI 0), .int (nI 119)] h) (fun r2 h1 => am_cI (am_G am_prog (N + 30) (d + 0) 215 [.ref 135] h1) (fun r4 h3 => am_cI (am_G am_prog (N + 30) (d + 0) 233 [.ref 135, .int r4, .int (nI 1), .int (nI 120)] h3) (fun r6 h5 => am_cI (am_G am_prog (N + 30) (d + 0) 216 [.ref 135] h5) (fun r8 h7 => am_cV (am_G am_prog (N + 30) (d + 0) 231 [.ref 135, .int r8] h7) (fun h9 => am_run (am_G am_prog (N + 30) (d + 0)) eX9_readVoice uX9_readVoice n 41 [(0, .ref 135), (1, .int a0), (2, .int r2), (3, .int r6), (4, .int (nI 0))] [] h9)))))
def KX9_readVoice_4 (N d n : Nat) (a0 : Int32) (a1 : Int32) (a2 : Int32) (a3 : Int32) (a4 : Int32) (h : am_H) : am_O := am_run (am_G am_prog (N + 30) (d + 0)) eX9_readVoice uX9_readVoice n 73 [(0, .ref 135), (1, .int a1), (2, .int a2), (3, .int a3), (4, .int a4), (5, .int a0)] [] h
def KX9_readVoice_5 (N d n : Nat) (a0 : Int32) (z : Int32) (h : am_H) : am_O := am_cI (am_G am_prog (N + 30) (d + 0) 215 [.ref 135] h) (fun r2 h1 => am_cI (am_G am_prog (N + 30) (d + 0) 233 [.ref 135, .int r2, .int (nI 1), .int (nI 120)] h1) (fun r4 h3 => am_cI (am_G am_prog (N + 30) (d + 0) 216 [.ref 135] h3) (fun r6 h5 => am_cV (am_G am_prog (N + 30) (d + 0) 231 [.ref 135, .int r6] h5) (fun h7 => am_run (am_G am_prog (N + 30) (d + 0)) eX9_readVoice uX9_readVoice n 41 [(0, .ref 135), (1, .int a0), (2, .int z), (3, .int r4), (4, .int (nI 0))] [] h7))))
def KX9_readVoice_6 (N d n : Nat) (a0 : Int32) (a1 : Int32) (z : Int32) (h : am_H) : am_O := am_cI (am_G am_prog (N + 30) (d + 0) 233 [.ref 135, .int z, .int (nI 1), .int (nI 120)] h) (fun r2 h1 => am_cI (am_G am_prog (N + 30) (d + 0) 216 [.ref 135] h1) (fun r4 h3 => am_cV (am_G am_prog (N + 30) (d + 0) 231 [.ref 135, .int r4] h3) (fun h5 => am_run (am_G am_prog (N + 30) (d + 0)) eX9_readVoice uX9_readVoice n 41 [(0, .ref 135), (1, .int a1), (2, .int a0), (3, .int r2), (4, .int (nI 0))] [] h5)))
def KX9_readVoice_7 (N d n : Nat) (a0 : Int32) (a1 : Int32) (z : Int32) (h : am_H) : am_O := am_cI (am_G am_prog (N + 30) (d + 0) 216 [.ref 135] h) (fun r2 h1 => am_cV (am_G am_prog (N + 30) (d + 0) 231 [.ref 135, .int r2] h1) (fun h3 => am_run (am_G am_prog (N + 30) (d + 0)) eX9_readVoice uX9_readVoice n 41 [(0, .ref 135), (1, .int a1), (2, .int a0), (3, .int z), (4, .int (nI 0))] [] h3))
def KX9_readVoice_8 (N d n : Nat) (a0 : Int32) (a1 : Int32) (a2 : Int32) (z : Int32) (h : am_H) : am_O := am_cV (am_G am_prog (N + 30) (d + 0) 231 [.ref 135, .int z] h) (fun h1 => am_run (am_G am_prog (N + 30) (d + 0)) eX9_readVoice uX9_readVoice n 41 [(0, .ref 135), (1, .int a2), (2, .int a1), (3, .int a0), (4, .int (nI 0))] [] h1)
def KX9_readVoice_9 (N d n : Nat) (a0 : Int32) (a1 : Int32) (a2 : Int32) (h : am_H) : am_O := am_run (am_G am_prog (N + 30) (d + 0)) eX9_readVoice uX9_readVoice n 41 [(0, .ref 135), (1, .int a2), (2, .int a1), (3, .int a0), (4, .int (nI 0))] [] h
set_option maxHeartbeats 4000000 in
set_option maxRecDepth 100000 in
theorem sX9_readVoice_0 (N d n : Nat) {X : lt_X} (I : Nat → Nat → Int32) (J : Nat → Nat → Int64) : RX9_readVoice_0 N d (n + 1) X I J = am_cI (am_G am_prog (N + 30) (d + 0) 243 [.ref 135, .int (nI 1)] (mkh X I J)) (KX9_readVoice_0 N d n ) := by
  rfl
set_option maxHeartbeats 4000000 in
set_option maxRecDepth 100000 in
theorem sX9_readVoice_41 (N d n : Nat) {X : lt_X} (x1 : Int32) (x2 : Int32) (x3 : Int32) (x4 : Int32) (I : Nat → Nat → Int32) (J : Nat → Nat → Int64) : RX9_readVoice_41 N d (n + 1) X x1 x2 x3 x4 I J = am_cI (am_G am_prog (N + 30) (d + 0) 244 [.ref 135, .int (nI 4), .int (nI 0)] (mkh X I J)) (KX9_readVoice_1 N d n x1 x2 x3 x4) := by
  rfl
set_option maxHeartbeats 4000000 in
set_option maxRecDepth 100000 in
theorem sX9_readVoice_73 (N d n : Nat) {X : lt_X} (x1 : Int32) (x2 : Int32) (x3 : Int32) (x4 : Int32) (x5 : Int32) (I : Nat → Nat → Int32) (J : Nat → Nat → Int64) : RX9_readVoice_73 N d (n + 1) X x1 x2 x3 x4 x5 I J = am_cV (am_G am_prog (N + 30) (d + 0) 231 [.ref 135, .int (nI 1)] (mkh X I J)) (KX9_readVoice_2 N d n x1 x2 x3 x4 x5) := by
  rfl
set_option maxHeartbeats 4000000 in
set_option maxRecDepth 100000 in
theorem kX9_readVoice_0 (N d n : Nat) {X : lt_X} (z : Int32) (I : Nat → Nat → Int32) (J : Nat → Nat → Int64) : KX9_readVoice_0 N d n z (mkh X I J) = am_cI (am_G am_prog (N + 30) (d + 0) 214 [.ref 135] (mkh X I J)) (KX9_readVoice_3 N d n z) := by
  rfl
set_option maxHeartbeats 4000000 in
set_option maxRecDepth 100000 in
theorem kX9_readVoice_1 (N d n : Nat) {X : lt_X} (a0 : Int32) (a1 : Int32) (a2 : Int32) (a3 : Int32) (z : Int32) (I : Nat → Nat → Int32) (J : Nat → Nat → Int64) : KX9_readVoice_1 N d n a0 a1 a2 a3 z (mkh X I J) = if (I 135 12) = nI 0 then if a3 = (nI 8) then am_cV (am_G am_prog (N + 30) (d + 0) 229 [.ref 135, .int (nI 6), .int (I 135 15)] (mkh X I J)) (KX9_readVoice_4 N d n z a0 a1 a2 a3) else RX9_readVoice_73 N d n X a0 a1 a2 a3 z I J else RX9_readVoice_73 N d n X a0 a1 a2 a3 z I J := by
  rfl
set_option maxHeartbeats 4000000 in
set_option maxRecDepth 100000 in
theorem kX9_readVoice_3 (N d n : Nat) {X : lt_X} (a0 : Int32) (z : Int32) (I : Nat → Nat → Int32) (J : Nat → Nat → Int64) : KX9_readVoice_3 N d n a0 z (mkh X I J) = am_cI (am_G am_prog (N + 30) (d + 0) 233 [.ref 135, .int z, .int (nI 0), .int (nI 119)] (mkh X I J)) (KX9_readVoice_5 N d n a0) := by
  rfl
set_option maxHeartbeats 4000000 in
set_option maxRecDepth 100000 in
theorem kX9_readVoice_4 (N d n : Nat) {X : lt_X} (a0 : Int32) (a1 : Int32) (a2 : Int32) (a3 : Int32) (a4 : Int32) (I : Nat → Nat → Int32) (J : Nat → Nat → Int64) : KX9_readVoice_4 N d n a0 a1 a2 a3 a4 (mkh X I J) = RX9_readVoice_73 N d n X a1 a2 a3 a4 a0 I J := by
  rfl
set_option maxHeartbeats 4000000 in
set_option maxRecDepth 100000 in
theorem kX9_readVoice_5 (N d n : Nat) {X : lt_X} (a0 : Int32) (z : Int32) (I : Nat → Nat → Int32) (J : Nat → Nat → Int64) : KX9_readVoice_5 N d n a0 z (mkh X I J) = am_cI (am_G am_prog (N + 30) (d + 0) 215 [.ref 135] (mkh X I J)) (KX9_readVoice_6 N d n z a0) := by
  rfl
set_option maxHeartbeats 4000000 in
set_option maxRecDepth 100000 in
theorem kX9_readVoice_6 (N d n : Nat) {X : lt_X} (a0 : Int32) (a1 : Int32) (z : Int32) (I : Nat → Nat → Int32) (J : Nat → Nat → Int64) : KX9_readVoice_6 N d n a0 a1 z (mkh X I J) = am_cI (am_G am_prog (N + 30) (d + 0) 233 [.ref 135, .int z, .int (nI 1), .int (nI 120)] (mkh X I J)) (KX9_readVoice_7 N d n a0 a1) := by
  rfl
set_option maxHeartbeats 4000000 in
set_option maxRecDepth 100000 in
theorem kX9_readVoice_7 (N d n : Nat) {X : lt_X} (a0 : Int32) (a1 : Int32) (z : Int32) (I : Nat → Nat → Int32) (J : Nat → Nat → Int64) : KX9_readVoice_7 N d n a0 a1 z (mkh X I J) = am_cI (am_G am_prog (N + 30) (d + 0) 216 [.ref 135] (mkh X I J)) (KX9_readVoice_8 N d n z a0 a1) := by
  rfl
set_option maxHeartbeats 4000000 in
set_option maxRecDepth 100000 in
theorem kX9_readVoice_8 (N d n : Nat) {X : lt_X} (a0 : Int32) (a1 : Int32) (a2 : Int32) (z : Int32) (I : Nat → Nat → Int32) (J : Nat → Nat → Int64) : KX9_readVoice_8 N d n a0 a1 a2 z (mkh X I J) = am_cV (am_G am_prog (N + 30) (d + 0) 231 [.ref 135, .int z] (mkh X I J)) (KX9_readVoice_9 N d n a0 a1 a2) := by
  rfl
set_option maxHeartbeats 4000000 in
set_option maxRecDepth 100000 in
theorem kX9_readVoice_9 (N d n : Nat) {X : lt_X} (a0 : Int32) (a1 : Int32) (a2 : Int32) (I : Nat → Nat → Int32) (J : Nat → Nat → Int64) : KX9_readVoice_9 N d n a0 a1 a2 (mkh X I J) = RX9_readVoice_41 N d n X a2 a1 a0 (nI 0) I J := by
  rfl
theorem fX9_readVoice (N d : Nat) {X : lt_X} (I : Nat → Nat → Int32) (J : Nat → Nat → Int64) : am_G am_prog N (d + 1) 248 [.ref 135] (mkh X I J) = am_run (am_G am_prog N d) eX9_readVoice uX9_readVoice N 0 [(0, .ref 135)] [] (mkh X I J) := by
  refine (am_G_at N d 248 mX9_readVoice _ _ rfl).trans ?_
  rfl
theorem gX9_readVoice (N d : Nat) {X : lt_X} (I : Nat → Nat → Int32) (J : Nat → Nat → Int64) : am_G am_prog (N + 30) (d + 1) 248 [.ref 135] (mkh X I J) = RX9_readVoice_0 N d (N + 30) X I J := fX9_readVoice (N + 30) (d + 0) I J
def RX9_readPerson_0 (N d n : Nat) (X : lt_X) (I : Nat → Nat → Int32) (J : Nat → Nat → Int64) : am_O := am_run (am_G am_prog (N + 30) (d + 0)) eX9_readPerson uX9_readPerson n 0 [(0, .ref 135)] [] (mkh X I J)
def RX9_readPerson_30 (N d n : Nat) (X : lt_X) (x1 : Int32) (s0 : Int32) (I : Nat → Nat → Int32) (J : Nat → Nat → Int64) : am_O := am_run (am_G am_prog (N + 30) (d + 0)) eX9_readPerson uX9_readPerson n 30 [(0, .ref 135), (1, .int x1)] [.int s0] (mkh X I J)
def KX9_readPerson_0 (N d n : Nat) (z : Int32) (h : am_H) : am_O := am_cI (am_G am_prog (N + 30) (d + 0) 218 [.ref 135] h) (fun r2 h1 => am_cI (am_G am_prog (N + 30) (d + 0) 234 [.ref 135, .int r2] h1) (fun r4 h3 => if r4 = nI 0 then am_run (am_G am_prog (N + 30) (d + 0)) eX9_readPerson uX9_readPerson n 30 [(0, .ref 135), (1, .int z)] [.int (nI 10)] h3 else am_cI (am_G am_prog (N + 30) (d + 0) 232 [.ref 135, .int (nI 0), .int (nI 999)] h3) (fun r6 h5 => am_run (am_G am_prog (N + 30) (d + 0)) eX9_readPerson uX9_readPerson n 30 [(0, .ref 135), (1, .int z)] [.int r6] h5)))
def KX9_readPerson_1 (N d n : Nat) (a0 : Int32) (z : Int32) (h : am_H) : am_O := am_cI (am_G am_prog (N + 30) (d + 0) 234 [.ref 135, .int z] h) (fun r2 h1 => if r2 = nI 0 then am_run (am_G am_prog (N + 30) (d + 0)) eX9_readPerson uX9_readPerson n 30 [(0, .ref 135), (1, .int a0)] [.int (nI 10)] h1 else am_cI (am_G am_prog (N + 30) (d + 0) 232 [.ref 135, .int (nI 0), .int (nI 999)] h1) (fun r4 h3 => am_run (am_G am_prog (N + 30) (d + 0)) eX9_readPerson uX9_readPerson n 30 [(0, .ref 135), (1, .int a0)] [.int r4] h3))
def KX9_readPerson_2 (N d n : Nat) (a0 : Int32) (z : Int32) (h : am_H) : am_O := if z = nI 0 then am_run (am_G am_prog (N + 30) (d + 0)) eX9_readPerson uX9_readPerson n 30 [(0, .ref 135), (1, .int a0)] [.int (nI 10)] h else am_cI (am_G am_prog (N + 30) (d + 0) 232 [.ref 135, .int (nI 0), .int (nI 999)] h) (fun r2 h1 => am_run (am_G am_prog (N + 30) (d + 0)) eX9_readPerson uX9_readPerson n 30 [(0, .ref 135), (1, .int a0)] [.int r2] h1)
def KX9_readPerson_3 (N d n : Nat) (a0 : Int32) (z : Int32) (h : am_H) : am_O := am_run (am_G am_prog (N + 30) (d + 0)) eX9_readPerson uX9_readPerson n 30 [(0, .ref 135), (1, .int a0)] [.int z] h
set_option maxHeartbeats 4000000 in
set_option maxRecDepth 100000 in
theorem sX9_readPerson_0 (N d n : Nat) {X : lt_X} (I : Nat → Nat → Int32) (J : Nat → Nat → Int64) : RX9_readPerson_0 N d (n + 1) X I J = am_cI (am_G am_prog (N + 30) (d + 0) 243 [.ref 135, .int (nI 2)] (mkh X I J)) (KX9_readPerson_0 N d n ) := by
  rfl
set_option maxHeartbeats 4000000 in
set_option maxRecDepth 100000 in
theorem sX9_readPerson_30 (N d n : Nat) {X : lt_X} (x1 : Int32) (s0 : Int32) (I : Nat → Nat → Int32) (J : Nat → Nat → Int64) : RX9_readPerson_30 N d (n + 1) X x1 s0 I J = if nI 0 < (I 135 12) then some (.null, (mkh X I J)) else if am_in ((nI 1753) + x1) 2145 then some (.null, (mkh X (u2 (u2 I 140 (((nI 1753) + x1).toNatClampNeg) s0) 140 1718 (((u2 I 140 (((nI 1753) + x1).toNatClampNeg) s0) 140 1718) + (nI 1))) J)) else none := by
  rfl
set_option maxHeartbeats 4000000 in
set_option maxRecDepth 100000 in
theorem kX9_readPerson_0 (N d n : Nat) {X : lt_X} (z : Int32) (I : Nat → Nat → Int32) (J : Nat → Nat → Int64) : KX9_readPerson_0 N d n z (mkh X I J) = am_cI (am_G am_prog (N + 30) (d + 0) 218 [.ref 135] (mkh X I J)) (KX9_readPerson_1 N d n z) := by
  rfl
set_option maxHeartbeats 4000000 in
set_option maxRecDepth 100000 in
theorem kX9_readPerson_1 (N d n : Nat) {X : lt_X} (a0 : Int32) (z : Int32) (I : Nat → Nat → Int32) (J : Nat → Nat → Int64) : KX9_readPerson_1 N d n a0 z (mkh X I J) = am_cI (am_G am_prog (N + 30) (d + 0) 234 [.ref 135, .int z] (mkh X I J)) (KX9_readPerson_2 N d n a0) := by
  rfl
set_option maxHeartbeats 4000000 in
set_option maxRecDepth 100000 in
theorem kX9_readPerson_2 (N d n : Nat) {X : lt_X} (a0 : Int32) (z : Int32) (I : Nat → Nat → Int32) (J : Nat → Nat → Int64) : KX9_readPerson_2 N d n a0 z (mkh X I J) = if z = nI 0 then RX9_readPerson_30 N d n X a0 (nI 10) I J else am_cI (am_G am_prog (N + 30) (d + 0) 232 [.ref 135, .int (nI 0), .int (nI 999)] (mkh X I J)) (KX9_readPerson_3 N d n a0) := by
  rfl
set_option maxHeartbeats 4000000 in
set_option maxRecDepth 100000 in
theorem kX9_readPerson_3 (N d n : Nat) {X : lt_X} (a0 : Int32) (z : Int32) (I : Nat → Nat → Int32) (J : Nat → Nat → Int64) : KX9_readPerson_3 N d n a0 z (mkh X I J) = RX9_readPerson_30 N d n X a0 z I J := by
  rfl
theorem fX9_readPerson (N d : Nat) {X : lt_X} (I : Nat → Nat → Int32) (J : Nat → Nat → Int64) : am_G am_prog N (d + 1) 249 [.ref 135] (mkh X I J) = am_run (am_G am_prog N d) eX9_readPerson uX9_readPerson N 0 [(0, .ref 135)] [] (mkh X I J) := by
  refine (am_G_at N d 249 mX9_readPerson _ _ rfl).trans ?_
  rfl
theorem gX9_readPerson (N d : Nat) {X : lt_X} (I : Nat → Nat → Int32) (J : Nat → Nat → Int64) : am_G am_prog (N + 30) (d + 1) 249 [.ref 135] (mkh X I J) = RX9_readPerson_0 N d (N + 30) X I J := fX9_readPerson (N + 30) (d + 0) I J
def RX9_readLikes_0 (N d n : Nat) (X : lt_X) (I : Nat → Nat → Int32) (J : Nat → Nat → Int64) : am_O := am_run (am_G am_prog (N + 30) (d + 0)) eX9_readLikes uX9_readLikes n 0 [(0, .ref 135)] [] (mkh X I J)
def KX9_readLikes_0 (N d n : Nat) (h : am_H) : am_O := am_cI (am_G am_prog (N + 30) (d + 0) 245 [.ref 135, .int (nI 4), .int (nI 2)] h) (fun r2 h1 => am_cI (am_G am_prog (N + 30) (d + 0) 245 [.ref 135, .int (nI 4), .int (nI 0)] h1) (fun r4 h3 => am_cI (am_G am_prog (N + 30) (d + 0) 232 [.ref 135, .int (nI 0), .int (nI 9)] h3) (fun r6 h5 => am_gI h5 9 135 12 (fun y7 => if y7 = nI 0 then am_gR h5 9 135 20 (fun y8 => am_tI h5 y8 (((nI 1837) + ((nI 6) * r2)) + r4) r6 (fun h9 => some (.null, h9))) else some (.null, h5)))))
def KX9_readLikes_1 (N d n : Nat) (z : Int32) (h : am_H) : am_O := am_cI (am_G am_prog (N + 30) (d + 0) 245 [.ref 135, .int (nI 4), .int (nI 0)] h) (fun r2 h1 => am_cI (am_G am_prog (N + 30) (d + 0) 232 [.ref 135, .int (nI 0), .int (nI 9)] h1) (fun r4 h3 => am_gI h3 9 135 12 (fun y5 => if y5 = nI 0 then am_gR h3 9 135 20 (fun y6 => am_tI h3 y6 (((nI 1837) + ((nI 6) * z)) + r2) r4 (fun h7 => some (.null, h7))) else some (.null, h3))))
def KX9_readLikes_2 (N d n : Nat) (a0 : Int32) (z : Int32) (h : am_H) : am_O := am_cI (am_G am_prog (N + 30) (d + 0) 232 [.ref 135, .int (nI 0), .int (nI 9)] h) (fun r2 h1 => am_gI h1 9 135 12 (fun y3 => if y3 = nI 0 then am_gR h1 9 135 20 (fun y4 => am_tI h1 y4 (((nI 1837) + ((nI 6) * a0)) + z) r2 (fun h5 => some (.null, h5))) else some (.null, h1)))
def KX9_readLikes_3 (N d n : Nat) (a0 : Int32) (a1 : Int32) (z : Int32) (h : am_H) : am_O := am_gI h 9 135 12 (fun y1 => if y1 = nI 0 then am_gR h 9 135 20 (fun y2 => am_tI h y2 (((nI 1837) + ((nI 6) * a1)) + a0) z (fun h3 => some (.null, h3))) else some (.null, h))
set_option maxHeartbeats 4000000 in
set_option maxRecDepth 100000 in
theorem sX9_readLikes_0 (N d n : Nat) {X : lt_X} (I : Nat → Nat → Int32) (J : Nat → Nat → Int64) : RX9_readLikes_0 N d (n + 1) X I J = am_cV (am_G am_prog (N + 30) (d + 0) 207 [.ref 135] (mkh X I J)) (KX9_readLikes_0 N d n ) := by
  rfl
set_option maxHeartbeats 4000000 in
set_option maxRecDepth 100000 in
theorem kX9_readLikes_0 (N d n : Nat) {X : lt_X} (I : Nat → Nat → Int32) (J : Nat → Nat → Int64) : KX9_readLikes_0 N d n (mkh X I J) = am_cI (am_G am_prog (N + 30) (d + 0) 245 [.ref 135, .int (nI 4), .int (nI 2)] (mkh X I J)) (KX9_readLikes_1 N d n ) := by
  rfl
set_option maxHeartbeats 4000000 in
set_option maxRecDepth 100000 in
theorem kX9_readLikes_1 (N d n : Nat) {X : lt_X} (z : Int32) (I : Nat → Nat → Int32) (J : Nat → Nat → Int64) : KX9_readLikes_1 N d n z (mkh X I J) = am_cI (am_G am_prog (N + 30) (d + 0) 245 [.ref 135, .int (nI 4), .int (nI 0)] (mkh X I J)) (KX9_readLikes_2 N d n z) := by
  rfl
set_option maxHeartbeats 4000000 in
set_option maxRecDepth 100000 in
theorem kX9_readLikes_2 (N d n : Nat) {X : lt_X} (a0 : Int32) (z : Int32) (I : Nat → Nat → Int32) (J : Nat → Nat → Int64) : KX9_readLikes_2 N d n a0 z (mkh X I J) = am_cI (am_G am_prog (N + 30) (d + 0) 232 [.ref 135, .int (nI 0), .int (nI 9)] (mkh X I J)) (KX9_readLikes_3 N d n z a0) := by
  rfl
set_option maxHeartbeats 4000000 in
set_option maxRecDepth 100000 in
theorem kX9_readLikes_3 (N d n : Nat) {X : lt_X} (a0 : Int32) (a1 : Int32) (z : Int32) (I : Nat → Nat → Int32) (J : Nat → Nat → Int64) : KX9_readLikes_3 N d n a0 a1 z (mkh X I J) = if (I 135 12) = nI 0 then if am_in (((nI 1837) + ((nI 6) * a1)) + a0) 2145 then some (.null, (mkh X (u2 I 140 ((((nI 1837) + ((nI 6) * a1)) + a0).toNatClampNeg) z) J)) else none else some (.null, (mkh X I J)) := by
  rfl
theorem fX9_readLikes (N d : Nat) {X : lt_X} (I : Nat → Nat → Int32) (J : Nat → Nat → Int64) : am_G am_prog N (d + 1) 250 [.ref 135] (mkh X I J) = am_run (am_G am_prog N d) eX9_readLikes uX9_readLikes N 0 [(0, .ref 135)] [] (mkh X I J) := by
  refine (am_G_at N d 250 mX9_readLikes _ _ rfl).trans ?_
  rfl
theorem gX9_readLikes (N d : Nat) {X : lt_X} (I : Nat → Nat → Int32) (J : Nat → Nat → Int64) : am_G am_prog (N + 30) (d + 1) 250 [.ref 135] (mkh X I J) = RX9_readLikes_0 N d (N + 30) X I J := fX9_readLikes (N + 30) (d + 0) I J
def RX9_readSet_0 (N d n : Nat) (X : lt_X) (I : Nat → Nat → Int32) (J : Nat → Nat → Int64) : am_O := am_run (am_G am_prog (N + 30) (d + 0)) eX9_readSet uX9_readSet n 0 [(0, .ref 135)] [] (mkh X I J)
def RX9_readSet_67 (N d n : Nat) (X : lt_X) (x1 : Int32) (x2 : Int32) (x3 : Int32) (I : Nat → Nat → Int32) (J : Nat → Nat → Int64) : am_O := am_run (am_G am_prog (N + 30) (d + 0)) eX9_readSet uX9_readSet n 67 [(0, .ref 135), (1, .int x1), (2, .int x2), (3, .int x3)] [] (mkh X I J)
def RX9_readSet_88 (N d n : Nat) (X : lt_X) (x1 : Int32) (x2 : Int32) (x3 : Int32) (s0 : Int32) (I : Nat → Nat → Int32) (J : Nat → Nat → Int64) : am_O := am_run (am_G am_prog (N + 30) (d + 0)) eX9_readSet uX9_readSet n 88 [(0, .ref 135), (1, .int x1), (2, .int x2), (3, .int x3)] [.int s0] (mkh X I J)
def KX9_readSet_0 (N d n : Nat) (z : Int32) (h : am_H) : am_O := am_cI (am_G am_prog (N + 30) (d + 0) 221 [.ref 135] h) (fun r2 h1 => am_cV (am_G am_prog (N + 30) (d + 0) 231 [.ref 135, .int r2] h1) (fun h3 => am_cI (am_G am_prog (N + 30) (d + 0) 245 [.ref 135, .int (nI 4), .int (nI 1)] h3) (fun r5 h4 => am_cI (am_G am_prog (N + 30) (d + 0) 222 [.ref 135] h4) (fun r7 h6 => am_cI (am_G am_prog (N + 30) (d + 0) 234 [.ref 135, .int r7] h6) (fun r9 h8 => if r9 = nI 0 then am_run (am_G am_prog (N + 30) (d + 0)) eX9_readSet uX9_readSet n 67 [(0, .ref 135), (1, .int z), (2, .int r5), (3, .int (-1))] [] h8 else am_cI (am_G am_prog (N + 30) (d + 0) 244 [.ref 135, .int (nI 4), .int (nI 1)] h8) (fun r11 h10 => am_gI h10 9 135 12 (fun y12 => if y12 = nI 0 then if r11 = r5 then am_gI h10 9 135 15 (fun y13 => am_cV (am_G am_prog (N + 30) (d + 0) 229 [.ref 135, .int (nI 5), .int y13] h10) (fun h14 => am_cV (am_G am_prog (N + 30) (d + 0) 231 [.ref 135, .int (nI 1)] h14) (fun h15 => am_run (am_G am_prog (N + 30) (d + 0)) eX9_readSet uX9_readSet n 67 [(0, .ref 135), (1, .int z), (2, .int r5), (3, .int r11)] [] h15))) else am_cV (am_G am_prog (N + 30) (d + 0) 231 [.ref 135, .int (nI 1)] h10) (fun h16 => am_run (am_G am_prog (N + 30) (d + 0)) eX9_readSet uX9_readSet n 67 [(0, .ref 135), (1, .int z), (2, .int r5), (3, .int r11)] [] h16) else am_cV (am_G am_prog (N + 30) (d + 0) 231 [.ref 135, .int (nI 1)] h10) (fun h17 => am_run (am_G am_prog (N + 30) (d + 0)) eX9_readSet uX9_readSet n 67 [(0, .ref 135), (1, .int z), (2, .int r5), (3, .int r11)] [] h17))))))))
def KX9_readSet_1 (N d n : Nat) (a0 : Int32) (a1 : Int32) (a2 : Int32) (z : Int32) (h : am_H) : am_O := am_cI (am_G am_prog (N + 30) (d + 0) 234 [.ref 135, .int z] h) (fun r2 h1 => if r2 = nI 0 then am_run (am_G am_prog (N + 30) (d + 0)) eX9_readSet uX9_readSet n 88 [(0, .ref 135), (1, .int a0), (2, .int a1), (3, .int a2)] [.int (-1)] h1 else am_cI (am_G am_prog (N + 30) (d + 0) 245 [.ref 135, .int (nI 4), .int (nI 2)] h1) (fun r4 h3 => am_run (am_G am_prog (N + 30) (d + 0)) eX9_readSet uX9_readSet n 88 [(0, .ref 135), (1, .int a0), (2, .int a1), (3, .int a2)] [.int r4] h3))
def KX9_readSet_2 (N d n : Nat) (a0 : Int32) (z : Int32) (h : am_H) : am_O := am_cV (am_G am_prog (N + 30) (d + 0) 231 [.ref 135, .int z] h) (fun h1 => am_cI (am_G am_prog (N + 30) (d + 0) 245 [.ref 135, .int (nI 4), .int (nI 1)] h1) (fun r3 h2 => am_cI (am_G am_prog (N + 30) (d + 0) 222 [.ref 135] h2) (fun r5 h4 => am_cI (am_G am_prog (N + 30) (d + 0) 234 [.ref 135, .int r5] h4) (fun r7 h6 => if r7 = nI 0 then am_run (am_G am_prog (N + 30) (d + 0)) eX9_readSet uX9_readSet n 67 [(0, .ref 135), (1, .int a0), (2, .int r3), (3, .int (-1))] [] h6 else am_cI (am_G am_prog (N + 30) (d + 0) 244 [.ref 135, .int (nI 4), .int (nI 1)] h6) (fun r9 h8 => am_gI h8 9 135 12 (fun y10 => if y10 = nI 0 then if r9 = r3 then am_gI h8 9 135 15 (fun y11 => am_cV (am_G am_prog (N + 30) (d + 0) 229 [.ref 135, .int (nI 5), .int y11] h8) (fun h12 => am_cV (am_G am_prog (N + 30) (d + 0) 231 [.ref 135, .int (nI 1)] h12) (fun h13 => am_run (am_G am_prog (N + 30) (d + 0)) eX9_readSet uX9_readSet n 67 [(0, .ref 135), (1, .int a0), (2, .int r3), (3, .int r9)] [] h13))) else am_cV (am_G am_prog (N + 30) (d + 0) 231 [.ref 135, .int (nI 1)] h8) (fun h14 => am_run (am_G am_prog (N + 30) (d + 0)) eX9_readSet uX9_readSet n 67 [(0, .ref 135), (1, .int a0), (2, .int r3), (3, .int r9)] [] h14) else am_cV (am_G am_prog (N + 30) (d + 0) 231 [.ref 135, .int (nI 1)] h8) (fun h15 => am_run (am_G am_prog (N + 30) (d + 0)) eX9_readSet uX9_readSet n 67 [(0, .ref 135), (1, .int a0), (2, .int r3), (3, .int r9)] [] h15)))))))
def KX9_readSet_3 (N d n : Nat) (a0 : Int32) (a1 : Int32) (a2 : Int32) (z : Int32) (h : am_H) : am_O := if z = nI 0 then am_run (am_G am_prog (N + 30) (d + 0)) eX9_readSet uX9_readSet n 88 [(0, .ref 135), (1, .int a0), (2, .int a1), (3, .int a2)] [.int (-1)] h else am_cI (am_G am_prog (N + 30) (d + 0) 245 [.ref 135, .int (nI 4), .int (nI 2)] h) (fun r2 h1 => am_run (am_G am_prog (N + 30) (d + 0)) eX9_readSet uX9_readSet n 88 [(0, .ref 135), (1, .int a0), (2, .int a1), (3, .int a2)] [.int r2] h1)
def KX9_readSet_4 (N d n : Nat) (a0 : Int32) (h : am_H) : am_O := am_cI (am_G am_prog (N + 30) (d + 0) 245 [.ref 135, .int (nI 4), .int (nI 1)] h) (fun r2 h1 => am_cI (am_G am_prog (N + 30) (d + 0) 222 [.ref 135] h1) (fun r4 h3 => am_cI (am_G am_prog (N + 30) (d + 0) 234 [.ref 135, .int r4] h3) (fun r6 h5 => if r6 = nI 0 then am_run (am_G am_prog (N + 30) (d + 0)) eX9_readSet uX9_readSet n 67 [(0, .ref 135), (1, .int a0), (2, .int r2), (3, .int (-1))] [] h5 else am_cI (am_G am_prog (N + 30) (d + 0) 244 [.ref 135, .int (nI 4), .int (nI 1)] h5) (fun r8 h7 => am_gI h7 9 135 12 (fun y9 => if y9 = nI 0 then if r8 = r2 then am_gI h7 9 135 15 (fun y10 => am_cV (am_G am_prog (N + 30) (d + 0) 229 [.ref 135, .int (nI 5), .int y10] h7) (fun h11 => am_cV (am_G am_prog (N + 30) (d + 0) 231 [.ref 135, .int (nI 1)] h11) (fun h12 => am_run (am_G am_prog (N + 30) (d + 0)) eX9_readSet uX9_readSet n 67 [(0, .ref 135), (1, .int a0), (2, .int r2), (3, .int r8)] [] h12))) else am_cV (am_G am_prog (N + 30) (d + 0) 231 [.ref 135, .int (nI 1)] h7) (fun h13 => am_run (am_G am_prog (N + 30) (d + 0)) eX9_readSet uX9_readSet n 67 [(0, .ref 135), (1, .int a0), (2, .int r2), (3, .int r8)] [] h13) else am_cV (am_G am_prog (N + 30) (d + 0) 231 [.ref 135, .int (nI 1)] h7) (fun h14 => am_run (am_G am_prog (N + 30) (d + 0)) eX9_readSet uX9_readSet n 67 [(0, .ref 135), (1, .int a0), (2, .int r2), (3, .int r8)] [] h14))))))
def KX9_readSet_5 (N d n : Nat) (a0 : Int32) (a1 : Int32) (a2 : Int32) (z : Int32) (h : am_H) : am_O := am_run (am_G am_prog (N + 30) (d + 0)) eX9_readSet uX9_readSet n 88 [(0, .ref 135), (1, .int a0), (2, .int a1), (3, .int a2)] [.int z] h
def KX9_readSet_6 (N d n : Nat) (a0 : Int32) (z : Int32) (h : am_H) : am_O := am_cI (am_G am_prog (N + 30) (d + 0) 222 [.ref 135] h) (fun r2 h1 => am_cI (am_G am_prog (N + 30) (d + 0) 234 [.ref 135, .int r2] h1) (fun r4 h3 => if r4 = nI 0 then am_run (am_G am_prog (N + 30) (d + 0)) eX9_readSet uX9_readSet n 67 [(0, .ref 135), (1, .int a0), (2, .int z), (3, .int (-1))] [] h3 else am_cI (am_G am_prog (N + 30) (d + 0) 244 [.ref 135, .int (nI 4), .int (nI 1)] h3) (fun r6 h5 => am_gI h5 9 135 12 (fun y7 => if y7 = nI 0 then if r6 = z then am_gI h5 9 135 15 (fun y8 => am_cV (am_G am_prog (N + 30) (d + 0) 229 [.ref 135, .int (nI 5), .int y8] h5) (fun h9 => am_cV (am_G am_prog (N + 30) (d + 0) 231 [.ref 135, .int (nI 1)] h9) (fun h10 => am_run (am_G am_prog (N + 30) (d + 0)) eX9_readSet uX9_readSet n 67 [(0, .ref 135), (1, .int a0), (2, .int z), (3, .int r6)] [] h10))) else am_cV (am_G am_prog (N + 30) (d + 0) 231 [.ref 135, .int (nI 1)] h5) (fun h11 => am_run (am_G am_prog (N + 30) (d + 0)) eX9_readSet uX9_readSet n 67 [(0, .ref 135), (1, .int a0), (2, .int z), (3, .int r6)] [] h11) else am_cV (am_G am_prog (N + 30) (d + 0) 231 [.ref 135, .int (nI 1)] h5) (fun h12 => am_run (am_G am_prog (N + 30) (d + 0)) eX9_readSet uX9_readSet n 67 [(0, .ref 135), (1, .int a0), (2, .int z), (3, .int r6)] [] h12)))))
def KX9_readSet_7 (N d n : Nat) (a0 : Int32) (a1 : Int32) (z : Int32) (h : am_H) : am_O := am_cI (am_G am_prog (N + 30) (d + 0) 234 [.ref 135, .int z] h) (fun r2 h1 => if r2 = nI 0 then am_run (am_G am_prog (N + 30) (d + 0)) eX9_readSet uX9_readSet n 67 [(0, .ref 135), (1, .int a1), (2, .int a0), (3, .int (-1))] [] h1 else am_cI (am_G am_prog (N + 30) (d + 0) 244 [.ref 135, .int (nI 4), .int (nI 1)] h1) (fun r4 h3 => am_gI h3 9 135 12 (fun y5 => if y5 = nI 0 then if r4 = a0 then am_gI h3 9 135 15 (fun y6 => am_cV (am_G am_prog (N + 30) (d + 0) 229 [.ref 135, .int (nI 5), .int y6] h3) (fun h7 => am_cV (am_G am_prog (N + 30) (d + 0) 231 [.ref 135, .int (nI 1)] h7) (fun h8 => am_run (am_G am_prog (N + 30) (d + 0)) eX9_readSet uX9_readSet n 67 [(0, .ref 135), (1, .int a1), (2, .int a0), (3, .int r4)] [] h8))) else am_cV (am_G am_prog (N + 30) (d + 0) 231 [.ref 135, .int (nI 1)] h3) (fun h9 => am_run (am_G am_prog (N + 30) (d + 0)) eX9_readSet uX9_readSet n 67 [(0, .ref 135), (1, .int a1), (2, .int a0), (3, .int r4)] [] h9) else am_cV (am_G am_prog (N + 30) (d + 0) 231 [.ref 135, .int (nI 1)] h3) (fun h10 => am_run (am_G am_prog (N + 30) (d + 0)) eX9_readSet uX9_readSet n 67 [(0, .ref 135), (1, .int a1), (2, .int a0), (3, .int r4)] [] h10))))
def KX9_readSet_8 (N d n : Nat) (a0 : Int32) (a1 : Int32) (z : Int32) (h : am_H) : am_O := if z = nI 0 then am_run (am_G am_prog (N + 30) (d + 0)) eX9_readSet uX9_readSet n 67 [(0, .ref 135), (1, .int a1), (2, .int a0), (3, .int (-1))] [] h else am_cI (am_G am_prog (N + 30) (d + 0) 244 [.ref 135, .int (nI 4), .int (nI 1)] h) (fun r2 h1 => am_gI h1 9 135 12 (fun y3 => if y3 = nI 0 then if r2 = a0 then am_gI h1 9 135 15 (fun y4 => am_cV (am_G am_prog (N + 30) (d + 0) 229 [.ref 135, .int (nI 5), .int y4] h1) (fun h5 => am_cV (am_G am_prog (N + 30) (d + 0) 231 [.ref 135, .int (nI 1)] h5) (fun h6 => am_run (am_G am_prog (N + 30) (d + 0)) eX9_readSet uX9_readSet n 67 [(0, .ref 135), (1, .int a1), (2, .int a0), (3, .int r2)] [] h6))) else am_cV (am_G am_prog (N + 30) (d + 0) 231 [.ref 135, .int (nI 1)] h1) (fun h7 => am_run (am_G am_prog (N + 30) (d + 0)) eX9_readSet uX9_readSet n 67 [(0, .ref 135), (1, .int a1), (2, .int a0), (3, .int r2)] [] h7) else am_cV (am_G am_prog (N + 30) (d + 0) 231 [.ref 135, .int (nI 1)] h1) (fun h8 => am_run (am_G am_prog (N + 30) (d + 0)) eX9_readSet uX9_readSet n 67 [(0, .ref 135), (1, .int a1), (2, .int a0), (3, .int r2)] [] h8)))
def KX9_readSet_9 (N d n : Nat) (a0 : Int32) (a1 : Int32) (z : Int32) (h : am_H) : am_O := am_gI h 9 135 12 (fun y1 => if y1 = nI 0 then if z = a0 then am_gI h 9 135 15 (fun y2 => am_cV (am_G am_prog (N + 30) (d + 0) 229 [.ref 135, .int (nI 5), .int y2] h) (fun h3 => am_cV (am_G am_prog (N + 30) (d + 0) 231 [.ref 135, .int (nI 1)] h3) (fun h4 => am_run (am_G am_prog (N + 30) (d + 0)) eX9_readSet uX9_readSet n 67 [(0, .ref 135), (1, .int a1), (2, .int a0), (3, .int z)] [] h4))) else am_cV (am_G am_prog (N + 30) (d + 0) 231 [.ref 135, .int (nI 1)] h) (fun h5 => am_run (am_G am_prog (N + 30) (d + 0)) eX9_readSet uX9_readSet n 67 [(0, .ref 135), (1, .int a1), (2, .int a0), (3, .int z)] [] h5) else am_cV (am_G am_prog (N + 30) (d + 0) 231 [.ref 135, .int (nI 1)] h) (fun h6 => am_run (am_G am_prog (N + 30) (d + 0)) eX9_readSet uX9_readSet n 67 [(0, .ref 135), (1, .int a1), (2, .int a0), (3, .int z)] [] h6))
def KX9_readSet_10 (N d n : Nat) (a0 : Int32) (a1 : Int32) (a2 : Int32) (h : am_H) : am_O := am_cV (am_G am_prog (N + 30) (d + 0) 231 [.ref 135, .int (nI 1)] h) (fun h1 => am_run (am_G am_prog (N + 30) (d + 0)) eX9_readSet uX9_readSet n 67 [(0, .ref 135), (1, .int a2), (2, .int a1), (3, .int a0)] [] h1)
def KX9_readSet_11 (N d n : Nat) (a0 : Int32) (a1 : Int32) (a2 : Int32) (h : am_H) : am_O := am_run (am_G am_prog (N + 30) (d + 0)) eX9_readSet uX9_readSet n 67 [(0, .ref 135), (1, .int a2), (2, .int a1), (3, .int a0)] [] h
set_option maxHeartbeats 4000000 in
set_option maxRecDepth 100000 in
theorem sX9_readSet_0 (N d n : Nat) {X : lt_X} (I : Nat → Nat → Int32) (J : Nat → Nat → Int64) : RX9_readSet_0 N d (n + 1) X I J = am_cI (am_G am_prog (N + 30) (d + 0) 243 [.ref 135, .int (nI 3)] (mkh X I J)) (KX9_readSet_0 N d n ) := by
  rfl
set_option maxHeartbeats 4000000 in
set_option maxRecDepth 100000 in
theorem sX9_readSet_67 (N d n : Nat) {X : lt_X} (x1 : Int32) (x2 : Int32) (x3 : Int32) (I : Nat → Nat → Int32) (J : Nat → Nat → Int64) : RX9_readSet_67 N d (n + 1) X x1 x2 x3 I J = am_cI (am_G am_prog (N + 30) (d + 0) 223 [.ref 135] (mkh X I J)) (KX9_readSet_1 N d n x1 x2 x3) := by
  rfl
set_option maxHeartbeats 4000000 in
set_option maxRecDepth 100000 in
theorem sX9_readSet_88 (N d n : Nat) {X : lt_X} (x1 : Int32) (x2 : Int32) (x3 : Int32) (s0 : Int32) (I : Nat → Nat → Int32) (J : Nat → Nat → Int64) : RX9_readSet_88 N d (n + 1) X x1 x2 x3 s0 I J = if nI 0 < (I 135 12) then some (.null, (mkh X I J)) else if am_in ((nI 1771) + x1) 2145 then if am_in ((nI 1777) + x1) 2145 then if am_in ((nI 1783) + x1) 2145 then some (.null, (mkh X (u2 (u2 (u2 (u2 I 140 (((nI 1771) + x1).toNatClampNeg) x2) 140 (((nI 1777) + x1).toNatClampNeg) x3) 140 (((nI 1783) + x1).toNatClampNeg) s0) 140 1719 (((u2 (u2 (u2 I 140 (((nI 1771) + x1).toNatClampNeg) x2) 140 (((nI 1777) + x1).toNatClampNeg) x3) 140 (((nI 1783) + x1).toNatClampNeg) s0) 140 1719) + (nI 1))) J)) else none else none else none := by
  rfl
set_option maxHeartbeats 4000000 in
set_option maxRecDepth 100000 in
theorem kX9_readSet_0 (N d n : Nat) {X : lt_X} (z : Int32) (I : Nat → Nat → Int32) (J : Nat → Nat → Int64) : KX9_readSet_0 N d n z (mkh X I J) = am_cI (am_G am_prog (N + 30) (d + 0) 221 [.ref 135] (mkh X I J)) (KX9_readSet_2 N d n z) := by
  rfl
set_option maxHeartbeats 4000000 in
set_option maxRecDepth 100000 in
theorem kX9_readSet_1 (N d n : Nat) {X : lt_X} (a0 : Int32) (a1 : Int32) (a2 : Int32) (z : Int32) (I : Nat → Nat → Int32) (J : Nat → Nat → Int64) : KX9_readSet_1 N d n a0 a1 a2 z (mkh X I J) = am_cI (am_G am_prog (N + 30) (d + 0) 234 [.ref 135, .int z] (mkh X I J)) (KX9_readSet_3 N d n a0 a1 a2) := by
  rfl
set_option maxHeartbeats 4000000 in
set_option maxRecDepth 100000 in
theorem kX9_readSet_2 (N d n : Nat) {X : lt_X} (a0 : Int32) (z : Int32) (I : Nat → Nat → Int32) (J : Nat → Nat → Int64) : KX9_readSet_2 N d n a0 z (mkh X I J) = am_cV (am_G am_prog (N + 30) (d + 0) 231 [.ref 135, .int z] (mkh X I J)) (KX9_readSet_4 N d n a0) := by
  rfl
set_option maxHeartbeats 4000000 in
set_option maxRecDepth 100000 in
theorem kX9_readSet_3 (N d n : Nat) {X : lt_X} (a0 : Int32) (a1 : Int32) (a2 : Int32) (z : Int32) (I : Nat → Nat → Int32) (J : Nat → Nat → Int64) : KX9_readSet_3 N d n a0 a1 a2 z (mkh X I J) = if z = nI 0 then RX9_readSet_88 N d n X a0 a1 a2 (-1) I J else am_cI (am_G am_prog (N + 30) (d + 0) 245 [.ref 135, .int (nI 4), .int (nI 2)] (mkh X I J)) (KX9_readSet_5 N d n a0 a1 a2) := by
  rfl
set_option maxHeartbeats 4000000 in
set_option maxRecDepth 100000 in
theorem kX9_readSet_4 (N d n : Nat) {X : lt_X} (a0 : Int32) (I : Nat → Nat → Int32) (J : Nat → Nat → Int64) : KX9_readSet_4 N d n a0 (mkh X I J) = am_cI (am_G am_prog (N + 30) (d + 0) 245 [.ref 135, .int (nI 4), .int (nI 1)] (mkh X I J)) (KX9_readSet_6 N d n a0) := by
  rfl
set_option maxHeartbeats 4000000 in
set_option maxRecDepth 100000 in
theorem kX9_readSet_5 (N d n : Nat) {X : lt_X} (a0 : Int32) (a1 : Int32) (a2 : Int32) (z : Int32) (I : Nat → Nat → Int32) (J : Nat → Nat → Int64) : KX9_readSet_5 N d n a0 a1 a2 z (mkh X I J) = RX9_readSet_88 N d n X a0 a1 a2 z I J := by
  rfl
set_option maxHeartbeats 4000000 in
set_option maxRecDepth 100000 in
theorem kX9_readSet_6 (N d n : Nat) {X : lt_X} (a0 : Int32) (z : Int32) (I : Nat → Nat → Int32) (J : Nat → Nat → Int64) : KX9_readSet_6 N d n a0 z (mkh X I J) = am_cI (am_G am_prog (N + 30) (d + 0) 222 [.ref 135] (mkh X I J)) (KX9_readSet_7 N d n z a0) := by
  rfl
set_option maxHeartbeats 4000000 in
set_option maxRecDepth 100000 in
theorem kX9_readSet_7 (N d n : Nat) {X : lt_X} (a0 : Int32) (a1 : Int32) (z : Int32) (I : Nat → Nat → Int32) (J : Nat → Nat → Int64) : KX9_readSet_7 N d n a0 a1 z (mkh X I J) = am_cI (am_G am_prog (N + 30) (d + 0) 234 [.ref 135, .int z] (mkh X I J)) (KX9_readSet_8 N d n a0 a1) := by
  rfl
set_option maxHeartbeats 4000000 in
set_option maxRecDepth 100000 in
theorem kX9_readSet_8 (N d n : Nat) {X : lt_X} (a0 : Int32) (a1 : Int32) (z : Int32) (I : Nat → Nat → Int32) (J : Nat → Nat → Int64) : KX9_readSet_8 N d n a0 a1 z (mkh X I J) = if z = nI 0 then RX9_readSet_67 N d n X a1 a0 (-1) I J else am_cI (am_G am_prog (N + 30) (d + 0) 244 [.ref 135, .int (nI 4), .int (nI 1)] (mkh X I J)) (KX9_readSet_9 N d n a0 a1) := by
  rfl
set_option maxHeartbeats 4000000 in
set_option maxRecDepth 100000 in
theorem kX9_readSet_9 (N d n : Nat) {X : lt_X} (a0 : Int32) (a1 : Int32) (z : Int32) (I : Nat → Nat → Int32) (J : Nat → Nat → Int64) : KX9_readSet_9 N d n a0 a1 z (mkh X I J) = if (I 135 12) = nI 0 then if z = a0 then am_cV (am_G am_prog (N + 30) (d + 0) 229 [.ref 135, .int (nI 5), .int (I 135 15)] (mkh X I J)) (KX9_readSet_10 N d n z a0 a1) else am_cV (am_G am_prog (N + 30) (d + 0) 231 [.ref 135, .int (nI 1)] (mkh X I J)) (KX9_readSet_11 N d n z a0 a1) else am_cV (am_G am_prog (N + 30) (d + 0) 231 [.ref 135, .int (nI 1)] (mkh X I J)) (KX9_readSet_11 N d n z a0 a1) := by
  rfl
set_option maxHeartbeats 4000000 in
set_option maxRecDepth 100000 in
theorem kX9_readSet_10 (N d n : Nat) {X : lt_X} (a0 : Int32) (a1 : Int32) (a2 : Int32) (I : Nat → Nat → Int32) (J : Nat → Nat → Int64) : KX9_readSet_10 N d n a0 a1 a2 (mkh X I J) = am_cV (am_G am_prog (N + 30) (d + 0) 231 [.ref 135, .int (nI 1)] (mkh X I J)) (KX9_readSet_11 N d n a0 a1 a2) := by
  rfl
set_option maxHeartbeats 4000000 in
set_option maxRecDepth 100000 in
theorem kX9_readSet_11 (N d n : Nat) {X : lt_X} (a0 : Int32) (a1 : Int32) (a2 : Int32) (I : Nat → Nat → Int32) (J : Nat → Nat → Int64) : KX9_readSet_11 N d n a0 a1 a2 (mkh X I J) = RX9_readSet_67 N d n X a2 a1 a0 I J := by
  rfl
theorem fX9_readSet (N d : Nat) {X : lt_X} (I : Nat → Nat → Int32) (J : Nat → Nat → Int64) : am_G am_prog N (d + 1) 251 [.ref 135] (mkh X I J) = am_run (am_G am_prog N d) eX9_readSet uX9_readSet N 0 [(0, .ref 135)] [] (mkh X I J) := by
  refine (am_G_at N d 251 mX9_readSet _ _ rfl).trans ?_
  rfl
theorem gX9_readSet (N d : Nat) {X : lt_X} (I : Nat → Nat → Int32) (J : Nat → Nat → Int64) : am_G am_prog (N + 30) (d + 1) 251 [.ref 135] (mkh X I J) = RX9_readSet_0 N d (N + 30) X I J := fX9_readSet (N + 30) (d + 0) I J
def RX9_readPart_0 (N d n : Nat) (X : lt_X) (I : Nat → Nat → Int32) (J : Nat → Nat → Int64) : am_O := am_run (am_G am_prog (N + 30) (d + 0)) eX9_readPart uX9_readPart n 0 [(0, .ref 135)] [] (mkh X I J)
def KX9_readPart_0 (N d n : Nat) (z : Int32) (h : am_H) : am_O := if z = nI 0 then am_cI (am_G am_prog (N + 30) (d + 0) 212 [.ref 135] h) (fun r2 h1 => if r2 = nI 0 then am_cI (am_G am_prog (N + 30) (d + 0) 213 [.ref 135] h1) (fun r4 h3 => if r4 = nI 0 then am_cI (am_G am_prog (N + 30) (d + 0) 217 [.ref 135] h3) (fun r6 h5 => if r6 = nI 0 then am_cI (am_G am_prog (N + 30) (d + 0) 219 [.ref 135] h5) (fun r8 h7 => if r8 = nI 0 then am_cI (am_G am_prog (N + 30) (d + 0) 220 [.ref 135] h7) (fun r10 h9 => if r10 = nI 0 then am_cV (am_G am_prog (N + 30) (d + 0) 230 [.ref 135] h9) (fun h11 => some (.null, h11)) else am_cV (am_G am_prog (N + 30) (d + 0) 251 [.ref 135] h9) (fun h12 => some (.null, h12))) else am_cV (am_G am_prog (N + 30) (d + 0) 250 [.ref 135] h7) (fun h13 => some (.null, h13))) else am_cV (am_G am_prog (N + 30) (d + 0) 249 [.ref 135] h5) (fun h14 => some (.null, h14))) else am_cV (am_G am_prog (N + 30) (d + 0) 248 [.ref 135] h3) (fun h15 => some (.null, h15))) else am_cV (am_G am_prog (N + 30) (d + 0) 247 [.ref 135] h1) (fun h16 => some (.null, h16))) else am_cV (am_G am_prog (N + 30) (d + 0) 246 [.ref 135] h) (fun h17 => some (.null, h17))
def KX9_readPart_1 (N d n : Nat) (z : Int32) (h : am_H) : am_O := if z = nI 0 then am_cI (am_G am_prog (N + 30) (d + 0) 213 [.ref 135] h) (fun r2 h1 => if r2 = nI 0 then am_cI (am_G am_prog (N + 30) (d + 0) 217 [.ref 135] h1) (fun r4 h3 => if r4 = nI 0 then am_cI (am_G am_prog (N + 30) (d + 0) 219 [.ref 135] h3) (fun r6 h5 => if r6 = nI 0 then am_cI (am_G am_prog (N + 30) (d + 0) 220 [.ref 135] h5) (fun r8 h7 => if r8 = nI 0 then am_cV (am_G am_prog (N + 30) (d + 0) 230 [.ref 135] h7) (fun h9 => some (.null, h9)) else am_cV (am_G am_prog (N + 30) (d + 0) 251 [.ref 135] h7) (fun h10 => some (.null, h10))) else am_cV (am_G am_prog (N + 30) (d + 0) 250 [.ref 135] h5) (fun h11 => some (.null, h11))) else am_cV (am_G am_prog (N + 30) (d + 0) 249 [.ref 135] h3) (fun h12 => some (.null, h12))) else am_cV (am_G am_prog (N + 30) (d + 0) 248 [.ref 135] h1) (fun h13 => some (.null, h13))) else am_cV (am_G am_prog (N + 30) (d + 0) 247 [.ref 135] h) (fun h14 => some (.null, h14))
def KX9_readPart_2 (N d n : Nat) (h : am_H) : am_O := some (.null, h)
def KX9_readPart_3 (N d n : Nat) (z : Int32) (h : am_H) : am_O := if z = nI 0 then am_cI (am_G am_prog (N + 30) (d + 0) 217 [.ref 135] h) (fun r2 h1 => if r2 = nI 0 then am_cI (am_G am_prog (N + 30) (d + 0) 219 [.ref 135] h1) (fun r4 h3 => if r4 = nI 0 then am_cI (am_G am_prog (N + 30) (d + 0) 220 [.ref 135] h3) (fun r6 h5 => if r6 = nI 0 then am_cV (am_G am_prog (N + 30) (d + 0) 230 [.ref 135] h5) (fun h7 => some (.null, h7)) else am_cV (am_G am_prog (N + 30) (d + 0) 251 [.ref 135] h5) (fun h8 => some (.null, h8))) else am_cV (am_G am_prog (N + 30) (d + 0) 250 [.ref 135] h3) (fun h9 => some (.null, h9))) else am_cV (am_G am_prog (N + 30) (d + 0) 249 [.ref 135] h1) (fun h10 => some (.null, h10))) else am_cV (am_G am_prog (N + 30) (d + 0) 248 [.ref 135] h) (fun h11 => some (.null, h11))
def KX9_readPart_4 (N d n : Nat) (h : am_H) : am_O := some (.null, h)
def KX9_readPart_5 (N d n : Nat) (z : Int32) (h : am_H) : am_O := if z = nI 0 then am_cI (am_G am_prog (N + 30) (d + 0) 219 [.ref 135] h) (fun r2 h1 => if r2 = nI 0 then am_cI (am_G am_prog (N + 30) (d + 0) 220 [.ref 135] h1) (fun r4 h3 => if r4 = nI 0 then am_cV (am_G am_prog (N + 30) (d + 0) 230 [.ref 135] h3) (fun h5 => some (.null, h5)) else am_cV (am_G am_prog (N + 30) (d + 0) 251 [.ref 135] h3) (fun h6 => some (.null, h6))) else am_cV (am_G am_prog (N + 30) (d + 0) 250 [.ref 135] h1) (fun h7 => some (.null, h7))) else am_cV (am_G am_prog (N + 30) (d + 0) 249 [.ref 135] h) (fun h8 => some (.null, h8))
def KX9_readPart_6 (N d n : Nat) (h : am_H) : am_O := some (.null, h)
def KX9_readPart_7 (N d n : Nat) (z : Int32) (h : am_H) : am_O := if z = nI 0 then am_cI (am_G am_prog (N + 30) (d + 0) 220 [.ref 135] h) (fun r2 h1 => if r2 = nI 0 then am_cV (am_G am_prog (N + 30) (d + 0) 230 [.ref 135] h1) (fun h3 => some (.null, h3)) else am_cV (am_G am_prog (N + 30) (d + 0) 251 [.ref 135] h1) (fun h4 => some (.null, h4))) else am_cV (am_G am_prog (N + 30) (d + 0) 250 [.ref 135] h) (fun h5 => some (.null, h5))
def KX9_readPart_8 (N d n : Nat) (h : am_H) : am_O := some (.null, h)
def KX9_readPart_9 (N d n : Nat) (z : Int32) (h : am_H) : am_O := if z = nI 0 then am_cV (am_G am_prog (N + 30) (d + 0) 230 [.ref 135] h) (fun h1 => some (.null, h1)) else am_cV (am_G am_prog (N + 30) (d + 0) 251 [.ref 135] h) (fun h2 => some (.null, h2))
def KX9_readPart_10 (N d n : Nat) (h : am_H) : am_O := some (.null, h)
def KX9_readPart_11 (N d n : Nat) (h : am_H) : am_O := some (.null, h)
def KX9_readPart_12 (N d n : Nat) (h : am_H) : am_O := some (.null, h)
set_option maxHeartbeats 4000000 in
set_option maxRecDepth 100000 in
theorem sX9_readPart_0 (N d n : Nat) {X : lt_X} (I : Nat → Nat → Int32) (J : Nat → Nat → Int64) : RX9_readPart_0 N d (n + 1) X I J = am_cI (am_G am_prog (N + 30) (d + 0) 211 [.ref 135] (mkh X I J)) (KX9_readPart_0 N d n ) := by
  rfl
set_option maxHeartbeats 4000000 in
set_option maxRecDepth 100000 in
theorem kX9_readPart_0 (N d n : Nat) {X : lt_X} (z : Int32) (I : Nat → Nat → Int32) (J : Nat → Nat → Int64) : KX9_readPart_0 N d n z (mkh X I J) = if z = nI 0 then am_cI (am_G am_prog (N + 30) (d + 0) 212 [.ref 135] (mkh X I J)) (KX9_readPart_1 N d n ) else am_cV (am_G am_prog (N + 30) (d + 0) 246 [.ref 135] (mkh X I J)) (KX9_readPart_2 N d n ) := by
  rfl
set_option maxHeartbeats 4000000 in
set_option maxRecDepth 100000 in
theorem kX9_readPart_1 (N d n : Nat) {X : lt_X} (z : Int32) (I : Nat → Nat → Int32) (J : Nat → Nat → Int64) : KX9_readPart_1 N d n z (mkh X I J) = if z = nI 0 then am_cI (am_G am_prog (N + 30) (d + 0) 213 [.ref 135] (mkh X I J)) (KX9_readPart_3 N d n ) else am_cV (am_G am_prog (N + 30) (d + 0) 247 [.ref 135] (mkh X I J)) (KX9_readPart_4 N d n ) := by
  rfl
set_option maxHeartbeats 4000000 in
set_option maxRecDepth 100000 in
theorem kX9_readPart_2 (N d n : Nat) {X : lt_X} (I : Nat → Nat → Int32) (J : Nat → Nat → Int64) : KX9_readPart_2 N d n (mkh X I J) = some (.null, (mkh X I J)) := by
  rfl
set_option maxHeartbeats 4000000 in
set_option maxRecDepth 100000 in
theorem kX9_readPart_3 (N d n : Nat) {X : lt_X} (z : Int32) (I : Nat → Nat → Int32) (J : Nat → Nat → Int64) : KX9_readPart_3 N d n z (mkh X I J) = if z = nI 0 then am_cI (am_G am_prog (N + 30) (d + 0) 217 [.ref 135] (mkh X I J)) (KX9_readPart_5 N d n ) else am_cV (am_G am_prog (N + 30) (d + 0) 248 [.ref 135] (mkh X I J)) (KX9_readPart_6 N d n ) := by
  rfl
set_option maxHeartbeats 4000000 in
set_option maxRecDepth 100000 in
theorem kX9_readPart_4 (N d n : Nat) {X : lt_X} (I : Nat → Nat → Int32) (J : Nat → Nat → Int64) : KX9_readPart_4 N d n (mkh X I J) = some (.null, (mkh X I J)) := by
  rfl
set_option maxHeartbeats 4000000 in
set_option maxRecDepth 100000 in
theorem kX9_readPart_5 (N d n : Nat) {X : lt_X} (z : Int32) (I : Nat → Nat → Int32) (J : Nat → Nat → Int64) : KX9_readPart_5 N d n z (mkh X I J) = if z = nI 0 then am_cI (am_G am_prog (N + 30) (d + 0) 219 [.ref 135] (mkh X I J)) (KX9_readPart_7 N d n ) else am_cV (am_G am_prog (N + 30) (d + 0) 249 [.ref 135] (mkh X I J)) (KX9_readPart_8 N d n ) := by
  rfl
set_option maxHeartbeats 4000000 in
set_option maxRecDepth 100000 in
theorem kX9_readPart_6 (N d n : Nat) {X : lt_X} (I : Nat → Nat → Int32) (J : Nat → Nat → Int64) : KX9_readPart_6 N d n (mkh X I J) = some (.null, (mkh X I J)) := by
  rfl
set_option maxHeartbeats 4000000 in
set_option maxRecDepth 100000 in
theorem kX9_readPart_7 (N d n : Nat) {X : lt_X} (z : Int32) (I : Nat → Nat → Int32) (J : Nat → Nat → Int64) : KX9_readPart_7 N d n z (mkh X I J) = if z = nI 0 then am_cI (am_G am_prog (N + 30) (d + 0) 220 [.ref 135] (mkh X I J)) (KX9_readPart_9 N d n ) else am_cV (am_G am_prog (N + 30) (d + 0) 250 [.ref 135] (mkh X I J)) (KX9_readPart_10 N d n ) := by
  rfl
set_option maxHeartbeats 4000000 in
set_option maxRecDepth 100000 in
theorem kX9_readPart_8 (N d n : Nat) {X : lt_X} (I : Nat → Nat → Int32) (J : Nat → Nat → Int64) : KX9_readPart_8 N d n (mkh X I J) = some (.null, (mkh X I J)) := by
  rfl
set_option maxHeartbeats 4000000 in
set_option maxRecDepth 100000 in
theorem kX9_readPart_9 (N d n : Nat) {X : lt_X} (z : Int32) (I : Nat → Nat → Int32) (J : Nat → Nat → Int64) : KX9_readPart_9 N d n z (mkh X I J) = if z = nI 0 then am_cV (am_G am_prog (N + 30) (d + 0) 230 [.ref 135] (mkh X I J)) (KX9_readPart_11 N d n ) else am_cV (am_G am_prog (N + 30) (d + 0) 251 [.ref 135] (mkh X I J)) (KX9_readPart_12 N d n ) := by
  rfl
set_option maxHeartbeats 4000000 in
set_option maxRecDepth 100000 in
theorem kX9_readPart_10 (N d n : Nat) {X : lt_X} (I : Nat → Nat → Int32) (J : Nat → Nat → Int64) : KX9_readPart_10 N d n (mkh X I J) = some (.null, (mkh X I J)) := by
  rfl
set_option maxHeartbeats 4000000 in
set_option maxRecDepth 100000 in
theorem kX9_readPart_11 (N d n : Nat) {X : lt_X} (I : Nat → Nat → Int32) (J : Nat → Nat → Int64) : KX9_readPart_11 N d n (mkh X I J) = some (.null, (mkh X I J)) := by
  rfl
set_option maxHeartbeats 4000000 in
set_option maxRecDepth 100000 in
theorem kX9_readPart_12 (N d n : Nat) {X : lt_X} (I : Nat → Nat → Int32) (J : Nat → Nat → Int64) : KX9_readPart_12 N d n (mkh X I J) = some (.null, (mkh X I J)) := by
  rfl
theorem fX9_readPart (N d : Nat) {X : lt_X} (I : Nat → Nat → Int32) (J : Nat → Nat → Int64) : am_G am_prog N (d + 1) 252 [.ref 135] (mkh X I J) = am_run (am_G am_prog N d) eX9_readPart uX9_readPart N 0 [(0, .ref 135)] [] (mkh X I J) := by
  refine (am_G_at N d 252 mX9_readPart _ _ rfl).trans ?_
  rfl
theorem gX9_readPart (N d : Nat) {X : lt_X} (I : Nat → Nat → Int32) (J : Nat → Nat → Int64) : am_G am_prog (N + 30) (d + 1) 252 [.ref 135] (mkh X I J) = RX9_readPart_0 N d (N + 30) X I J := fX9_readPart (N + 30) (d + 0) I J
def RX9_town_0 (N d n : Nat) (X : lt_X) (x1 : Int32) (I : Nat → Nat → Int32) (J : Nat → Nat → Int64) : am_O := am_run (am_G am_prog (N + 30) (d + 0)) eX9_town uX9_town n 0 [(0, .ref 135), (1, .int x1)] [] (mkh X I J)
def RX9_town_33 (N d n : Nat) (X : lt_X) (I : Nat → Nat → Int32) (J : Nat → Nat → Int64) : am_O := am_run (am_G am_prog (N + 30) (d + 0)) eX9_town uX9_town n 33 [(0, .ref 135)] [] (mkh X I J)
def RX9_town_64 (N d n : Nat) (X : lt_X) (I : Nat → Nat → Int32) (J : Nat → Nat → Int64) : am_O := am_run (am_G am_prog (N + 30) (d + 0)) eX9_town uX9_town n 64 [(0, .ref 135)] [] (mkh X I J)
def KX9_town_0 (N d n : Nat) (z : Int32) (h : am_H) : am_O := if z = nI 0 then some (.int (-1), h) else am_cV (am_G am_prog (N + 30) (d + 0) 240 [.ref 135, .int (nI 4)] h) (fun h1 => am_pZ h1 9 135 24 (nI 0) (fun h2 => am_run (am_G am_prog (N + 30) (d + 0)) eX9_town uX9_town n 33 [(0, .ref 135)] [] h2))
def KX9_town_1 (N d n : Nat) (h : am_H) : am_O := am_cI (am_G am_prog (N + 30) (d + 0) 208 [.ref 135, .int (nI 59)] h) (fun r2 h1 => am_cV (am_G am_prog (N + 30) (d + 0) 231 [.ref 135, .int r2] h1) (fun h3 => am_run (am_G am_prog (N + 30) (d + 0)) eX9_town uX9_town n 33 [(0, .ref 135)] [] h3))
def KX9_town_2 (N d n : Nat) (z : Int32) (h : am_H) : am_O := if z = nI 0 then some (.int (-1), h) else am_cV (am_G am_prog (N + 30) (d + 0) 353 [.ref 135, .int (nI 4), .int (nI 0)] h) (fun h1 => am_gR h1 9 135 20 (fun y2 => am_lI h1 10 y2 (nI 3) (fun y3 => some (.int y3, h1))))
def KX9_town_3 (N d n : Nat) (h : am_H) : am_O := am_pZ h 9 135 24 (nI 0) (fun h1 => am_run (am_G am_prog (N + 30) (d + 0)) eX9_town uX9_town n 33 [(0, .ref 135)] [] h1)
def KX9_town_4 (N d n : Nat) (z : Int32) (h : am_H) : am_O := am_cV (am_G am_prog (N + 30) (d + 0) 231 [.ref 135, .int z] h) (fun h1 => am_run (am_G am_prog (N + 30) (d + 0)) eX9_town uX9_town n 33 [(0, .ref 135)] [] h1)
def KX9_town_5 (N d n : Nat) (h : am_H) : am_O := am_gR h 9 135 20 (fun y1 => am_lI h 10 y1 (nI 3) (fun y2 => some (.int y2, h)))
def KX9_town_6 (N d n : Nat) (h : am_H) : am_O := am_run (am_G am_prog (N + 30) (d + 0)) eX9_town uX9_town n 33 [(0, .ref 135)] [] h
set_option maxHeartbeats 4000000 in
set_option maxRecDepth 100000 in
theorem sX9_town_0 (N d n : Nat) {X : lt_X} (x1 : Int32) (I : Nat → Nat → Int32) (J : Nat → Nat → Int64) : RX9_town_0 N d (n + 1) X x1 I J = am_cI (am_G am_prog (N + 30) (d + 0) 237 [.ref 135, .int x1, .int (nI 900)] (mkh X (u2 (u2 I 135 1 (nI 0)) 135 0 (nI 0)) J)) (KX9_town_0 N d n ) := by
  rfl
set_option maxHeartbeats 4000000 in
set_option maxRecDepth 100000 in
theorem sX9_town_33 (N d n : Nat) {X : lt_X} (I : Nat → Nat → Int32) (J : Nat → Nat → Int64) : RX9_town_33 N d (n + 1) X I J = if (I 135 12) = nI 0 then if (I 135 14) = nI 0 then RX9_town_64 N d n X I J else am_cV (am_G am_prog (N + 30) (d + 0) 252 [.ref 135] (mkh X I J)) (KX9_town_1 N d n ) else RX9_town_64 N d n X I J := by
  rfl
set_option maxHeartbeats 4000000 in
set_option maxRecDepth 100000 in
theorem sX9_town_64 (N d n : Nat) {X : lt_X} (I : Nat → Nat → Int32) (J : Nat → Nat → Int64) : RX9_town_64 N d (n + 1) X I J = am_cI (am_G am_prog (N + 30) (d + 0) 238 [.ref 135] (mkh X I J)) (KX9_town_2 N d n ) := by
  rfl
set_option maxHeartbeats 4000000 in
set_option maxRecDepth 100000 in
theorem kX9_town_0 (N d n : Nat) {X : lt_X} (z : Int32) (I : Nat → Nat → Int32) (J : Nat → Nat → Int64) : KX9_town_0 N d n z (mkh X I J) = if z = nI 0 then some (.int (-1), (mkh X I J)) else am_cV (am_G am_prog (N + 30) (d + 0) 240 [.ref 135, .int (nI 4)] (mkh X I J)) (KX9_town_3 N d n ) := by
  rfl
set_option maxHeartbeats 4000000 in
set_option maxRecDepth 100000 in
theorem kX9_town_1 (N d n : Nat) {X : lt_X} (I : Nat → Nat → Int32) (J : Nat → Nat → Int64) : KX9_town_1 N d n (mkh X I J) = am_cI (am_G am_prog (N + 30) (d + 0) 208 [.ref 135, .int (nI 59)] (mkh X I J)) (KX9_town_4 N d n ) := by
  rfl
set_option maxHeartbeats 4000000 in
set_option maxRecDepth 100000 in
theorem kX9_town_2 (N d n : Nat) {X : lt_X} (z : Int32) (I : Nat → Nat → Int32) (J : Nat → Nat → Int64) : KX9_town_2 N d n z (mkh X I J) = if z = nI 0 then some (.int (-1), (mkh X I J)) else am_cV (am_G am_prog (N + 30) (d + 0) 353 [.ref 135, .int (nI 4), .int (nI 0)] (mkh X I J)) (KX9_town_5 N d n ) := by
  rfl
set_option maxHeartbeats 4000000 in
set_option maxRecDepth 100000 in
theorem kX9_town_3 (N d n : Nat) {X : lt_X} (I : Nat → Nat → Int32) (J : Nat → Nat → Int64) : KX9_town_3 N d n (mkh X I J) = RX9_town_33 N d n X (u2 I 135 24 (nI 0)) J := by
  rfl
set_option maxHeartbeats 4000000 in
set_option maxRecDepth 100000 in
theorem kX9_town_4 (N d n : Nat) {X : lt_X} (z : Int32) (I : Nat → Nat → Int32) (J : Nat → Nat → Int64) : KX9_town_4 N d n z (mkh X I J) = am_cV (am_G am_prog (N + 30) (d + 0) 231 [.ref 135, .int z] (mkh X I J)) (KX9_town_6 N d n ) := by
  rfl
set_option maxHeartbeats 4000000 in
set_option maxRecDepth 100000 in
theorem kX9_town_5 (N d n : Nat) {X : lt_X} (I : Nat → Nat → Int32) (J : Nat → Nat → Int64) : KX9_town_5 N d n (mkh X I J) = some (.int (I 140 3), (mkh X I J)) := by
  rfl
set_option maxHeartbeats 4000000 in
set_option maxRecDepth 100000 in
theorem kX9_town_6 (N d n : Nat) {X : lt_X} (I : Nat → Nat → Int32) (J : Nat → Nat → Int64) : KX9_town_6 N d n (mkh X I J) = RX9_town_33 N d n X I J := by
  rfl
theorem fX9_town (N d : Nat) {X : lt_X} (x1 : Int32) (I : Nat → Nat → Int32) (J : Nat → Nat → Int64) : am_G am_prog N (d + 1) 253 [.ref 135, .int x1] (mkh X I J) = am_run (am_G am_prog N d) eX9_town uX9_town N 0 [(0, .ref 135), (1, .int x1)] [] (mkh X I J) := by
  refine (am_G_at N d 253 mX9_town _ _ rfl).trans ?_
  rfl
theorem gX9_town (N d : Nat) {X : lt_X} (x1 : Int32) (I : Nat → Nat → Int32) (J : Nat → Nat → Int64) : am_G am_prog (N + 30) (d + 1) 253 [.ref 135, .int x1] (mkh X I J) = RX9_town_0 N d (N + 30) X x1 I J := fX9_town (N + 30) (d + 0) x1 I J
def RX9_readTest_0 (N d n : Nat) (X : lt_X) (x1 : Int32) (I : Nat → Nat → Int32) (J : Nat → Nat → Int64) : am_O := am_run (am_G am_prog (N + 30) (d + 0)) eX9_readTest uX9_readTest n 0 [(0, .ref 135), (1, .int x1)] [] (mkh X I J)
def RX9_readTest_15 (N d n : Nat) (X : lt_X) (x1 : Int32) (x2 : Int32) (s0 : Int32) (s1 : Nat) (I : Nat → Nat → Int32) (J : Nat → Nat → Int64) : am_O := am_run (am_G am_prog (N + 30) (d + 0)) eX9_readTest uX9_readTest n 15 [(0, .ref 135), (1, .int x1), (2, .int x2)] [.int s0, .ref s1] (mkh X I J)
def RX9_readTest_55 (N d n : Nat) (X : lt_X) (x1 : Int32) (x2 : Int32) (s0 : Int32) (s1 : Int32) (s2 : Nat) (s3 : Int32) (s4 : Nat) (I : Nat → Nat → Int32) (J : Nat → Nat → Int64) : am_O := am_run (am_G am_prog (N + 30) (d + 0)) eX9_readTest uX9_readTest n 55 [(0, .ref 135), (1, .int x1), (2, .int x2)] [.int s0, .int s1, .ref s2, .int s3, .ref s4] (mkh X I J)
def RX9_readTest_78 (N d n : Nat) (X : lt_X) (x1 : Int32) (x2 : Int32) (I : Nat → Nat → Int32) (J : Nat → Nat → Int64) : am_O := am_run (am_G am_prog (N + 30) (d + 0)) eX9_readTest uX9_readTest n 78 [(0, .ref 135), (1, .int x1), (2, .int x2)] [] (mkh X I J)
def RX9_readTest_114 (N d n : Nat) (X : lt_X) (x1 : Int32) (s0 : Int32) (s1 : Int32) (s2 : Nat) (I : Nat → Nat → Int32) (J : Nat → Nat → Int64) : am_O := am_run (am_G am_prog (N + 30) (d + 0)) eX9_readTest uX9_readTest n 114 [(0, .ref 135), (1, .int x1)] [.int s0, .int s1, .ref s2] (mkh X I J)
def RX9_readTest_148 (N d n : Nat) (X : lt_X) (x1 : Int32) (s0 : Int32) (s1 : Nat) (I : Nat → Nat → Int32) (J : Nat → Nat → Int64) : am_O := am_run (am_G am_prog (N + 30) (d + 0)) eX9_readTest uX9_readTest n 148 [(0, .ref 135), (1, .int x1)] [.int s0, .ref s1] (mkh X I J)
def KX9_readTest_0 (N d n : Nat) (a0 : Int32) (z : Int32) (h : am_H) : am_O := if z < nI 0 then am_run (am_G am_prog (N + 30) (d + 0)) eX9_readTest uX9_readTest n 15 [(0, .ref 135), (1, .int a0), (2, .int z)] [.int (nI 0), .ref 135] h else am_run (am_G am_prog (N + 30) (d + 0)) eX9_readTest uX9_readTest n 15 [(0, .ref 135), (1, .int a0), (2, .int z)] [.int (nI 1), .ref 135] h
def KX9_readTest_1 (N d n : Nat) (a0 : Int32) (a1 : Int32) (h : am_H) : am_O := am_gR h 9 135 20 (fun y1 => am_tI h y1 (a0 + (nI 6)) a1 (fun h2 => am_gI h2 9 135 12 (fun y3 => if nI 0 < y3 then some (.null, h2) else am_gR h2 9 135 20 (fun y4 => if a1 = (nI 1) then am_run (am_G am_prog (N + 30) (d + 0)) eX9_readTest uX9_readTest n 55 [(0, .ref 135), (1, .int a0), (2, .int a1)] [.int (nI 1), .int (nI 0), .ref 135, .int (a0 + (nI 1)), .ref y4] h2 else am_run (am_G am_prog (N + 30) (d + 0)) eX9_readTest uX9_readTest n 55 [(0, .ref 135), (1, .int a0), (2, .int a1)] [.int (nI 2), .int (nI 0), .ref 135, .int (a0 + (nI 1)), .ref y4] h2))))
def KX9_readTest_2 (N d n : Nat) (a0 : Int32) (a1 : Int32) (a2 : Int32) (a3 : Nat) (z : Int32) (h : am_H) : am_O := am_tI h a3 a2 z (fun h1 => if a1 = (nI 2) then am_gR h1 9 135 20 (fun y2 => am_cI (am_G am_prog (N + 30) (d + 0) 245 [.ref 135, .int (nI 0), .int (nI 3)] h1) (fun r4 h3 => am_tI h3 y2 (a0 + (nI 2)) r4 (fun h5 => am_run (am_G am_prog (N + 30) (d + 0)) eX9_readTest uX9_readTest n 78 [(0, .ref 135), (1, .int a0), (2, .int a1)] [] h5))) else am_run (am_G am_prog (N + 30) (d + 0)) eX9_readTest uX9_readTest n 78 [(0, .ref 135), (1, .int a0), (2, .int a1)] [] h1)
def KX9_readTest_3 (N d n : Nat) (a0 : Int32) (h : am_H) : am_O := am_gR h 9 135 20 (fun y1 => am_cI (am_G am_prog (N + 30) (d + 0) 232 [.ref 135, .int (nI 0), .int (nI 9999)] h) (fun r3 h2 => am_tI h2 y1 (a0 + (nI 2)) r3 (fun h4 => some (.null, h4))))
def KX9_readTest_4 (N d n : Nat) (a0 : Int32) (z : Int32) (h : am_H) : am_O := am_tI h 140 a0 z (fun h1 => some (.null, h1))
set_option maxHeartbeats 4000000 in
set_option maxRecDepth 100000 in
theorem sX9_readTest_0 (N d n : Nat) {X : lt_X} (x1 : Int32) (I : Nat → Nat → Int32) (J : Nat → Nat → Int64) : RX9_readTest_0 N d (n + 1) X x1 I J = am_cI (am_G am_prog (N + 30) (d + 0) 225 [.ref 135] (mkh X I J)) (KX9_readTest_0 N d n x1) := by
  rfl
set_option maxHeartbeats 4000000 in
set_option maxRecDepth 100000 in
theorem sX9_readTest_15 (N d n : Nat) {X : lt_X} (x1 : Int32) (x2 : Int32) (s0 : Int32) (s1 : Nat) (I : Nat → Nat → Int32) (J : Nat → Nat → Int64) : RX9_readTest_15 N d (n + 1) X x1 x2 s0 s1 I J = am_cV (am_G am_prog (N + 30) (d + 0) 231 [.ref s1, .int s0] (mkh X I J)) (KX9_readTest_1 N d n x1 x2) := by
  rfl
set_option maxHeartbeats 4000000 in
set_option maxRecDepth 100000 in
theorem sX9_readTest_55 (N d n : Nat) {X : lt_X} (x1 : Int32) (x2 : Int32) (s0 : Int32) (s1 : Int32) (s2 : Nat) (s3 : Int32) (s4 : Nat) (I : Nat → Nat → Int32) (J : Nat → Nat → Int64) : RX9_readTest_55 N d (n + 1) X x1 x2 s0 s1 s2 s3 s4 I J = am_cI (am_G am_prog (N + 30) (d + 0) 245 [.ref s2, .int s1, .int s0] (mkh X I J)) (KX9_readTest_2 N d n x1 x2 s3 s4) := by
  rfl
set_option maxHeartbeats 4000000 in
set_option maxRecDepth 100000 in
theorem sX9_readTest_78 (N d n : Nat) {X : lt_X} (x1 : Int32) (x2 : Int32) (I : Nat → Nat → Int32) (J : Nat → Nat → Int64) : RX9_readTest_78 N d (n + 1) X x1 x2 I J = if nI 0 < (I 135 12) then some (.null, (mkh X I J)) else if nI 0 < x2 then some (.null, (mkh X I J)) else if (I 135 14) = (nI 3) then am_run (am_G am_prog (N + 30) (d + 0)) eX9_readTest uX9_readTest n 114 [(0, .ref 135), (1, .int x1)] [.int (I 135 17), .int (x1 + (nI 7)), .ref 140] (mkh X I J) else am_run (am_G am_prog (N + 30) (d + 0)) eX9_readTest uX9_readTest n 114 [(0, .ref 135), (1, .int x1)] [.int (nI 0), .int (x1 + (nI 7)), .ref 140] (mkh X I J) := by
  rfl
set_option maxHeartbeats 4000000 in
set_option maxRecDepth 100000 in
theorem sX9_readTest_114 (N d n : Nat) {X : lt_X} (x1 : Int32) (s0 : Int32) (s1 : Int32) (s2 : Nat) (I : Nat → Nat → Int32) (J : Nat → Nat → Int64) : RX9_readTest_114 N d (n + 1) X x1 s0 s1 s2 I J = am_tI (mkh X I J) s2 s1 s0 (fun h1 => am_cI (am_G am_prog (N + 30) (d + 0) 208 [.ref 135, .int (nI 60)] h1) (fun r3 h2 => if r3 = nI 0 then am_cI (am_G am_prog (N + 30) (d + 0) 208 [.ref 135, .int (nI 62)] h2) (fun r5 h4 => if r5 = nI 0 then am_cI (am_G am_prog (N + 30) (d + 0) 208 [.ref 135, .int (nI 61)] h4) (fun r7 h6 => if r7 = nI 0 then am_run (am_G am_prog (N + 30) (d + 0)) eX9_readTest uX9_readTest n 148 [(0, .ref 135), (1, .int x1)] [.int (nI 0), .ref 135] h6 else am_run (am_G am_prog (N + 30) (d + 0)) eX9_readTest uX9_readTest n 148 [(0, .ref 135), (1, .int x1)] [.int (nI 1), .ref 135] h6) else am_run (am_G am_prog (N + 30) (d + 0)) eX9_readTest uX9_readTest n 148 [(0, .ref 135), (1, .int x1)] [.int (nI 1), .ref 135] h4) else am_run (am_G am_prog (N + 30) (d + 0)) eX9_readTest uX9_readTest n 148 [(0, .ref 135), (1, .int x1)] [.int (nI 1), .ref 135] h2)) := by
  rfl
set_option maxHeartbeats 4000000 in
set_option maxRecDepth 100000 in
theorem sX9_readTest_148 (N d n : Nat) {X : lt_X} (x1 : Int32) (s0 : Int32) (s1 : Nat) (I : Nat → Nat → Int32) (J : Nat → Nat → Int64) : RX9_readTest_148 N d (n + 1) X x1 s0 s1 I J = am_cV (am_G am_prog (N + 30) (d + 0) 231 [.ref s1, .int s0] (mkh X I J)) (KX9_readTest_3 N d n x1) := by
  rfl
set_option maxHeartbeats 4000000 in
set_option maxRecDepth 100000 in
theorem kX9_readTest_0 (N d n : Nat) {X : lt_X} (a0 : Int32) (z : Int32) (I : Nat → Nat → Int32) (J : Nat → Nat → Int64) : KX9_readTest_0 N d n a0 z (mkh X I J) = if z < nI 0 then am_run (am_G am_prog (N + 30) (d + 0)) eX9_readTest uX9_readTest n 15 [(0, .ref 135), (1, .int a0), (2, .int z)] [.int (nI 0), .ref 135] (mkh X I J) else am_run (am_G am_prog (N + 30) (d + 0)) eX9_readTest uX9_readTest n 15 [(0, .ref 135), (1, .int a0), (2, .int z)] [.int (nI 1), .ref 135] (mkh X I J) := by
  rfl
set_option maxHeartbeats 4000000 in
set_option maxRecDepth 100000 in
theorem kX9_readTest_1 (N d n : Nat) {X : lt_X} (a0 : Int32) (a1 : Int32) (I : Nat → Nat → Int32) (J : Nat → Nat → Int64) : KX9_readTest_1 N d n a0 a1 (mkh X I J) = if am_in (a0 + (nI 6)) 2145 then if nI 0 < (I 135 12) then some (.null, (mkh X (u2 I 140 ((a0 + (nI 6)).toNatClampNeg) a1) J)) else if a1 = (nI 1) then am_run (am_G am_prog (N + 30) (d + 0)) eX9_readTest uX9_readTest n 55 [(0, .ref 135), (1, .int a0), (2, .int a1)] [.int (nI 1), .int (nI 0), .ref 135, .int (a0 + (nI 1)), .ref 140] (mkh X (u2 I 140 ((a0 + (nI 6)).toNatClampNeg) a1) J) else am_run (am_G am_prog (N + 30) (d + 0)) eX9_readTest uX9_readTest n 55 [(0, .ref 135), (1, .int a0), (2, .int a1)] [.int (nI 2), .int (nI 0), .ref 135, .int (a0 + (nI 1)), .ref 140] (mkh X (u2 I 140 ((a0 + (nI 6)).toNatClampNeg) a1) J) else none := by
  rfl
set_option maxHeartbeats 4000000 in
set_option maxRecDepth 100000 in
theorem kX9_readTest_2 (N d n : Nat) {X : lt_X} (a0 : Int32) (a1 : Int32) (a2 : Int32) (a3 : Nat) (z : Int32) (I : Nat → Nat → Int32) (J : Nat → Nat → Int64) : KX9_readTest_2 N d n a0 a1 a2 a3 z (mkh X I J) = am_tI (mkh X I J) a3 a2 z (fun h1 => if a1 = (nI 2) then am_gR h1 9 135 20 (fun y2 => am_cI (am_G am_prog (N + 30) (d + 0) 245 [.ref 135, .int (nI 0), .int (nI 3)] h1) (fun r4 h3 => am_tI h3 y2 (a0 + (nI 2)) r4 (fun h5 => am_run (am_G am_prog (N + 30) (d + 0)) eX9_readTest uX9_readTest n 78 [(0, .ref 135), (1, .int a0), (2, .int a1)] [] h5))) else am_run (am_G am_prog (N + 30) (d + 0)) eX9_readTest uX9_readTest n 78 [(0, .ref 135), (1, .int a0), (2, .int a1)] [] h1) := by
  rfl
set_option maxHeartbeats 4000000 in
set_option maxRecDepth 100000 in
theorem kX9_readTest_3 (N d n : Nat) {X : lt_X} (a0 : Int32) (I : Nat → Nat → Int32) (J : Nat → Nat → Int64) : KX9_readTest_3 N d n a0 (mkh X I J) = am_cI (am_G am_prog (N + 30) (d + 0) 232 [.ref 135, .int (nI 0), .int (nI 9999)] (mkh X I J)) (KX9_readTest_4 N d n (a0 + (nI 2))) := by
  rfl
set_option maxHeartbeats 4000000 in
set_option maxRecDepth 100000 in
theorem kX9_readTest_4 (N d n : Nat) {X : lt_X} (a0 : Int32) (z : Int32) (I : Nat → Nat → Int32) (J : Nat → Nat → Int64) : KX9_readTest_4 N d n a0 z (mkh X I J) = if am_in a0 2145 then some (.null, (mkh X (u2 I 140 a0.toNatClampNeg z) J)) else none := by
  rfl
theorem fX9_readTest (N d : Nat) {X : lt_X} (x1 : Int32) (I : Nat → Nat → Int32) (J : Nat → Nat → Int64) : am_G am_prog N (d + 1) 254 [.ref 135, .int x1] (mkh X I J) = am_run (am_G am_prog N d) eX9_readTest uX9_readTest N 0 [(0, .ref 135), (1, .int x1)] [] (mkh X I J) := by
  refine (am_G_at N d 254 mX9_readTest _ _ rfl).trans ?_
  rfl
theorem gX9_readTest (N d : Nat) {X : lt_X} (x1 : Int32) (I : Nat → Nat → Int32) (J : Nat → Nat → Int64) : am_G am_prog (N + 30) (d + 1) 254 [.ref 135, .int x1] (mkh X I J) = RX9_readTest_0 N d (N + 30) X x1 I J := fX9_readTest (N + 30) (d + 0) x1 I J
def RX9_readRest_0 (N d n : Nat) (X : lt_X) (x1 : Int32) (I : Nat → Nat → Int32) (J : Nat → Nat → Int64) : am_O := am_run (am_G am_prog (N + 30) (d + 0)) eX9_readRest uX9_readRest n 0 [(0, .ref 135), (1, .int x1)] [] (mkh X I J)
def RX9_readRest_100 (N d n : Nat) (X : lt_X) (x1 : Int32) (I : Nat → Nat → Int32) (J : Nat → Nat → Int64) : am_O := am_run (am_G am_prog (N + 30) (d + 0)) eX9_readRest uX9_readRest n 100 [(0, .ref 135), (1, .int x1)] [] (mkh X I J)
def KX9_readRest_0 (N d n : Nat) (a0 : Int32) (z : Int32) (h : am_H) : am_O := am_tI h 140 a0 z (fun h1 => some (.null, h1))
def KX9_readRest_1 (N d n : Nat) (a0 : Int32) (z : Int32) (h : am_H) : am_O := am_tI h 140 a0 z (fun h1 => some (.null, h1))
def KX9_readRest_2 (N d n : Nat) (a0 : Int32) (z : Int32) (h : am_H) : am_O := am_tI h 140 a0 z (fun h1 => some (.null, h1))
def KX9_readRest_3 (N d n : Nat) (h : am_H) : am_O := some (.null, h)
def KX9_readRest_4 (N d n : Nat) (a0 : Int32) (a1 : Int32) (a2 : Int32) (z : Int32) (h : am_H) : am_O := am_tI h 140 a2 z (fun h1 => am_gR h1 9 135 20 (fun y2 => am_cI (am_G am_prog (N + 30) (d + 0) 245 [.ref 135, .int (nI 0), .int (nI 2)] h1) (fun r4 h3 => am_tI h3 y2 (a1 + (nI 2)) r4 (fun h5 => if a0 = (nI 2) then am_gR h5 9 135 20 (fun y6 => am_cI (am_G am_prog (N + 30) (d + 0) 232 [.ref 135, .int (nI 0), .int (nI 999)] h5) (fun r8 h7 => am_tI h7 y6 (a1 + (nI 3)) r8 (fun h9 => some (.null, h9)))) else some (.null, h5)))))
def KX9_readRest_5 (N d n : Nat) (a0 : Int32) (z : Int32) (h : am_H) : am_O := am_tI h 140 a0 z (fun h1 => some (.null, h1))
def KX9_readRest_6 (N d n : Nat) (a0 : Int32) (a1 : Int32) (a2 : Int32) (z : Int32) (h : am_H) : am_O := am_tI h 140 a2 z (fun h1 => if a0 = (nI 2) then am_gR h1 9 135 20 (fun y2 => am_cI (am_G am_prog (N + 30) (d + 0) 232 [.ref 135, .int (nI 0), .int (nI 999)] h1) (fun r4 h3 => am_tI h3 y2 (a1 + (nI 3)) r4 (fun h5 => some (.null, h5)))) else some (.null, h1))
def KX9_readRest_7 (N d n : Nat) (a0 : Int32) (z : Int32) (h : am_H) : am_O := am_tI h 140 a0 z (fun h1 => some (.null, h1))
set_option maxHeartbeats 4000000 in
set_option maxRecDepth 100000 in
theorem sX9_readRest_0 (N d n : Nat) {X : lt_X} (x1 : Int32) (I : Nat → Nat → Int32) (J : Nat → Nat → Int64) : RX9_readRest_0 N d (n + 1) X x1 I J = if am_in x1 2145 then if (I 140 x1.toNatClampNeg) = nI 0 then am_cI (am_G am_prog (N + 30) (d + 0) 232 [.ref 135, .int (nI 1), .int (nI 48)] (mkh X I J)) (KX9_readRest_0 N d n (x1 + (nI 1))) else if (I 140 x1.toNatClampNeg) = (nI 1) then am_cI (am_G am_prog (N + 30) (d + 0) 232 [.ref 135, .int (nI 1), .int (nI 20)] (mkh X I J)) (KX9_readRest_1 N d n (x1 + (nI 1))) else if (I 140 x1.toNatClampNeg) = (nI 8) then am_cI (am_G am_prog (N + 30) (d + 0) 232 [.ref 135, .int (nI 1), .int (nI 99)] (mkh X I J)) (KX9_readRest_2 N d n (x1 + (nI 1))) else if (I 140 x1.toNatClampNeg) = (nI 7) then am_cV (am_G am_prog (N + 30) (d + 0) 254 [.ref 135, .int x1] (mkh X I J)) (KX9_readRest_3 N d n ) else if (I 140 x1.toNatClampNeg) = (nI 4) then RX9_readRest_100 N d n X x1 I J else if (I 140 x1.toNatClampNeg) = (nI 5) then RX9_readRest_100 N d n X x1 I J else if (I 140 x1.toNatClampNeg) < (nI 6) then am_cI (am_G am_prog (N + 30) (d + 0) 245 [.ref 135, .int (nI 0), .int (nI 3)] (mkh X I J)) (KX9_readRest_4 N d n (I 140 x1.toNatClampNeg) x1 (x1 + (nI 1))) else some (.null, (mkh X I J)) else none := by
  rfl
set_option maxHeartbeats 4000000 in
set_option maxRecDepth 100000 in
theorem sX9_readRest_100 (N d n : Nat) {X : lt_X} (x1 : Int32) (I : Nat → Nat → Int32) (J : Nat → Nat → Int64) : RX9_readRest_100 N d (n + 1) X x1 I J = am_cI (am_G am_prog (N + 30) (d + 0) 245 [.ref 135, .int (nI 0), .int (nI 1)] (mkh X I J)) (KX9_readRest_5 N d n (x1 + (nI 1))) := by
  rfl
set_option maxHeartbeats 4000000 in
set_option maxRecDepth 100000 in
theorem kX9_readRest_0 (N d n : Nat) {X : lt_X} (a0 : Int32) (z : Int32) (I : Nat → Nat → Int32) (J : Nat → Nat → Int64) : KX9_readRest_0 N d n a0 z (mkh X I J) = if am_in a0 2145 then some (.null, (mkh X (u2 I 140 a0.toNatClampNeg z) J)) else none := by
  rfl
set_option maxHeartbeats 4000000 in
set_option maxRecDepth 100000 in
theorem kX9_readRest_1 (N d n : Nat) {X : lt_X} (a0 : Int32) (z : Int32) (I : Nat → Nat → Int32) (J : Nat → Nat → Int64) : KX9_readRest_1 N d n a0 z (mkh X I J) = if am_in a0 2145 then some (.null, (mkh X (u2 I 140 a0.toNatClampNeg z) J)) else none := by
  rfl
set_option maxHeartbeats 4000000 in
set_option maxRecDepth 100000 in
theorem kX9_readRest_2 (N d n : Nat) {X : lt_X} (a0 : Int32) (z : Int32) (I : Nat → Nat → Int32) (J : Nat → Nat → Int64) : KX9_readRest_2 N d n a0 z (mkh X I J) = if am_in a0 2145 then some (.null, (mkh X (u2 I 140 a0.toNatClampNeg z) J)) else none := by
  rfl
set_option maxHeartbeats 4000000 in
set_option maxRecDepth 100000 in
theorem kX9_readRest_3 (N d n : Nat) {X : lt_X} (I : Nat → Nat → Int32) (J : Nat → Nat → Int64) : KX9_readRest_3 N d n (mkh X I J) = some (.null, (mkh X I J)) := by
  rfl
set_option maxHeartbeats 4000000 in
set_option maxRecDepth 100000 in
theorem kX9_readRest_4 (N d n : Nat) {X : lt_X} (a0 : Int32) (a1 : Int32) (a2 : Int32) (z : Int32) (I : Nat → Nat → Int32) (J : Nat → Nat → Int64) : KX9_readRest_4 N d n a0 a1 a2 z (mkh X I J) = if am_in a2 2145 then am_cI (am_G am_prog (N + 30) (d + 0) 245 [.ref 135, .int (nI 0), .int (nI 2)] (mkh X (u2 I 140 a2.toNatClampNeg z) J)) (KX9_readRest_6 N d n a0 a1 (a1 + (nI 2))) else none := by
  rfl
set_option maxHeartbeats 4000000 in
set_option maxRecDepth 100000 in
theorem kX9_readRest_5 (N d n : Nat) {X : lt_X} (a0 : Int32) (z : Int32) (I : Nat → Nat → Int32) (J : Nat → Nat → Int64) : KX9_readRest_5 N d n a0 z (mkh X I J) = if am_in a0 2145 then some (.null, (mkh X (u2 I 140 a0.toNatClampNeg z) J)) else none := by
  rfl
set_option maxHeartbeats 4000000 in
set_option maxRecDepth 100000 in
theorem kX9_readRest_6 (N d n : Nat) {X : lt_X} (a0 : Int32) (a1 : Int32) (a2 : Int32) (z : Int32) (I : Nat → Nat → Int32) (J : Nat → Nat → Int64) : KX9_readRest_6 N d n a0 a1 a2 z (mkh X I J) = if am_in a2 2145 then if a0 = (nI 2) then am_cI (am_G am_prog (N + 30) (d + 0) 232 [.ref 135, .int (nI 0), .int (nI 999)] (mkh X (u2 I 140 a2.toNatClampNeg z) J)) (KX9_readRest_7 N d n (a1 + (nI 3))) else some (.null, (mkh X (u2 I 140 a2.toNatClampNeg z) J)) else none := by
  rfl
set_option maxHeartbeats 4000000 in
set_option maxRecDepth 100000 in
theorem kX9_readRest_7 (N d n : Nat) {X : lt_X} (a0 : Int32) (z : Int32) (I : Nat → Nat → Int32) (J : Nat → Nat → Int64) : KX9_readRest_7 N d n a0 z (mkh X I J) = if am_in a0 2145 then some (.null, (mkh X (u2 I 140 a0.toNatClampNeg z) J)) else none := by
  rfl
theorem fX9_readRest (N d : Nat) {X : lt_X} (x1 : Int32) (I : Nat → Nat → Int32) (J : Nat → Nat → Int64) : am_G am_prog N (d + 1) 255 [.ref 135, .int x1] (mkh X I J) = am_run (am_G am_prog N d) eX9_readRest uX9_readRest N 0 [(0, .ref 135), (1, .int x1)] [] (mkh X I J) := by
  refine (am_G_at N d 255 mX9_readRest _ _ rfl).trans ?_
  rfl
theorem gX9_readRest (N d : Nat) {X : lt_X} (x1 : Int32) (I : Nat → Nat → Int32) (J : Nat → Nat → Int64) : am_G am_prog (N + 30) (d + 1) 255 [.ref 135, .int x1] (mkh X I J) = RX9_readRest_0 N d (N + 30) X x1 I J := fX9_readRest (N + 30) (d + 0) x1 I J
def RX9_readStep_0 (N d n : Nat) (X : lt_X) (x1 : Int32) (I : Nat → Nat → Int32) (J : Nat → Nat → Int64) : am_O := am_run (am_G am_prog (N + 30) (d + 0)) eX9_readStep uX9_readStep n 0 [(0, .ref 135), (1, .int x1)] [] (mkh X I J)
def RX9_readStep_31 (N d n : Nat) (X : lt_X) (x1 : Int32) (x2 : Int32) (x3 : Int32) (I : Nat → Nat → Int32) (J : Nat → Nat → Int64) : am_O := am_run (am_G am_prog (N + 30) (d + 0)) eX9_readStep uX9_readStep n 31 [(0, .ref 135), (1, .int x1), (2, .int x2), (3, .int x3)] [] (mkh X I J)
def RX9_readStep_57 (N d n : Nat) (X : lt_X) (x1 : Int32) (x2 : Int32) (x3 : Int32) (I : Nat → Nat → Int32) (J : Nat → Nat → Int64) : am_O := am_run (am_G am_prog (N + 30) (d + 0)) eX9_readStep uX9_readStep n 57 [(0, .ref 135), (1, .int x1), (2, .int x2), (3, .int x3)] [] (mkh X I J)
def RX9_readStep_83 (N d n : Nat) (X : lt_X) (x1 : Int32) (x2 : Int32) (x3 : Int32) (I : Nat → Nat → Int32) (J : Nat → Nat → Int64) : am_O := am_run (am_G am_prog (N + 30) (d + 0)) eX9_readStep uX9_readStep n 83 [(0, .ref 135), (1, .int x1), (2, .int x2), (3, .int x3)] [] (mkh X I J)
def RX9_readStep_142 (N d n : Nat) (X : lt_X) (x1 : Int32) (x3 : Int32) (x4 : Int32) (I : Nat → Nat → Int32) (J : Nat → Nat → Int64) : am_O := am_run (am_G am_prog (N + 30) (d + 0)) eX9_readStep uX9_readStep n 142 [(0, .ref 135), (1, .int x1), (3, .int x3), (4, .int x4)] [] (mkh X I J)
def RX9_readStep_170 (N d n : Nat) (X : lt_X) (x3 : Int32) (x4 : Int32) (I : Nat → Nat → Int32) (J : Nat → Nat → Int64) : am_O := am_run (am_G am_prog (N + 30) (d + 0)) eX9_readStep uX9_readStep n 170 [(0, .ref 135), (3, .int x3), (4, .int x4)] [] (mkh X I J)
def KX9_readStep_0 (N d n : Nat) (a0 : Int32) (z : Int32) (h : am_H) : am_O := if z = (nI 7) then if z < nI 0 then am_cV (am_G am_prog (N + 30) (d + 0) 230 [.ref 135] h) (fun h1 => am_run (am_G am_prog (N + 30) (d + 0)) eX9_readStep uX9_readStep n 31 [(0, .ref 135), (1, .int a0), (2, .int z), (3, .int (nI 1))] [] h1) else am_run (am_G am_prog (N + 30) (d + 0)) eX9_readStep uX9_readStep n 31 [(0, .ref 135), (1, .int a0), (2, .int z), (3, .int (nI 1))] [] h else if z = (nI 8) then if z < nI 0 then am_cV (am_G am_prog (N + 30) (d + 0) 230 [.ref 135] h) (fun h2 => am_run (am_G am_prog (N + 30) (d + 0)) eX9_readStep uX9_readStep n 31 [(0, .ref 135), (1, .int a0), (2, .int z), (3, .int (nI 1))] [] h2) else am_run (am_G am_prog (N + 30) (d + 0)) eX9_readStep uX9_readStep n 31 [(0, .ref 135), (1, .int a0), (2, .int z), (3, .int (nI 1))] [] h else if z < nI 0 then am_cV (am_G am_prog (N + 30) (d + 0) 230 [.ref 135] h) (fun h3 => am_run (am_G am_prog (N + 30) (d + 0)) eX9_readStep uX9_readStep n 31 [(0, .ref 135), (1, .int a0), (2, .int z), (3, .int (nI 0))] [] h3) else am_run (am_G am_prog (N + 30) (d + 0)) eX9_readStep uX9_readStep n 31 [(0, .ref 135), (1, .int a0), (2, .int z), (3, .int (nI 0))] [] h
def KX9_readStep_1 (N d n : Nat) (a0 : Int32) (a1 : Int32) (a2 : Int32) (h : am_H) : am_O := am_run (am_G am_prog (N + 30) (d + 0)) eX9_readStep uX9_readStep n 57 [(0, .ref 135), (1, .int a0), (2, .int a1), (3, .int a2)] [] h
def KX9_readStep_2 (N d n : Nat) (a0 : Int32) (a1 : Int32) (a2 : Int32) (h : am_H) : am_O := am_run (am_G am_prog (N + 30) (d + 0)) eX9_readStep uX9_readStep n 83 [(0, .ref 135), (1, .int a0), (2, .int a1), (3, .int a2)] [] h
def KX9_readStep_3 (N d n : Nat) (a0 : Int32) (a1 : Int32) (a2 : Int32) (a3 : Int32) (h : am_H) : am_O := am_gR h 9 135 20 (fun y1 => am_tI h y1 a0 a2 (fun h2 => am_cV (am_G am_prog (N + 30) (d + 0) 255 [.ref 135, .int a0] h2) (fun h3 => am_cI (am_G am_prog (N + 30) (d + 0) 208 [.ref 135, .int (nI 59)] h3) (fun r5 h4 => am_cV (am_G am_prog (N + 30) (d + 0) 231 [.ref 135, .int r5] h4) (fun h6 => am_run (am_G am_prog (N + 30) (d + 0)) eX9_readStep uX9_readStep n 142 [(0, .ref 135), (1, .int a1), (3, .int a3), (4, .int a0)] [] h6)))))
def KX9_readStep_4 (N d n : Nat) (a0 : Int32) (a1 : Int32) (a2 : Int32) (z : Int32) (h : am_H) : am_O := if z = nI 0 then am_cV (am_G am_prog (N + 30) (d + 0) 256 [.ref 135, .int (a0 + (nI 1))] h) (fun h1 => am_run (am_G am_prog (N + 30) (d + 0)) eX9_readStep uX9_readStep n 142 [(0, .ref 135), (1, .int a0), (3, .int a1), (4, .int a2)] [] h1) else am_run (am_G am_prog (N + 30) (d + 0)) eX9_readStep uX9_readStep n 170 [(0, .ref 135), (3, .int a1), (4, .int a2)] [] h
def KX9_readStep_5 (N d n : Nat) (a0 : Int32) (z : Int32) (h : am_H) : am_O := am_cV (am_G am_prog (N + 30) (d + 0) 231 [.ref 135, .int z] h) (fun h1 => am_cI (am_G am_prog (N + 30) (d + 0) 208 [.ref 135, .int (nI 59)] h1) (fun r3 h2 => am_cV (am_G am_prog (N + 30) (d + 0) 231 [.ref 135, .int r3] h2) (fun h4 => am_gR h4 9 135 20 (fun y5 => am_gI h4 9 135 25 (fun y6 => am_tI h4 y5 (a0 + (nI 8)) y6 (fun h7 => some (.null, h7)))))))
def KX9_readStep_6 (N d n : Nat) (a0 : Int32) (a1 : Int32) (h : am_H) : am_O := am_run (am_G am_prog (N + 30) (d + 0)) eX9_readStep uX9_readStep n 31 [(0, .ref 135), (1, .int a1), (2, .int a0), (3, .int (nI 1))] [] h
def KX9_readStep_7 (N d n : Nat) (a0 : Int32) (a1 : Int32) (h : am_H) : am_O := am_run (am_G am_prog (N + 30) (d + 0)) eX9_readStep uX9_readStep n 31 [(0, .ref 135), (1, .int a1), (2, .int a0), (3, .int (nI 0))] [] h
def KX9_readStep_8 (N d n : Nat) (a0 : Int32) (a1 : Int32) (a2 : Int32) (h : am_H) : am_O := am_cI (am_G am_prog (N + 30) (d + 0) 208 [.ref 135, .int (nI 59)] h) (fun r2 h1 => am_cV (am_G am_prog (N + 30) (d + 0) 231 [.ref 135, .int r2] h1) (fun h3 => am_run (am_G am_prog (N + 30) (d + 0)) eX9_readStep uX9_readStep n 142 [(0, .ref 135), (1, .int a1), (3, .int a2), (4, .int a0)] [] h3))
def KX9_readStep_9 (N d n : Nat) (a0 : Int32) (a1 : Int32) (a2 : Int32) (h : am_H) : am_O := am_run (am_G am_prog (N + 30) (d + 0)) eX9_readStep uX9_readStep n 142 [(0, .ref 135), (1, .int a0), (3, .int a1), (4, .int a2)] [] h
def KX9_readStep_10 (N d n : Nat) (a0 : Int32) (h : am_H) : am_O := am_cI (am_G am_prog (N + 30) (d + 0) 208 [.ref 135, .int (nI 59)] h) (fun r2 h1 => am_cV (am_G am_prog (N + 30) (d + 0) 231 [.ref 135, .int r2] h1) (fun h3 => am_gR h3 9 135 20 (fun y4 => am_gI h3 9 135 25 (fun y5 => am_tI h3 y4 (a0 + (nI 8)) y5 (fun h6 => some (.null, h6))))))
def KX9_readStep_11 (N d n : Nat) (a0 : Int32) (a1 : Int32) (a2 : Int32) (z : Int32) (h : am_H) : am_O := am_cV (am_G am_prog (N + 30) (d + 0) 231 [.ref 135, .int z] h) (fun h1 => am_run (am_G am_prog (N + 30) (d + 0)) eX9_readStep uX9_readStep n 142 [(0, .ref 135), (1, .int a1), (3, .int a2), (4, .int a0)] [] h1)
def KX9_readStep_12 (N d n : Nat) (a0 : Int32) (z : Int32) (h : am_H) : am_O := am_cV (am_G am_prog (N + 30) (d + 0) 231 [.ref 135, .int z] h) (fun h1 => am_gR h1 9 135 20 (fun y2 => am_gI h1 9 135 25 (fun y3 => am_tI h1 y2 (a0 + (nI 8)) y3 (fun h4 => some (.null, h4)))))
def KX9_readStep_13 (N d n : Nat) (a0 : Int32) (a1 : Int32) (a2 : Int32) (h : am_H) : am_O := am_run (am_G am_prog (N + 30) (d + 0)) eX9_readStep uX9_readStep n 142 [(0, .ref 135), (1, .int a1), (3, .int a2), (4, .int a0)] [] h
def KX9_readStep_14 (N d n : Nat) (a0 : Int32) (h : am_H) : am_O := am_gR h 9 135 20 (fun y1 => am_gI h 9 135 25 (fun y2 => am_tI h y1 (a0 + (nI 8)) y2 (fun h3 => some (.null, h3))))
set_option maxHeartbeats 4000000 in
set_option maxRecDepth 100000 in
theorem sX9_readStep_0 (N d n : Nat) {X : lt_X} (x1 : Int32) (I : Nat → Nat → Int32) (J : Nat → Nat → Int64) : RX9_readStep_0 N d (n + 1) X x1 I J = am_cI (am_G am_prog (N + 30) (d + 0) 224 [.ref 135] (mkh X I J)) (KX9_readStep_0 N d n x1) := by
  rfl
set_option maxHeartbeats 4000000 in
set_option maxRecDepth 100000 in
theorem sX9_readStep_31 (N d n : Nat) {X : lt_X} (x1 : Int32) (x2 : Int32) (x3 : Int32) (I : Nat → Nat → Int32) (J : Nat → Nat → Int64) : RX9_readStep_31 N d (n + 1) X x1 x2 x3 I J = if (I 135 12) = nI 0 then if (I 135 25) = (nI 30) then am_cV (am_G am_prog (N + 30) (d + 0) 229 [.ref 135, .int (nI 6), .int (I 135 15)] (mkh X I J)) (KX9_readStep_1 N d n x1 x2 x3) else RX9_readStep_57 N d n X x1 x2 x3 I J else RX9_readStep_57 N d n X x1 x2 x3 I J := by
  rfl
set_option maxHeartbeats 4000000 in
set_option maxRecDepth 100000 in
theorem sX9_readStep_57 (N d n : Nat) {X : lt_X} (x1 : Int32) (x2 : Int32) (x3 : Int32) (I : Nat → Nat → Int32) (J : Nat → Nat → Int64) : RX9_readStep_57 N d (n + 1) X x1 x2 x3 I J = if (I 135 12) = nI 0 then if x3 = nI 0 then RX9_readStep_83 N d n X x1 x2 x3 I J else if x1 = (nI 3) then am_cV (am_G am_prog (N + 30) (d + 0) 229 [.ref 135, .int (nI 7), .int (I 135 15)] (mkh X I J)) (KX9_readStep_2 N d n x1 x2 x3) else RX9_readStep_83 N d n X x1 x2 x3 I J else RX9_readStep_83 N d n X x1 x2 x3 I J := by
  rfl
set_option maxHeartbeats 4000000 in
set_option maxRecDepth 100000 in
theorem sX9_readStep_83 (N d n : Nat) {X : lt_X} (x1 : Int32) (x2 : Int32) (x3 : Int32) (I : Nat → Nat → Int32) (J : Nat → Nat → Int64) : RX9_readStep_83 N d (n + 1) X x1 x2 x3 I J = if nI 0 < (I 135 12) then some (.null, (mkh X I J)) else am_cV (am_G am_prog (N + 30) (d + 0) 207 [.ref 135] (mkh X (u2 I 135 25 ((I 135 25) + (nI 1))) J)) (KX9_readStep_3 N d n ((nI 1875) + ((nI 9) * (I 135 25))) x1 x2 x3) := by
  rfl
set_option maxHeartbeats 4000000 in
set_option maxRecDepth 100000 in
theorem sX9_readStep_142 (N d n : Nat) {X : lt_X} (x1 : Int32) (x3 : Int32) (x4 : Int32) (I : Nat → Nat → Int32) (J : Nat → Nat → Int64) : RX9_readStep_142 N d (n + 1) X x1 x3 x4 I J = if x3 = nI 0 then RX9_readStep_170 N d n X x3 x4 I J else if (I 135 12) = nI 0 then am_cI (am_G am_prog (N + 30) (d + 0) 226 [.ref 135] (mkh X I J)) (KX9_readStep_4 N d n x1 x3 x4) else RX9_readStep_170 N d n X x3 x4 I J := by
  rfl
set_option maxHeartbeats 4000000 in
set_option maxRecDepth 100000 in
theorem sX9_readStep_170 (N d n : Nat) {X : lt_X} (x3 : Int32) (x4 : Int32) (I : Nat → Nat → Int32) (J : Nat → Nat → Int64) : RX9_readStep_170 N d (n + 1) X x3 x4 I J = if x3 = nI 0 then if am_in (x4 + (nI 8)) 2145 then some (.null, (mkh X (u2 I 140 ((x4 + (nI 8)).toNatClampNeg) (I 135 25)) J)) else none else am_cI (am_G am_prog (N + 30) (d + 0) 226 [.ref 135] (mkh X I J)) (KX9_readStep_5 N d n x4) := by
  rfl
set_option maxHeartbeats 4000000 in
set_option maxRecDepth 100000 in
theorem kX9_readStep_0 (N d n : Nat) {X : lt_X} (a0 : Int32) (z : Int32) (I : Nat → Nat → Int32) (J : Nat → Nat → Int64) : KX9_readStep_0 N d n a0 z (mkh X I J) = if z = (nI 7) then if z < nI 0 then am_cV (am_G am_prog (N + 30) (d + 0) 230 [.ref 135] (mkh X I J)) (KX9_readStep_6 N d n z a0) else RX9_readStep_31 N d n X a0 z (nI 1) I J else if z = (nI 8) then if z < nI 0 then am_cV (am_G am_prog (N + 30) (d + 0) 230 [.ref 135] (mkh X I J)) (KX9_readStep_6 N d n z a0) else RX9_readStep_31 N d n X a0 z (nI 1) I J else if z < nI 0 then am_cV (am_G am_prog (N + 30) (d + 0) 230 [.ref 135] (mkh X I J)) (KX9_readStep_7 N d n z a0) else RX9_readStep_31 N d n X a0 z (nI 0) I J := by
  rfl
set_option maxHeartbeats 4000000 in
set_option maxRecDepth 100000 in
theorem kX9_readStep_1 (N d n : Nat) {X : lt_X} (a0 : Int32) (a1 : Int32) (a2 : Int32) (I : Nat → Nat → Int32) (J : Nat → Nat → Int64) : KX9_readStep_1 N d n a0 a1 a2 (mkh X I J) = RX9_readStep_57 N d n X a0 a1 a2 I J := by
  rfl
set_option maxHeartbeats 4000000 in
set_option maxRecDepth 100000 in
theorem kX9_readStep_2 (N d n : Nat) {X : lt_X} (a0 : Int32) (a1 : Int32) (a2 : Int32) (I : Nat → Nat → Int32) (J : Nat → Nat → Int64) : KX9_readStep_2 N d n a0 a1 a2 (mkh X I J) = RX9_readStep_83 N d n X a0 a1 a2 I J := by
  rfl
set_option maxHeartbeats 4000000 in
set_option maxRecDepth 100000 in
theorem kX9_readStep_3 (N d n : Nat) {X : lt_X} (a0 : Int32) (a1 : Int32) (a2 : Int32) (a3 : Int32) (I : Nat → Nat → Int32) (J : Nat → Nat → Int64) : KX9_readStep_3 N d n a0 a1 a2 a3 (mkh X I J) = if am_in a0 2145 then am_cV (am_G am_prog (N + 30) (d + 0) 255 [.ref 135, .int a0] (mkh X (u2 I 140 a0.toNatClampNeg a2) J)) (KX9_readStep_8 N d n a0 a1 a3) else none := by
  rfl
set_option maxHeartbeats 4000000 in
set_option maxRecDepth 100000 in
theorem kX9_readStep_4 (N d n : Nat) {X : lt_X} (a0 : Int32) (a1 : Int32) (a2 : Int32) (z : Int32) (I : Nat → Nat → Int32) (J : Nat → Nat → Int64) : KX9_readStep_4 N d n a0 a1 a2 z (mkh X I J) = if z = nI 0 then am_cV (am_G am_prog (N + 30) (d + 0) 256 [.ref 135, .int (a0 + (nI 1))] (mkh X I J)) (KX9_readStep_9 N d n a0 a1 a2) else RX9_readStep_170 N d n X a1 a2 I J := by
  rfl
set_option maxHeartbeats 4000000 in
set_option maxRecDepth 100000 in
theorem kX9_readStep_5 (N d n : Nat) {X : lt_X} (a0 : Int32) (z : Int32) (I : Nat → Nat → Int32) (J : Nat → Nat → Int64) : KX9_readStep_5 N d n a0 z (mkh X I J) = am_cV (am_G am_prog (N + 30) (d + 0) 231 [.ref 135, .int z] (mkh X I J)) (KX9_readStep_10 N d n a0) := by
  rfl
set_option maxHeartbeats 4000000 in
set_option maxRecDepth 100000 in
theorem kX9_readStep_6 (N d n : Nat) {X : lt_X} (a0 : Int32) (a1 : Int32) (I : Nat → Nat → Int32) (J : Nat → Nat → Int64) : KX9_readStep_6 N d n a0 a1 (mkh X I J) = RX9_readStep_31 N d n X a1 a0 (nI 1) I J := by
  rfl
set_option maxHeartbeats 4000000 in
set_option maxRecDepth 100000 in
theorem kX9_readStep_7 (N d n : Nat) {X : lt_X} (a0 : Int32) (a1 : Int32) (I : Nat → Nat → Int32) (J : Nat → Nat → Int64) : KX9_readStep_7 N d n a0 a1 (mkh X I J) = RX9_readStep_31 N d n X a1 a0 (nI 0) I J := by
  rfl
set_option maxHeartbeats 4000000 in
set_option maxRecDepth 100000 in
theorem kX9_readStep_8 (N d n : Nat) {X : lt_X} (a0 : Int32) (a1 : Int32) (a2 : Int32) (I : Nat → Nat → Int32) (J : Nat → Nat → Int64) : KX9_readStep_8 N d n a0 a1 a2 (mkh X I J) = am_cI (am_G am_prog (N + 30) (d + 0) 208 [.ref 135, .int (nI 59)] (mkh X I J)) (KX9_readStep_11 N d n a0 a1 a2) := by
  rfl
set_option maxHeartbeats 4000000 in
set_option maxRecDepth 100000 in
theorem kX9_readStep_9 (N d n : Nat) {X : lt_X} (a0 : Int32) (a1 : Int32) (a2 : Int32) (I : Nat → Nat → Int32) (J : Nat → Nat → Int64) : KX9_readStep_9 N d n a0 a1 a2 (mkh X I J) = RX9_readStep_142 N d n X a0 a1 a2 I J := by
  rfl
set_option maxHeartbeats 4000000 in
set_option maxRecDepth 100000 in
theorem kX9_readStep_10 (N d n : Nat) {X : lt_X} (a0 : Int32) (I : Nat → Nat → Int32) (J : Nat → Nat → Int64) : KX9_readStep_10 N d n a0 (mkh X I J) = am_cI (am_G am_prog (N + 30) (d + 0) 208 [.ref 135, .int (nI 59)] (mkh X I J)) (KX9_readStep_12 N d n a0) := by
  rfl
set_option maxHeartbeats 4000000 in
set_option maxRecDepth 100000 in
theorem kX9_readStep_11 (N d n : Nat) {X : lt_X} (a0 : Int32) (a1 : Int32) (a2 : Int32) (z : Int32) (I : Nat → Nat → Int32) (J : Nat → Nat → Int64) : KX9_readStep_11 N d n a0 a1 a2 z (mkh X I J) = am_cV (am_G am_prog (N + 30) (d + 0) 231 [.ref 135, .int z] (mkh X I J)) (KX9_readStep_13 N d n a0 a1 a2) := by
  rfl
set_option maxHeartbeats 4000000 in
set_option maxRecDepth 100000 in
theorem kX9_readStep_12 (N d n : Nat) {X : lt_X} (a0 : Int32) (z : Int32) (I : Nat → Nat → Int32) (J : Nat → Nat → Int64) : KX9_readStep_12 N d n a0 z (mkh X I J) = am_cV (am_G am_prog (N + 30) (d + 0) 231 [.ref 135, .int z] (mkh X I J)) (KX9_readStep_14 N d n a0) := by
  rfl
set_option maxHeartbeats 4000000 in
set_option maxRecDepth 100000 in
theorem kX9_readStep_13 (N d n : Nat) {X : lt_X} (a0 : Int32) (a1 : Int32) (a2 : Int32) (I : Nat → Nat → Int32) (J : Nat → Nat → Int64) : KX9_readStep_13 N d n a0 a1 a2 (mkh X I J) = RX9_readStep_142 N d n X a1 a2 a0 I J := by
  rfl
set_option maxHeartbeats 4000000 in
set_option maxRecDepth 100000 in
theorem kX9_readStep_14 (N d n : Nat) {X : lt_X} (a0 : Int32) (I : Nat → Nat → Int32) (J : Nat → Nat → Int64) : KX9_readStep_14 N d n a0 (mkh X I J) = if am_in (a0 + (nI 8)) 2145 then some (.null, (mkh X (u2 I 140 ((a0 + (nI 8)).toNatClampNeg) (I 135 25)) J)) else none := by
  rfl
theorem fX9_readStep (N d : Nat) {X : lt_X} (x1 : Int32) (I : Nat → Nat → Int32) (J : Nat → Nat → Int64) : am_G am_prog N (d + 1) 256 [.ref 135, .int x1] (mkh X I J) = am_run (am_G am_prog N d) eX9_readStep uX9_readStep N 0 [(0, .ref 135), (1, .int x1)] [] (mkh X I J) := by
  refine (am_G_at N d 256 mX9_readStep _ _ rfl).trans ?_
  rfl
theorem gX9_readStep (N d : Nat) {X : lt_X} (x1 : Int32) (I : Nat → Nat → Int32) (J : Nat → Nat → Int64) : am_G am_prog (N + 30) (d + 1) 256 [.ref 135, .int x1] (mkh X I J) = RX9_readStep_0 N d (N + 30) X x1 I J := fX9_readStep (N + 30) (d + 0) x1 I J
def RX9_dials_0 (N d n : Nat) (X : lt_X) (x1 : Int32) (I : Nat → Nat → Int32) (J : Nat → Nat → Int64) : am_O := am_run (am_G am_prog (N + 30) (d + 0)) eX9_dials uX9_dials n 0 [(0, .ref 135), (1, .int x1)] [] (mkh X I J)
def RX9_dials_28 (N d n : Nat) (X : lt_X) (I : Nat → Nat → Int32) (J : Nat → Nat → Int64) : am_O := am_run (am_G am_prog (N + 30) (d + 0)) eX9_dials uX9_dials n 28 [(0, .ref 135)] [] (mkh X I J)
def RX9_dials_50 (N d n : Nat) (X : lt_X) (I : Nat → Nat → Int32) (J : Nat → Nat → Int64) : am_O := am_run (am_G am_prog (N + 30) (d + 0)) eX9_dials uX9_dials n 50 [(0, .ref 135)] [] (mkh X I J)
def RX9_dials_82 (N d n : Nat) (X : lt_X) (x2 : Int32) (I : Nat → Nat → Int32) (J : Nat → Nat → Int64) : am_O := am_run (am_G am_prog (N + 30) (d + 0)) eX9_dials uX9_dials n 82 [(0, .ref 135), (2, .int x2)] [] (mkh X I J)
def KX9_dials_0 (N d n : Nat) (z : Int32) (h : am_H) : am_O := if z = nI 0 then some (.int (-1), h) else am_pI h 9 135 25 (nI 0) (fun h1 => am_run (am_G am_prog (N + 30) (d + 0)) eX9_dials uX9_dials n 28 [(0, .ref 135)] [] h1)
def KX9_dials_1 (N d n : Nat) (h : am_H) : am_O := am_run (am_G am_prog (N + 30) (d + 0)) eX9_dials uX9_dials n 28 [(0, .ref 135)] [] h
def KX9_dials_2 (N d n : Nat) (z : Int32) (h : am_H) : am_O := if z = nI 0 then some (.int (-1), h) else am_gR h 9 135 20 (fun y1 => am_tI h y1 (nI 157) (nI 1) (fun h2 => am_gR h2 9 135 20 (fun y3 => am_gI h2 9 135 25 (fun y4 => am_tI h2 y3 (nI 158) y4 (fun h5 => am_run (am_G am_prog (N + 30) (d + 0)) eX9_dials uX9_dials n 82 [(0, .ref 135), (2, .int (nI 0))] [] h5)))))
set_option maxHeartbeats 4000000 in
set_option maxRecDepth 100000 in
theorem sX9_dials_0 (N d n : Nat) {X : lt_X} (x1 : Int32) (I : Nat → Nat → Int32) (J : Nat → Nat → Int64) : RX9_dials_0 N d (n + 1) X x1 I J = am_cI (am_G am_prog (N + 30) (d + 0) 237 [.ref 135, .int x1, .int (nI 300)] (mkh X (u2 (u2 I 135 1 (nI 0)) 135 0 (nI 0)) J)) (KX9_dials_0 N d n ) := by
  rfl
set_option maxHeartbeats 4000000 in
set_option maxRecDepth 100000 in
theorem sX9_dials_28 (N d n : Nat) {X : lt_X} (I : Nat → Nat → Int32) (J : Nat → Nat → Int64) : RX9_dials_28 N d (n + 1) X I J = if (I 135 12) = nI 0 then if (I 135 14) = nI 0 then RX9_dials_50 N d n X I J else am_cV (am_G am_prog (N + 30) (d + 0) 256 [.ref 135, .int (nI 0)] (mkh X I J)) (KX9_dials_1 N d n ) else RX9_dials_50 N d n X I J := by
  rfl
set_option maxHeartbeats 4000000 in
set_option maxRecDepth 100000 in
theorem sX9_dials_50 (N d n : Nat) {X : lt_X} (I : Nat → Nat → Int32) (J : Nat → Nat → Int64) : RX9_dials_50 N d (n + 1) X I J = am_cI (am_G am_prog (N + 30) (d + 0) 238 [.ref 135] (mkh X I J)) (KX9_dials_2 N d n ) := by
  rfl
set_option maxHeartbeats 4000000 in
set_option maxRecDepth 100000 in
theorem sX9_dials_82 (N d n : Nat) {X : lt_X} (x2 : Int32) (I : Nat → Nat → Int32) (J : Nat → Nat → Int64) : RX9_dials_82 N d (n + 1) X x2 I J = if x2 < ((nI 9) * (I 135 25)) then if am_in ((nI 1875) + x2) 2145 then if am_in ((nI 159) + x2) 2145 then RX9_dials_82 N d n X (x2 + (nI 1)) (u2 I 140 (((nI 159) + x2).toNatClampNeg) (I 140 (((nI 1875) + x2).toNatClampNeg))) J else none else none else some (.int (I 135 25), (mkh X I J)) := by
  rfl
set_option maxHeartbeats 4000000 in
set_option maxRecDepth 100000 in
theorem kX9_dials_0 (N d n : Nat) {X : lt_X} (z : Int32) (I : Nat → Nat → Int32) (J : Nat → Nat → Int64) : KX9_dials_0 N d n z (mkh X I J) = if z = nI 0 then some (.int (-1), (mkh X I J)) else RX9_dials_28 N d n X (u2 I 135 25 (nI 0)) J := by
  rfl
set_option maxHeartbeats 4000000 in
set_option maxRecDepth 100000 in
theorem kX9_dials_1 (N d n : Nat) {X : lt_X} (I : Nat → Nat → Int32) (J : Nat → Nat → Int64) : KX9_dials_1 N d n (mkh X I J) = RX9_dials_28 N d n X I J := by
  rfl
set_option maxHeartbeats 4000000 in
set_option maxRecDepth 100000 in
theorem kX9_dials_2 (N d n : Nat) {X : lt_X} (z : Int32) (I : Nat → Nat → Int32) (J : Nat → Nat → Int64) : KX9_dials_2 N d n z (mkh X I J) = if z = nI 0 then some (.int (-1), (mkh X I J)) else RX9_dials_82 N d n X (nI 0) (u2 (u2 I 140 157 (nI 1)) 140 158 (I 135 25)) J := by
  rfl
theorem fX9_dials (N d : Nat) {X : lt_X} (x1 : Int32) (I : Nat → Nat → Int32) (J : Nat → Nat → Int64) : am_G am_prog N (d + 1) 257 [.ref 135, .int x1] (mkh X I J) = am_run (am_G am_prog N d) eX9_dials uX9_dials N 0 [(0, .ref 135), (1, .int x1)] [] (mkh X I J) := by
  refine (am_G_at N d 257 mX9_dials _ _ rfl).trans ?_
  rfl
theorem gX9_dials (N d : Nat) {X : lt_X} (x1 : Int32) (I : Nat → Nat → Int32) (J : Nat → Nat → Int64) : am_G am_prog (N + 30) (d + 1) 257 [.ref 135, .int x1] (mkh X I J) = RX9_dials_0 N d (N + 30) X x1 I J := fX9_dials (N + 30) (d + 0) x1 I J
def RX9_isSubjectAt_0 (N d n : Nat) (X : lt_X) (x1 : Int64) (I : Nat → Nat → Int32) (J : Nat → Nat → Int64) : am_O := am_run (am_G am_prog (N + 30) (d + 1)) eX9_isSubjectAt uX9_isSubjectAt n 0 [(0, .ref 135), (1, .long x1)] [] (mkh X I J)
def KX9_isSubjectAt_0 (N d n : Nat) (z : Int32) (h : am_H) : am_O := am_nb z (some (.int z, h))
set_option maxHeartbeats 4000000 in
set_option maxRecDepth 100000 in
theorem sX9_isSubjectAt_0 (N d n : Nat) {X : lt_X} (x1 : Int64) (I : Nat → Nat → Int32) (J : Nat → Nat → Int64) : RX9_isSubjectAt_0 N d (n + 1) X x1 I J = am_cI (am_G am_prog (N + 30) (d + 1) 190 [.long x1, .long (lN 0), .long (((I 140 0) - (nI 1)).toInt64)] (mkh X I J)) (KX9_isSubjectAt_0 N d n ) := by
  rfl
set_option maxHeartbeats 4000000 in
set_option maxRecDepth 100000 in
theorem kX9_isSubjectAt_0 (N d n : Nat) {X : lt_X} (z : Int32) (I : Nat → Nat → Int32) (J : Nat → Nat → Int64) : KX9_isSubjectAt_0 N d n z (mkh X I J) = am_nb z (some (.int z, (mkh X I J))) := by
  rfl
theorem fX9_isSubjectAt (N d : Nat) {X : lt_X} (x1 : Int64) (I : Nat → Nat → Int32) (J : Nat → Nat → Int64) : am_G am_prog N (d + 1) 258 [.ref 135, .long x1] (mkh X I J) = am_run (am_G am_prog N d) eX9_isSubjectAt uX9_isSubjectAt N 0 [(0, .ref 135), (1, .long x1)] [] (mkh X I J) := by
  refine (am_G_at N d 258 mX9_isSubjectAt _ _ rfl).trans ?_
  rfl
theorem gX9_isSubjectAt (N d : Nat) {X : lt_X} (x1 : Int64) (I : Nat → Nat → Int32) (J : Nat → Nat → Int64) : am_G am_prog (N + 30) (d + 2) 258 [.ref 135, .long x1] (mkh X I J) = RX9_isSubjectAt_0 N d (N + 30) X x1 I J := fX9_isSubjectAt (N + 30) (d + 1) x1 I J
def RX9_isVoiceAt_0 (N d n : Nat) (X : lt_X) (x1 : Int32) (I : Nat → Nat → Int32) (J : Nat → Nat → Int64) : am_O := am_run (am_G am_prog (N + 30) (d + 1)) eX9_isVoiceAt uX9_isVoiceAt n 0 [(0, .ref 135), (1, .int x1)] [] (mkh X I J)
def KX9_isVoiceAt_0 (N d n : Nat) (z : Int32) (h : am_H) : am_O := am_nb z (some (.int z, h))
set_option maxHeartbeats 4000000 in
set_option maxRecDepth 100000 in
theorem sX9_isVoiceAt_0 (N d n : Nat) {X : lt_X} (x1 : Int32) (I : Nat → Nat → Int32) (J : Nat → Nat → Int64) : RX9_isVoiceAt_0 N d (n + 1) X x1 I J = am_cI (am_G am_prog (N + 30) (d + 1) 190 [.long x1.toInt64, .long (lN 0), .long (((I 140 1) - (nI 1)).toInt64)] (mkh X I J)) (KX9_isVoiceAt_0 N d n ) := by
  rfl
set_option maxHeartbeats 4000000 in
set_option maxRecDepth 100000 in
theorem kX9_isVoiceAt_0 (N d n : Nat) {X : lt_X} (z : Int32) (I : Nat → Nat → Int32) (J : Nat → Nat → Int64) : KX9_isVoiceAt_0 N d n z (mkh X I J) = am_nb z (some (.int z, (mkh X I J))) := by
  rfl
theorem fX9_isVoiceAt (N d : Nat) {X : lt_X} (x1 : Int32) (I : Nat → Nat → Int32) (J : Nat → Nat → Int64) : am_G am_prog N (d + 1) 259 [.ref 135, .int x1] (mkh X I J) = am_run (am_G am_prog N d) eX9_isVoiceAt uX9_isVoiceAt N 0 [(0, .ref 135), (1, .int x1)] [] (mkh X I J) := by
  refine (am_G_at N d 259 mX9_isVoiceAt _ _ rfl).trans ?_
  rfl
theorem gX9_isVoiceAt (N d : Nat) {X : lt_X} (x1 : Int32) (I : Nat → Nat → Int32) (J : Nat → Nat → Int64) : am_G am_prog (N + 30) (d + 2) 259 [.ref 135, .int x1] (mkh X I J) = RX9_isVoiceAt_0 N d (N + 30) X x1 I J := fX9_isVoiceAt (N + 30) (d + 1) x1 I J
def RX9_isPersonAt_0 (N d n : Nat) (X : lt_X) (x1 : Int64) (I : Nat → Nat → Int32) (J : Nat → Nat → Int64) : am_O := am_run (am_G am_prog (N + 30) (d + 1)) eX9_isPersonAt uX9_isPersonAt n 0 [(0, .ref 135), (1, .long x1)] [] (mkh X I J)
def KX9_isPersonAt_0 (N d n : Nat) (z : Int32) (h : am_H) : am_O := am_nb z (some (.int z, h))
set_option maxHeartbeats 4000000 in
set_option maxRecDepth 100000 in
theorem sX9_isPersonAt_0 (N d n : Nat) {X : lt_X} (x1 : Int64) (I : Nat → Nat → Int32) (J : Nat → Nat → Int64) : RX9_isPersonAt_0 N d (n + 1) X x1 I J = am_cI (am_G am_prog (N + 30) (d + 1) 190 [.long x1, .long (lN 0), .long (((I 140 2) - (nI 1)).toInt64)] (mkh X I J)) (KX9_isPersonAt_0 N d n ) := by
  rfl
set_option maxHeartbeats 4000000 in
set_option maxRecDepth 100000 in
theorem kX9_isPersonAt_0 (N d n : Nat) {X : lt_X} (z : Int32) (I : Nat → Nat → Int32) (J : Nat → Nat → Int64) : KX9_isPersonAt_0 N d n z (mkh X I J) = am_nb z (some (.int z, (mkh X I J))) := by
  rfl
theorem fX9_isPersonAt (N d : Nat) {X : lt_X} (x1 : Int64) (I : Nat → Nat → Int32) (J : Nat → Nat → Int64) : am_G am_prog N (d + 1) 260 [.ref 135, .long x1] (mkh X I J) = am_run (am_G am_prog N d) eX9_isPersonAt uX9_isPersonAt N 0 [(0, .ref 135), (1, .long x1)] [] (mkh X I J) := by
  refine (am_G_at N d 260 mX9_isPersonAt _ _ rfl).trans ?_
  rfl
theorem gX9_isPersonAt (N d : Nat) {X : lt_X} (x1 : Int64) (I : Nat → Nat → Int32) (J : Nat → Nat → Int64) : am_G am_prog (N + 30) (d + 2) 260 [.ref 135, .long x1] (mkh X I J) = RX9_isPersonAt_0 N d (N + 30) X x1 I J := fX9_isPersonAt (N + 30) (d + 1) x1 I J
def RX9_isSetAt_0 (N d n : Nat) (X : lt_X) (x1 : Int32) (I : Nat → Nat → Int32) (J : Nat → Nat → Int64) : am_O := am_run (am_G am_prog (N + 30) (d + 1)) eX9_isSetAt uX9_isSetAt n 0 [(0, .ref 135), (1, .int x1)] [] (mkh X I J)
def KX9_isSetAt_0 (N d n : Nat) (z : Int32) (h : am_H) : am_O := am_nb z (some (.int z, h))
set_option maxHeartbeats 4000000 in
set_option maxRecDepth 100000 in
theorem sX9_isSetAt_0 (N d n : Nat) {X : lt_X} (x1 : Int32) (I : Nat → Nat → Int32) (J : Nat → Nat → Int64) : RX9_isSetAt_0 N d (n + 1) X x1 I J = am_cI (am_G am_prog (N + 30) (d + 1) 190 [.long x1.toInt64, .long (lN 0), .long (((I 140 3) - (nI 1)).toInt64)] (mkh X I J)) (KX9_isSetAt_0 N d n ) := by
  rfl
set_option maxHeartbeats 4000000 in
set_option maxRecDepth 100000 in
theorem kX9_isSetAt_0 (N d n : Nat) {X : lt_X} (z : Int32) (I : Nat → Nat → Int32) (J : Nat → Nat → Int64) : KX9_isSetAt_0 N d n z (mkh X I J) = am_nb z (some (.int z, (mkh X I J))) := by
  rfl
theorem fX9_isSetAt (N d : Nat) {X : lt_X} (x1 : Int32) (I : Nat → Nat → Int32) (J : Nat → Nat → Int64) : am_G am_prog N (d + 1) 261 [.ref 135, .int x1] (mkh X I J) = am_run (am_G am_prog N d) eX9_isSetAt uX9_isSetAt N 0 [(0, .ref 135), (1, .int x1)] [] (mkh X I J) := by
  refine (am_G_at N d 261 mX9_isSetAt _ _ rfl).trans ?_
  rfl
theorem gX9_isSetAt (N d : Nat) {X : lt_X} (x1 : Int32) (I : Nat → Nat → Int32) (J : Nat → Nat → Int64) : am_G am_prog (N + 30) (d + 2) 261 [.ref 135, .int x1] (mkh X I J) = RX9_isSetAt_0 N d (N + 30) X x1 I J := fX9_isSetAt (N + 30) (d + 1) x1 I J
def RX9_ownedBy_0 (N d n : Nat) (X : lt_X) (x1 : Int32) (I : Nat → Nat → Int32) (J : Nat → Nat → Int64) : am_O := am_run (am_G am_prog (N + 30) (d + 0)) eX9_ownedBy uX9_ownedBy n 0 [(0, .ref 135), (1, .int x1)] [] (mkh X I J)
def RX9_ownedBy_4 (N d n : Nat) (X : lt_X) (x1 : Int32) (x2 : Int32) (x3 : Int32) (I : Nat → Nat → Int32) (J : Nat → Nat → Int64) : am_O := am_run (am_G am_prog (N + 30) (d + 0)) eX9_ownedBy uX9_ownedBy n 4 [(0, .ref 135), (1, .int x1), (2, .int x2), (3, .int x3)] [] (mkh X I J)
set_option maxHeartbeats 4000000 in
set_option maxRecDepth 100000 in
theorem sX9_ownedBy_0 (N d n : Nat) {X : lt_X} (x1 : Int32) (I : Nat → Nat → Int32) (J : Nat → Nat → Int64) : RX9_ownedBy_0 N d (n + 1) X x1 I J = RX9_ownedBy_4 N d n X x1 (nI 0) (nI 0) I J := by
  rfl
set_option maxHeartbeats 4000000 in
set_option maxRecDepth 100000 in
theorem sX9_ownedBy_4 (N d n : Nat) {X : lt_X} (x1 : Int32) (x2 : Int32) (x3 : Int32) (I : Nat → Nat → Int32) (J : Nat → Nat → Int64) : RX9_ownedBy_4 N d (n + 1) X x1 x2 x3 I J = if x3 < (I 140 3) then if am_in ((nI 67) + x3) 2145 then if (I 140 (((nI 67) + x3).toNatClampNeg)) = x1 then RX9_ownedBy_4 N d n X x1 (x2 ||| ((nI 1) <<< (x3 &&& 31))) (x3 + (nI 1)) I J else RX9_ownedBy_4 N d n X x1 (x2 ||| (nI 0)) (x3 + (nI 1)) I J else none else some (.int x2, (mkh X I J)) := by
  rfl
theorem fX9_ownedBy (N d : Nat) {X : lt_X} (x1 : Int32) (I : Nat → Nat → Int32) (J : Nat → Nat → Int64) : am_G am_prog N (d + 1) 262 [.ref 135, .int x1] (mkh X I J) = am_run (am_G am_prog N d) eX9_ownedBy uX9_ownedBy N 0 [(0, .ref 135), (1, .int x1)] [] (mkh X I J) := by
  refine (am_G_at N d 262 mX9_ownedBy _ _ rfl).trans ?_
  rfl
theorem gX9_ownedBy (N d : Nat) {X : lt_X} (x1 : Int32) (I : Nat → Nat → Int32) (J : Nat → Nat → Int64) : am_G am_prog (N + 30) (d + 1) 262 [.ref 135, .int x1] (mkh X I J) = RX9_ownedBy_0 N d (N + 30) X x1 I J := fX9_ownedBy (N + 30) (d + 0) x1 I J
def RX9_voicesBy_0 (N d n : Nat) (X : lt_X) (x1 : Int32) (I : Nat → Nat → Int32) (J : Nat → Nat → Int64) : am_O := am_run (am_G am_prog (N + 30) (d + 0)) eX9_voicesBy uX9_voicesBy n 0 [(0, .ref 135), (1, .int x1)] [] (mkh X I J)
def RX9_voicesBy_4 (N d n : Nat) (X : lt_X) (x1 : Int32) (x2 : Int32) (x3 : Int32) (I : Nat → Nat → Int32) (J : Nat → Nat → Int64) : am_O := am_run (am_G am_prog (N + 30) (d + 0)) eX9_voicesBy uX9_voicesBy n 4 [(0, .ref 135), (1, .int x1), (2, .int x2), (3, .int x3)] [] (mkh X I J)
set_option maxHeartbeats 4000000 in
set_option maxRecDepth 100000 in
theorem sX9_voicesBy_0 (N d n : Nat) {X : lt_X} (x1 : Int32) (I : Nat → Nat → Int32) (J : Nat → Nat → Int64) : RX9_voicesBy_0 N d (n + 1) X x1 I J = RX9_voicesBy_4 N d n X x1 (nI 0) (nI 0) I J := by
  rfl
set_option maxHeartbeats 4000000 in
set_option maxRecDepth 100000 in
theorem sX9_voicesBy_4 (N d n : Nat) {X : lt_X} (x1 : Int32) (x2 : Int32) (x3 : Int32) (I : Nat → Nat → Int32) (J : Nat → Nat → Int64) : RX9_voicesBy_4 N d (n + 1) X x1 x2 x3 I J = if x3 < (I 140 1) then if am_in (x1 + x3) 2145 then RX9_voicesBy_4 N d n X x1 (x2 ||| ((I 140 ((x1 + x3).toNatClampNeg)) <<< (x3 &&& 31))) (x3 + (nI 1)) I J else none else some (.int x2, (mkh X I J)) := by
  rfl
theorem fX9_voicesBy (N d : Nat) {X : lt_X} (x1 : Int32) (I : Nat → Nat → Int32) (J : Nat → Nat → Int64) : am_G am_prog N (d + 1) 263 [.ref 135, .int x1] (mkh X I J) = am_run (am_G am_prog N d) eX9_voicesBy uX9_voicesBy N 0 [(0, .ref 135), (1, .int x1)] [] (mkh X I J) := by
  refine (am_G_at N d 263 mX9_voicesBy _ _ rfl).trans ?_
  rfl
theorem gX9_voicesBy (N d : Nat) {X : lt_X} (x1 : Int32) (I : Nat → Nat → Int32) (J : Nat → Nat → Int64) : am_G am_prog (N + 30) (d + 1) 263 [.ref 135, .int x1] (mkh X I J) = RX9_voicesBy_0 N d (N + 30) X x1 I J := fX9_voicesBy (N + 30) (d + 0) x1 I J
def RX9_sumOf_0 (N d n : Nat) (X : lt_X) (x1 : Int32) (I : Nat → Nat → Int32) (J : Nat → Nat → Int64) : am_O := am_run (am_G am_prog (N + 30) (d + 0)) eX9_sumOf uX9_sumOf n 0 [(0, .ref 135), (1, .int x1)] [] (mkh X I J)
def RX9_sumOf_4 (N d n : Nat) (X : lt_X) (x1 : Int32) (x2 : Int32) (x3 : Int32) (I : Nat → Nat → Int32) (J : Nat → Nat → Int64) : am_O := am_run (am_G am_prog (N + 30) (d + 0)) eX9_sumOf uX9_sumOf n 4 [(0, .ref 135), (1, .int x1), (2, .int x2), (3, .int x3)] [] (mkh X I J)
set_option maxHeartbeats 4000000 in
set_option maxRecDepth 100000 in
theorem sX9_sumOf_0 (N d n : Nat) {X : lt_X} (x1 : Int32) (I : Nat → Nat → Int32) (J : Nat → Nat → Int64) : RX9_sumOf_0 N d (n + 1) X x1 I J = RX9_sumOf_4 N d n X x1 (nI 0) (nI 0) I J := by
  rfl
set_option maxHeartbeats 4000000 in
set_option maxRecDepth 100000 in
theorem sX9_sumOf_4 (N d n : Nat) {X : lt_X} (x1 : Int32) (x2 : Int32) (x3 : Int32) (I : Nat → Nat → Int32) (J : Nat → Nat → Int64) : RX9_sumOf_4 N d (n + 1) X x1 x2 x3 I J = if x3 < (I 140 2) then if am_in (x1 + x3) 2145 then RX9_sumOf_4 N d n X x1 (x2 + (I 140 ((x1 + x3).toNatClampNeg))) (x3 + (nI 1)) I J else none else some (.int x2, (mkh X I J)) := by
  rfl
theorem fX9_sumOf (N d : Nat) {X : lt_X} (x1 : Int32) (I : Nat → Nat → Int32) (J : Nat → Nat → Int64) : am_G am_prog N (d + 1) 264 [.ref 135, .int x1] (mkh X I J) = am_run (am_G am_prog N d) eX9_sumOf uX9_sumOf N 0 [(0, .ref 135), (1, .int x1)] [] (mkh X I J) := by
  refine (am_G_at N d 264 mX9_sumOf _ _ rfl).trans ?_
  rfl
theorem gX9_sumOf (N d : Nat) {X : lt_X} (x1 : Int32) (I : Nat → Nat → Int32) (J : Nat → Nat → Int64) : am_G am_prog (N + 30) (d + 1) 264 [.ref 135, .int x1] (mkh X I J) = RX9_sumOf_0 N d (N + 30) X x1 I J := fX9_sumOf (N + 30) (d + 0) x1 I J
def RX9_many_0 (N d n : Nat) (X : lt_X) (x1 : Int32) (I : Nat → Nat → Int32) (J : Nat → Nat → Int64) : am_O := am_run (am_G am_prog (N + 30) (d + 1)) eX9_many uX9_many n 0 [(0, .ref 135), (1, .int x1)] [] (mkh X I J)
def KX9_many_0 (N d n : Nat) (a0 : Int32) (z : Int32) (h : am_H) : am_O := if z = nI 0 then am_cI (am_G am_prog (N + 30) (d + 1) 188 [.ref 135, .int (nI 5)] h) (fun r2 h1 => some (.int r2, h1)) else if a0 < (nI 7) then am_gR h 9 135 20 (fun y3 => am_lI h 10 y3 a0 (fun y4 => some (.int y4, h))) else if a0 < (nI 9) then if a0 = (nI 7) then am_cI (am_G am_prog (N + 30) (d + 1) 263 [.ref 135, .int (nI 25)] h) (fun r6 h5 => some (.int r6, h5)) else am_cI (am_G am_prog (N + 30) (d + 1) 263 [.ref 135, .int (nI 31)] h) (fun r8 h7 => some (.int r8, h7)) else if a0 = (nI 9) then am_cI (am_G am_prog (N + 30) (d + 1) 262 [.ref 135, .int (-1)] h) (fun r10 h9 => some (.int r10, h9)) else if a0 = (nI 10) then am_cI (am_G am_prog (N + 30) (d + 1) 264 [.ref 135, .int (nI 37)] h) (fun r12 h11 => some (.int r12, h11)) else am_cI (am_G am_prog (N + 30) (d + 1) 264 [.ref 135, .int (nI 43)] h) (fun r14 h13 => some (.int r14, h13))
def KX9_many_1 (N d n : Nat) (z : Int32) (h : am_H) : am_O := some (.int z, h)
def KX9_many_2 (N d n : Nat) (z : Int32) (h : am_H) : am_O := some (.int z, h)
def KX9_many_3 (N d n : Nat) (z : Int32) (h : am_H) : am_O := some (.int z, h)
def KX9_many_4 (N d n : Nat) (z : Int32) (h : am_H) : am_O := some (.int z, h)
set_option maxHeartbeats 4000000 in
set_option maxRecDepth 100000 in
theorem sX9_many_0 (N d n : Nat) {X : lt_X} (x1 : Int32) (I : Nat → Nat → Int32) (J : Nat → Nat → Int64) : RX9_many_0 N d (n + 1) X x1 I J = am_cI (am_G am_prog (N + 30) (d + 1) 190 [.long x1.toInt64, .long (lN 0), .long (lN 11)] (mkh X (u2 (u2 I 135 1 (nI 0)) 135 0 (nI 0)) J)) (KX9_many_0 N d n x1) := by
  rfl
set_option maxHeartbeats 4000000 in
set_option maxRecDepth 100000 in
theorem kX9_many_0 (N d n : Nat) {X : lt_X} (a0 : Int32) (z : Int32) (I : Nat → Nat → Int32) (J : Nat → Nat → Int64) : KX9_many_0 N d n a0 z (mkh X I J) = if z = nI 0 then some (.int (-1), (mkh X (u2 I 135 0 (nI 5)) J)) else if a0 < (nI 7) then if am_in a0 2145 then some (.int (I 140 a0.toNatClampNeg), (mkh X I J)) else none else if a0 < (nI 9) then if a0 = (nI 7) then am_cI (am_G am_prog (N + 30) (d + 1) 263 [.ref 135, .int (nI 25)] (mkh X I J)) (KX9_many_1 N d n ) else am_cI (am_G am_prog (N + 30) (d + 1) 263 [.ref 135, .int (nI 31)] (mkh X I J)) (KX9_many_1 N d n ) else if a0 = (nI 9) then am_cI (am_G am_prog (N + 30) (d + 1) 262 [.ref 135, .int (-1)] (mkh X I J)) (KX9_many_2 N d n ) else if a0 = (nI 10) then am_cI (am_G am_prog (N + 30) (d + 1) 264 [.ref 135, .int (nI 37)] (mkh X I J)) (KX9_many_3 N d n ) else am_cI (am_G am_prog (N + 30) (d + 1) 264 [.ref 135, .int (nI 43)] (mkh X I J)) (KX9_many_4 N d n ) := by
  rfl
set_option maxHeartbeats 4000000 in
set_option maxRecDepth 100000 in
theorem kX9_many_1 (N d n : Nat) {X : lt_X} (z : Int32) (I : Nat → Nat → Int32) (J : Nat → Nat → Int64) : KX9_many_1 N d n z (mkh X I J) = some (.int z, (mkh X I J)) := by
  rfl
set_option maxHeartbeats 4000000 in
set_option maxRecDepth 100000 in
theorem kX9_many_2 (N d n : Nat) {X : lt_X} (z : Int32) (I : Nat → Nat → Int32) (J : Nat → Nat → Int64) : KX9_many_2 N d n z (mkh X I J) = some (.int z, (mkh X I J)) := by
  rfl
set_option maxHeartbeats 4000000 in
set_option maxRecDepth 100000 in
theorem kX9_many_3 (N d n : Nat) {X : lt_X} (z : Int32) (I : Nat → Nat → Int32) (J : Nat → Nat → Int64) : KX9_many_3 N d n z (mkh X I J) = some (.int z, (mkh X I J)) := by
  rfl
set_option maxHeartbeats 4000000 in
set_option maxRecDepth 100000 in
theorem kX9_many_4 (N d n : Nat) {X : lt_X} (z : Int32) (I : Nat → Nat → Int32) (J : Nat → Nat → Int64) : KX9_many_4 N d n z (mkh X I J) = some (.int z, (mkh X I J)) := by
  rfl
theorem fX9_many (N d : Nat) {X : lt_X} (x1 : Int32) (I : Nat → Nat → Int32) (J : Nat → Nat → Int64) : am_G am_prog N (d + 1) 265 [.ref 135, .int x1] (mkh X I J) = am_run (am_G am_prog N d) eX9_many uX9_many N 0 [(0, .ref 135), (1, .int x1)] [] (mkh X I J) := by
  refine (am_G_at N d 265 mX9_many _ _ rfl).trans ?_
  rfl
theorem gX9_many (N d : Nat) {X : lt_X} (x1 : Int32) (I : Nat → Nat → Int32) (J : Nat → Nat → Int64) : am_G am_prog (N + 30) (d + 2) 265 [.ref 135, .int x1] (mkh X I J) = RX9_many_0 N d (N + 30) X x1 I J := fX9_many (N + 30) (d + 1) x1 I J
def RX9_voice_0 (N d n : Nat) (X : lt_X) (x1 : Int32) (x2 : Int32) (I : Nat → Nat → Int32) (J : Nat → Nat → Int64) : am_O := am_run (am_G am_prog (N + 30) (d + 2)) eX9_voice uX9_voice n 0 [(0, .ref 135), (1, .int x1), (2, .int x2)] [] (mkh X I J)
def KX9_voice_0 (N d n : Nat) (a0 : Int32) (a1 : Int32) (z : Int32) (h : am_H) : am_O := if z = nI 0 then am_cI (am_G am_prog (N + 30) (d + 2) 188 [.ref 135, .int (nI 2)] h) (fun r2 h1 => some (.int r2, h1)) else am_cI (am_G am_prog (N + 30) (d + 2) 190 [.long a1.toInt64, .long (lN 0), .long (lN 4)] h) (fun r4 h3 => if r4 = nI 0 then am_cI (am_G am_prog (N + 30) (d + 2) 188 [.ref 135, .int (nI 5)] h3) (fun r6 h5 => some (.int r6, h5)) else am_gR h3 9 135 20 (fun y7 => am_lI h3 10 y7 (((nI 7) + ((nI 6) * a1)) + a0) (fun y8 => some (.int y8, h3))))
def KX9_voice_1 (N d n : Nat) (a0 : Int32) (a1 : Int32) (z : Int32) (h : am_H) : am_O := if z = nI 0 then am_cI (am_G am_prog (N + 30) (d + 2) 188 [.ref 135, .int (nI 5)] h) (fun r2 h1 => some (.int r2, h1)) else am_gR h 9 135 20 (fun y3 => am_lI h 10 y3 (((nI 7) + ((nI 6) * a1)) + a0) (fun y4 => some (.int y4, h)))
set_option maxHeartbeats 4000000 in
set_option maxRecDepth 100000 in
theorem sX9_voice_0 (N d n : Nat) {X : lt_X} (x1 : Int32) (x2 : Int32) (I : Nat → Nat → Int32) (J : Nat → Nat → Int64) : RX9_voice_0 N d (n + 1) X x1 x2 I J = am_cI (am_G am_prog (N + 30) (d + 2) 259 [.ref 135, .int x1] (mkh X (u2 (u2 I 135 1 (nI 0)) 135 0 (nI 0)) J)) (KX9_voice_0 N d n x1 x2) := by
  rfl
set_option maxHeartbeats 4000000 in
set_option maxRecDepth 100000 in
theorem kX9_voice_0 (N d n : Nat) {X : lt_X} (a0 : Int32) (a1 : Int32) (z : Int32) (I : Nat → Nat → Int32) (J : Nat → Nat → Int64) : KX9_voice_0 N d n a0 a1 z (mkh X I J) = if z = nI 0 then some (.int (-1), (mkh X (u2 I 135 0 (nI 2)) J)) else am_cI (am_G am_prog (N + 30) (d + 2) 190 [.long a1.toInt64, .long (lN 0), .long (lN 4)] (mkh X I J)) (KX9_voice_1 N d n a0 a1) := by
  rfl
set_option maxHeartbeats 4000000 in
set_option maxRecDepth 100000 in
theorem kX9_voice_1 (N d n : Nat) {X : lt_X} (a0 : Int32) (a1 : Int32) (z : Int32) (I : Nat → Nat → Int32) (J : Nat → Nat → Int64) : KX9_voice_1 N d n a0 a1 z (mkh X I J) = if z = nI 0 then some (.int (-1), (mkh X (u2 I 135 0 (nI 5)) J)) else if am_in (((nI 7) + ((nI 6) * a1)) + a0) 2145 then some (.int (I 140 ((((nI 7) + ((nI 6) * a1)) + a0).toNatClampNeg)), (mkh X I J)) else none := by
  rfl
theorem fX9_voice (N d : Nat) {X : lt_X} (x1 : Int32) (x2 : Int32) (I : Nat → Nat → Int32) (J : Nat → Nat → Int64) : am_G am_prog N (d + 1) 266 [.ref 135, .int x1, .int x2] (mkh X I J) = am_run (am_G am_prog N d) eX9_voice uX9_voice N 0 [(0, .ref 135), (1, .int x1), (2, .int x2)] [] (mkh X I J) := by
  refine (am_G_at N d 266 mX9_voice _ _ rfl).trans ?_
  rfl
theorem gX9_voice (N d : Nat) {X : lt_X} (x1 : Int32) (x2 : Int32) (I : Nat → Nat → Int32) (J : Nat → Nat → Int64) : am_G am_prog (N + 30) (d + 3) 266 [.ref 135, .int x1, .int x2] (mkh X I J) = RX9_voice_0 N d (N + 30) X x1 x2 I J := fX9_voice (N + 30) (d + 2) x1 x2 I J
def RX9_row_0 (N d n : Nat) (X : lt_X) (x1 : Int32) (x2 : Int32) (I : Nat → Nat → Int32) (J : Nat → Nat → Int64) : am_O := am_run (am_G am_prog (N + 30) (d + 2)) eX9_row uX9_row n 0 [(0, .ref 135), (1, .int x1), (2, .int x2)] [] (mkh X I J)
def KX9_row_0 (N d n : Nat) (a0 : Int32) (a1 : Int32) (z : Int32) (h : am_H) : am_O := if z = nI 0 then am_cI (am_G am_prog (N + 30) (d + 2) 188 [.ref 135, .int (nI 2)] h) (fun r2 h1 => some (.int r2, h1)) else am_gR h 9 135 20 (fun y3 => am_lI h 10 y3 ((nI 19) + a0) (fun y4 => am_cI (am_G am_prog (N + 30) (d + 2) 190 [.long a1.toInt64, .long (lN 0), .long ((y4 - (nI 1)).toInt64)] h) (fun r6 h5 => if r6 = nI 0 then am_cI (am_G am_prog (N + 30) (d + 2) 188 [.ref 135, .int (nI 8)] h5) (fun r8 h7 => some (.int r8, h7)) else am_gR h5 9 135 20 (fun y9 => am_lI h5 10 y9 (((nI 73) + ((nI 8) * a0)) + a1) (fun y10 => some (.int y10, h5))))))
def KX9_row_1 (N d n : Nat) (a0 : Int32) (a1 : Int32) (z : Int32) (h : am_H) : am_O := if z = nI 0 then am_cI (am_G am_prog (N + 30) (d + 2) 188 [.ref 135, .int (nI 8)] h) (fun r2 h1 => some (.int r2, h1)) else am_gR h 9 135 20 (fun y3 => am_lI h 10 y3 (((nI 73) + ((nI 8) * a0)) + a1) (fun y4 => some (.int y4, h)))
set_option maxHeartbeats 4000000 in
set_option maxRecDepth 100000 in
theorem sX9_row_0 (N d n : Nat) {X : lt_X} (x1 : Int32) (x2 : Int32) (I : Nat → Nat → Int32) (J : Nat → Nat → Int64) : RX9_row_0 N d (n + 1) X x1 x2 I J = am_cI (am_G am_prog (N + 30) (d + 2) 259 [.ref 135, .int x1] (mkh X (u2 (u2 I 135 1 (nI 0)) 135 0 (nI 0)) J)) (KX9_row_0 N d n x1 x2) := by
  rfl
set_option maxHeartbeats 4000000 in
set_option maxRecDepth 100000 in
theorem kX9_row_0 (N d n : Nat) {X : lt_X} (a0 : Int32) (a1 : Int32) (z : Int32) (I : Nat → Nat → Int32) (J : Nat → Nat → Int64) : KX9_row_0 N d n a0 a1 z (mkh X I J) = if z = nI 0 then some (.int (-1), (mkh X (u2 I 135 0 (nI 2)) J)) else if am_in ((nI 19) + a0) 2145 then am_cI (am_G am_prog (N + 30) (d + 2) 190 [.long a1.toInt64, .long (lN 0), .long (((I 140 (((nI 19) + a0).toNatClampNeg)) - (nI 1)).toInt64)] (mkh X I J)) (KX9_row_1 N d n a0 a1) else none := by
  rfl
set_option maxHeartbeats 4000000 in
set_option maxRecDepth 100000 in
theorem kX9_row_1 (N d n : Nat) {X : lt_X} (a0 : Int32) (a1 : Int32) (z : Int32) (I : Nat → Nat → Int32) (J : Nat → Nat → Int64) : KX9_row_1 N d n a0 a1 z (mkh X I J) = if z = nI 0 then some (.int (-1), (mkh X (u2 I 135 0 (nI 8)) J)) else if am_in (((nI 73) + ((nI 8) * a0)) + a1) 2145 then some (.int (I 140 ((((nI 73) + ((nI 8) * a0)) + a1).toNatClampNeg)), (mkh X I J)) else none := by
  rfl
theorem fX9_row (N d : Nat) {X : lt_X} (x1 : Int32) (x2 : Int32) (I : Nat → Nat → Int32) (J : Nat → Nat → Int64) : am_G am_prog N (d + 1) 267 [.ref 135, .int x1, .int x2] (mkh X I J) = am_run (am_G am_prog N d) eX9_row uX9_row N 0 [(0, .ref 135), (1, .int x1), (2, .int x2)] [] (mkh X I J) := by
  refine (am_G_at N d 267 mX9_row _ _ rfl).trans ?_
  rfl
theorem gX9_row (N d : Nat) {X : lt_X} (x1 : Int32) (x2 : Int32) (I : Nat → Nat → Int32) (J : Nat → Nat → Int64) : am_G am_prog (N + 30) (d + 3) 267 [.ref 135, .int x1, .int x2] (mkh X I J) = RX9_row_0 N d (N + 30) X x1 x2 I J := fX9_row (N + 30) (d + 2) x1 x2 I J
def RX9_person_0 (N d n : Nat) (X : lt_X) (x1 : Int32) (x2 : Int32) (I : Nat → Nat → Int32) (J : Nat → Nat → Int64) : am_O := am_run (am_G am_prog (N + 30) (d + 2)) eX9_person uX9_person n 0 [(0, .ref 135), (1, .int x1), (2, .int x2)] [] (mkh X I J)
def KX9_person_0 (N d n : Nat) (a0 : Int32) (a1 : Int32) (z : Int32) (h : am_H) : am_O := if z = nI 0 then am_cI (am_G am_prog (N + 30) (d + 2) 188 [.ref 135, .int (nI 2)] h) (fun r2 h1 => some (.int r2, h1)) else am_cI (am_G am_prog (N + 30) (d + 2) 190 [.long a1.toInt64, .long (lN 0), .long (lN 3)] h) (fun r4 h3 => if r4 = nI 0 then am_cI (am_G am_prog (N + 30) (d + 2) 188 [.ref 135, .int (nI 5)] h3) (fun r6 h5 => some (.int r6, h5)) else if a1 < (nI 3) then am_gR h3 9 135 20 (fun y7 => am_lI h3 10 y7 (((nI 37) + ((nI 6) * a1)) + a0) (fun y8 => some (.int y8, h3))) else am_cI (am_G am_prog (N + 30) (d + 2) 262 [.ref 135, .int a0] h3) (fun r10 h9 => some (.int r10, h9)))
def KX9_person_1 (N d n : Nat) (a0 : Int32) (a1 : Int32) (z : Int32) (h : am_H) : am_O := if z = nI 0 then am_cI (am_G am_prog (N + 30) (d + 2) 188 [.ref 135, .int (nI 5)] h) (fun r2 h1 => some (.int r2, h1)) else if a1 < (nI 3) then am_gR h 9 135 20 (fun y3 => am_lI h 10 y3 (((nI 37) + ((nI 6) * a1)) + a0) (fun y4 => some (.int y4, h))) else am_cI (am_G am_prog (N + 30) (d + 2) 262 [.ref 135, .int a0] h) (fun r6 h5 => some (.int r6, h5))
def KX9_person_2 (N d n : Nat) (z : Int32) (h : am_H) : am_O := some (.int z, h)
set_option maxHeartbeats 4000000 in
set_option maxRecDepth 100000 in
theorem sX9_person_0 (N d n : Nat) {X : lt_X} (x1 : Int32) (x2 : Int32) (I : Nat → Nat → Int32) (J : Nat → Nat → Int64) : RX9_person_0 N d (n + 1) X x1 x2 I J = am_cI (am_G am_prog (N + 30) (d + 2) 260 [.ref 135, .long x1.toInt64] (mkh X (u2 (u2 I 135 1 (nI 0)) 135 0 (nI 0)) J)) (KX9_person_0 N d n x1 x2) := by
  rfl
set_option maxHeartbeats 4000000 in
set_option maxRecDepth 100000 in
theorem kX9_person_0 (N d n : Nat) {X : lt_X} (a0 : Int32) (a1 : Int32) (z : Int32) (I : Nat → Nat → Int32) (J : Nat → Nat → Int64) : KX9_person_0 N d n a0 a1 z (mkh X I J) = if z = nI 0 then some (.int (-1), (mkh X (u2 I 135 0 (nI 2)) J)) else am_cI (am_G am_prog (N + 30) (d + 2) 190 [.long a1.toInt64, .long (lN 0), .long (lN 3)] (mkh X I J)) (KX9_person_1 N d n a0 a1) := by
  rfl
set_option maxHeartbeats 4000000 in
set_option maxRecDepth 100000 in
theorem kX9_person_1 (N d n : Nat) {X : lt_X} (a0 : Int32) (a1 : Int32) (z : Int32) (I : Nat → Nat → Int32) (J : Nat → Nat → Int64) : KX9_person_1 N d n a0 a1 z (mkh X I J) = if z = nI 0 then some (.int (-1), (mkh X (u2 I 135 0 (nI 5)) J)) else if a1 < (nI 3) then if am_in (((nI 37) + ((nI 6) * a1)) + a0) 2145 then some (.int (I 140 ((((nI 37) + ((nI 6) * a1)) + a0).toNatClampNeg)), (mkh X I J)) else none else am_cI (am_G am_prog (N + 30) (d + 2) 262 [.ref 135, .int a0] (mkh X I J)) (KX9_person_2 N d n ) := by
  rfl
set_option maxHeartbeats 4000000 in
set_option maxRecDepth 100000 in
theorem kX9_person_2 (N d n : Nat) {X : lt_X} (z : Int32) (I : Nat → Nat → Int32) (J : Nat → Nat → Int64) : KX9_person_2 N d n z (mkh X I J) = some (.int z, (mkh X I J)) := by
  rfl
theorem fX9_person (N d : Nat) {X : lt_X} (x1 : Int32) (x2 : Int32) (I : Nat → Nat → Int32) (J : Nat → Nat → Int64) : am_G am_prog N (d + 1) 268 [.ref 135, .int x1, .int x2] (mkh X I J) = am_run (am_G am_prog N d) eX9_person uX9_person N 0 [(0, .ref 135), (1, .int x1), (2, .int x2)] [] (mkh X I J) := by
  refine (am_G_at N d 268 mX9_person _ _ rfl).trans ?_
  rfl
theorem gX9_person (N d : Nat) {X : lt_X} (x1 : Int32) (x2 : Int32) (I : Nat → Nat → Int32) (J : Nat → Nat → Int64) : am_G am_prog (N + 30) (d + 3) 268 [.ref 135, .int x1, .int x2] (mkh X I J) = RX9_person_0 N d (N + 30) X x1 x2 I J := fX9_person (N + 30) (d + 2) x1 x2 I J
def RX9_likeOf_0 (N d n : Nat) (X : lt_X) (x1 : Int32) (x2 : Int32) (I : Nat → Nat → Int32) (J : Nat → Nat → Int64) : am_O := am_run (am_G am_prog (N + 30) (d + 0)) eX9_likeOf uX9_likeOf n 0 [(0, .ref 135), (1, .int x1), (2, .int x2)] [] (mkh X I J)
set_option maxHeartbeats 4000000 in
set_option maxRecDepth 100000 in
theorem sX9_likeOf_0 (N d n : Nat) {X : lt_X} (x1 : Int32) (x2 : Int32) (I : Nat → Nat → Int32) (J : Nat → Nat → Int64) : RX9_likeOf_0 N d (n + 1) X x1 x2 I J = if am_in (((nI 121) + ((nI 6) * x1)) + x2) 2145 then some (.int (I 140 ((((nI 121) + ((nI 6) * x1)) + x2).toNatClampNeg)), (mkh X I J)) else none := by
  rfl
theorem fX9_likeOf (N d : Nat) {X : lt_X} (x1 : Int32) (x2 : Int32) (I : Nat → Nat → Int32) (J : Nat → Nat → Int64) : am_G am_prog N (d + 1) 269 [.ref 135, .int x1, .int x2] (mkh X I J) = am_run (am_G am_prog N d) eX9_likeOf uX9_likeOf N 0 [(0, .ref 135), (1, .int x1), (2, .int x2)] [] (mkh X I J) := by
  refine (am_G_at N d 269 mX9_likeOf _ _ rfl).trans ?_
  rfl
theorem gX9_likeOf (N d : Nat) {X : lt_X} (x1 : Int32) (x2 : Int32) (I : Nat → Nat → Int32) (J : Nat → Nat → Int64) : am_G am_prog (N + 30) (d + 1) 269 [.ref 135, .int x1, .int x2] (mkh X I J) = RX9_likeOf_0 N d (N + 30) X x1 x2 I J := fX9_likeOf (N + 30) (d + 0) x1 x2 I J
def RX9_like_0 (N d n : Nat) (X : lt_X) (x1 : Int32) (x2 : Int32) (I : Nat → Nat → Int32) (J : Nat → Nat → Int64) : am_O := am_run (am_G am_prog (N + 30) (d + 2)) eX9_like uX9_like n 0 [(0, .ref 135), (1, .int x1), (2, .int x2)] [] (mkh X I J)
def KX9_like_0 (N d n : Nat) (a0 : Int32) (a1 : Int32) (z : Int32) (h : am_H) : am_O := if z = nI 0 then am_cI (am_G am_prog (N + 30) (d + 2) 188 [.ref 135, .int (nI 2)] h) (fun r2 h1 => some (.int r2, h1)) else am_cI (am_G am_prog (N + 30) (d + 2) 258 [.ref 135, .long a1.toInt64] h) (fun r4 h3 => if r4 = nI 0 then am_cI (am_G am_prog (N + 30) (d + 2) 188 [.ref 135, .int (nI 2)] h3) (fun r6 h5 => some (.int r6, h5)) else am_cI (am_G am_prog (N + 30) (d + 2) 269 [.ref 135, .int a0, .int a1] h3) (fun r8 h7 => some (.int r8, h7)))
def KX9_like_1 (N d n : Nat) (a0 : Int32) (a1 : Int32) (z : Int32) (h : am_H) : am_O := if z = nI 0 then am_cI (am_G am_prog (N + 30) (d + 2) 188 [.ref 135, .int (nI 2)] h) (fun r2 h1 => some (.int r2, h1)) else am_cI (am_G am_prog (N + 30) (d + 2) 269 [.ref 135, .int a0, .int a1] h) (fun r4 h3 => some (.int r4, h3))
def KX9_like_2 (N d n : Nat) (z : Int32) (h : am_H) : am_O := some (.int z, h)
set_option maxHeartbeats 4000000 in
set_option maxRecDepth 100000 in
theorem sX9_like_0 (N d n : Nat) {X : lt_X} (x1 : Int32) (x2 : Int32) (I : Nat → Nat → Int32) (J : Nat → Nat → Int64) : RX9_like_0 N d (n + 1) X x1 x2 I J = am_cI (am_G am_prog (N + 30) (d + 2) 260 [.ref 135, .long x1.toInt64] (mkh X (u2 (u2 I 135 1 (nI 0)) 135 0 (nI 0)) J)) (KX9_like_0 N d n x1 x2) := by
  rfl
set_option maxHeartbeats 4000000 in
set_option maxRecDepth 100000 in
theorem kX9_like_0 (N d n : Nat) {X : lt_X} (a0 : Int32) (a1 : Int32) (z : Int32) (I : Nat → Nat → Int32) (J : Nat → Nat → Int64) : KX9_like_0 N d n a0 a1 z (mkh X I J) = if z = nI 0 then some (.int (-1), (mkh X (u2 I 135 0 (nI 2)) J)) else am_cI (am_G am_prog (N + 30) (d + 2) 258 [.ref 135, .long a1.toInt64] (mkh X I J)) (KX9_like_1 N d n a0 a1) := by
  rfl
set_option maxHeartbeats 4000000 in
set_option maxRecDepth 100000 in
theorem kX9_like_1 (N d n : Nat) {X : lt_X} (a0 : Int32) (a1 : Int32) (z : Int32) (I : Nat → Nat → Int32) (J : Nat → Nat → Int64) : KX9_like_1 N d n a0 a1 z (mkh X I J) = if z = nI 0 then some (.int (-1), (mkh X (u2 I 135 0 (nI 2)) J)) else am_cI (am_G am_prog (N + 30) (d + 2) 269 [.ref 135, .int a0, .int a1] (mkh X I J)) (KX9_like_2 N d n ) := by
  rfl
set_option maxHeartbeats 4000000 in
set_option maxRecDepth 100000 in
theorem kX9_like_2 (N d n : Nat) {X : lt_X} (z : Int32) (I : Nat → Nat → Int32) (J : Nat → Nat → Int64) : KX9_like_2 N d n z (mkh X I J) = some (.int z, (mkh X I J)) := by
  rfl
theorem fX9_like (N d : Nat) {X : lt_X} (x1 : Int32) (x2 : Int32) (I : Nat → Nat → Int32) (J : Nat → Nat → Int64) : am_G am_prog N (d + 1) 270 [.ref 135, .int x1, .int x2] (mkh X I J) = am_run (am_G am_prog N d) eX9_like uX9_like N 0 [(0, .ref 135), (1, .int x1), (2, .int x2)] [] (mkh X I J) := by
  refine (am_G_at N d 270 mX9_like _ _ rfl).trans ?_
  rfl
theorem gX9_like (N d : Nat) {X : lt_X} (x1 : Int32) (x2 : Int32) (I : Nat → Nat → Int32) (J : Nat → Nat → Int64) : am_G am_prog (N + 30) (d + 3) 270 [.ref 135, .int x1, .int x2] (mkh X I J) = RX9_like_0 N d (N + 30) X x1 x2 I J := fX9_like (N + 30) (d + 2) x1 x2 I J
def RX9_set_0 (N d n : Nat) (X : lt_X) (x1 : Int32) (x2 : Int32) (I : Nat → Nat → Int32) (J : Nat → Nat → Int64) : am_O := am_run (am_G am_prog (N + 30) (d + 2)) eX9_set uX9_set n 0 [(0, .ref 135), (1, .int x1), (2, .int x2)] [] (mkh X I J)
def KX9_set_0 (N d n : Nat) (a0 : Int32) (a1 : Int32) (z : Int32) (h : am_H) : am_O := if z = nI 0 then am_cI (am_G am_prog (N + 30) (d + 2) 188 [.ref 135, .int (nI 2)] h) (fun r2 h1 => some (.int r2, h1)) else am_cI (am_G am_prog (N + 30) (d + 2) 190 [.long a1.toInt64, .long (lN 0), .long (lN 2)] h) (fun r4 h3 => if r4 = nI 0 then am_cI (am_G am_prog (N + 30) (d + 2) 188 [.ref 135, .int (nI 5)] h3) (fun r6 h5 => some (.int r6, h5)) else am_gR h3 9 135 20 (fun y7 => am_lI h3 10 y7 (((nI 55) + ((nI 6) * a1)) + a0) (fun y8 => if y8 < nI 0 then am_cI (am_G am_prog (N + 30) (d + 2) 188 [.ref 135, .int (nI 8)] h3) (fun r10 h9 => some (.int r10, h9)) else some (.int y8, h3))))
def KX9_set_1 (N d n : Nat) (a0 : Int32) (a1 : Int32) (z : Int32) (h : am_H) : am_O := if z = nI 0 then am_cI (am_G am_prog (N + 30) (d + 2) 188 [.ref 135, .int (nI 5)] h) (fun r2 h1 => some (.int r2, h1)) else am_gR h 9 135 20 (fun y3 => am_lI h 10 y3 (((nI 55) + ((nI 6) * a1)) + a0) (fun y4 => if y4 < nI 0 then am_cI (am_G am_prog (N + 30) (d + 2) 188 [.ref 135, .int (nI 8)] h) (fun r6 h5 => some (.int r6, h5)) else some (.int y4, h)))
set_option maxHeartbeats 4000000 in
set_option maxRecDepth 100000 in
theorem sX9_set_0 (N d n : Nat) {X : lt_X} (x1 : Int32) (x2 : Int32) (I : Nat → Nat → Int32) (J : Nat → Nat → Int64) : RX9_set_0 N d (n + 1) X x1 x2 I J = am_cI (am_G am_prog (N + 30) (d + 2) 261 [.ref 135, .int x1] (mkh X (u2 (u2 I 135 1 (nI 0)) 135 0 (nI 0)) J)) (KX9_set_0 N d n x1 x2) := by
  rfl
set_option maxHeartbeats 4000000 in
set_option maxRecDepth 100000 in
theorem kX9_set_0 (N d n : Nat) {X : lt_X} (a0 : Int32) (a1 : Int32) (z : Int32) (I : Nat → Nat → Int32) (J : Nat → Nat → Int64) : KX9_set_0 N d n a0 a1 z (mkh X I J) = if z = nI 0 then some (.int (-1), (mkh X (u2 I 135 0 (nI 2)) J)) else am_cI (am_G am_prog (N + 30) (d + 2) 190 [.long a1.toInt64, .long (lN 0), .long (lN 2)] (mkh X I J)) (KX9_set_1 N d n a0 a1) := by
  rfl
set_option maxHeartbeats 4000000 in
set_option maxRecDepth 100000 in
theorem kX9_set_1 (N d n : Nat) {X : lt_X} (a0 : Int32) (a1 : Int32) (z : Int32) (I : Nat → Nat → Int32) (J : Nat → Nat → Int64) : KX9_set_1 N d n a0 a1 z (mkh X I J) = if z = nI 0 then some (.int (-1), (mkh X (u2 I 135 0 (nI 5)) J)) else if am_in (((nI 55) + ((nI 6) * a1)) + a0) 2145 then if (I 140 ((((nI 55) + ((nI 6) * a1)) + a0).toNatClampNeg)) < nI 0 then some (.int (-1), (mkh X (u2 I 135 0 (nI 8)) J)) else some (.int (I 140 ((((nI 55) + ((nI 6) * a1)) + a0).toNatClampNeg)), (mkh X I J)) else none := by
  rfl
theorem fX9_set (N d : Nat) {X : lt_X} (x1 : Int32) (x2 : Int32) (I : Nat → Nat → Int32) (J : Nat → Nat → Int64) : am_G am_prog N (d + 1) 271 [.ref 135, .int x1, .int x2] (mkh X I J) = am_run (am_G am_prog N d) eX9_set uX9_set N 0 [(0, .ref 135), (1, .int x1), (2, .int x2)] [] (mkh X I J) := by
  refine (am_G_at N d 271 mX9_set _ _ rfl).trans ?_
  rfl
theorem gX9_set (N d : Nat) {X : lt_X} (x1 : Int32) (x2 : Int32) (I : Nat → Nat → Int32) (J : Nat → Nat → Int64) : am_G am_prog (N + 30) (d + 3) 271 [.ref 135, .int x1, .int x2] (mkh X I J) = RX9_set_0 N d (N + 30) X x1 x2 I J := fX9_set (N + 30) (d + 2) x1 x2 I J
def RX9_placeOf_0 (N d n : Nat) (X : lt_X) (x1 : Int32) (x2 : Int32) (I : Nat → Nat → Int32) (J : Nat → Nat → Int64) : am_O := am_run (am_G am_prog (N + 30) (d + 0)) eX9_placeOf uX9_placeOf n 0 [(0, .ref 135), (1, .int x1), (2, .int x2)] [] (mkh X I J)
set_option maxHeartbeats 4000000 in
set_option maxRecDepth 100000 in
theorem sX9_placeOf_0 (N d n : Nat) {X : lt_X} (x1 : Int32) (x2 : Int32) (I : Nat → Nat → Int32) (J : Nat → Nat → Int64) : RX9_placeOf_0 N d (n + 1) X x1 x2 I J = if am_in ((nI 19) + x1) 2145 then am_nz (I 140 (((nI 19) + x1).toNatClampNeg)) (if am_in (((nI 73) + ((nI 8) * x1)) + (x2 - x2 / (I 140 (((nI 19) + x1).toNatClampNeg)) * (I 140 (((nI 19) + x1).toNatClampNeg)))) 2145 then some (.int (I 140 ((((nI 73) + ((nI 8) * x1)) + (x2 - x2 / (I 140 (((nI 19) + x1).toNatClampNeg)) * (I 140 (((nI 19) + x1).toNatClampNeg)))).toNatClampNeg)), (mkh X I J)) else none) else none := by
  rfl
theorem fX9_placeOf (N d : Nat) {X : lt_X} (x1 : Int32) (x2 : Int32) (I : Nat → Nat → Int32) (J : Nat → Nat → Int64) : am_G am_prog N (d + 1) 272 [.ref 135, .int x1, .int x2] (mkh X I J) = am_run (am_G am_prog N d) eX9_placeOf uX9_placeOf N 0 [(0, .ref 135), (1, .int x1), (2, .int x2)] [] (mkh X I J) := by
  refine (am_G_at N d 272 mX9_placeOf _ _ rfl).trans ?_
  rfl
theorem gX9_placeOf (N d : Nat) {X : lt_X} (x1 : Int32) (x2 : Int32) (I : Nat → Nat → Int32) (J : Nat → Nat → Int64) : am_G am_prog (N + 30) (d + 1) 272 [.ref 135, .int x1, .int x2] (mkh X I J) = RX9_placeOf_0 N d (N + 30) X x1 x2 I J := fX9_placeOf (N + 30) (d + 0) x1 x2 I J
def RX9_said_0 (N d n : Nat) (X : lt_X) (x1 : Int32) (x2 : Int32) (I : Nat → Nat → Int32) (J : Nat → Nat → Int64) : am_O := am_run (am_G am_prog (N + 30) (d + 0)) eX9_said uX9_said n 0 [(0, .ref 135), (1, .int x1), (2, .int x2)] [] (mkh X I J)
def KX9_said_0 (N d n : Nat) (z : Int32) (h : am_H) : am_O := some (.int z, h)
set_option maxHeartbeats 4000000 in
set_option maxRecDepth 100000 in
theorem sX9_said_0 (N d n : Nat) {X : lt_X} (x1 : Int32) (x2 : Int32) (I : Nat → Nat → Int32) (J : Nat → Nat → Int64) : RX9_said_0 N d (n + 1) X x1 x2 I J = if x1 < nI 0 then some (.int (-1), (mkh X I J)) else if am_in ((nI 25) + x1) 2145 then if (I 140 (((nI 25) + x1).toNatClampNeg)) = (nI 1) then if am_in ((nI 31) + x1) 2145 then if (I 140 (((nI 31) + x1).toNatClampNeg)) = nI 0 then am_cI (am_G am_prog (N + 30) (d + 0) 272 [.ref 135, .int x1, .int x2] (mkh X I J)) (KX9_said_0 N d n ) else some (.int (-1), (mkh X I J)) else none else some (.int (-1), (mkh X I J)) else none := by
  rfl
set_option maxHeartbeats 4000000 in
set_option maxRecDepth 100000 in
theorem kX9_said_0 (N d n : Nat) {X : lt_X} (z : Int32) (I : Nat → Nat → Int32) (J : Nat → Nat → Int64) : KX9_said_0 N d n z (mkh X I J) = some (.int z, (mkh X I J)) := by
  rfl
theorem fX9_said (N d : Nat) {X : lt_X} (x1 : Int32) (x2 : Int32) (I : Nat → Nat → Int32) (J : Nat → Nat → Int64) : am_G am_prog N (d + 1) 273 [.ref 135, .int x1, .int x2] (mkh X I J) = am_run (am_G am_prog N d) eX9_said uX9_said N 0 [(0, .ref 135), (1, .int x1), (2, .int x2)] [] (mkh X I J) := by
  refine (am_G_at N d 273 mX9_said _ _ rfl).trans ?_
  rfl
theorem gX9_said (N d : Nat) {X : lt_X} (x1 : Int32) (x2 : Int32) (I : Nat → Nat → Int32) (J : Nat → Nat → Int64) : am_G am_prog (N + 30) (d + 1) 273 [.ref 135, .int x1, .int x2] (mkh X I J) = RX9_said_0 N d (N + 30) X x1 x2 I J := fX9_said (N + 30) (d + 0) x1 x2 I J
def RX9_heardBy_0 (N d n : Nat) (X : lt_X) (x1 : Int32) (x2 : Int32) (I : Nat → Nat → Int32) (J : Nat → Nat → Int64) : am_O := am_run (am_G am_prog (N + 30) (d + 0)) eX9_heardBy uX9_heardBy n 0 [(0, .ref 135), (1, .int x1), (2, .int x2)] [] (mkh X I J)
def RX9_heardBy_42 (N d n : Nat) (X : lt_X) (x4 : Int32) (s0 : Int32) (I : Nat → Nat → Int32) (J : Nat → Nat → Int64) : am_O := am_run (am_G am_prog (N + 30) (d + 0)) eX9_heardBy uX9_heardBy n 42 [(4, .int x4)] [.int s0] (mkh X I J)
def KX9_heardBy_0 (N d n : Nat) (a0 : Int32) (a1 : Int32) (z : Int32) (h : am_H) : am_O := am_gR h 9 135 20 (fun y1 => am_lI h 10 y1 ((nI 61) + a0) (fun y2 => am_cI (am_G am_prog (N + 30) (d + 0) 273 [.ref 135, .int y2, .int a1] h) (fun r4 h3 => if z < nI 0 then am_run (am_G am_prog (N + 30) (d + 0)) eX9_heardBy uX9_heardBy n 42 [(4, .int r4)] [.int (nI 0)] h3 else am_run (am_G am_prog (N + 30) (d + 0)) eX9_heardBy uX9_heardBy n 42 [(4, .int r4)] [.int ((nI 1) <<< (z &&& 31))] h3)))
def KX9_heardBy_1 (N d n : Nat) (a0 : Int32) (z : Int32) (h : am_H) : am_O := if a0 < nI 0 then am_run (am_G am_prog (N + 30) (d + 0)) eX9_heardBy uX9_heardBy n 42 [(4, .int z)] [.int (nI 0)] h else am_run (am_G am_prog (N + 30) (d + 0)) eX9_heardBy uX9_heardBy n 42 [(4, .int z)] [.int ((nI 1) <<< (a0 &&& 31))] h
set_option maxHeartbeats 4000000 in
set_option maxRecDepth 100000 in
theorem sX9_heardBy_0 (N d n : Nat) {X : lt_X} (x1 : Int32) (x2 : Int32) (I : Nat → Nat → Int32) (J : Nat → Nat → Int64) : RX9_heardBy_0 N d (n + 1) X x1 x2 I J = if am_in ((nI 55) + x1) 2145 then am_cI (am_G am_prog (N + 30) (d + 0) 273 [.ref 135, .int (I 140 (((nI 55) + x1).toNatClampNeg)), .int x2] (mkh X I J)) (KX9_heardBy_0 N d n x1 x2) else none := by
  rfl
set_option maxHeartbeats 4000000 in
set_option maxRecDepth 100000 in
theorem sX9_heardBy_42 (N d n : Nat) {X : lt_X} (x4 : Int32) (s0 : Int32) (I : Nat → Nat → Int32) (J : Nat → Nat → Int64) : RX9_heardBy_42 N d (n + 1) X x4 s0 I J = if x4 < nI 0 then some (.int (s0 ||| (nI 0)), (mkh X I J)) else some (.int (s0 ||| ((nI 1) <<< (x4 &&& 31))), (mkh X I J)) := by
  rfl
set_option maxHeartbeats 4000000 in
set_option maxRecDepth 100000 in
theorem kX9_heardBy_0 (N d n : Nat) {X : lt_X} (a0 : Int32) (a1 : Int32) (z : Int32) (I : Nat → Nat → Int32) (J : Nat → Nat → Int64) : KX9_heardBy_0 N d n a0 a1 z (mkh X I J) = if am_in ((nI 61) + a0) 2145 then am_cI (am_G am_prog (N + 30) (d + 0) 273 [.ref 135, .int (I 140 (((nI 61) + a0).toNatClampNeg)), .int a1] (mkh X I J)) (KX9_heardBy_1 N d n z) else none := by
  rfl
set_option maxHeartbeats 4000000 in
set_option maxRecDepth 100000 in
theorem kX9_heardBy_1 (N d n : Nat) {X : lt_X} (a0 : Int32) (z : Int32) (I : Nat → Nat → Int32) (J : Nat → Nat → Int64) : KX9_heardBy_1 N d n a0 z (mkh X I J) = if a0 < nI 0 then RX9_heardBy_42 N d n X z (nI 0) I J else RX9_heardBy_42 N d n X z ((nI 1) <<< (a0 &&& 31)) I J := by
  rfl
theorem fX9_heardBy (N d : Nat) {X : lt_X} (x1 : Int32) (x2 : Int32) (I : Nat → Nat → Int32) (J : Nat → Nat → Int64) : am_G am_prog N (d + 1) 274 [.ref 135, .int x1, .int x2] (mkh X I J) = am_run (am_G am_prog N d) eX9_heardBy uX9_heardBy N 0 [(0, .ref 135), (1, .int x1), (2, .int x2)] [] (mkh X I J) := by
  refine (am_G_at N d 274 mX9_heardBy _ _ rfl).trans ?_
  rfl
theorem gX9_heardBy (N d : Nat) {X : lt_X} (x1 : Int32) (x2 : Int32) (I : Nat → Nat → Int32) (J : Nat → Nat → Int64) : am_G am_prog (N + 30) (d + 1) 274 [.ref 135, .int x1, .int x2] (mkh X I J) = RX9_heardBy_0 N d (N + 30) X x1 x2 I J := fX9_heardBy (N + 30) (d + 0) x1 x2 I J
def RX9_heard_0 (N d n : Nat) (X : lt_X) (x1 : Int32) (x2 : Int32) (I : Nat → Nat → Int32) (J : Nat → Nat → Int64) : am_O := am_run (am_G am_prog (N + 30) (d + 0)) eX9_heard uX9_heard n 0 [(0, .ref 135), (1, .int x1), (2, .int x2)] [] (mkh X I J)
def RX9_heard_5 (N d n : Nat) (X : lt_X) (x1 : Int32) (x2 : Int32) (x3 : Int32) (x4 : Int32) (I : Nat → Nat → Int32) (J : Nat → Nat → Int64) : am_O := am_run (am_G am_prog (N + 30) (d + 0)) eX9_heard uX9_heard n 5 [(0, .ref 135), (1, .int x1), (2, .int x2), (3, .int x3), (4, .int x4)] [] (mkh X I J)
def KX9_heard_0 (N d n : Nat) (a0 : Int32) (a1 : Int32) (a2 : Int32) (a3 : Int32) (z : Int32) (h : am_H) : am_O := am_run (am_G am_prog (N + 30) (d + 0)) eX9_heard uX9_heard n 5 [(0, .ref 135), (1, .int a0), (2, .int a1), (3, .int (a3 ||| z)), (4, .int (a2 + (nI 1)))] [] h
set_option maxHeartbeats 4000000 in
set_option maxRecDepth 100000 in
theorem sX9_heard_0 (N d n : Nat) {X : lt_X} (x1 : Int32) (x2 : Int32) (I : Nat → Nat → Int32) (J : Nat → Nat → Int64) : RX9_heard_0 N d (n + 1) X x1 x2 I J = RX9_heard_5 N d n X x1 x2 (nI 0) (nI 0) I J := by
  rfl
set_option maxHeartbeats 4000000 in
set_option maxRecDepth 100000 in
theorem sX9_heard_5 (N d n : Nat) {X : lt_X} (x1 : Int32) (x2 : Int32) (x3 : Int32) (x4 : Int32) (I : Nat → Nat → Int32) (J : Nat → Nat → Int64) : RX9_heard_5 N d (n + 1) X x1 x2 x3 x4 I J = if x4 < (I 140 3) then if am_in ((nI 67) + x4) 2145 then if (I 140 (((nI 67) + x4).toNatClampNeg)) = x1 then am_cI (am_G am_prog (N + 30) (d + 0) 274 [.ref 135, .int x4, .int x2] (mkh X I J)) (KX9_heard_0 N d n x1 x2 x4 x3) else RX9_heard_5 N d n X x1 x2 (x3 ||| (nI 0)) (x4 + (nI 1)) I J else none else some (.int x3, (mkh X I J)) := by
  rfl
set_option maxHeartbeats 4000000 in
set_option maxRecDepth 100000 in
theorem kX9_heard_0 (N d n : Nat) {X : lt_X} (a0 : Int32) (a1 : Int32) (a2 : Int32) (a3 : Int32) (z : Int32) (I : Nat → Nat → Int32) (J : Nat → Nat → Int64) : KX9_heard_0 N d n a0 a1 a2 a3 z (mkh X I J) = RX9_heard_5 N d n X a0 a1 (a3 ||| z) (a2 + (nI 1)) I J := by
  rfl
theorem fX9_heard (N d : Nat) {X : lt_X} (x1 : Int32) (x2 : Int32) (I : Nat → Nat → Int32) (J : Nat → Nat → Int64) : am_G am_prog N (d + 1) 275 [.ref 135, .int x1, .int x2] (mkh X I J) = am_run (am_G am_prog N d) eX9_heard uX9_heard N 0 [(0, .ref 135), (1, .int x1), (2, .int x2)] [] (mkh X I J) := by
  refine (am_G_at N d 275 mX9_heard _ _ rfl).trans ?_
  rfl
theorem gX9_heard (N d : Nat) {X : lt_X} (x1 : Int32) (x2 : Int32) (I : Nat → Nat → Int32) (J : Nat → Nat → Int64) : am_G am_prog (N + 30) (d + 1) 275 [.ref 135, .int x1, .int x2] (mkh X I J) = RX9_heard_0 N d (N + 30) X x1 x2 I J := fX9_heard (N + 30) (d + 0) x1 x2 I J
def RX9_liked_0 (N d n : Nat) (X : lt_X) (x1 : Int32) (x2 : Int32) (I : Nat → Nat → Int32) (J : Nat → Nat → Int64) : am_O := am_run (am_G am_prog (N + 30) (d + 1)) eX9_liked uX9_liked n 0 [(0, .ref 135), (1, .int x1), (2, .int x2)] [] (mkh X I J)
def RX9_liked_5 (N d n : Nat) (X : lt_X) (x1 : Int32) (x2 : Int32) (x3 : Int32) (x4 : Int32) (I : Nat → Nat → Int32) (J : Nat → Nat → Int64) : am_O := am_run (am_G am_prog (N + 30) (d + 1)) eX9_liked uX9_liked n 5 [(0, .ref 135), (1, .int x1), (2, .int x2), (3, .int x3), (4, .int x4)] [] (mkh X I J)
def KX9_liked_0 (N d n : Nat) (a0 : Int32) (a1 : Int32) (a2 : Int32) (a3 : Int32) (z : Int32) (h : am_H) : am_O := if z = nI 0 then am_run (am_G am_prog (N + 30) (d + 1)) eX9_liked uX9_liked n 5 [(0, .ref 135), (1, .int a0), (2, .int a1), (3, .int (a3 + (nI 0))), (4, .int (a2 + (nI 1)))] [] h else am_cI (am_G am_prog (N + 30) (d + 1) 269 [.ref 135, .int a0, .int a2] h) (fun r2 h1 => am_run (am_G am_prog (N + 30) (d + 1)) eX9_liked uX9_liked n 5 [(0, .ref 135), (1, .int a0), (2, .int a1), (3, .int (a3 + r2)), (4, .int (a2 + (nI 1)))] [] h1)
def KX9_liked_1 (N d n : Nat) (a0 : Int32) (a1 : Int32) (a2 : Int32) (a3 : Int32) (z : Int32) (h : am_H) : am_O := am_run (am_G am_prog (N + 30) (d + 1)) eX9_liked uX9_liked n 5 [(0, .ref 135), (1, .int a0), (2, .int a1), (3, .int (a3 + z)), (4, .int (a2 + (nI 1)))] [] h
set_option maxHeartbeats 4000000 in
set_option maxRecDepth 100000 in
theorem sX9_liked_0 (N d n : Nat) {X : lt_X} (x1 : Int32) (x2 : Int32) (I : Nat → Nat → Int32) (J : Nat → Nat → Int64) : RX9_liked_0 N d (n + 1) X x1 x2 I J = RX9_liked_5 N d n X x1 x2 (nI 0) (nI 0) I J := by
  rfl
set_option maxHeartbeats 4000000 in
set_option maxRecDepth 100000 in
theorem sX9_liked_5 (N d n : Nat) {X : lt_X} (x1 : Int32) (x2 : Int32) (x3 : Int32) (x4 : Int32) (I : Nat → Nat → Int32) (J : Nat → Nat → Int64) : RX9_liked_5 N d (n + 1) X x1 x2 x3 x4 I J = if x4 < (I 140 0) then am_cI (am_G am_prog (N + 30) (d + 1) 201 [.int x2, .int x4] (mkh X I J)) (KX9_liked_0 N d n x1 x2 x4 x3) else some (.int x3, (mkh X I J)) := by
  rfl
set_option maxHeartbeats 4000000 in
set_option maxRecDepth 100000 in
theorem kX9_liked_0 (N d n : Nat) {X : lt_X} (a0 : Int32) (a1 : Int32) (a2 : Int32) (a3 : Int32) (z : Int32) (I : Nat → Nat → Int32) (J : Nat → Nat → Int64) : KX9_liked_0 N d n a0 a1 a2 a3 z (mkh X I J) = if z = nI 0 then RX9_liked_5 N d n X a0 a1 (a3 + (nI 0)) (a2 + (nI 1)) I J else am_cI (am_G am_prog (N + 30) (d + 1) 269 [.ref 135, .int a0, .int a2] (mkh X I J)) (KX9_liked_1 N d n a0 a1 a2 a3) := by
  rfl
set_option maxHeartbeats 4000000 in
set_option maxRecDepth 100000 in
theorem kX9_liked_1 (N d n : Nat) {X : lt_X} (a0 : Int32) (a1 : Int32) (a2 : Int32) (a3 : Int32) (z : Int32) (I : Nat → Nat → Int32) (J : Nat → Nat → Int64) : KX9_liked_1 N d n a0 a1 a2 a3 z (mkh X I J) = RX9_liked_5 N d n X a0 a1 (a3 + z) (a2 + (nI 1)) I J := by
  rfl
theorem fX9_liked (N d : Nat) {X : lt_X} (x1 : Int32) (x2 : Int32) (I : Nat → Nat → Int32) (J : Nat → Nat → Int64) : am_G am_prog N (d + 1) 276 [.ref 135, .int x1, .int x2] (mkh X I J) = am_run (am_G am_prog N d) eX9_liked uX9_liked N 0 [(0, .ref 135), (1, .int x1), (2, .int x2)] [] (mkh X I J) := by
  refine (am_G_at N d 276 mX9_liked _ _ rfl).trans ?_
  rfl
theorem gX9_liked (N d : Nat) {X : lt_X} (x1 : Int32) (x2 : Int32) (I : Nat → Nat → Int32) (J : Nat → Nat → Int64) : am_G am_prog (N + 30) (d + 2) 276 [.ref 135, .int x1, .int x2] (mkh X I J) = RX9_liked_0 N d (N + 30) X x1 x2 I J := fX9_liked (N + 30) (d + 1) x1 x2 I J
def RX9_goesHour_0 (N d n : Nat) (X : lt_X) (I : Nat → Nat → Int32) (J : Nat → Nat → Int64) : am_O := am_run (am_G am_prog (N + 30) (d + 0)) eX9_goesHour uX9_goesHour n 0 [(0, .ref 135)] [] (mkh X I J)
def RX9_goesHour_4 (N d n : Nat) (X : lt_X) (x1 : Int32) (x2 : Int32) (I : Nat → Nat → Int32) (J : Nat → Nat → Int64) : am_O := am_run (am_G am_prog (N + 30) (d + 0)) eX9_goesHour uX9_goesHour n 4 [(0, .ref 135), (1, .int x1), (2, .int x2)] [] (mkh X I J)
def RX9_goesHour_63 (N d n : Nat) (X : lt_X) (x1 : Int32) (x2 : Int32) (x3 : Int32) (s0 : Int32) (s1 : Int32) (s2 : Int32) (s3 : Nat) (I : Nat → Nat → Int32) (J : Nat → Nat → Int64) : am_O := am_run (am_G am_prog (N + 30) (d + 0)) eX9_goesHour uX9_goesHour n 63 [(0, .ref 135), (1, .int x1), (2, .int x2), (3, .int x3)] [.int s0, .int s1, .int s2, .ref s3] (mkh X I J)
def KX9_goesHour_0 (N d n : Nat) (a0 : Int32) (a1 : Int32) (z : Int32) (h : am_H) : am_O := am_gR h 9 135 20 (fun y1 => am_lI h 10 y1 ((nI 43) + a1) (fun y2 => am_cI (am_G am_prog (N + 30) (d + 0) 276 [.ref 135, .int a1, .int z] h) (fun r4 h3 => am_tI h3 y1 ((nI 43) + a1) (y2 + r4) (fun h5 => am_gR h5 9 135 20 (fun y6 => am_lI h5 10 y6 ((nI 49) + a1) (fun y7 => if z = nI 0 then am_run (am_G am_prog (N + 30) (d + 0)) eX9_goesHour uX9_goesHour n 63 [(0, .ref 135), (1, .int a0), (2, .int a1), (3, .int z)] [.int (nI 1), .int y7, .int ((nI 49) + a1), .ref y6] h5 else am_run (am_G am_prog (N + 30) (d + 0)) eX9_goesHour uX9_goesHour n 63 [(0, .ref 135), (1, .int a0), (2, .int a1), (3, .int z)] [.int (nI 0), .int y7, .int ((nI 49) + a1), .ref y6] h5))))))
def KX9_goesHour_1 (N d n : Nat) (a0 : Int32) (a1 : Int32) (a2 : Int32) (a3 : Int32) (a4 : Int32) (z : Int32) (h : am_H) : am_O := am_tI h 140 a4 (a3 + z) (fun h1 => am_gR h1 9 135 20 (fun y2 => am_lI h1 10 y2 ((nI 49) + a2) (fun y3 => if a0 = nI 0 then am_run (am_G am_prog (N + 30) (d + 0)) eX9_goesHour uX9_goesHour n 63 [(0, .ref 135), (1, .int a1), (2, .int a2), (3, .int a0)] [.int (nI 1), .int y3, .int ((nI 49) + a2), .ref y2] h1 else am_run (am_G am_prog (N + 30) (d + 0)) eX9_goesHour uX9_goesHour n 63 [(0, .ref 135), (1, .int a1), (2, .int a2), (3, .int a0)] [.int (nI 0), .int y3, .int ((nI 49) + a2), .ref y2] h1)))
set_option maxHeartbeats 4000000 in
set_option maxRecDepth 100000 in
theorem sX9_goesHour_0 (N d n : Nat) {X : lt_X} (I : Nat → Nat → Int32) (J : Nat → Nat → Int64) : RX9_goesHour_0 N d (n + 1) X I J = RX9_goesHour_4 N d n X (nI 0) (nI 0) I J := by
  rfl
set_option maxHeartbeats 4000000 in
set_option maxRecDepth 100000 in
theorem sX9_goesHour_4 (N d n : Nat) {X : lt_X} (x1 : Int32) (x2 : Int32) (I : Nat → Nat → Int32) (J : Nat → Nat → Int64) : RX9_goesHour_4 N d (n + 1) X x1 x2 I J = if x2 < (I 140 2) then am_cI (am_G am_prog (N + 30) (d + 0) 275 [.ref 135, .int x2, .int (I 140 5)] (mkh X I J)) (KX9_goesHour_0 N d n x1 x2) else some (.int x1, (mkh X (u2 I 140 5 ((I 140 5) + (nI 1))) J)) := by
  rfl
set_option maxHeartbeats 4000000 in
set_option maxRecDepth 100000 in
theorem sX9_goesHour_63 (N d n : Nat) {X : lt_X} (x1 : Int32) (x2 : Int32) (x3 : Int32) (s0 : Int32) (s1 : Int32) (s2 : Int32) (s3 : Nat) (I : Nat → Nat → Int32) (J : Nat → Nat → Int64) : RX9_goesHour_63 N d (n + 1) X x1 x2 x3 s0 s1 s2 s3 I J = am_tI (mkh X I J) s3 s2 (s1 + s0) (fun h1 => am_cI (am_G am_prog (N + 30) (d + 0) 276 [.ref 135, .int x2, .int x3] h1) (fun r3 h2 => am_run (am_G am_prog (N + 30) (d + 0)) eX9_goesHour uX9_goesHour n 4 [(0, .ref 135), (1, .int (x1 + r3)), (2, .int (x2 + (nI 1)))] [] h2)) := by
  rfl
set_option maxHeartbeats 4000000 in
set_option maxRecDepth 100000 in
theorem kX9_goesHour_0 (N d n : Nat) {X : lt_X} (a0 : Int32) (a1 : Int32) (z : Int32) (I : Nat → Nat → Int32) (J : Nat → Nat → Int64) : KX9_goesHour_0 N d n a0 a1 z (mkh X I J) = if am_in ((nI 43) + a1) 2145 then am_cI (am_G am_prog (N + 30) (d + 0) 276 [.ref 135, .int a1, .int z] (mkh X I J)) (KX9_goesHour_1 N d n z a0 a1 (I 140 (((nI 43) + a1).toNatClampNeg)) ((nI 43) + a1)) else none := by
  rfl
theorem fX9_goesHour (N d : Nat) {X : lt_X} (I : Nat → Nat → Int32) (J : Nat → Nat → Int64) : am_G am_prog N (d + 1) 277 [.ref 135] (mkh X I J) = am_run (am_G am_prog N d) eX9_goesHour uX9_goesHour N 0 [(0, .ref 135)] [] (mkh X I J) := by
  refine (am_G_at N d 277 mX9_goesHour _ _ rfl).trans ?_
  rfl
theorem gX9_goesHour (N d : Nat) {X : lt_X} (I : Nat → Nat → Int32) (J : Nat → Nat → Int64) : am_G am_prog (N + 30) (d + 1) 277 [.ref 135] (mkh X I J) = RX9_goesHour_0 N d (N + 30) X I J := fX9_goesHour (N + 30) (d + 0) I J
def RX9_hour_0 (N d n : Nat) (X : lt_X) (x1 : Int32) (I : Nat → Nat → Int32) (J : Nat → Nat → Int64) : am_O := am_run (am_G am_prog (N + 30) (d + 1)) eX9_hour uX9_hour n 0 [(0, .ref 135), (1, .int x1)] [] (mkh X I J)
def RX9_hour_53 (N d n : Nat) (X : lt_X) (x1 : Int32) (x2 : Int32) (x3 : Int32) (I : Nat → Nat → Int32) (J : Nat → Nat → Int64) : am_O := am_run (am_G am_prog (N + 30) (d + 1)) eX9_hour uX9_hour n 53 [(0, .ref 135), (1, .int x1), (2, .int x2), (3, .int x3)] [] (mkh X I J)
def KX9_hour_0 (N d n : Nat) (a0 : Int32) (z : Int32) (h : am_H) : am_O := if z = nI 0 then am_cI (am_G am_prog (N + 30) (d + 1) 188 [.ref 135, .int (nI 5)] h) (fun r2 h1 => some (.int r2, h1)) else am_gR h 9 135 20 (fun y3 => am_lI h 10 y3 (nI 5) (fun y4 => if (nI 9999) < (y4 + a0) then am_cI (am_G am_prog (N + 30) (d + 1) 188 [.ref 135, .int (nI 7)] h) (fun r6 h5 => some (.int r6, h5)) else am_run (am_G am_prog (N + 30) (d + 1)) eX9_hour uX9_hour n 53 [(0, .ref 135), (1, .int a0), (2, .int (nI 0)), (3, .int (nI 0))] [] h))
def KX9_hour_1 (N d n : Nat) (a0 : Int32) (a1 : Int32) (a2 : Int32) (z : Int32) (h : am_H) : am_O := am_run (am_G am_prog (N + 30) (d + 1)) eX9_hour uX9_hour n 53 [(0, .ref 135), (1, .int a0), (2, .int (a2 + z)), (3, .int (a1 + (nI 1)))] [] h
set_option maxHeartbeats 4000000 in
set_option maxRecDepth 100000 in
theorem sX9_hour_0 (N d n : Nat) {X : lt_X} (x1 : Int32) (I : Nat → Nat → Int32) (J : Nat → Nat → Int64) : RX9_hour_0 N d (n + 1) X x1 I J = am_cI (am_G am_prog (N + 30) (d + 1) 190 [.long x1.toInt64, .long (lN 1), .long (lN 99)] (mkh X (u2 (u2 I 135 1 (nI 0)) 135 0 (nI 0)) J)) (KX9_hour_0 N d n x1) := by
  rfl
set_option maxHeartbeats 4000000 in
set_option maxRecDepth 100000 in
theorem sX9_hour_53 (N d n : Nat) {X : lt_X} (x1 : Int32) (x2 : Int32) (x3 : Int32) (I : Nat → Nat → Int32) (J : Nat → Nat → Int64) : RX9_hour_53 N d (n + 1) X x1 x2 x3 I J = if x3 < x1 then am_cI (am_G am_prog (N + 30) (d + 1) 277 [.ref 135] (mkh X I J)) (KX9_hour_1 N d n x1 x3 x2) else some (.int x2, (mkh X I J)) := by
  rfl
set_option maxHeartbeats 4000000 in
set_option maxRecDepth 100000 in
theorem kX9_hour_0 (N d n : Nat) {X : lt_X} (a0 : Int32) (z : Int32) (I : Nat → Nat → Int32) (J : Nat → Nat → Int64) : KX9_hour_0 N d n a0 z (mkh X I J) = if z = nI 0 then some (.int (-1), (mkh X (u2 I 135 0 (nI 5)) J)) else if (nI 9999) < ((I 140 5) + a0) then some (.int (-1), (mkh X (u2 I 135 0 (nI 7)) J)) else RX9_hour_53 N d n X a0 (nI 0) (nI 0) I J := by
  rfl
set_option maxHeartbeats 4000000 in
set_option maxRecDepth 100000 in
theorem kX9_hour_1 (N d n : Nat) {X : lt_X} (a0 : Int32) (a1 : Int32) (a2 : Int32) (z : Int32) (I : Nat → Nat → Int32) (J : Nat → Nat → Int64) : KX9_hour_1 N d n a0 a1 a2 z (mkh X I J) = RX9_hour_53 N d n X a0 (a2 + z) (a1 + (nI 1)) I J := by
  rfl
theorem fX9_hour (N d : Nat) {X : lt_X} (x1 : Int32) (I : Nat → Nat → Int32) (J : Nat → Nat → Int64) : am_G am_prog N (d + 1) 278 [.ref 135, .int x1] (mkh X I J) = am_run (am_G am_prog N d) eX9_hour uX9_hour N 0 [(0, .ref 135), (1, .int x1)] [] (mkh X I J) := by
  refine (am_G_at N d 278 mX9_hour _ _ rfl).trans ?_
  rfl
theorem gX9_hour (N d : Nat) {X : lt_X} (x1 : Int32) (I : Nat → Nat → Int32) (J : Nat → Nat → Int64) : am_G am_prog (N + 30) (d + 2) 278 [.ref 135, .int x1] (mkh X I J) = RX9_hour_0 N d (N + 30) X x1 I J := fX9_hour (N + 30) (d + 1) x1 I J
def RX9_goesYear_0 (N d n : Nat) (X : lt_X) (I : Nat → Nat → Int32) (J : Nat → Nat → Int64) : am_O := am_run (am_G am_prog (N + 30) (d + 0)) eX9_goesYear uX9_goesYear n 0 [(0, .ref 135)] [] (mkh X I J)
def RX9_goesYear_4 (N d n : Nat) (X : lt_X) (x1 : Int32) (x2 : Int32) (I : Nat → Nat → Int32) (J : Nat → Nat → Int64) : am_O := am_run (am_G am_prog (N + 30) (d + 0)) eX9_goesYear uX9_goesYear n 4 [(0, .ref 135), (1, .int x1), (2, .int x2)] [] (mkh X I J)
set_option maxHeartbeats 4000000 in
set_option maxRecDepth 100000 in
theorem sX9_goesYear_0 (N d n : Nat) {X : lt_X} (I : Nat → Nat → Int32) (J : Nat → Nat → Int64) : RX9_goesYear_0 N d (n + 1) X I J = RX9_goesYear_4 N d n X (nI 0) (nI 0) I J := by
  rfl
set_option maxHeartbeats 4000000 in
set_option maxRecDepth 100000 in
theorem sX9_goesYear_4 (N d n : Nat) {X : lt_X} (x1 : Int32) (x2 : Int32) (I : Nat → Nat → Int32) (J : Nat → Nat → Int64) : RX9_goesYear_4 N d (n + 1) X x1 x2 I J = if x2 < (I 140 1) then if am_in ((nI 25) + x2) 2145 then if (I 140 (((nI 25) + x2).toNatClampNeg)) = nI 0 then RX9_goesYear_4 N d n X x1 (x2 + (nI 1)) I J else if am_in ((nI 7) + x2) 2145 then if am_in ((nI 7) + x2) 2145 then if am_in ((nI 7) + x2) 2145 then if am_in ((nI 13) + x2) 2145 then if ((u2 I 140 (((nI 7) + x2).toNatClampNeg) ((I 140 (((nI 7) + x2).toNatClampNeg)) + (nI 1))) 140 (((nI 7) + x2).toNatClampNeg)) < ((u2 I 140 (((nI 7) + x2).toNatClampNeg) ((I 140 (((nI 7) + x2).toNatClampNeg)) + (nI 1))) 140 (((nI 13) + x2).toNatClampNeg)) then RX9_goesYear_4 N d n X x1 (x2 + (nI 1)) (u2 I 140 (((nI 7) + x2).toNatClampNeg) ((I 140 (((nI 7) + x2).toNatClampNeg)) + (nI 1))) J else if am_in ((nI 25) + x2) 2145 then RX9_goesYear_4 N d n X (x1 ||| ((nI 1) <<< (x2 &&& 31))) (x2 + (nI 1)) (u2 (u2 I 140 (((nI 7) + x2).toNatClampNeg) ((I 140 (((nI 7) + x2).toNatClampNeg)) + (nI 1))) 140 (((nI 25) + x2).toNatClampNeg) (nI 0)) J else none else none else none else none else none else none else some (.int x1, (mkh X (u2 I 140 6 ((I 140 6) + (nI 1))) J)) := by
  rfl
theorem fX9_goesYear (N d : Nat) {X : lt_X} (I : Nat → Nat → Int32) (J : Nat → Nat → Int64) : am_G am_prog N (d + 1) 279 [.ref 135] (mkh X I J) = am_run (am_G am_prog N d) eX9_goesYear uX9_goesYear N 0 [(0, .ref 135)] [] (mkh X I J) := by
  refine (am_G_at N d 279 mX9_goesYear _ _ rfl).trans ?_
  rfl
theorem gX9_goesYear (N d : Nat) {X : lt_X} (I : Nat → Nat → Int32) (J : Nat → Nat → Int64) : am_G am_prog (N + 30) (d + 1) 279 [.ref 135] (mkh X I J) = RX9_goesYear_0 N d (N + 30) X I J := fX9_goesYear (N + 30) (d + 0) I J
