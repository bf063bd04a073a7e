/-! printed by wip/whole/eqs4.py (sym4.py) -/
def RX8_status_0 (N d n : Nat) (X : lt_X) (I : Nat → Nat → Int32) (J : Nat → Nat → Int64) : am_O := am_run (am_G am_prog (N + 30) (d + 0)) eX8_status uX8_status n 0 [(0, .ref 3)] [] (mkh X I J)
set_option maxHeartbeats 4000000 in
set_option maxRecDepth 100000 in
theorem sX8_status_0 (N d n : Nat) {X : lt_X} (hX : hsX X) (I : Nat → Nat → Int32) (J : Nat → Nat → Int64) : RX8_status_0 N d (n + 1) X I J = some (.int (I 3 15), (mkh X I J)) := by
  obtain ⟨L, he, sp, t1, t2⟩ := X
  rcases hX with ⟨h1, h2⟩ | ⟨h1, h2⟩ <;> (change he = _ at h1; change sp = _ at h2; subst h1; subst h2) <;> rfl
theorem fX8_status (N d : Nat) {X : lt_X} (I : Nat → Nat → Int32) (J : Nat → Nat → Int64) : am_G am_prog N (d + 1) 110 [.ref 3] (mkh X I J) = am_run (am_G am_prog N d) eX8_status uX8_status N 0 [(0, .ref 3)] [] (mkh X I J) := by
  refine (am_G_at N d 110 mX8_status _ _ rfl).trans ?_
  rfl
theorem gX8_status (N d : Nat) {X : lt_X} (I : Nat → Nat → Int32) (J : Nat → Nat → Int64) : am_G am_prog (N + 30) (d + 1) 110 [.ref 3] (mkh X I J) = RX8_status_0 N d (N + 30) X I J := fX8_status (N + 30) (d + 0) I J
def RX8_top_0 (N d n : Nat) (X : lt_X) (I : Nat → Nat → Int32) (J : Nat → Nat → Int64) : am_O := am_run (am_G am_prog (N + 30) (d + 0)) eX8_top uX8_top n 0 [(0, .ref 3)] [] (mkh X I J)
set_option maxHeartbeats 4000000 in
set_option maxRecDepth 100000 in
theorem sX8_top_0 (N d n : Nat) {X : lt_X} (hX : hsX X) (I : Nat → Nat → Int32) (J : Nat → Nat → Int64) : RX8_top_0 N d (n + 1) X I J = some (.long (J 3 16), (mkh X I J)) := by
  obtain ⟨L, he, sp, t1, t2⟩ := X
  rcases hX with ⟨h1, h2⟩ | ⟨h1, h2⟩ <;> (change he = _ at h1; change sp = _ at h2; subst h1; subst h2) <;> rfl
theorem fX8_top (N d : Nat) {X : lt_X} (I : Nat → Nat → Int32) (J : Nat → Nat → Int64) : am_G am_prog N (d + 1) 111 [.ref 3] (mkh X I J) = am_run (am_G am_prog N d) eX8_top uX8_top N 0 [(0, .ref 3)] [] (mkh X I J) := by
  refine (am_G_at N d 111 mX8_top _ _ rfl).trans ?_
  rfl
theorem gX8_top (N d : Nat) {X : lt_X} (I : Nat → Nat → Int32) (J : Nat → Nat → Int64) : am_G am_prog (N + 30) (d + 1) 111 [.ref 3] (mkh X I J) = RX8_top_0 N d (N + 30) X I J := fX8_top (N + 30) (d + 0) I J
def RX8_bottom_0 (N d n : Nat) (X : lt_X) (I : Nat → Nat → Int32) (J : Nat → Nat → Int64) : am_O := am_run (am_G am_prog (N + 30) (d + 0)) eX8_bottom uX8_bottom n 0 [(0, .ref 3)] [] (mkh X I J)
set_option maxHeartbeats 4000000 in
set_option maxRecDepth 100000 in
theorem sX8_bottom_0 (N d n : Nat) {X : lt_X} (hX : hsX X) (I : Nat → Nat → Int32) (J : Nat → Nat → Int64) : RX8_bottom_0 N d (n + 1) X I J = some (.long (J 3 17), (mkh X I J)) := by
  obtain ⟨L, he, sp, t1, t2⟩ := X
  rcases hX with ⟨h1, h2⟩ | ⟨h1, h2⟩ <;> (change he = _ at h1; change sp = _ at h2; subst h1; subst h2) <;> rfl
theorem fX8_bottom (N d : Nat) {X : lt_X} (I : Nat → Nat → Int32) (J : Nat → Nat → Int64) : am_G am_prog N (d + 1) 112 [.ref 3] (mkh X I J) = am_run (am_G am_prog N d) eX8_bottom uX8_bottom N 0 [(0, .ref 3)] [] (mkh X I J) := by
  refine (am_G_at N d 112 mX8_bottom _ _ rfl).trans ?_
  rfl
theorem gX8_bottom (N d : Nat) {X : lt_X} (I : Nat → Nat → Int32) (J : Nat → Nat → Int64) : am_G am_prog (N + 30) (d + 1) 112 [.ref 3] (mkh X I J) = RX8_bottom_0 N d (N + 30) X I J := fX8_bottom (N + 30) (d + 0) I J
def RX8_tray_0 (N d n : Nat) (X : lt_X) (x1 : Int32) (x2 : Int32) (x3 : Int32) (I : Nat → Nat → Int32) (J : Nat → Nat → Int64) : am_O := am_run (am_G am_prog (N + 30) (d + 1)) eX8_tray uX8_tray n 0 [(0, .ref 3), (1, .int x1), (2, .int x2), (3, .int x3)] [] (mkh X I J)
def KX8_tray_0 (N d n : Nat) (a0 : Int32) (a1 : Int32) (a2 : Int32) (z : Int32) (h : am_H) : am_O := if z = nI 0 then am_cI (am_G am_prog (N + 30) (d + 1) 183 [.ref 3, .int (nI 1)] h) (fun r2 h1 => am_nb r2 (some (.int r2, h1))) else if a1 < nI 0 then am_cI (am_G am_prog (N + 30) (d + 1) 183 [.ref 3, .int (nI 1)] h) (fun r4 h3 => am_nb r4 (some (.int r4, h3))) else if (nI 3) < a1 then am_cI (am_G am_prog (N + 30) (d + 1) 183 [.ref 3, .int (nI 1)] h) (fun r6 h5 => am_nb r6 (some (.int r6, h5))) else if (nI 60) < a2 then am_cI (am_G am_prog (N + 30) (d + 1) 183 [.ref 3, .int (nI 5)] h) (fun r8 h7 => am_nb r8 (some (.int r8, h7))) else if a2 < nI 0 then am_cI (am_G am_prog (N + 30) (d + 1) 183 [.ref 3, .int (nI 6)] h) (fun r10 h9 => am_nb r10 (some (.int r10, h9))) else am_gR h 8 3 0 (fun y11 => am_lR h 13 y11 a0 (fun y12 => am_cV (am_G am_prog (N + 30) (d + 1) 106 [.ref y12, .int a1, .int a2] h) (fun h13 => am_cI (am_G am_prog (N + 30) (d + 1) 182 [.ref 3] h13) (fun r15 h14 => am_nb r15 (some (.int r15, h14))))))
def KX8_tray_1 (N d n : Nat) (h : am_H) : am_O := am_cI (am_G am_prog (N + 30) (d + 1) 182 [.ref 3] h) (fun r2 h1 => am_nb r2 (some (.int r2, h1)))
set_option maxHeartbeats 4000000 in
set_option maxRecDepth 100000 in
theorem sX8_tray_0 (N d n : Nat) {X : lt_X} (hX : hsX X) (x1 : Int32) (x2 : Int32) (x3 : Int32) (I : Nat → Nat → Int32) (J : Nat → Nat → Int64) : RX8_tray_0 N d (n + 1) X x1 x2 x3 I J = am_cI (am_G am_prog (N + 30) (d + 1) 117 [.int x1] (mkh X I J)) (KX8_tray_0 N d n x1 x2 x3) := by
  obtain ⟨L, he, sp, t1, t2⟩ := X
  rcases hX with ⟨h1, h2⟩ | ⟨h1, h2⟩ <;> (change he = _ at h1; change sp = _ at h2; subst h1; subst h2) <;> rfl
set_option maxHeartbeats 4000000 in
set_option maxRecDepth 100000 in
theorem kX8_tray_0 (N d n : Nat) {X : lt_X} (hX : hsX X) (a0 : Int32) (a1 : Int32) (a2 : Int32) (z : Int32) (I : Nat → Nat → Int32) (J : Nat → Nat → Int64) : KX8_tray_0 N d n a0 a1 a2 z (mkh X I J) = if z = nI 0 then some (.int (nI 0), (mkh X (u2 I 3 15 (nI 1)) J)) else if a1 < nI 0 then some (.int (nI 0), (mkh X (u2 I 3 15 (nI 1)) J)) else if (nI 3) < a1 then some (.int (nI 0), (mkh X (u2 I 3 15 (nI 1)) J)) else if (nI 60) < a2 then some (.int (nI 0), (mkh X (u2 I 3 15 (nI 5)) J)) else if a2 < nI 0 then some (.int (nI 0), (mkh X (u2 I 3 15 (nI 6)) J)) else am_lR (mkh X I J) 13 4 a0 (fun y1 => am_cV (am_G am_prog (N + 30) (d + 1) 106 [.ref y1, .int a1, .int a2] (mkh X I J)) (KX8_tray_1 N d n )) := by
  obtain ⟨L, he, sp, t1, t2⟩ := X
  rcases hX with ⟨h1, h2⟩ | ⟨h1, h2⟩ <;> (change he = _ at h1; change sp = _ at h2; subst h1; subst h2) <;> rfl
set_option maxHeartbeats 4000000 in
set_option maxRecDepth 100000 in
theorem kX8_tray_1 (N d n : Nat) {X : lt_X} (hX : hsX X) (I : Nat → Nat → Int32) (J : Nat → Nat → Int64) : KX8_tray_1 N d n (mkh X I J) = some (.int (nI 1), (mkh X (u2 I 3 15 (nI 0)) J)) := by
  obtain ⟨L, he, sp, t1, t2⟩ := X
  rcases hX with ⟨h1, h2⟩ | ⟨h1, h2⟩ <;> (change he = _ at h1; change sp = _ at h2; subst h1; subst h2) <;> rfl
theorem fX8_tray (N d : Nat) {X : lt_X} (x1 : Int32) (x2 : Int32) (x3 : Int32) (I : Nat → Nat → Int32) (J : Nat → Nat → Int64) : am_G am_prog N (d + 1) 113 [.ref 3, .int x1, .int x2, .int x3] (mkh X I J) = am_run (am_G am_prog N d) eX8_tray uX8_tray N 0 [(0, .ref 3), (1, .int x1), (2, .int x2), (3, .int x3)] [] (mkh X I J) := by
  refine (am_G_at N d 113 mX8_tray _ _ rfl).trans ?_
  rfl
theorem gX8_tray (N d : Nat) {X : lt_X} (x1 : Int32) (x2 : Int32) (x3 : Int32) (I : Nat → Nat → Int32) (J : Nat → Nat → Int64) : am_G am_prog (N + 30) (d + 2) 113 [.ref 3, .int x1, .int x2, .int x3] (mkh X I J) = RX8_tray_0 N d (N + 30) X x1 x2 x3 I J := fX8_tray (N + 30) (d + 1) x1 x2 x3 I J
def RX8_write_0 (N d n : Nat) (X : lt_X) (x1 : Int32) (x2 : Int32) (x3 : Int64) (I : Nat → Nat → Int32) (J : Nat → Nat → Int64) : am_O := am_run (am_G am_prog (N + 30) (d + 2)) eX8_write uX8_write n 0 [(0, .ref 3), (1, .int x1), (2, .int x2), (3, .long x3)] [] (mkh X I J)
def KX8_write_0 (N d n : Nat) (a0 : Int32) (a1 : Int32) (a2 : Int64) (z : Int32) (h : am_H) : am_O := if z = nI 0 then am_gR h 8 3 0 (fun y1 => am_lR h 13 y1 a0 (fun y2 => am_cV (am_G am_prog (N + 30) (d + 2) 108 [.ref y2, .int a1, .long a2] h) (fun h3 => am_cI (am_G am_prog (N + 30) (d + 2) 182 [.ref 3] h3) (fun r5 h4 => am_nb r5 (some (.int r5, h4)))))) else am_cI (am_G am_prog (N + 30) (d + 2) 183 [.ref 3, .int z] h) (fun r7 h6 => am_nb r7 (some (.int r7, h6)))
def KX8_write_1 (N d n : Nat) (h : am_H) : am_O := am_cI (am_G am_prog (N + 30) (d + 2) 182 [.ref 3] h) (fun r2 h1 => am_nb r2 (some (.int r2, h1)))
set_option maxHeartbeats 4000000 in
set_option maxRecDepth 100000 in
theorem sX8_write_0 (N d n : Nat) {X : lt_X} (hX : hsX X) (x1 : Int32) (x2 : Int32) (x3 : Int64) (I : Nat → Nat → Int32) (J : Nat → Nat → Int64) : RX8_write_0 N d (n + 1) X x1 x2 x3 I J = am_cI (am_G am_prog (N + 30) (d + 2) 118 [.ref 3, .int x1, .int x2] (mkh X I J)) (KX8_write_0 N d n x1 x2 x3) := by
  obtain ⟨L, he, sp, t1, t2⟩ := X
  rcases hX with ⟨h1, h2⟩ | ⟨h1, h2⟩ <;> (change he = _ at h1; change sp = _ at h2; subst h1; subst h2) <;> rfl
set_option maxHeartbeats 4000000 in
set_option maxRecDepth 100000 in
theorem kX8_write_0 (N d n : Nat) {X : lt_X} (hX : hsX X) (a0 : Int32) (a1 : Int32) (a2 : Int64) (z : Int32) (I : Nat → Nat → Int32) (J : Nat → Nat → Int64) : KX8_write_0 N d n a0 a1 a2 z (mkh X I J) = if z = nI 0 then am_lR (mkh X I J) 13 4 a0 (fun y1 => am_cV (am_G am_prog (N + 30) (d + 2) 108 [.ref y1, .int a1, .long a2] (mkh X I J)) (KX8_write_1 N d n )) else some (.int (nI 0), (mkh X (u2 I 3 15 z) J)) := by
  obtain ⟨L, he, sp, t1, t2⟩ := X
  rcases hX with ⟨h1, h2⟩ | ⟨h1, h2⟩ <;> (change he = _ at h1; change sp = _ at h2; subst h1; subst h2) <;> rfl
set_option maxHeartbeats 4000000 in
set_option maxRecDepth 100000 in
theorem kX8_write_1 (N d n : Nat) {X : lt_X} (hX : hsX X) (I : Nat → Nat → Int32) (J : Nat → Nat → Int64) : KX8_write_1 N d n (mkh X I J) = some (.int (nI 1), (mkh X (u2 I 3 15 (nI 0)) J)) := by
  obtain ⟨L, he, sp, t1, t2⟩ := X
  rcases hX with ⟨h1, h2⟩ | ⟨h1, h2⟩ <;> (change he = _ at h1; change sp = _ at h2; subst h1; subst h2) <;> rfl
theorem fX8_write (N d : Nat) {X : lt_X} (x1 : Int32) (x2 : Int32) (x3 : Int64) (I : Nat → Nat → Int32) (J : Nat → Nat → Int64) : am_G am_prog N (d + 1) 114 [.ref 3, .int x1, .int x2, .long x3] (mkh X I J) = am_run (am_G am_prog N d) eX8_write uX8_write N 0 [(0, .ref 3), (1, .int x1), (2, .int x2), (3, .long x3)] [] (mkh X I J) := by
  refine (am_G_at N d 114 mX8_write _ _ rfl).trans ?_
  rfl
theorem gX8_write (N d : Nat) {X : lt_X} (x1 : Int32) (x2 : Int32) (x3 : Int64) (I : Nat → Nat → Int32) (J : Nat → Nat → Int64) : am_G am_prog (N + 30) (d + 3) 114 [.ref 3, .int x1, .int x2, .long x3] (mkh X I J) = RX8_write_0 N d (N + 30) X x1 x2 x3 I J := fX8_write (N + 30) (d + 2) x1 x2 x3 I J
def RX8_read_0 (N d n : Nat) (X : lt_X) (x1 : Int32) (x2 : Int32) (I : Nat → Nat → Int32) (J : Nat → Nat → Int64) : am_O := am_run (am_G am_prog (N + 30) (d + 2)) eX8_read uX8_read n 0 [(0, .ref 3), (1, .int x1), (2, .int x2)] [] (mkh X I J)
def KX8_read_0 (N d n : Nat) (a0 : Int32) (a1 : Int32) (z : Int32) (h : am_H) : am_O := if z = nI 0 then am_pI h 8 3 15 (nI 0) (fun h1 => am_gR h1 8 3 0 (fun y2 => am_lR h1 13 y2 a0 (fun y3 => am_gR h1 7 y3 0 (fun y4 => am_lL h1 y4 a1 (fun y5 => some (.long y5, h1)))))) else am_cI (am_G am_prog (N + 30) (d + 2) 181 [.ref 3, .int z] h) (fun r7 h6 => some (.long r7.toInt64, h6))
set_option maxHeartbeats 4000000 in
set_option maxRecDepth 100000 in
theorem sX8_read_0 (N d n : Nat) {X : lt_X} (hX : hsX X) (x1 : Int32) (x2 : Int32) (I : Nat → Nat → Int32) (J : Nat → Nat → Int64) : RX8_read_0 N d (n + 1) X x1 x2 I J = am_cI (am_G am_prog (N + 30) (d + 2) 118 [.ref 3, .int x1, .int x2] (mkh X I J)) (KX8_read_0 N d n x1 x2) := by
  obtain ⟨L, he, sp, t1, t2⟩ := X
  rcases hX with ⟨h1, h2⟩ | ⟨h1, h2⟩ <;> (change he = _ at h1; change sp = _ at h2; subst h1; subst h2) <;> rfl
set_option maxHeartbeats 4000000 in
set_option maxRecDepth 100000 in
theorem kX8_read_0 (N d n : Nat) {X : lt_X} (hX : hsX X) (a0 : Int32) (a1 : Int32) (z : Int32) (I : Nat → Nat → Int32) (J : Nat → Nat → Int64) : KX8_read_0 N d n a0 a1 z (mkh X I J) = if z = nI 0 then am_lR (mkh X (u2 I 3 15 (nI 0)) J) 13 4 a0 (fun y1 => am_gR (mkh X (u2 I 3 15 (nI 0)) J) 7 y1 0 (fun y2 => am_lL (mkh X (u2 I 3 15 (nI 0)) J) y2 a1 (fun y3 => some (.long y3, (mkh X (u2 I 3 15 (nI 0)) J))))) else some (.long (-1), (mkh X (u2 I 3 15 z) J)) := by
  obtain ⟨L, he, sp, t1, t2⟩ := X
  rcases hX with ⟨h1, h2⟩ | ⟨h1, h2⟩ <;> (change he = _ at h1; change sp = _ at h2; subst h1; subst h2) <;> rfl
theorem fX8_read (N d : Nat) {X : lt_X} (x1 : Int32) (x2 : Int32) (I : Nat → Nat → Int32) (J : Nat → Nat → Int64) : am_G am_prog N (d + 1) 115 [.ref 3, .int x1, .int x2] (mkh X I J) = am_run (am_G am_prog N d) eX8_read uX8_read N 0 [(0, .ref 3), (1, .int x1), (2, .int x2)] [] (mkh X I J) := by
  refine (am_G_at N d 115 mX8_read _ _ rfl).trans ?_
  rfl
theorem gX8_read (N d : Nat) {X : lt_X} (x1 : Int32) (x2 : Int32) (I : Nat → Nat → Int32) (J : Nat → Nat → Int64) : am_G am_prog (N + 30) (d + 3) 115 [.ref 3, .int x1, .int x2] (mkh X I J) = RX8_read_0 N d (N + 30) X x1 x2 I J := fX8_read (N + 30) (d + 2) x1 x2 I J
def RX8_pour_0 (N d n : Nat) (X : lt_X) (x1 : Int32) (x2 : Int32) (x3 : Int32) (x4 : Int32) (x5 : Int32) (I : Nat → Nat → Int32) (J : Nat → Nat → Int64) : am_O := am_run (am_G am_prog (N + 30) (d + 1)) eX8_pour uX8_pour n 0 [(0, .ref 3), (1, .int x1), (2, .int x2), (3, .int x3), (4, .int x4), (5, .int x5)] [] (mkh X I J)
def KX8_pour_0 (N d n : Nat) (a0 : Int32) (a1 : Int32) (a2 : Int32) (a3 : Int32) (a4 : Int32) (z : Int32) (h : am_H) : am_O := if z = nI 0 then am_cI (am_G am_prog (N + 30) (d + 1) 183 [.ref 3, .int (nI 1)] h) (fun r2 h1 => am_nb r2 (some (.int r2, h1))) else am_cI (am_G am_prog (N + 30) (d + 1) 117 [.int a2] h) (fun r4 h3 => if r4 = nI 0 then am_cI (am_G am_prog (N + 30) (d + 1) 183 [.ref 3, .int (nI 1)] h3) (fun r6 h5 => am_nb r6 (some (.int r6, h5))) else am_gR h3 8 3 0 (fun y7 => am_lR h3 13 y7 a0 (fun y8 => am_gR h3 8 3 0 (fun y9 => am_lR h3 13 y9 a2 (fun y10 => am_gI h3 7 y8 1 (fun y11 => if y11 = nI 0 then am_cI (am_G am_prog (N + 30) (d + 1) 183 [.ref 3, .int (nI 3)] h3) (fun r13 h12 => am_nb r13 (some (.int r13, h12))) else am_gI h3 7 y10 1 (fun y14 => if y14 = nI 0 then am_cI (am_G am_prog (N + 30) (d + 1) 183 [.ref 3, .int (nI 3)] h3) (fun r16 h15 => am_nb r16 (some (.int r16, h15))) else am_gI h3 7 y8 2 (fun y17 => am_gI h3 7 y10 2 (fun y18 => if y17 = y18 then if a4 < nI 0 then am_cI (am_G am_prog (N + 30) (d + 1) 183 [.ref 3, .int (nI 6)] h3) (fun r20 h19 => am_nb r20 (some (.int r20, h19))) else am_cI (am_G am_prog (N + 30) (d + 1) 107 [.ref y8, .int a1, .int a4] h3) (fun r22 h21 => if r22 = nI 0 then am_cI (am_G am_prog (N + 30) (d + 1) 183 [.ref 3, .int (nI 4)] h21) (fun r24 h23 => am_nb r24 (some (.int r24, h23))) else am_cI (am_G am_prog (N + 30) (d + 1) 107 [.ref y10, .int a3, .int a4] h21) (fun r26 h25 => if r26 = nI 0 then am_cI (am_G am_prog (N + 30) (d + 1) 183 [.ref 3, .int (nI 4)] h25) (fun r28 h27 => am_nb r28 (some (.int r28, h27))) else am_gR h25 7 y8 0 (fun y29 => am_gR h25 7 y10 0 (fun y30 => am_cpL h25 y29 a1 y30 a3 a4 (fun h31 => am_cI (am_G am_prog (N + 30) (d + 1) 182 [.ref 3] h31) (fun r33 h32 => am_nb r33 (some (.int r33, h32)))))))) else am_cI (am_G am_prog (N + 30) (d + 1) 183 [.ref 3, .int (nI 11)] h3) (fun r35 h34 => am_nb r35 (some (.int r35, h34))))))))))))
def KX8_pour_1 (N d n : Nat) (a0 : Int32) (a1 : Int32) (a2 : Int32) (a3 : Int32) (a4 : Int32) (z : Int32) (h : am_H) : am_O := if z = nI 0 then am_cI (am_G am_prog (N + 30) (d + 1) 183 [.ref 3, .int (nI 1)] h) (fun r2 h1 => am_nb r2 (some (.int r2, h1))) else am_gR h 8 3 0 (fun y3 => am_lR h 13 y3 a0 (fun y4 => am_gR h 8 3 0 (fun y5 => am_lR h 13 y5 a2 (fun y6 => am_gI h 7 y4 1 (fun y7 => if y7 = nI 0 then am_cI (am_G am_prog (N + 30) (d + 1) 183 [.ref 3, .int (nI 3)] h) (fun r9 h8 => am_nb r9 (some (.int r9, h8))) else am_gI h 7 y6 1 (fun y10 => if y10 = nI 0 then am_cI (am_G am_prog (N + 30) (d + 1) 183 [.ref 3, .int (nI 3)] h) (fun r12 h11 => am_nb r12 (some (.int r12, h11))) else am_gI h 7 y4 2 (fun y13 => am_gI h 7 y6 2 (fun y14 => if y13 = y14 then if a4 < nI 0 then am_cI (am_G am_prog (N + 30) (d + 1) 183 [.ref 3, .int (nI 6)] h) (fun r16 h15 => am_nb r16 (some (.int r16, h15))) else am_cI (am_G am_prog (N + 30) (d + 1) 107 [.ref y4, .int a1, .int a4] h) (fun r18 h17 => if r18 = nI 0 then am_cI (am_G am_prog (N + 30) (d + 1) 183 [.ref 3, .int (nI 4)] h17) (fun r20 h19 => am_nb r20 (some (.int r20, h19))) else am_cI (am_G am_prog (N + 30) (d + 1) 107 [.ref y6, .int a3, .int a4] h17) (fun r22 h21 => if r22 = nI 0 then am_cI (am_G am_prog (N + 30) (d + 1) 183 [.ref 3, .int (nI 4)] h21) (fun r24 h23 => am_nb r24 (some (.int r24, h23))) else am_gR h21 7 y4 0 (fun y25 => am_gR h21 7 y6 0 (fun y26 => am_cpL h21 y25 a1 y26 a3 a4 (fun h27 => am_cI (am_G am_prog (N + 30) (d + 1) 182 [.ref 3] h27) (fun r29 h28 => am_nb r29 (some (.int r29, h28)))))))) else am_cI (am_G am_prog (N + 30) (d + 1) 183 [.ref 3, .int (nI 11)] h) (fun r31 h30 => am_nb r31 (some (.int r31, h30)))))))))))
def KX8_pour_2 (N d n : Nat) (a0 : Nat) (a1 : Nat) (a2 : Int32) (a3 : Int32) (a4 : Int32) (z : Int32) (h : am_H) : am_O := if z = nI 0 then am_cI (am_G am_prog (N + 30) (d + 1) 183 [.ref 3, .int (nI 4)] h) (fun r2 h1 => am_nb r2 (some (.int r2, h1))) else am_cI (am_G am_prog (N + 30) (d + 1) 107 [.ref a0, .int a3, .int a4] h) (fun r4 h3 => if r4 = nI 0 then am_cI (am_G am_prog (N + 30) (d + 1) 183 [.ref 3, .int (nI 4)] h3) (fun r6 h5 => am_nb r6 (some (.int r6, h5))) else am_gR h3 7 a1 0 (fun y7 => am_gR h3 7 a0 0 (fun y8 => am_cpL h3 y7 a2 y8 a3 a4 (fun h9 => am_cI (am_G am_prog (N + 30) (d + 1) 182 [.ref 3] h9) (fun r11 h10 => am_nb r11 (some (.int r11, h10)))))))
def KX8_pour_3 (N d n : Nat) (a0 : Nat) (a1 : Nat) (a2 : Int32) (a3 : Int32) (a4 : Int32) (z : Int32) (h : am_H) : am_O := if z = nI 0 then am_cI (am_G am_prog (N + 30) (d + 1) 183 [.ref 3, .int (nI 4)] h) (fun r2 h1 => am_nb r2 (some (.int r2, h1))) else am_gR h 7 a1 0 (fun y3 => am_gR h 7 a0 0 (fun y4 => am_cpL h y3 a2 y4 a3 a4 (fun h5 => am_cI (am_G am_prog (N + 30) (d + 1) 182 [.ref 3] h5) (fun r7 h6 => am_nb r7 (some (.int r7, h6))))))
set_option maxHeartbeats 4000000 in
set_option maxRecDepth 100000 in
theorem sX8_pour_0 (N d n : Nat) {X : lt_X} (hX : hsX X) (x1 : Int32) (x2 : Int32) (x3 : Int32) (x4 : Int32) (x5 : Int32) (I : Nat → Nat → Int32) (J : Nat → Nat → Int64) : RX8_pour_0 N d (n + 1) X x1 x2 x3 x4 x5 I J = am_cI (am_G am_prog (N + 30) (d + 1) 117 [.int x1] (mkh X I J)) (KX8_pour_0 N d n x1 x2 x3 x4 x5) := by
  obtain ⟨L, he, sp, t1, t2⟩ := X
  rcases hX with ⟨h1, h2⟩ | ⟨h1, h2⟩ <;> (change he = _ at h1; change sp = _ at h2; subst h1; subst h2) <;> rfl
set_option maxHeartbeats 4000000 in
set_option maxRecDepth 100000 in
theorem kX8_pour_0 (N d n : Nat) {X : lt_X} (hX : hsX X) (a0 : Int32) (a1 : Int32) (a2 : Int32) (a3 : Int32) (a4 : Int32) (z : Int32) (I : Nat → Nat → Int32) (J : Nat → Nat → Int64) : KX8_pour_0 N d n a0 a1 a2 a3 a4 z (mkh X I J) = if z = nI 0 then some (.int (nI 0), (mkh X (u2 I 3 15 (nI 1)) J)) else am_cI (am_G am_prog (N + 30) (d + 1) 117 [.int a2] (mkh X I J)) (KX8_pour_1 N d n a0 a1 a2 a3 a4) := by
  obtain ⟨L, he, sp, t1, t2⟩ := X
  rcases hX with ⟨h1, h2⟩ | ⟨h1, h2⟩ <;> (change he = _ at h1; change sp = _ at h2; subst h1; subst h2) <;> rfl
set_option maxHeartbeats 4000000 in
set_option maxRecDepth 100000 in
theorem kX8_pour_1 (N d n : Nat) {X : lt_X} (hX : hsX X) (a0 : Int32) (a1 : Int32) (a2 : Int32) (a3 : Int32) (a4 : Int32) (z : Int32) (I : Nat → Nat → Int32) (J : Nat → Nat → Int64) : KX8_pour_1 N d n a0 a1 a2 a3 a4 z (mkh X I J) = if z = nI 0 then some (.int (nI 0), (mkh X (u2 I 3 15 (nI 1)) J)) else am_lR (mkh X I J) 13 4 a0 (fun y1 => am_lR (mkh X I J) 13 4 a2 (fun y2 => am_gI (mkh X I J) 7 y1 1 (fun y3 => if y3 = nI 0 then some (.int (nI 0), (mkh X (u2 I 3 15 (nI 3)) J)) else am_gI (mkh X I J) 7 y2 1 (fun y4 => if y4 = nI 0 then some (.int (nI 0), (mkh X (u2 I 3 15 (nI 3)) J)) else am_gI (mkh X I J) 7 y1 2 (fun y5 => am_gI (mkh X I J) 7 y2 2 (fun y6 => if y5 = y6 then if a4 < nI 0 then some (.int (nI 0), (mkh X (u2 I 3 15 (nI 6)) J)) else am_cI (am_G am_prog (N + 30) (d + 1) 107 [.ref y1, .int a1, .int a4] (mkh X I J)) (KX8_pour_2 N d n y2 y1 a1 a3 a4) else some (.int (nI 0), (mkh X (u2 I 3 15 (nI 11)) J)))))))) := by
  obtain ⟨L, he, sp, t1, t2⟩ := X
  rcases hX with ⟨h1, h2⟩ | ⟨h1, h2⟩ <;> (change he = _ at h1; change sp = _ at h2; subst h1; subst h2) <;> rfl
set_option maxHeartbeats 4000000 in
set_option maxRecDepth 100000 in
theorem kX8_pour_2 (N d n : Nat) {X : lt_X} (hX : hsX X) (a0 : Nat) (a1 : Nat) (a2 : Int32) (a3 : Int32) (a4 : Int32) (z : Int32) (I : Nat → Nat → Int32) (J : Nat → Nat → Int64) : KX8_pour_2 N d n a0 a1 a2 a3 a4 z (mkh X I J) = if z = nI 0 then some (.int (nI 0), (mkh X (u2 I 3 15 (nI 4)) J)) else am_cI (am_G am_prog (N + 30) (d + 1) 107 [.ref a0, .int a3, .int a4] (mkh X I J)) (KX8_pour_3 N d n a0 a1 a2 a3 a4) := by
  obtain ⟨L, he, sp, t1, t2⟩ := X
  rcases hX with ⟨h1, h2⟩ | ⟨h1, h2⟩ <;> (change he = _ at h1; change sp = _ at h2; subst h1; subst h2) <;> rfl
set_option maxHeartbeats 4000000 in
set_option maxRecDepth 100000 in
theorem kX8_pour_3 (N d n : Nat) {X : lt_X} (hX : hsX X) (a0 : Nat) (a1 : Nat) (a2 : Int32) (a3 : Int32) (a4 : Int32) (z : Int32) (I : Nat → Nat → Int32) (J : Nat → Nat → Int64) : KX8_pour_3 N d n a0 a1 a2 a3 a4 z (mkh X I J) = if z = nI 0 then some (.int (nI 0), (mkh X (u2 I 3 15 (nI 4)) J)) else am_gR (mkh X I J) 7 a1 0 (fun y1 => am_gR (mkh X I J) 7 a0 0 (fun y2 => am_cpL (mkh X I J) y1 a2 y2 a3 a4 (fun h3 => am_cI (am_G am_prog (N + 30) (d + 1) 182 [.ref 3] h3) (fun r5 h4 => am_nb r5 (some (.int r5, h4)))))) := by
  obtain ⟨L, he, sp, t1, t2⟩ := X
  rcases hX with ⟨h1, h2⟩ | ⟨h1, h2⟩ <;> (change he = _ at h1; change sp = _ at h2; subst h1; subst h2) <;> rfl
theorem fX8_pour (N d : Nat) {X : lt_X} (x1 : Int32) (x2 : Int32) (x3 : Int32) (x4 : Int32) (x5 : Int32) (I : Nat → Nat → Int32) (J : Nat → Nat → Int64) : am_G am_prog N (d + 1) 116 [.ref 3, .int x1, .int x2, .int x3, .int x4, .int x5] (mkh X I J) = am_run (am_G am_prog N d) eX8_pour uX8_pour N 0 [(0, .ref 3), (1, .int x1), (2, .int x2), (3, .int x3), (4, .int x4), (5, .int x5)] [] (mkh X I J) := by
  refine (am_G_at N d 116 mX8_pour _ _ rfl).trans ?_
  rfl
theorem gX8_pour (N d : Nat) {X : lt_X} (x1 : Int32) (x2 : Int32) (x3 : Int32) (x4 : Int32) (x5 : Int32) (I : Nat → Nat → Int32) (J : Nat → Nat → Int64) : am_G am_prog (N + 30) (d + 2) 116 [.ref 3, .int x1, .int x2, .int x3, .int x4, .int x5] (mkh X I J) = RX8_pour_0 N d (N + 30) X x1 x2 x3 x4 x5 I J := fX8_pour (N + 30) (d + 1) x1 x2 x3 x4 x5 I J
def RX8_isTray_0 (N d n : Nat) (X : lt_X) (x0 : Int32) (I : Nat → Nat → Int32) (J : Nat → Nat → Int64) : am_O := am_run (am_G am_prog (N + 30) (d + 0)) eX8_isTray uX8_isTray n 0 [(0, .int x0)] [] (mkh X I J)
set_option maxHeartbeats 4000000 in
set_option maxRecDepth 100000 in
theorem sX8_isTray_0 (N d n : Nat) {X : lt_X} (hX : hsX X) (x0 : Int32) (I : Nat → Nat → Int32) (J : Nat → Nat → Int64) : RX8_isTray_0 N d (n + 1) X x0 I J = if x0 < nI 0 then some (.int (nI 0), (mkh X I J)) else if x0 < (nI 4) then some (.int (nI 1), (mkh X I J)) else some (.int (nI 0), (mkh X I J)) := by
  obtain ⟨L, he, sp, t1, t2⟩ := X
  rcases hX with ⟨h1, h2⟩ | ⟨h1, h2⟩ <;> (change he = _ at h1; change sp = _ at h2; subst h1; subst h2) <;> rfl
theorem fX8_isTray (N d : Nat) {X : lt_X} (x0 : Int32) (I : Nat → Nat → Int32) (J : Nat → Nat → Int64) : am_G am_prog N (d + 1) 117 [.int x0] (mkh X I J) = am_run (am_G am_prog N d) eX8_isTray uX8_isTray N 0 [(0, .int x0)] [] (mkh X I J) := by
  refine (am_G_at N d 117 mX8_isTray _ _ rfl).trans ?_
  rfl
theorem gX8_isTray (N d : Nat) {X : lt_X} (x0 : Int32) (I : Nat → Nat → Int32) (J : Nat → Nat → Int64) : am_G am_prog (N + 30) (d + 1) 117 [.int x0] (mkh X I J) = RX8_isTray_0 N d (N + 30) X x0 I J := fX8_isTray (N + 30) (d + 0) x0 I J
def RX8_placeStatus_0 (N d n : Nat) (X : lt_X) (x1 : Int32) (x2 : Int32) (I : Nat → Nat → Int32) (J : Nat → Nat → Int64) : am_O := am_run (am_G am_prog (N + 30) (d + 1)) eX8_placeStatus uX8_placeStatus n 0 [(0, .ref 3), (1, .int x1), (2, .int x2)] [] (mkh X I J)
def KX8_placeStatus_0 (N d n : Nat) (a0 : Int32) (a1 : Int32) (z : Int32) (h : am_H) : am_O := if z = nI 0 then some (.int (nI 1), h) else am_gR h 8 3 0 (fun y1 => am_lR h 13 y1 a0 (fun y2 => am_gI h 7 y2 1 (fun y3 => if y3 = nI 0 then some (.int (nI 3), h) else am_gR h 8 3 0 (fun y4 => am_lR h 13 y4 a0 (fun y5 => am_cI (am_G am_prog (N + 30) (d + 1) 107 [.ref y5, .int a1, .int (nI 1)] h) (fun r7 h6 => if r7 = nI 0 then some (.int (nI 4), h6) else some (.int (nI 0), h6)))))))
def KX8_placeStatus_1 (N d n : Nat) (z : Int32) (h : am_H) : am_O := if z = nI 0 then some (.int (nI 4), h) else some (.int (nI 0), h)
set_option maxHeartbeats 4000000 in
set_option maxRecDepth 100000 in
theorem sX8_placeStatus_0 (N d n : Nat) {X : lt_X} (hX : hsX X) (x1 : Int32) (x2 : Int32) (I : Nat → Nat → Int32) (J : Nat → Nat → Int64) : RX8_placeStatus_0 N d (n + 1) X x1 x2 I J = am_cI (am_G am_prog (N + 30) (d + 1) 117 [.int x1] (mkh X I J)) (KX8_placeStatus_0 N d n x1 x2) := by
  obtain ⟨L, he, sp, t1, t2⟩ := X
  rcases hX with ⟨h1, h2⟩ | ⟨h1, h2⟩ <;> (change he = _ at h1; change sp = _ at h2; subst h1; subst h2) <;> rfl
set_option maxHeartbeats 4000000 in
set_option maxRecDepth 100000 in
theorem kX8_placeStatus_0 (N d n : Nat) {X : lt_X} (hX : hsX X) (a0 : Int32) (a1 : Int32) (z : Int32) (I : Nat → Nat → Int32) (J : Nat → Nat → Int64) : KX8_placeStatus_0 N d n a0 a1 z (mkh X I J) = if z = nI 0 then some (.int (nI 1), (mkh X I J)) else am_lR (mkh X I J) 13 4 a0 (fun y1 => am_gI (mkh X I J) 7 y1 1 (fun y2 => if y2 = nI 0 then some (.int (nI 3), (mkh X I J)) else am_lR (mkh X I J) 13 4 a0 (fun y3 => am_cI (am_G am_prog (N + 30) (d + 1) 107 [.ref y3, .int a1, .int (nI 1)] (mkh X I J)) (KX8_placeStatus_1 N d n )))) := by
  obtain ⟨L, he, sp, t1, t2⟩ := X
  rcases hX with ⟨h1, h2⟩ | ⟨h1, h2⟩ <;> (change he = _ at h1; change sp = _ at h2; subst h1; subst h2) <;> rfl
set_option maxHeartbeats 4000000 in
set_option maxRecDepth 100000 in
theorem kX8_placeStatus_1 (N d n : Nat) {X : lt_X} (hX : hsX X) (z : Int32) (I : Nat → Nat → Int32) (J : Nat → Nat → Int64) : KX8_placeStatus_1 N d n z (mkh X I J) = if z = nI 0 then some (.int (nI 4), (mkh X I J)) else some (.int (nI 0), (mkh X I J)) := by
  obtain ⟨L, he, sp, t1, t2⟩ := X
  rcases hX with ⟨h1, h2⟩ | ⟨h1, h2⟩ <;> (change he = _ at h1; change sp = _ at h2; subst h1; subst h2) <;> rfl
theorem fX8_placeStatus (N d : Nat) {X : lt_X} (x1 : Int32) (x2 : Int32) (I : Nat → Nat → Int32) (J : Nat → Nat → Int64) : am_G am_prog N (d + 1) 118 [.ref 3, .int x1, .int x2] (mkh X I J) = am_run (am_G am_prog N d) eX8_placeStatus uX8_placeStatus N 0 [(0, .ref 3), (1, .int x1), (2, .int x2)] [] (mkh X I J) := by
  refine (am_G_at N d 118 mX8_placeStatus _ _ rfl).trans ?_
  rfl
theorem gX8_placeStatus (N d : Nat) {X : lt_X} (x1 : Int32) (x2 : Int32) (I : Nat → Nat → Int32) (J : Nat → Nat → Int64) : am_G am_prog (N + 30) (d + 2) 118 [.ref 3, .int x1, .int x2] (mkh X I J) = RX8_placeStatus_0 N d (N + 30) X x1 x2 I J := fX8_placeStatus (N + 30) (d + 1) x1 x2 I J
def RX8_runStatus_0 (N d n : Nat) (X : lt_X) (x1 : Int32) (x2 : Int64) (I : Nat → Nat → Int32) (J : Nat → Nat → Int64) : am_O := am_run (am_G am_prog (N + 30) (d + 1)) eX8_runStatus uX8_runStatus n 0 [(0, .ref 3), (1, .int x1), (2, .long x2)] [] (mkh X I J)
def KX8_runStatus_0 (N d n : Nat) (a0 : Int32) (a1 : Int64) (z : Int32) (h : am_H) : am_O := if z = nI 0 then some (.int (nI 1), h) else am_gR h 8 3 0 (fun y1 => am_lR h 13 y1 a0 (fun y2 => am_gI h 7 y2 1 (fun y3 => if y3 = nI 0 then some (.int (nI 3), h) else am_gR h 8 3 0 (fun y4 => am_lR h 13 y4 a0 (fun y5 => am_gI h 7 y5 3 (fun y6 => if nI 0 < (lg_cmp a1 y6.toInt64) then some (.int (nI 4), h) else some (.int (nI 0), h)))))))
set_option maxHeartbeats 4000000 in
set_option maxRecDepth 100000 in
theorem sX8_runStatus_0 (N d n : Nat) {X : lt_X} (hX : hsX X) (x1 : Int32) (x2 : Int64) (I : Nat → Nat → Int32) (J : Nat → Nat → Int64) : RX8_runStatus_0 N d (n + 1) X x1 x2 I J = am_cI (am_G am_prog (N + 30) (d + 1) 117 [.int x1] (mkh X I J)) (KX8_runStatus_0 N d n x1 x2) := by
  obtain ⟨L, he, sp, t1, t2⟩ := X
  rcases hX with ⟨h1, h2⟩ | ⟨h1, h2⟩ <;> (change he = _ at h1; change sp = _ at h2; subst h1; subst h2) <;> rfl
set_option maxHeartbeats 4000000 in
set_option maxRecDepth 100000 in
theorem kX8_runStatus_0 (N d n : Nat) {X : lt_X} (hX : hsX X) (a0 : Int32) (a1 : Int64) (z : Int32) (I : Nat → Nat → Int32) (J : Nat → Nat → Int64) : KX8_runStatus_0 N d n a0 a1 z (mkh X I J) = if z = nI 0 then some (.int (nI 1), (mkh X I J)) else am_lR (mkh X I J) 13 4 a0 (fun y1 => am_gI (mkh X I J) 7 y1 1 (fun y2 => if y2 = nI 0 then some (.int (nI 3), (mkh X I J)) else am_lR (mkh X I J) 13 4 a0 (fun y3 => am_gI (mkh X I J) 7 y3 3 (fun y4 => if nI 0 < (lg_cmp a1 y4.toInt64) then some (.int (nI 4), (mkh X I J)) else some (.int (nI 0), (mkh X I J)))))) := by
  obtain ⟨L, he, sp, t1, t2⟩ := X
  rcases hX with ⟨h1, h2⟩ | ⟨h1, h2⟩ <;> (change he = _ at h1; change sp = _ at h2; subst h1; subst h2) <;> rfl
theorem fX8_runStatus (N d : Nat) {X : lt_X} (x1 : Int32) (x2 : Int64) (I : Nat → Nat → Int32) (J : Nat → Nat → Int64) : am_G am_prog N (d + 1) 119 [.ref 3, .int x1, .long x2] (mkh X I J) = am_run (am_G am_prog N d) eX8_runStatus uX8_runStatus N 0 [(0, .ref 3), (1, .int x1), (2, .long x2)] [] (mkh X I J) := by
  refine (am_G_at N d 119 mX8_runStatus _ _ rfl).trans ?_
  rfl
theorem gX8_runStatus (N d : Nat) {X : lt_X} (x1 : Int32) (x2 : Int64) (I : Nat → Nat → Int32) (J : Nat → Nat → Int64) : am_G am_prog (N + 30) (d + 2) 119 [.ref 3, .int x1, .long x2] (mkh X I J) = RX8_runStatus_0 N d (N + 30) X x1 x2 I J := fX8_runStatus (N + 30) (d + 1) x1 x2 I J
def RX8_feed_0 (N d n : Nat) (X : lt_X) (x1 : Int32) (x2 : Int32) (x3 : Int32) (x4 : Int32) (x5 : Int32) (I : Nat → Nat → Int32) (J : Nat → Nat → Int64) : am_O := am_run (am_G am_prog (N + 30) (d + 0)) eX8_feed uX8_feed n 0 [(0, .ref 3), (1, .int x1), (2, .int x2), (3, .int x3), (4, .int x4), (5, .int x5)] [] (mkh X I J)
def KX8_feed_0 (N d n : Nat) (a0 : Int32) (a1 : Int32) (a2 : Int32) (a3 : Int32) (h : am_H) : am_O := am_cV (am_G am_prog (N + 30) (d + 0) 121 [.ref 3, .int a0] h) (fun h1 => am_cV (am_G am_prog (N + 30) (d + 0) 121 [.ref 3, .int a1] h1) (fun h2 => am_cV (am_G am_prog (N + 30) (d + 0) 121 [.ref 3, .int a2] h2) (fun h3 => am_cV (am_G am_prog (N + 30) (d + 0) 121 [.ref 3, .int a3] h3) (fun h4 => am_gI h4 8 3 2 (fun y5 => some (.int y5, h4))))))
def KX8_feed_1 (N d n : Nat) (a0 : Int32) (a1 : Int32) (a2 : Int32) (h : am_H) : am_O := am_cV (am_G am_prog (N + 30) (d + 0) 121 [.ref 3, .int a0] h) (fun h1 => am_cV (am_G am_prog (N + 30) (d + 0) 121 [.ref 3, .int a1] h1) (fun h2 => am_cV (am_G am_prog (N + 30) (d + 0) 121 [.ref 3, .int a2] h2) (fun h3 => am_gI h3 8 3 2 (fun y4 => some (.int y4, h3)))))
def KX8_feed_2 (N d n : Nat) (a0 : Int32) (a1 : Int32) (h : am_H) : am_O := am_cV (am_G am_prog (N + 30) (d + 0) 121 [.ref 3, .int a0] h) (fun h1 => am_cV (am_G am_prog (N + 30) (d + 0) 121 [.ref 3, .int a1] h1) (fun h2 => am_gI h2 8 3 2 (fun y3 => some (.int y3, h2))))
def KX8_feed_3 (N d n : Nat) (a0 : Int32) (h : am_H) : am_O := am_cV (am_G am_prog (N + 30) (d + 0) 121 [.ref 3, .int a0] h) (fun h1 => am_gI h1 8 3 2 (fun y2 => some (.int y2, h1)))
def KX8_feed_4 (N d n : Nat) (h : am_H) : am_O := am_gI h 8 3 2 (fun y1 => some (.int y1, h))
set_option maxHeartbeats 4000000 in
set_option maxRecDepth 100000 in
theorem sX8_feed_0 (N d n : Nat) {X : lt_X} (hX : hsX X) (x1 : Int32) (x2 : Int32) (x3 : Int32) (x4 : Int32) (x5 : Int32) (I : Nat → Nat → Int32) (J : Nat → Nat → Int64) : RX8_feed_0 N d (n + 1) X x1 x2 x3 x4 x5 I J = if (nI 880) < (I 3 2) then some (.int (-1), (mkh X I J)) else am_cV (am_G am_prog (N + 30) (d + 0) 121 [.ref 3, .int x1] (mkh X I J)) (KX8_feed_0 N d n x2 x3 x4 x5) := by
  obtain ⟨L, he, sp, t1, t2⟩ := X
  rcases hX with ⟨h1, h2⟩ | ⟨h1, h2⟩ <;> (change he = _ at h1; change sp = _ at h2; subst h1; subst h2) <;> rfl
set_option maxHeartbeats 4000000 in
set_option maxRecDepth 100000 in
theorem kX8_feed_0 (N d n : Nat) {X : lt_X} (hX : hsX X) (a0 : Int32) (a1 : Int32) (a2 : Int32) (a3 : Int32) (I : Nat → Nat → Int32) (J : Nat → Nat → Int64) : KX8_feed_0 N d n a0 a1 a2 a3 (mkh X I J) = am_cV (am_G am_prog (N + 30) (d + 0) 121 [.ref 3, .int a0] (mkh X I J)) (KX8_feed_1 N d n a1 a2 a3) := by
  obtain ⟨L, he, sp, t1, t2⟩ := X
  rcases hX with ⟨h1, h2⟩ | ⟨h1, h2⟩ <;> (change he = _ at h1; change sp = _ at h2; subst h1; subst h2) <;> rfl
set_option maxHeartbeats 4000000 in
set_option maxRecDepth 100000 in
theorem kX8_feed_1 (N d n : Nat) {X : lt_X} (hX : hsX X) (a0 : Int32) (a1 : Int32) (a2 : Int32) (I : Nat → Nat → Int32) (J : Nat → Nat → Int64) : KX8_feed_1 N d n a0 a1 a2 (mkh X I J) = am_cV (am_G am_prog (N + 30) (d + 0) 121 [.ref 3, .int a0] (mkh X I J)) (KX8_feed_2 N d n a1 a2) := by
  obtain ⟨L, he, sp, t1, t2⟩ := X
  rcases hX with ⟨h1, h2⟩ | ⟨h1, h2⟩ <;> (change he = _ at h1; change sp = _ at h2; subst h1; subst h2) <;> rfl
set_option maxHeartbeats 4000000 in
set_option maxRecDepth 100000 in
theorem kX8_feed_2 (N d n : Nat) {X : lt_X} (hX : hsX X) (a0 : Int32) (a1 : Int32) (I : Nat → Nat → Int32) (J : Nat → Nat → Int64) : KX8_feed_2 N d n a0 a1 (mkh X I J) = am_cV (am_G am_prog (N + 30) (d + 0) 121 [.ref 3, .int a0] (mkh X I J)) (KX8_feed_3 N d n a1) := by
  obtain ⟨L, he, sp, t1, t2⟩ := X
  rcases hX with ⟨h1, h2⟩ | ⟨h1, h2⟩ <;> (change he = _ at h1; change sp = _ at h2; subst h1; subst h2) <;> rfl
set_option maxHeartbeats 4000000 in
set_option maxRecDepth 100000 in
theorem kX8_feed_3 (N d n : Nat) {X : lt_X} (hX : hsX X) (a0 : Int32) (I : Nat → Nat → Int32) (J : Nat → Nat → Int64) : KX8_feed_3 N d n a0 (mkh X I J) = am_cV (am_G am_prog (N + 30) (d + 0) 121 [.ref 3, .int a0] (mkh X I J)) (KX8_feed_4 N d n ) := by
  obtain ⟨L, he, sp, t1, t2⟩ := X
  rcases hX with ⟨h1, h2⟩ | ⟨h1, h2⟩ <;> (change he = _ at h1; change sp = _ at h2; subst h1; subst h2) <;> rfl
set_option maxHeartbeats 4000000 in
set_option maxRecDepth 100000 in
theorem kX8_feed_4 (N d n : Nat) {X : lt_X} (hX : hsX X) (I : Nat → Nat → Int32) (J : Nat → Nat → Int64) : KX8_feed_4 N d n (mkh X I J) = some (.int (I 3 2), (mkh X I J)) := by
  obtain ⟨L, he, sp, t1, t2⟩ := X
  rcases hX with ⟨h1, h2⟩ | ⟨h1, h2⟩ <;> (change he = _ at h1; change sp = _ at h2; subst h1; subst h2) <;> rfl
theorem fX8_feed (N d : Nat) {X : lt_X} (x1 : Int32) (x2 : Int32) (x3 : Int32) (x4 : Int32) (x5 : Int32) (I : Nat → Nat → Int32) (J : Nat → Nat → Int64) : am_G am_prog N (d + 1) 120 [.ref 3, .int x1, .int x2, .int x3, .int x4, .int x5] (mkh X I J) = am_run (am_G am_prog N d) eX8_feed uX8_feed N 0 [(0, .ref 3), (1, .int x1), (2, .int x2), (3, .int x3), (4, .int x4), (5, .int x5)] [] (mkh X I J) := by
  refine (am_G_at N d 120 mX8_feed _ _ rfl).trans ?_
  rfl
theorem gX8_feed (N d : Nat) {X : lt_X} (x1 : Int32) (x2 : Int32) (x3 : Int32) (x4 : Int32) (x5 : Int32) (I : Nat → Nat → Int32) (J : Nat → Nat → Int64) : am_G am_prog (N + 30) (d + 1) 120 [.ref 3, .int x1, .int x2, .int x3, .int x4, .int x5] (mkh X I J) = RX8_feed_0 N d (N + 30) X x1 x2 x3 x4 x5 I J := fX8_feed (N + 30) (d + 0) x1 x2 x3 x4 x5 I J
def RX8_feedFour_0 (N d n : Nat) (X : lt_X) (x1 : Int32) (I : Nat → Nat → Int32) (J : Nat → Nat → Int64) : am_O := am_run (am_G am_prog (N + 30) (d + 0)) eX8_feedFour uX8_feedFour n 0 [(0, .ref 3), (1, .int x1)] [] (mkh X I J)
def RX8_feedFour_3 (N d n : Nat) (X : lt_X) (x1 : Int32) (x2 : Int32) (I : Nat → Nat → Int32) (J : Nat → Nat → Int64) : am_O := am_run (am_G am_prog (N + 30) (d + 0)) eX8_feedFour uX8_feedFour n 3 [(0, .ref 3), (1, .int x1), (2, .int x2)] [] (mkh X I J)
set_option maxHeartbeats 4000000 in
set_option maxRecDepth 100000 in
theorem sX8_feedFour_0 (N d n : Nat) {X : lt_X} (hX : hsX X) (x1 : Int32) (I : Nat → Nat → Int32) (J : Nat → Nat → Int64) : RX8_feedFour_0 N d (n + 1) X x1 I J = RX8_feedFour_3 N d n X x1 (nI 24) I J := by
  obtain ⟨L, he, sp, t1, t2⟩ := X
  rcases hX with ⟨h1, h2⟩ | ⟨h1, h2⟩ <;> (change he = _ at h1; change sp = _ at h2; subst h1; subst h2) <;> rfl
set_option maxHeartbeats 4000000 in
set_option maxRecDepth 100000 in
theorem sX8_feedFour_3 (N d n : Nat) {X : lt_X} (hX : hsX X) (x1 : Int32) (x2 : Int32) (I : Nat → Nat → Int32) (J : Nat → Nat → Int64) : RX8_feedFour_3 N d (n + 1) X x1 x2 I J = if x2 < nI 0 then some (.null, (mkh X I J)) else if (I 3 2) < (nI 900) then if am_in (I 3 2) 900 then RX8_feedFour_3 N d n X x1 (x2 + (-8)) (u2 (u2 I 13 ((I 3 2).toNatClampNeg) (((x1 >>> (x2 &&& 31)).toInt8.toInt32).toInt8.toInt32)) 3 2 ((I 3 2) + (nI 1))) J else none else RX8_feedFour_3 N d n X x1 (x2 + (-8)) I J := by
  obtain ⟨L, he, sp, t1, t2⟩ := X
  rcases hX with ⟨h1, h2⟩ | ⟨h1, h2⟩ <;> (change he = _ at h1; change sp = _ at h2; subst h1; subst h2) <;> rfl
theorem fX8_feedFour (N d : Nat) {X : lt_X} (x1 : Int32) (I : Nat → Nat → Int32) (J : Nat → Nat → Int64) : am_G am_prog N (d + 1) 121 [.ref 3, .int x1] (mkh X I J) = am_run (am_G am_prog N d) eX8_feedFour uX8_feedFour N 0 [(0, .ref 3), (1, .int x1)] [] (mkh X I J) := by
  refine (am_G_at N d 121 mX8_feedFour _ _ rfl).trans ?_
  rfl
theorem gX8_feedFour (N d : Nat) {X : lt_X} (x1 : Int32) (I : Nat → Nat → Int32) (J : Nat → Nat → Int64) : am_G am_prog (N + 30) (d + 1) 121 [.ref 3, .int x1] (mkh X I J) = RX8_feedFour_0 N d (N + 30) X x1 I J := fX8_feedFour (N + 30) (d + 0) x1 I J
def RX8_town_0 (N d n : Nat) (X : lt_X) (x1 : Int32) (I : Nat → Nat → Int32) (J : Nat → Nat → Int64) : am_O := am_run (am_G am_prog (N + 30) (d + 1)) eX8_town uX8_town n 0 [(0, .ref 3), (1, .int x1)] [] (mkh X I J)
def KX8_town_0 (N d n : Nat) (h : am_H) : am_O := am_pI h 8 3 2 (nI 0) (fun h1 => am_pZ h1 8 3 14 (nI 1) (fun h2 => am_gR h2 8 3 8 (fun y3 => am_gR h2 8 3 4 (fun y4 => am_cI (am_G am_prog (N + 30) (d + 1) 95 [.ref y3, .ref y4] h2) (fun r6 h5 => if r6 = nI 0 then am_cI (am_G am_prog (N + 30) (d + 1) 181 [.ref 3, .int (nI 10)] h5) (fun r8 h7 => some (.int r8, h7)) else am_gR h5 8 3 3 (fun y9 => am_gR h5 8 3 4 (fun y10 => am_pR h5 8 3 3 y10 (fun h11 => am_pR h11 8 3 4 y9 (fun h12 => am_gR h12 8 3 3 (fun y13 => am_gR h12 5 y13 1 (fun y14 => am_lI h12 10 y14 (nI 3) (fun y15 => am_cI (am_G am_prog (N + 30) (d + 1) 179 [.ref 3, .int y15] h12) (fun r17 h16 => some (.int r17, h16))))))))))))))
def KX8_town_1 (N d n : Nat) (z : Int32) (h : am_H) : am_O := if z = nI 0 then am_cI (am_G am_prog (N + 30) (d + 1) 181 [.ref 3, .int (nI 10)] h) (fun r2 h1 => some (.int r2, h1)) else am_gR h 8 3 3 (fun y3 => am_gR h 8 3 4 (fun y4 => am_pR h 8 3 3 y4 (fun h5 => am_pR h5 8 3 4 y3 (fun h6 => am_gR h6 8 3 3 (fun y7 => am_gR h6 5 y7 1 (fun y8 => am_lI h6 10 y8 (nI 3) (fun y9 => am_cI (am_G am_prog (N + 30) (d + 1) 179 [.ref 3, .int y9] h6) (fun r11 h10 => some (.int r11, h10)))))))))
set_option maxHeartbeats 4000000 in
set_option maxRecDepth 100000 in
theorem sX8_town_0 (N d n : Nat) {X : lt_X} (hX : hsX X) (x1 : Int32) (I : Nat → Nat → Int32) (J : Nat → Nat → Int64) : RX8_town_0 N d (n + 1) X x1 I J = if x1 < nI 0 then some (.int (-1), (mkh X (u2 I 3 15 (nI 5)) J)) else if (I 3 2) < x1 then some (.int (-1), (mkh X (u2 I 3 15 (nI 5)) J)) else am_cV (am_G am_prog (N + 30) (d + 1) 45 [.ref 115, .int x1] (mkh X I J)) (KX8_town_0 N d n ) := by
  obtain ⟨L, he, sp, t1, t2⟩ := X
  rcases hX with ⟨h1, h2⟩ | ⟨h1, h2⟩ <;> (change he = _ at h1; change sp = _ at h2; subst h1; subst h2) <;> rfl
set_option maxHeartbeats 4000000 in
set_option maxRecDepth 100000 in
theorem kX8_town_0 (N d n : Nat) {X : lt_X} (hX : hsX X) (I : Nat → Nat → Int32) (J : Nat → Nat → Int64) : KX8_town_0 N d n (mkh X I J) = am_cI (am_G am_prog (N + 30) (d + 1) 95 [.ref 117, .ref X.2.2.1] (mkh X (u2 (u2 I 3 2 (nI 0)) 3 14 (nI 1)) J)) (KX8_town_1 N d n ) := by
  obtain ⟨L, he, sp, t1, t2⟩ := X
  rcases hX with ⟨h1, h2⟩ | ⟨h1, h2⟩ <;> (change he = _ at h1; change sp = _ at h2; subst h1; subst h2) <;> rfl
set_option maxHeartbeats 4000000 in
set_option maxRecDepth 100000 in
theorem kX8_town_1 (N d n : Nat) {X : lt_X} (hX : hsX X) (z : Int32) (I : Nat → Nat → Int32) (J : Nat → Nat → Int64) : KX8_town_1 N d n z (mkh X I J) = if z = nI 0 then some (.int (-1), (mkh X (u2 I 3 15 (nI 10)) J)) else some (.int (I (X.2.2.1 + 2) 3), (mkh (X.1, X.2.2.1, X.2.1, X.2.2.2.1, X.2.2.2.2) (u2 I 3 15 (nI 0)) J)) := by
  obtain ⟨L, he, sp, t1, t2⟩ := X
  show _ = if z = nI 0 then some (Value.int (-1), (mkh (L, he, sp, t1, t2) (u2 I 3 15 (nI 10)) J)) else some (Value.int (I (sp + 2) 3), am_sI (mkh (L, sp, he, t1, t2) I J) 3 15 (nI 0))
  rw [← mkh_R34 L sp sp he t1 t2, ← mkh_R33 L he sp sp t1 t2]
  rcases hX with ⟨h1, h2⟩ | ⟨h1, h2⟩ <;> (change he = _ at h1; change sp = _ at h2; subst h1; subst h2) <;> rfl
theorem fX8_town (N d : Nat) {X : lt_X} (x1 : Int32) (I : Nat → Nat → Int32) (J : Nat → Nat → Int64) : am_G am_prog N (d + 1) 122 [.ref 3, .int x1] (mkh X I J) = am_run (am_G am_prog N d) eX8_town uX8_town N 0 [(0, .ref 3), (1, .int x1)] [] (mkh X I J) := by
  refine (am_G_at N d 122 mX8_town _ _ rfl).trans ?_
  rfl
theorem gX8_town (N d : Nat) {X : lt_X} (x1 : Int32) (I : Nat → Nat → Int32) (J : Nat → Nat → Int64) : am_G am_prog (N + 30) (d + 2) 122 [.ref 3, .int x1] (mkh X I J) = RX8_town_0 N d (N + 30) X x1 I J := fX8_town (N + 30) (d + 1) x1 I J
def RX8_dials_0 (N d n : Nat) (X : lt_X) (x1 : Int32) (I : Nat → Nat → Int32) (J : Nat → Nat → Int64) : am_O := am_run (am_G am_prog (N + 30) (d + 1)) eX8_dials uX8_dials n 0 [(0, .ref 3), (1, .int x1)] [] (mkh X I J)
def KX8_dials_0 (N d n : Nat) (h : am_H) : am_O := am_pI h 8 3 2 (nI 0) (fun h1 => am_pZ h1 8 3 14 (nI 1) (fun h2 => am_gR h2 8 3 9 (fun y3 => am_gR h2 8 3 3 (fun y4 => am_cI (am_G am_prog (N + 30) (d + 1) 24 [.ref y3, .ref y4] h2) (fun r6 h5 => if r6 = nI 0 then am_cI (am_G am_prog (N + 30) (d + 1) 181 [.ref 3, .int (nI 10)] h5) (fun r8 h7 => some (.int r8, h7)) else am_gR h5 8 3 3 (fun y9 => am_gR h5 5 y9 18 (fun y10 => am_gR h5 8 3 9 (fun y11 => am_gR h5 2 y11 1 (fun y12 => am_cV (am_G am_prog (N + 30) (d + 1) 22 [.ref y10, .ref y12] h5) (fun h13 => am_gR h13 8 3 3 (fun y14 => am_gR h13 5 y14 18 (fun y15 => am_gI h13 1 y15 7 (fun y16 => am_cI (am_G am_prog (N + 30) (d + 1) 179 [.ref 3, .int y16] h13) (fun r18 h17 => some (.int r18, h17)))))))))))))))
def KX8_dials_1 (N d n : Nat) (z : Int32) (h : am_H) : am_O := if z = nI 0 then am_cI (am_G am_prog (N + 30) (d + 1) 181 [.ref 3, .int (nI 10)] h) (fun r2 h1 => some (.int r2, h1)) else am_gR h 8 3 3 (fun y3 => am_gR h 5 y3 18 (fun y4 => am_gR h 8 3 9 (fun y5 => am_gR h 2 y5 1 (fun y6 => am_cV (am_G am_prog (N + 30) (d + 1) 22 [.ref y4, .ref y6] h) (fun h7 => am_gR h7 8 3 3 (fun y8 => am_gR h7 5 y8 18 (fun y9 => am_gI h7 1 y9 7 (fun y10 => am_cI (am_G am_prog (N + 30) (d + 1) 179 [.ref 3, .int y10] h7) (fun r12 h11 => some (.int r12, h11))))))))))
def KX8_dials_2 (N d n : Nat) (h : am_H) : am_O := am_gR h 8 3 3 (fun y1 => am_gR h 5 y1 18 (fun y2 => am_gI h 1 y2 7 (fun y3 => am_cI (am_G am_prog (N + 30) (d + 1) 179 [.ref 3, .int y3] h) (fun r5 h4 => some (.int r5, h4)))))
set_option maxHeartbeats 4000000 in
set_option maxRecDepth 100000 in
theorem sX8_dials_0 (N d n : Nat) {X : lt_X} (hX : hsX X) (x1 : Int32) (I : Nat → Nat → Int32) (J : Nat → Nat → Int64) : RX8_dials_0 N d (n + 1) X x1 I J = if x1 < nI 0 then some (.int (-1), (mkh X (u2 I 3 15 (nI 5)) J)) else if (I 3 2) < x1 then some (.int (-1), (mkh X (u2 I 3 15 (nI 5)) J)) else if (nI 300) < x1 then some (.int (-1), (mkh X (u2 I 3 15 (nI 5)) J)) else am_cV (am_G am_prog (N + 30) (d + 1) 45 [.ref 115, .int x1] (mkh X I J)) (KX8_dials_0 N d n ) := by
  obtain ⟨L, he, sp, t1, t2⟩ := X
  rcases hX with ⟨h1, h2⟩ | ⟨h1, h2⟩ <;> (change he = _ at h1; change sp = _ at h2; subst h1; subst h2) <;> rfl
set_option maxHeartbeats 4000000 in
set_option maxRecDepth 100000 in
theorem kX8_dials_0 (N d n : Nat) {X : lt_X} (hX : hsX X) (I : Nat → Nat → Int32) (J : Nat → Nat → Int64) : KX8_dials_0 N d n (mkh X I J) = am_cI (am_G am_prog (N + 30) (d + 1) 24 [.ref 118, .ref X.2.1] (mkh X (u2 (u2 I 3 2 (nI 0)) 3 14 (nI 1)) J)) (KX8_dials_1 N d n ) := by
  obtain ⟨L, he, sp, t1, t2⟩ := X
  rcases hX with ⟨h1, h2⟩ | ⟨h1, h2⟩ <;> (change he = _ at h1; change sp = _ at h2; subst h1; subst h2) <;> rfl
set_option maxHeartbeats 4000000 in
set_option maxRecDepth 100000 in
theorem kX8_dials_1 (N d n : Nat) {X : lt_X} (hX : hsX X) (z : Int32) (I : Nat → Nat → Int32) (J : Nat → Nat → Int64) : KX8_dials_1 N d n z (mkh X I J) = if z = nI 0 then some (.int (-1), (mkh X (u2 I 3 15 (nI 10)) J)) else am_cV (am_G am_prog (N + 30) (d + 1) 22 [.ref (X.2.1 + 14), .ref 119] (mkh X I J)) (KX8_dials_2 N d n ) := by
  obtain ⟨L, he, sp, t1, t2⟩ := X
  rcases hX with ⟨h1, h2⟩ | ⟨h1, h2⟩ <;> (change he = _ at h1; change sp = _ at h2; subst h1; subst h2) <;> rfl
set_option maxHeartbeats 4000000 in
set_option maxRecDepth 100000 in
theorem kX8_dials_2 (N d n : Nat) {X : lt_X} (hX : hsX X) (I : Nat → Nat → Int32) (J : Nat → Nat → Int64) : KX8_dials_2 N d n (mkh X I J) = some (.int (I (X.2.1 + 14) 7), (mkh X (u2 I 3 15 (nI 0)) J)) := by
  obtain ⟨L, he, sp, t1, t2⟩ := X
  rcases hX with ⟨h1, h2⟩ | ⟨h1, h2⟩ <;> (change he = _ at h1; change sp = _ at h2; subst h1; subst h2) <;> rfl
theorem fX8_dials (N d : Nat) {X : lt_X} (x1 : Int32) (I : Nat → Nat → Int32) (J : Nat → Nat → Int64) : am_G am_prog N (d + 1) 123 [.ref 3, .int x1] (mkh X I J) = am_run (am_G am_prog N d) eX8_dials uX8_dials N 0 [(0, .ref 3), (1, .int x1)] [] (mkh X I J) := by
  refine (am_G_at N d 123 mX8_dials _ _ rfl).trans ?_
  rfl
theorem gX8_dials (N d : Nat) {X : lt_X} (x1 : Int32) (I : Nat → Nat → Int32) (J : Nat → Nat → Int64) : am_G am_prog (N + 30) (d + 2) 123 [.ref 3, .int x1] (mkh X I J) = RX8_dials_0 N d (N + 30) X x1 I J := fX8_dials (N + 30) (d + 1) x1 I J
def RX8_fault_0 (N d n : Nat) (X : lt_X) (x1 : Int32) (I : Nat → Nat → Int32) (J : Nat → Nat → Int64) : am_O := am_run (am_G am_prog (N + 30) (d + 0)) eX8_fault uX8_fault n 0 [(0, .ref 3), (1, .int x1)] [] (mkh X I J)
set_option maxHeartbeats 4000000 in
set_option maxRecDepth 100000 in
theorem sX8_fault_0 (N d n : Nat) {X : lt_X} (hX : hsX X) (x1 : Int32) (I : Nat → Nat → Int32) (J : Nat → Nat → Int64) : RX8_fault_0 N d (n + 1) X x1 I J = if (I 3 14) = nI 0 then some (.int (-1), (mkh X I J)) else if x1 = nI 0 then some (.int (I 115 10), (mkh X I J)) else if x1 = (nI 1) then some (.int (I 115 11), (mkh X I J)) else some (.int (-1), (mkh X I J)) := by
  obtain ⟨L, he, sp, t1, t2⟩ := X
  rcases hX with ⟨h1, h2⟩ | ⟨h1, h2⟩ <;> (change he = _ at h1; change sp = _ at h2; subst h1; subst h2) <;> rfl
theorem fX8_fault (N d : Nat) {X : lt_X} (x1 : Int32) (I : Nat → Nat → Int32) (J : Nat → Nat → Int64) : am_G am_prog N (d + 1) 124 [.ref 3, .int x1] (mkh X I J) = am_run (am_G am_prog N d) eX8_fault uX8_fault N 0 [(0, .ref 3), (1, .int x1)] [] (mkh X I J) := by
  refine (am_G_at N d 124 mX8_fault _ _ rfl).trans ?_
  rfl
theorem gX8_fault (N d : Nat) {X : lt_X} (x1 : Int32) (I : Nat → Nat → Int32) (J : Nat → Nat → Int64) : am_G am_prog (N + 30) (d + 1) 124 [.ref 3, .int x1] (mkh X I J) = RX8_fault_0 N d (N + 30) X x1 I J := fX8_fault (N + 30) (d + 0) x1 I J
def RX8_many_0 (N d n : Nat) (X : lt_X) (x1 : Int32) (I : Nat → Nat → Int32) (J : Nat → Nat → Int64) : am_O := am_run (am_G am_prog (N + 30) (d + 1)) eX8_many uX8_many n 0 [(0, .ref 3), (1, .int x1)] [] (mkh X I J)
def KX8_many_0 (N d n : Nat) (z : Int32) (h : am_H) : am_O := am_cI (am_G am_prog (N + 30) (d + 1) 179 [.ref 3, .int z] h) (fun r2 h1 => some (.int r2, h1))
def KX8_many_1 (N d n : Nat) (z : Int32) (h : am_H) : am_O := am_cI (am_G am_prog (N + 30) (d + 1) 179 [.ref 3, .int z] h) (fun r2 h1 => some (.int r2, h1))
def KX8_many_2 (N d n : Nat) (z : Int32) (h : am_H) : am_O := am_cI (am_G am_prog (N + 30) (d + 1) 179 [.ref 3, .int z] h) (fun r2 h1 => some (.int r2, h1))
set_option maxHeartbeats 4000000 in
set_option maxRecDepth 100000 in
theorem sX8_many_0 (N d n : Nat) {X : lt_X} (hX : hsX X) (x1 : Int32) (I : Nat → Nat → Int32) (J : Nat → Nat → Int64) : RX8_many_0 N d (n + 1) X x1 I J = if x1 < nI 0 then some (.int (-1), (mkh X (u2 I 3 15 (nI 5)) J)) else if (nI 11) < x1 then some (.int (-1), (mkh X (u2 I 3 15 (nI 5)) J)) else if x1 < (nI 4) then if am_in x1 4 then some (.int (I (X.2.1 + 2) x1.toNatClampNeg), (mkh X (u2 I 3 15 (nI 0)) J)) else none else if x1 = nI 4 then some (.int (I X.2.1 2), (mkh X (u2 I 3 15 (nI 0)) J)) else if x1 = nI 5 then some (.int (I X.2.1 3), (mkh X (u2 I 3 15 (nI 0)) J)) else if x1 = nI 6 then some (.int (I X.2.1 4), (mkh X (u2 I 3 15 (nI 0)) J)) else if x1 = nI 7 then some (.int (I X.2.1 5), (mkh X (u2 I 3 15 (nI 0)) J)) else if x1 = nI 8 then some (.int (I X.2.1 6), (mkh X (u2 I 3 15 (nI 0)) J)) else if x1 = nI 9 then am_cI (am_G am_prog (N + 30) (d + 1) 64 [.ref X.2.1, .int (-1)] (mkh X I J)) (KX8_many_0 N d n ) else if x1 = nI 10 then am_cI (am_G am_prog (N + 30) (d + 1) 68 [.ref X.2.1] (mkh X I J)) (KX8_many_1 N d n ) else am_cI (am_G am_prog (N + 30) (d + 1) 69 [.ref X.2.1] (mkh X I J)) (KX8_many_2 N d n ) := by
  obtain ⟨L, he, sp, t1, t2⟩ := X
  rcases hX with ⟨h1, h2⟩ | ⟨h1, h2⟩ <;> (change he = _ at h1; change sp = _ at h2; subst h1; subst h2) <;> rfl
set_option maxHeartbeats 4000000 in
set_option maxRecDepth 100000 in
theorem kX8_many_0 (N d n : Nat) {X : lt_X} (hX : hsX X) (z : Int32) (I : Nat → Nat → Int32) (J : Nat → Nat → Int64) : KX8_many_0 N d n z (mkh X I J) = some (.int z, (mkh X (u2 I 3 15 (nI 0)) J)) := by
  obtain ⟨L, he, sp, t1, t2⟩ := X
  rcases hX with ⟨h1, h2⟩ | ⟨h1, h2⟩ <;> (change he = _ at h1; change sp = _ at h2; subst h1; subst h2) <;> rfl
set_option maxHeartbeats 4000000 in
set_option maxRecDepth 100000 in
theorem kX8_many_1 (N d n : Nat) {X : lt_X} (hX : hsX X) (z : Int32) (I : Nat → Nat → Int32) (J : Nat → Nat → Int64) : KX8_many_1 N d n z (mkh X I J) = some (.int z, (mkh X (u2 I 3 15 (nI 0)) J)) := by
  obtain ⟨L, he, sp, t1, t2⟩ := X
  rcases hX with ⟨h1, h2⟩ | ⟨h1, h2⟩ <;> (change he = _ at h1; change sp = _ at h2; subst h1; subst h2) <;> rfl
set_option maxHeartbeats 4000000 in
set_option maxRecDepth 100000 in
theorem kX8_many_2 (N d n : Nat) {X : lt_X} (hX : hsX X) (z : Int32) (I : Nat → Nat → Int32) (J : Nat → Nat → Int64) : KX8_many_2 N d n z (mkh X I J) = some (.int z, (mkh X (u2 I 3 15 (nI 0)) J)) := by
  obtain ⟨L, he, sp, t1, t2⟩ := X
  rcases hX with ⟨h1, h2⟩ | ⟨h1, h2⟩ <;> (change he = _ at h1; change sp = _ at h2; subst h1; subst h2) <;> rfl
theorem fX8_many (N d : Nat) {X : lt_X} (x1 : Int32) (I : Nat → Nat → Int32) (J : Nat → Nat → Int64) : am_G am_prog N (d + 1) 125 [.ref 3, .int x1] (mkh X I J) = am_run (am_G am_prog N d) eX8_many uX8_many N 0 [(0, .ref 3), (1, .int x1)] [] (mkh X I J) := by
  refine (am_G_at N d 125 mX8_many _ _ rfl).trans ?_
  rfl
theorem gX8_many (N d : Nat) {X : lt_X} (x1 : Int32) (I : Nat → Nat → Int32) (J : Nat → Nat → Int64) : am_G am_prog (N + 30) (d + 2) 125 [.ref 3, .int x1] (mkh X I J) = RX8_many_0 N d (N + 30) X x1 I J := fX8_many (N + 30) (d + 1) x1 I J
def RX8_voice_0 (N d n : Nat) (X : lt_X) (x1 : Int32) (x2 : Int32) (I : Nat → Nat → Int32) (J : Nat → Nat → Int64) : am_O := am_run (am_G am_prog (N + 30) (d + 1)) eX8_voice uX8_voice n 0 [(0, .ref 3), (1, .int x1), (2, .int x2)] [] (mkh X I J)
def KX8_voice_0 (N d n : Nat) (a0 : Int32) (a1 : Int32) (z : Int32) (h : am_H) : am_O := if z = nI 0 then am_cI (am_G am_prog (N + 30) (d + 1) 181 [.ref 3, .int (nI 2)] h) (fun r2 h1 => some (.int r2, h1)) else if a1 = nI 0 then am_gR h 8 3 3 (fun y3 => am_gR h 5 y3 7 (fun y4 => am_lI h 10 y4 a0 (fun y5 => am_cI (am_G am_prog (N + 30) (d + 1) 179 [.ref 3, .int y5] h) (fun r7 h6 => some (.int r7, h6))))) else if a1 = nI 1 then am_gR h 8 3 3 (fun y8 => am_gR h 5 y8 8 (fun y9 => am_lI h 10 y9 a0 (fun y10 => am_cI (am_G am_prog (N + 30) (d + 1) 179 [.ref 3, .int y10] h) (fun r12 h11 => some (.int r12, h11))))) else if a1 = nI 2 then am_gR h 8 3 3 (fun y13 => am_gR h 5 y13 9 (fun y14 => am_lI h 10 y14 a0 (fun y15 => am_cI (am_G am_prog (N + 30) (d + 1) 179 [.ref 3, .int y15] h) (fun r17 h16 => some (.int r17, h16))))) else if a1 = nI 3 then am_gR h 8 3 3 (fun y18 => am_gI h 5 y18 5 (fun y19 => am_cI (am_G am_prog (N + 30) (d + 1) 179 [.ref 3, .int ((y19 >>> (a0 &&& 31)) &&& (nI 1))] h) (fun r21 h20 => some (.int r21, h20)))) else if a1 = nI 4 then am_gR h 8 3 3 (fun y22 => am_gI h 5 y22 6 (fun y23 => am_cI (am_G am_prog (N + 30) (d + 1) 179 [.ref 3, .int ((y23 >>> (a0 &&& 31)) &&& (nI 1))] h) (fun r25 h24 => some (.int r25, h24)))) else am_cI (am_G am_prog (N + 30) (d + 1) 181 [.ref 3, .int (nI 5)] h) (fun r27 h26 => some (.int r27, h26))
set_option maxHeartbeats 4000000 in
set_option maxRecDepth 100000 in
theorem sX8_voice_0 (N d n : Nat) {X : lt_X} (hX : hsX X) (x1 : Int32) (x2 : Int32) (I : Nat → Nat → Int32) (J : Nat → Nat → Int64) : RX8_voice_0 N d (n + 1) X x1 x2 I J = am_cI (am_G am_prog (N + 30) (d + 1) 178 [.ref 3, .int (nI 1), .int x1] (mkh X I J)) (KX8_voice_0 N d n x1 x2) := by
  obtain ⟨L, he, sp, t1, t2⟩ := X
  rcases hX with ⟨h1, h2⟩ | ⟨h1, h2⟩ <;> (change he = _ at h1; change sp = _ at h2; subst h1; subst h2) <;> rfl
set_option maxHeartbeats 4000000 in
set_option maxRecDepth 100000 in
theorem kX8_voice_0 (N d n : Nat) {X : lt_X} (hX : hsX X) (a0 : Int32) (a1 : Int32) (z : Int32) (I : Nat → Nat → Int32) (J : Nat → Nat → Int64) : KX8_voice_0 N d n a0 a1 z (mkh X I J) = if z = nI 0 then some (.int (-1), (mkh X (u2 I 3 15 (nI 2)) J)) else if a1 = nI 0 then if am_in a0 6 then some (.int (I (X.2.1 + 3) a0.toNatClampNeg), (mkh X (u2 I 3 15 (nI 0)) J)) else none else if a1 = nI 1 then if am_in a0 6 then some (.int (I (X.2.1 + 4) a0.toNatClampNeg), (mkh X (u2 I 3 15 (nI 0)) J)) else none else if a1 = nI 2 then if am_in a0 6 then some (.int (I (X.2.1 + 5) a0.toNatClampNeg), (mkh X (u2 I 3 15 (nI 0)) J)) else none else if a1 = nI 3 then some (.int (((I X.2.1 5) >>> (a0 &&& 31)) &&& (nI 1)), (mkh X (u2 I 3 15 (nI 0)) J)) else if a1 = nI 4 then some (.int (((I X.2.1 6) >>> (a0 &&& 31)) &&& (nI 1)), (mkh X (u2 I 3 15 (nI 0)) J)) else some (.int (-1), (mkh X (u2 I 3 15 (nI 5)) J)) := by
  obtain ⟨L, he, sp, t1, t2⟩ := X
  rcases hX with ⟨h1, h2⟩ | ⟨h1, h2⟩ <;> (change he = _ at h1; change sp = _ at h2; subst h1; subst h2) <;> rfl
theorem fX8_voice (N d : Nat) {X : lt_X} (x1 : Int32) (x2 : Int32) (I : Nat → Nat → Int32) (J : Nat → Nat → Int64) : am_G am_prog N (d + 1) 126 [.ref 3, .int x1, .int x2] (mkh X I J) = am_run (am_G am_prog N d) eX8_voice uX8_voice N 0 [(0, .ref 3), (1, .int x1), (2, .int x2)] [] (mkh X I J) := by
  refine (am_G_at N d 126 mX8_voice _ _ rfl).trans ?_
  rfl
theorem gX8_voice (N d : Nat) {X : lt_X} (x1 : Int32) (x2 : Int32) (I : Nat → Nat → Int32) (J : Nat → Nat → Int64) : am_G am_prog (N + 30) (d + 2) 126 [.ref 3, .int x1, .int x2] (mkh X I J) = RX8_voice_0 N d (N + 30) X x1 x2 I J := fX8_voice (N + 30) (d + 1) x1 x2 I J
def RX8_row_0 (N d n : Nat) (X : lt_X) (x1 : Int32) (x2 : Int32) (I : Nat → Nat → Int32) (J : Nat → Nat → Int64) : am_O := am_run (am_G am_prog (N + 30) (d + 1)) eX8_row uX8_row n 0 [(0, .ref 3), (1, .int x1), (2, .int x2)] [] (mkh X I J)
def KX8_row_0 (N d n : Nat) (a0 : Int32) (a1 : Int32) (z : Int32) (h : am_H) : am_O := if z = nI 0 then am_cI (am_G am_prog (N + 30) (d + 1) 181 [.ref 3, .int (nI 2)] h) (fun r2 h1 => some (.int r2, h1)) else if a1 < nI 0 then am_cI (am_G am_prog (N + 30) (d + 1) 181 [.ref 3, .int (nI 8)] h) (fun r4 h3 => some (.int r4, h3)) else am_gR h 8 3 3 (fun y5 => am_gR h 5 y5 9 (fun y6 => am_lI h 10 y6 a0 (fun y7 => if a1 < y7 then am_gR h 8 3 3 (fun y8 => am_gR h 5 y8 10 (fun y9 => am_lI h 10 y9 ((a0 * (nI 8)) + a1) (fun y10 => am_cI (am_G am_prog (N + 30) (d + 1) 179 [.ref 3, .int y10] h) (fun r12 h11 => some (.int r12, h11))))) else am_cI (am_G am_prog (N + 30) (d + 1) 181 [.ref 3, .int (nI 8)] h) (fun r14 h13 => some (.int r14, h13)))))
set_option maxHeartbeats 4000000 in
set_option maxRecDepth 100000 in
theorem sX8_row_0 (N d n : Nat) {X : lt_X} (hX : hsX X) (x1 : Int32) (x2 : Int32) (I : Nat → Nat → Int32) (J : Nat → Nat → Int64) : RX8_row_0 N d (n + 1) X x1 x2 I J = am_cI (am_G am_prog (N + 30) (d + 1) 178 [.ref 3, .int (nI 1), .int x1] (mkh X I J)) (KX8_row_0 N d n x1 x2) := by
  obtain ⟨L, he, sp, t1, t2⟩ := X
  rcases hX with ⟨h1, h2⟩ | ⟨h1, h2⟩ <;> (change he = _ at h1; change sp = _ at h2; subst h1; subst h2) <;> rfl
set_option maxHeartbeats 4000000 in
set_option maxRecDepth 100000 in
theorem kX8_row_0 (N d n : Nat) {X : lt_X} (hX : hsX X) (a0 : Int32) (a1 : Int32) (z : Int32) (I : Nat → Nat → Int32) (J : Nat → Nat → Int64) : KX8_row_0 N d n a0 a1 z (mkh X I J) = if z = nI 0 then some (.int (-1), (mkh X (u2 I 3 15 (nI 2)) J)) else if a1 < nI 0 then some (.int (-1), (mkh X (u2 I 3 15 (nI 8)) J)) else if am_in a0 6 then if a1 < (I (X.2.1 + 5) a0.toNatClampNeg) then if am_in ((a0 * (nI 8)) + a1) 48 then some (.int (I (X.2.1 + 6) (((a0 * (nI 8)) + a1).toNatClampNeg)), (mkh X (u2 I 3 15 (nI 0)) J)) else none else some (.int (-1), (mkh X (u2 I 3 15 (nI 8)) J)) else none := by
  obtain ⟨L, he, sp, t1, t2⟩ := X
  rcases hX with ⟨h1, h2⟩ | ⟨h1, h2⟩ <;> (change he = _ at h1; change sp = _ at h2; subst h1; subst h2) <;> rfl
theorem fX8_row (N d : Nat) {X : lt_X} (x1 : Int32) (x2 : Int32) (I : Nat → Nat → Int32) (J : Nat → Nat → Int64) : am_G am_prog N (d + 1) 127 [.ref 3, .int x1, .int x2] (mkh X I J) = am_run (am_G am_prog N d) eX8_row uX8_row N 0 [(0, .ref 3), (1, .int x1), (2, .int x2)] [] (mkh X I J) := by
  refine (am_G_at N d 127 mX8_row _ _ rfl).trans ?_
  rfl
theorem gX8_row (N d : Nat) {X : lt_X} (x1 : Int32) (x2 : Int32) (I : Nat → Nat → Int32) (J : Nat → Nat → Int64) : am_G am_prog (N + 30) (d + 2) 127 [.ref 3, .int x1, .int x2] (mkh X I J) = RX8_row_0 N d (N + 30) X x1 x2 I J := fX8_row (N + 30) (d + 1) x1 x2 I J
def RX8_person_0 (N d n : Nat) (X : lt_X) (x1 : Int32) (x2 : Int32) (I : Nat → Nat → Int32) (J : Nat → Nat → Int64) : am_O := am_run (am_G am_prog (N + 30) (d + 1)) eX8_person uX8_person n 0 [(0, .ref 3), (1, .int x1), (2, .int x2)] [] (mkh X I J)
def KX8_person_0 (N d n : Nat) (a0 : Int32) (a1 : Int32) (z : Int32) (h : am_H) : am_O := if z = nI 0 then am_cI (am_G am_prog (N + 30) (d + 1) 181 [.ref 3, .int (nI 2)] h) (fun r2 h1 => some (.int r2, h1)) else if a1 = nI 0 then am_gR h 8 3 3 (fun y3 => am_gR h 5 y3 11 (fun y4 => am_lI h 10 y4 a0 (fun y5 => am_cI (am_G am_prog (N + 30) (d + 1) 179 [.ref 3, .int y5] h) (fun r7 h6 => some (.int r7, h6))))) else if a1 = nI 1 then am_gR h 8 3 3 (fun y8 => am_gR h 5 y8 12 (fun y9 => am_lI h 10 y9 a0 (fun y10 => am_cI (am_G am_prog (N + 30) (d + 1) 179 [.ref 3, .int y10] h) (fun r12 h11 => some (.int r12, h11))))) else if a1 = nI 2 then am_gR h 8 3 3 (fun y13 => am_gR h 5 y13 13 (fun y14 => am_lI h 10 y14 a0 (fun y15 => am_cI (am_G am_prog (N + 30) (d + 1) 179 [.ref 3, .int y15] h) (fun r17 h16 => some (.int r17, h16))))) else if a1 = nI 3 then am_gR h 8 3 3 (fun y18 => am_cI (am_G am_prog (N + 30) (d + 1) 64 [.ref y18, .int a0] h) (fun r20 h19 => am_cI (am_G am_prog (N + 30) (d + 1) 179 [.ref 3, .int r20] h19) (fun r22 h21 => some (.int r22, h21)))) else am_cI (am_G am_prog (N + 30) (d + 1) 181 [.ref 3, .int (nI 5)] h) (fun r24 h23 => some (.int r24, h23))
def KX8_person_1 (N d n : Nat) (z : Int32) (h : am_H) : am_O := am_cI (am_G am_prog (N + 30) (d + 1) 179 [.ref 3, .int z] h) (fun r2 h1 => some (.int r2, h1))
set_option maxHeartbeats 4000000 in
set_option maxRecDepth 100000 in
theorem sX8_person_0 (N d n : Nat) {X : lt_X} (hX : hsX X) (x1 : Int32) (x2 : Int32) (I : Nat → Nat → Int32) (J : Nat → Nat → Int64) : RX8_person_0 N d (n + 1) X x1 x2 I J = am_cI (am_G am_prog (N + 30) (d + 1) 178 [.ref 3, .int (nI 2), .int x1] (mkh X I J)) (KX8_person_0 N d n x1 x2) := by
  obtain ⟨L, he, sp, t1, t2⟩ := X
  rcases hX with ⟨h1, h2⟩ | ⟨h1, h2⟩ <;> (change he = _ at h1; change sp = _ at h2; subst h1; subst h2) <;> rfl
set_option maxHeartbeats 4000000 in
set_option maxRecDepth 100000 in
theorem kX8_person_0 (N d n : Nat) {X : lt_X} (hX : hsX X) (a0 : Int32) (a1 : Int32) (z : Int32) (I : Nat → Nat → Int32) (J : Nat → Nat → Int64) : KX8_person_0 N d n a0 a1 z (mkh X I J) = if z = nI 0 then some (.int (-1), (mkh X (u2 I 3 15 (nI 2)) J)) else if a1 = nI 0 then if am_in a0 6 then some (.int (I (X.2.1 + 7) a0.toNatClampNeg), (mkh X (u2 I 3 15 (nI 0)) J)) else none else if a1 = nI 1 then if am_in a0 6 then some (.int (I (X.2.1 + 8) a0.toNatClampNeg), (mkh X (u2 I 3 15 (nI 0)) J)) else none else if a1 = nI 2 then if am_in a0 6 then some (.int (I (X.2.1 + 9) a0.toNatClampNeg), (mkh X (u2 I 3 15 (nI 0)) J)) else none else if a1 = nI 3 then am_cI (am_G am_prog (N + 30) (d + 1) 64 [.ref X.2.1, .int a0] (mkh X I J)) (KX8_person_1 N d n ) else some (.int (-1), (mkh X (u2 I 3 15 (nI 5)) J)) := by
  obtain ⟨L, he, sp, t1, t2⟩ := X
  rcases hX with ⟨h1, h2⟩ | ⟨h1, h2⟩ <;> (change he = _ at h1; change sp = _ at h2; subst h1; subst h2) <;> rfl
set_option maxHeartbeats 4000000 in
set_option maxRecDepth 100000 in
theorem kX8_person_1 (N d n : Nat) {X : lt_X} (hX : hsX X) (z : Int32) (I : Nat → Nat → Int32) (J : Nat → Nat → Int64) : KX8_person_1 N d n z (mkh X I J) = some (.int z, (mkh X (u2 I 3 15 (nI 0)) J)) := by
  obtain ⟨L, he, sp, t1, t2⟩ := X
  rcases hX with ⟨h1, h2⟩ | ⟨h1, h2⟩ <;> (change he = _ at h1; change sp = _ at h2; subst h1; subst h2) <;> rfl
theorem fX8_person (N d : Nat) {X : lt_X} (x1 : Int32) (x2 : Int32) (I : Nat → Nat → Int32) (J : Nat → Nat → Int64) : am_G am_prog N (d + 1) 128 [.ref 3, .int x1, .int x2] (mkh X I J) = am_run (am_G am_prog N d) eX8_person uX8_person N 0 [(0, .ref 3), (1, .int x1), (2, .int x2)] [] (mkh X I J) := by
  refine (am_G_at N d 128 mX8_person _ _ rfl).trans ?_
  rfl
theorem gX8_person (N d : Nat) {X : lt_X} (x1 : Int32) (x2 : Int32) (I : Nat → Nat → Int32) (J : Nat → Nat → Int64) : am_G am_prog (N + 30) (d + 2) 128 [.ref 3, .int x1, .int x2] (mkh X I J) = RX8_person_0 N d (N + 30) X x1 x2 I J := fX8_person (N + 30) (d + 1) x1 x2 I J
def RX8_like_0 (N d n : Nat) (X : lt_X) (x1 : Int32) (x2 : Int32) (I : Nat → Nat → Int32) (J : Nat → Nat → Int64) : am_O := am_run (am_G am_prog (N + 30) (d + 1)) eX8_like uX8_like n 0 [(0, .ref 3), (1, .int x1), (2, .int x2)] [] (mkh X I J)
def KX8_like_0 (N d n : Nat) (a0 : Int32) (a1 : Int32) (z : Int32) (h : am_H) : am_O := if z = nI 0 then am_cI (am_G am_prog (N + 30) (d + 1) 181 [.ref 3, .int (nI 2)] h) (fun r2 h1 => some (.int r2, h1)) else am_cI (am_G am_prog (N + 30) (d + 1) 178 [.ref 3, .int (nI 0), .int a1] h) (fun r4 h3 => if r4 = nI 0 then am_cI (am_G am_prog (N + 30) (d + 1) 181 [.ref 3, .int (nI 2)] h3) (fun r6 h5 => some (.int r6, h5)) else am_gR h3 8 3 3 (fun y7 => am_gR h3 5 y7 14 (fun y8 => am_lI h3 10 y8 ((a0 * (nI 6)) + a1) (fun y9 => am_cI (am_G am_prog (N + 30) (d + 1) 179 [.ref 3, .int y9] h3) (fun r11 h10 => some (.int r11, h10))))))
def KX8_like_1 (N d n : Nat) (a0 : Int32) (a1 : Int32) (z : Int32) (h : am_H) : am_O := if z = nI 0 then am_cI (am_G am_prog (N + 30) (d + 1) 181 [.ref 3, .int (nI 2)] h) (fun r2 h1 => some (.int r2, h1)) else am_gR h 8 3 3 (fun y3 => am_gR h 5 y3 14 (fun y4 => am_lI h 10 y4 ((a0 * (nI 6)) + a1) (fun y5 => am_cI (am_G am_prog (N + 30) (d + 1) 179 [.ref 3, .int y5] h) (fun r7 h6 => some (.int r7, h6)))))
set_option maxHeartbeats 4000000 in
set_option maxRecDepth 100000 in
theorem sX8_like_0 (N d n : Nat) {X : lt_X} (hX : hsX X) (x1 : Int32) (x2 : Int32) (I : Nat → Nat → Int32) (J : Nat → Nat → Int64) : RX8_like_0 N d (n + 1) X x1 x2 I J = am_cI (am_G am_prog (N + 30) (d + 1) 178 [.ref 3, .int (nI 2), .int x1] (mkh X I J)) (KX8_like_0 N d n x1 x2) := by
  obtain ⟨L, he, sp, t1, t2⟩ := X
  rcases hX with ⟨h1, h2⟩ | ⟨h1, h2⟩ <;> (change he = _ at h1; change sp = _ at h2; subst h1; subst h2) <;> rfl
set_option maxHeartbeats 4000000 in
set_option maxRecDepth 100000 in
theorem kX8_like_0 (N d n : Nat) {X : lt_X} (hX : hsX X) (a0 : Int32) (a1 : Int32) (z : Int32) (I : Nat → Nat → Int32) (J : Nat → Nat → Int64) : KX8_like_0 N d n a0 a1 z (mkh X I J) = if z = nI 0 then some (.int (-1), (mkh X (u2 I 3 15 (nI 2)) J)) else am_cI (am_G am_prog (N + 30) (d + 1) 178 [.ref 3, .int (nI 0), .int a1] (mkh X I J)) (KX8_like_1 N d n a0 a1) := by
  obtain ⟨L, he, sp, t1, t2⟩ := X
  rcases hX with ⟨h1, h2⟩ | ⟨h1, h2⟩ <;> (change he = _ at h1; change sp = _ at h2; subst h1; subst h2) <;> rfl
set_option maxHeartbeats 4000000 in
set_option maxRecDepth 100000 in
theorem kX8_like_1 (N d n : Nat) {X : lt_X} (hX : hsX X) (a0 : Int32) (a1 : Int32) (z : Int32) (I : Nat → Nat → Int32) (J : Nat → Nat → Int64) : KX8_like_1 N d n a0 a1 z (mkh X I J) = if z = nI 0 then some (.int (-1), (mkh X (u2 I 3 15 (nI 2)) J)) else if am_in ((a0 * (nI 6)) + a1) 36 then some (.int (I (X.2.1 + 10) (((a0 * (nI 6)) + a1).toNatClampNeg)), (mkh X (u2 I 3 15 (nI 0)) J)) else none := by
  obtain ⟨L, he, sp, t1, t2⟩ := X
  rcases hX with ⟨h1, h2⟩ | ⟨h1, h2⟩ <;> (change he = _ at h1; change sp = _ at h2; subst h1; subst h2) <;> rfl
theorem fX8_like (N d : Nat) {X : lt_X} (x1 : Int32) (x2 : Int32) (I : Nat → Nat → Int32) (J : Nat → Nat → Int64) : am_G am_prog N (d + 1) 129 [.ref 3, .int x1, .int x2] (mkh X I J) = am_run (am_G am_prog N d) eX8_like uX8_like N 0 [(0, .ref 3), (1, .int x1), (2, .int x2)] [] (mkh X I J) := by
  refine (am_G_at N d 129 mX8_like _ _ rfl).trans ?_
  rfl
theorem gX8_like (N d : Nat) {X : lt_X} (x1 : Int32) (x2 : Int32) (I : Nat → Nat → Int32) (J : Nat → Nat → Int64) : am_G am_prog (N + 30) (d + 2) 129 [.ref 3, .int x1, .int x2] (mkh X I J) = RX8_like_0 N d (N + 30) X x1 x2 I J := fX8_like (N + 30) (d + 1) x1 x2 I J
def RX8_set_0 (N d n : Nat) (X : lt_X) (x1 : Int32) (x2 : Int32) (I : Nat → Nat → Int32) (J : Nat → Nat → Int64) : am_O := am_run (am_G am_prog (N + 30) (d + 2)) eX8_set uX8_set n 0 [(0, .ref 3), (1, .int x1), (2, .int x2)] [] (mkh X I J)
def KX8_set_0 (N d n : Nat) (a0 : Int32) (a1 : Int32) (z : Int32) (h : am_H) : am_O := if z = nI 0 then am_cI (am_G am_prog (N + 30) (d + 2) 181 [.ref 3, .int (nI 2)] h) (fun r2 h1 => some (.int r2, h1)) else if a1 = nI 0 then am_gR h 8 3 3 (fun y3 => am_gR h 5 y3 15 (fun y4 => am_lI h 10 y4 a0 (fun y5 => am_cI (am_G am_prog (N + 30) (d + 2) 179 [.ref 3, .int y5] h) (fun r7 h6 => some (.int r7, h6))))) else if a1 = nI 1 then am_gR h 8 3 3 (fun y8 => am_gR h 5 y8 16 (fun y9 => am_lI h 10 y9 a0 (fun y10 => am_cI (am_G am_prog (N + 30) (d + 2) 180 [.ref 3, .int y10] h) (fun r12 h11 => some (.int r12, h11))))) else if a1 = nI 2 then am_gR h 8 3 3 (fun y13 => am_gR h 5 y13 17 (fun y14 => am_lI h 10 y14 a0 (fun y15 => am_cI (am_G am_prog (N + 30) (d + 2) 180 [.ref 3, .int y15] h) (fun r17 h16 => some (.int r17, h16))))) else am_cI (am_G am_prog (N + 30) (d + 2) 181 [.ref 3, .int (nI 5)] h) (fun r19 h18 => some (.int r19, h18))
def KX8_set_1 (N d n : Nat) (z : Int32) (h : am_H) : am_O := some (.int z, h)
def KX8_set_2 (N d n : Nat) (z : Int32) (h : am_H) : am_O := some (.int z, h)
set_option maxHeartbeats 4000000 in
set_option maxRecDepth 100000 in
theorem sX8_set_0 (N d n : Nat) {X : lt_X} (hX : hsX X) (x1 : Int32) (x2 : Int32) (I : Nat → Nat → Int32) (J : Nat → Nat → Int64) : RX8_set_0 N d (n + 1) X x1 x2 I J = am_cI (am_G am_prog (N + 30) (d + 2) 178 [.ref 3, .int (nI 3), .int x1] (mkh X I J)) (KX8_set_0 N d n x1 x2) := by
  obtain ⟨L, he, sp, t1, t2⟩ := X
  rcases hX with ⟨h1, h2⟩ | ⟨h1, h2⟩ <;> (change he = _ at h1; change sp = _ at h2; subst h1; subst h2) <;> rfl
set_option maxHeartbeats 4000000 in
set_option maxRecDepth 100000 in
theorem kX8_set_0 (N d n : Nat) {X : lt_X} (hX : hsX X) (a0 : Int32) (a1 : Int32) (z : Int32) (I : Nat → Nat → Int32) (J : Nat → Nat → Int64) : KX8_set_0 N d n a0 a1 z (mkh X I J) = if z = nI 0 then some (.int (-1), (mkh X (u2 I 3 15 (nI 2)) J)) else if a1 = nI 0 then if am_in a0 6 then some (.int (I (X.2.1 + 11) a0.toNatClampNeg), (mkh X (u2 I 3 15 (nI 0)) J)) else none else if a1 = nI 1 then if am_in a0 6 then am_cI (am_G am_prog (N + 30) (d + 2) 180 [.ref 3, .int (I (X.2.1 + 12) a0.toNatClampNeg)] (mkh X I J)) (KX8_set_1 N d n ) else none else if a1 = nI 2 then if am_in a0 6 then am_cI (am_G am_prog (N + 30) (d + 2) 180 [.ref 3, .int (I (X.2.1 + 13) a0.toNatClampNeg)] (mkh X I J)) (KX8_set_2 N d n ) else none else some (.int (-1), (mkh X (u2 I 3 15 (nI 5)) J)) := by
  obtain ⟨L, he, sp, t1, t2⟩ := X
  rcases hX with ⟨h1, h2⟩ | ⟨h1, h2⟩ <;> (change he = _ at h1; change sp = _ at h2; subst h1; subst h2) <;> rfl
set_option maxHeartbeats 4000000 in
set_option maxRecDepth 100000 in
theorem kX8_set_1 (N d n : Nat) {X : lt_X} (hX : hsX X) (z : Int32) (I : Nat → Nat → Int32) (J : Nat → Nat → Int64) : KX8_set_1 N d n z (mkh X I J) = some (.int z, (mkh X I J)) := by
  obtain ⟨L, he, sp, t1, t2⟩ := X
  rcases hX with ⟨h1, h2⟩ | ⟨h1, h2⟩ <;> (change he = _ at h1; change sp = _ at h2; subst h1; subst h2) <;> rfl
set_option maxHeartbeats 4000000 in
set_option maxRecDepth 100000 in
theorem kX8_set_2 (N d n : Nat) {X : lt_X} (hX : hsX X) (z : Int32) (I : Nat → Nat → Int32) (J : Nat → Nat → Int64) : KX8_set_2 N d n z (mkh X I J) = some (.int z, (mkh X I J)) := by
  obtain ⟨L, he, sp, t1, t2⟩ := X
  rcases hX with ⟨h1, h2⟩ | ⟨h1, h2⟩ <;> (change he = _ at h1; change sp = _ at h2; subst h1; subst h2) <;> rfl
theorem fX8_set (N d : Nat) {X : lt_X} (x1 : Int32) (x2 : Int32) (I : Nat → Nat → Int32) (J : Nat → Nat → Int64) : am_G am_prog N (d + 1) 130 [.ref 3, .int x1, .int x2] (mkh X I J) = am_run (am_G am_prog N d) eX8_set uX8_set N 0 [(0, .ref 3), (1, .int x1), (2, .int x2)] [] (mkh X I J) := by
  refine (am_G_at N d 130 mX8_set _ _ rfl).trans ?_
  rfl
theorem gX8_set (N d : Nat) {X : lt_X} (x1 : Int32) (x2 : Int32) (I : Nat → Nat → Int32) (J : Nat → Nat → Int64) : am_G am_prog (N + 30) (d + 3) 130 [.ref 3, .int x1, .int x2] (mkh X I J) = RX8_set_0 N d (N + 30) X x1 x2 I J := fX8_set (N + 30) (d + 2) x1 x2 I J
def RX8_hour_0 (N d n : Nat) (X : lt_X) (x1 : Int32) (I : Nat → Nat → Int32) (J : Nat → Nat → Int64) : am_O := am_run (am_G am_prog (N + 30) (d + 1)) eX8_hour uX8_hour n 0 [(0, .ref 3), (1, .int x1)] [] (mkh X I J)
def KX8_hour_0 (N d n : Nat) (a0 : Int32) (z : Int32) (h : am_H) : am_O := if z = nI 0 then am_cI (am_G am_prog (N + 30) (d + 1) 181 [.ref 3, .int (nI 7)] h) (fun r2 h1 => some (.int r2, h1)) else am_gR h 8 3 3 (fun y3 => am_cI (am_G am_prog (N + 30) (d + 1) 80 [.ref y3, .int a0] h) (fun r5 h4 => am_cI (am_G am_prog (N + 30) (d + 1) 179 [.ref 3, .int r5] h4) (fun r7 h6 => some (.int r7, h6))))
def KX8_hour_1 (N d n : Nat) (z : Int32) (h : am_H) : am_O := am_cI (am_G am_prog (N + 30) (d + 1) 179 [.ref 3, .int z] h) (fun r2 h1 => some (.int r2, h1))
set_option maxHeartbeats 4000000 in
set_option maxRecDepth 100000 in
theorem sX8_hour_0 (N d n : Nat) {X : lt_X} (hX : hsX X) (x1 : Int32) (I : Nat → Nat → Int32) (J : Nat → Nat → Int64) : RX8_hour_0 N d (n + 1) X x1 I J = if x1 < (nI 1) then some (.int (-1), (mkh X (u2 I 3 15 (nI 5)) J)) else if (nI 99) < x1 then some (.int (-1), (mkh X (u2 I 3 15 (nI 5)) J)) else am_cI (am_G am_prog (N + 30) (d + 1) 78 [.ref X.2.1, .int x1] (mkh X I J)) (KX8_hour_0 N d n x1) := by
  obtain ⟨L, he, sp, t1, t2⟩ := X
  rcases hX with ⟨h1, h2⟩ | ⟨h1, h2⟩ <;> (change he = _ at h1; change sp = _ at h2; subst h1; subst h2) <;> rfl
set_option maxHeartbeats 4000000 in
set_option maxRecDepth 100000 in
theorem kX8_hour_0 (N d n : Nat) {X : lt_X} (hX : hsX X) (a0 : Int32) (z : Int32) (I : Nat → Nat → Int32) (J : Nat → Nat → Int64) : KX8_hour_0 N d n a0 z (mkh X I J) = if z = nI 0 then some (.int (-1), (mkh X (u2 I 3 15 (nI 7)) J)) else am_cI (am_G am_prog (N + 30) (d + 1) 80 [.ref X.2.1, .int a0] (mkh X I J)) (KX8_hour_1 N d n ) := by
  obtain ⟨L, he, sp, t1, t2⟩ := X
  rcases hX with ⟨h1, h2⟩ | ⟨h1, h2⟩ <;> (change he = _ at h1; change sp = _ at h2; subst h1; subst h2) <;> rfl
set_option maxHeartbeats 4000000 in
set_option maxRecDepth 100000 in
theorem kX8_hour_1 (N d n : Nat) {X : lt_X} (hX : hsX X) (z : Int32) (I : Nat → Nat → Int32) (J : Nat → Nat → Int64) : KX8_hour_1 N d n z (mkh X I J) = some (.int z, (mkh X (u2 I 3 15 (nI 0)) J)) := by
  obtain ⟨L, he, sp, t1, t2⟩ := X
  rcases hX with ⟨h1, h2⟩ | ⟨h1, h2⟩ <;> (change he = _ at h1; change sp = _ at h2; subst h1; subst h2) <;> rfl
theorem fX8_hour (N d : Nat) {X : lt_X} (x1 : Int32) (I : Nat → Nat → Int32) (J : Nat → Nat → Int64) : am_G am_prog N (d + 1) 131 [.ref 3, .int x1] (mkh X I J) = am_run (am_G am_prog N d) eX8_hour uX8_hour N 0 [(0, .ref 3), (1, .int x1)] [] (mkh X I J) := by
  refine (am_G_at N d 131 mX8_hour _ _ rfl).trans ?_
  rfl
theorem gX8_hour (N d : Nat) {X : lt_X} (x1 : Int32) (I : Nat → Nat → Int32) (J : Nat → Nat → Int64) : am_G am_prog (N + 30) (d + 2) 131 [.ref 3, .int x1] (mkh X I J) = RX8_hour_0 N d (N + 30) X x1 I J := fX8_hour (N + 30) (d + 1) x1 I J
def RX8_year_0 (N d n : Nat) (X : lt_X) (x1 : Int32) (I : Nat → Nat → Int32) (J : Nat → Nat → Int64) : am_O := am_run (am_G am_prog (N + 30) (d + 1)) eX8_year uX8_year n 0 [(0, .ref 3), (1, .int x1)] [] (mkh X I J)
def KX8_year_0 (N d n : Nat) (a0 : Int32) (z : Int32) (h : am_H) : am_O := if z = nI 0 then am_cI (am_G am_prog (N + 30) (d + 1) 181 [.ref 3, .int (nI 7)] h) (fun r2 h1 => some (.int r2, h1)) else am_gR h 8 3 3 (fun y3 => am_cI (am_G am_prog (N + 30) (d + 1) 81 [.ref y3, .int a0] h) (fun r5 h4 => am_cI (am_G am_prog (N + 30) (d + 1) 179 [.ref 3, .int r5] h4) (fun r7 h6 => some (.int r7, h6))))
def KX8_year_1 (N d n : Nat) (z : Int32) (h : am_H) : am_O := am_cI (am_G am_prog (N + 30) (d + 1) 179 [.ref 3, .int z] h) (fun r2 h1 => some (.int r2, h1))
set_option maxHeartbeats 4000000 in
set_option maxRecDepth 100000 in
theorem sX8_year_0 (N d n : Nat) {X : lt_X} (hX : hsX X) (x1 : Int32) (I : Nat → Nat → Int32) (J : Nat → Nat → Int64) : RX8_year_0 N d (n + 1) X x1 I J = if x1 < (nI 1) then some (.int (-1), (mkh X (u2 I 3 15 (nI 5)) J)) else if (nI 99) < x1 then some (.int (-1), (mkh X (u2 I 3 15 (nI 5)) J)) else am_cI (am_G am_prog (N + 30) (d + 1) 79 [.ref X.2.1, .int x1] (mkh X I J)) (KX8_year_0 N d n x1) := by
  obtain ⟨L, he, sp, t1, t2⟩ := X
  rcases hX with ⟨h1, h2⟩ | ⟨h1, h2⟩ <;> (change he = _ at h1; change sp = _ at h2; subst h1; subst h2) <;> rfl
set_option maxHeartbeats 4000000 in
set_option maxRecDepth 100000 in
theorem kX8_year_0 (N d n : Nat) {X : lt_X} (hX : hsX X) (a0 : Int32) (z : Int32) (I : Nat → Nat → Int32) (J : Nat → Nat → Int64) : KX8_year_0 N d n a0 z (mkh X I J) = if z = nI 0 then some (.int (-1), (mkh X (u2 I 3 15 (nI 7)) J)) else am_cI (am_G am_prog (N + 30) (d + 1) 81 [.ref X.2.1, .int a0] (mkh X I J)) (KX8_year_1 N d n ) := by
  obtain ⟨L, he, sp, t1, t2⟩ := X
  rcases hX with ⟨h1, h2⟩ | ⟨h1, h2⟩ <;> (change he = _ at h1; change sp = _ at h2; subst h1; subst h2) <;> rfl
set_option maxHeartbeats 4000000 in
set_option maxRecDepth 100000 in
theorem kX8_year_1 (N d n : Nat) {X : lt_X} (hX : hsX X) (z : Int32) (I : Nat → Nat → Int32) (J : Nat → Nat → Int64) : KX8_year_1 N d n z (mkh X I J) = some (.int z, (mkh X (u2 I 3 15 (nI 0)) J)) := by
  obtain ⟨L, he, sp, t1, t2⟩ := X
  rcases hX with ⟨h1, h2⟩ | ⟨h1, h2⟩ <;> (change he = _ at h1; change sp = _ at h2; subst h1; subst h2) <;> rfl
theorem fX8_year (N d : Nat) {X : lt_X} (x1 : Int32) (I : Nat → Nat → Int32) (J : Nat → Nat → Int64) : am_G am_prog N (d + 1) 132 [.ref 3, .int x1] (mkh X I J) = am_run (am_G am_prog N d) eX8_year uX8_year N 0 [(0, .ref 3), (1, .int x1)] [] (mkh X I J) := by
  refine (am_G_at N d 132 mX8_year _ _ rfl).trans ?_
  rfl
theorem gX8_year (N d : Nat) {X : lt_X} (x1 : Int32) (I : Nat → Nat → Int32) (J : Nat → Nat → Int64) : am_G am_prog (N + 30) (d + 2) 132 [.ref 3, .int x1] (mkh X I J) = RX8_year_0 N d (N + 30) X x1 I J := fX8_year (N + 30) (d + 1) x1 I J
def RX8_sell_0 (N d n : Nat) (X : lt_X) (x1 : Int32) (x2 : Int32) (x3 : Int32) (I : Nat → Nat → Int32) (J : Nat → Nat → Int64) : am_O := am_run (am_G am_prog (N + 30) (d + 1)) eX8_sell uX8_sell n 0 [(0, .ref 3), (1, .int x1), (2, .int x2), (3, .int x3)] [] (mkh X I J)
def KX8_sell_0 (N d n : Nat) (a0 : Int32) (a1 : Int32) (a2 : Int32) (z : Int32) (h : am_H) : am_O := if z = nI 0 then am_cI (am_G am_prog (N + 30) (d + 1) 181 [.ref 3, .int (nI 2)] h) (fun r2 h1 => some (.int r2, h1)) else am_cI (am_G am_prog (N + 30) (d + 1) 178 [.ref 3, .int (nI 2), .int a1] h) (fun r4 h3 => if r4 = nI 0 then am_cI (am_G am_prog (N + 30) (d + 1) 181 [.ref 3, .int (nI 2)] h3) (fun r6 h5 => some (.int r6, h5)) else if a2 < nI 0 then am_cI (am_G am_prog (N + 30) (d + 1) 181 [.ref 3, .int (nI 5)] h3) (fun r8 h7 => some (.int r8, h7)) else if (nI 999) < a2 then am_cI (am_G am_prog (N + 30) (d + 1) 181 [.ref 3, .int (nI 5)] h3) (fun r10 h9 => some (.int r10, h9)) else am_gR h3 8 3 3 (fun y11 => am_cI (am_G am_prog (N + 30) (d + 1) 82 [.ref y11, .int a0, .int a1, .int a2] h3) (fun r13 h12 => if r13 = nI 0 then am_cI (am_G am_prog (N + 30) (d + 1) 181 [.ref 3, .int (nI 9)] h12) (fun r15 h14 => some (.int r15, h14)) else am_gR h12 8 3 3 (fun y16 => am_gR h12 5 y16 11 (fun y17 => am_lI h12 10 y17 a1 (fun y18 => am_cI (am_G am_prog (N + 30) (d + 1) 179 [.ref 3, .int y18] h12) (fun r20 h19 => some (.int r20, h19))))))))
def KX8_sell_1 (N d n : Nat) (a0 : Int32) (a1 : Int32) (a2 : Int32) (z : Int32) (h : am_H) : am_O := if z = nI 0 then am_cI (am_G am_prog (N + 30) (d + 1) 181 [.ref 3, .int (nI 2)] h) (fun r2 h1 => some (.int r2, h1)) else if a2 < nI 0 then am_cI (am_G am_prog (N + 30) (d + 1) 181 [.ref 3, .int (nI 5)] h) (fun r4 h3 => some (.int r4, h3)) else if (nI 999) < a2 then am_cI (am_G am_prog (N + 30) (d + 1) 181 [.ref 3, .int (nI 5)] h) (fun r6 h5 => some (.int r6, h5)) else am_gR h 8 3 3 (fun y7 => am_cI (am_G am_prog (N + 30) (d + 1) 82 [.ref y7, .int a0, .int a1, .int a2] h) (fun r9 h8 => if r9 = nI 0 then am_cI (am_G am_prog (N + 30) (d + 1) 181 [.ref 3, .int (nI 9)] h8) (fun r11 h10 => some (.int r11, h10)) else am_gR h8 8 3 3 (fun y12 => am_gR h8 5 y12 11 (fun y13 => am_lI h8 10 y13 a1 (fun y14 => am_cI (am_G am_prog (N + 30) (d + 1) 179 [.ref 3, .int y14] h8) (fun r16 h15 => some (.int r16, h15)))))))
def KX8_sell_2 (N d n : Nat) (a0 : Int32) (z : Int32) (h : am_H) : am_O := if z = nI 0 then am_cI (am_G am_prog (N + 30) (d + 1) 181 [.ref 3, .int (nI 9)] h) (fun r2 h1 => some (.int r2, h1)) else am_gR h 8 3 3 (fun y3 => am_gR h 5 y3 11 (fun y4 => am_lI h 10 y4 a0 (fun y5 => am_cI (am_G am_prog (N + 30) (d + 1) 179 [.ref 3, .int y5] h) (fun r7 h6 => some (.int r7, h6)))))
set_option maxHeartbeats 4000000 in
set_option maxRecDepth 100000 in
theorem sX8_sell_0 (N d n : Nat) {X : lt_X} (hX : hsX X) (x1 : Int32) (x2 : Int32) (x3 : Int32) (I : Nat → Nat → Int32) (J : Nat → Nat → Int64) : RX8_sell_0 N d (n + 1) X x1 x2 x3 I J = am_cI (am_G am_prog (N + 30) (d + 1) 178 [.ref 3, .int (nI 3), .int x1] (mkh X I J)) (KX8_sell_0 N d n x1 x2 x3) := by
  obtain ⟨L, he, sp, t1, t2⟩ := X
  rcases hX with ⟨h1, h2⟩ | ⟨h1, h2⟩ <;> (change he = _ at h1; change sp = _ at h2; subst h1; subst h2) <;> rfl
set_option maxHeartbeats 4000000 in
set_option maxRecDepth 100000 in
theorem kX8_sell_0 (N d n : Nat) {X : lt_X} (hX : hsX X) (a0 : Int32) (a1 : Int32) (a2 : Int32) (z : Int32) (I : Nat → Nat → Int32) (J : Nat → Nat → Int64) : KX8_sell_0 N d n a0 a1 a2 z (mkh X I J) = if z = nI 0 then some (.int (-1), (mkh X (u2 I 3 15 (nI 2)) J)) else am_cI (am_G am_prog (N + 30) (d + 1) 178 [.ref 3, .int (nI 2), .int a1] (mkh X I J)) (KX8_sell_1 N d n a0 a1 a2) := by
  obtain ⟨L, he, sp, t1, t2⟩ := X
  rcases hX with ⟨h1, h2⟩ | ⟨h1, h2⟩ <;> (change he = _ at h1; change sp = _ at h2; subst h1; subst h2) <;> rfl
set_option maxHeartbeats 4000000 in
set_option maxRecDepth 100000 in
theorem kX8_sell_1 (N d n : Nat) {X : lt_X} (hX : hsX X) (a0 : Int32) (a1 : Int32) (a2 : Int32) (z : Int32) (I : Nat → Nat → Int32) (J : Nat → Nat → Int64) : KX8_sell_1 N d n a0 a1 a2 z (mkh X I J) = if z = nI 0 then some (.int (-1), (mkh X (u2 I 3 15 (nI 2)) J)) else if a2 < nI 0 then some (.int (-1), (mkh X (u2 I 3 15 (nI 5)) J)) else if (nI 999) < a2 then some (.int (-1), (mkh X (u2 I 3 15 (nI 5)) J)) else am_cI (am_G am_prog (N + 30) (d + 1) 82 [.ref X.2.1, .int a0, .int a1, .int a2] (mkh X I J)) (KX8_sell_2 N d n a1) := by
  obtain ⟨L, he, sp, t1, t2⟩ := X
  rcases hX with ⟨h1, h2⟩ | ⟨h1, h2⟩ <;> (change he = _ at h1; change sp = _ at h2; subst h1; subst h2) <;> rfl
set_option maxHeartbeats 4000000 in
set_option maxRecDepth 100000 in
theorem kX8_sell_2 (N d n : Nat) {X : lt_X} (hX : hsX X) (a0 : Int32) (z : Int32) (I : Nat → Nat → Int32) (J : Nat → Nat → Int64) : KX8_sell_2 N d n a0 z (mkh X I J) = if z = nI 0 then some (.int (-1), (mkh X (u2 I 3 15 (nI 9)) J)) else if am_in a0 6 then some (.int (I (X.2.1 + 7) a0.toNatClampNeg), (mkh X (u2 I 3 15 (nI 0)) J)) else none := by
  obtain ⟨L, he, sp, t1, t2⟩ := X
  rcases hX with ⟨h1, h2⟩ | ⟨h1, h2⟩ <;> (change he = _ at h1; change sp = _ at h2; subst h1; subst h2) <;> rfl
theorem fX8_sell (N d : Nat) {X : lt_X} (x1 : Int32) (x2 : Int32) (x3 : Int32) (I : Nat → Nat → Int32) (J : Nat → Nat → Int64) : am_G am_prog N (d + 1) 133 [.ref 3, .int x1, .int x2, .int x3] (mkh X I J) = am_run (am_G am_prog N d) eX8_sell uX8_sell N 0 [(0, .ref 3), (1, .int x1), (2, .int x2), (3, .int x3)] [] (mkh X I J) := by
  refine (am_G_at N d 133 mX8_sell _ _ rfl).trans ?_
  rfl
theorem gX8_sell (N d : Nat) {X : lt_X} (x1 : Int32) (x2 : Int32) (x3 : Int32) (I : Nat → Nat → Int32) (J : Nat → Nat → Int64) : am_G am_prog (N + 30) (d + 2) 133 [.ref 3, .int x1, .int x2, .int x3] (mkh X I J) = RX8_sell_0 N d (N + 30) X x1 x2 x3 I J := fX8_sell (N + 30) (d + 1) x1 x2 x3 I J
def RX8_give_0 (N d n : Nat) (X : lt_X) (x1 : Int32) (x2 : Int32) (I : Nat → Nat → Int32) (J : Nat → Nat → Int64) : am_O := am_run (am_G am_prog (N + 30) (d + 1)) eX8_give uX8_give n 0 [(0, .ref 3), (1, .int x1), (2, .int x2)] [] (mkh X I J)
def KX8_give_0 (N d n : Nat) (a0 : Int32) (a1 : Int32) (z : Int32) (h : am_H) : am_O := if z = nI 0 then am_cI (am_G am_prog (N + 30) (d + 1) 181 [.ref 3, .int (nI 2)] h) (fun r2 h1 => some (.int r2, h1)) else am_cI (am_G am_prog (N + 30) (d + 1) 178 [.ref 3, .int (nI 2), .int a1] h) (fun r4 h3 => if r4 = nI 0 then am_cI (am_G am_prog (N + 30) (d + 1) 181 [.ref 3, .int (nI 2)] h3) (fun r6 h5 => some (.int r6, h5)) else am_gR h3 8 3 3 (fun y7 => am_cI (am_G am_prog (N + 30) (d + 1) 83 [.ref y7, .int a0, .int a1] h3) (fun r9 h8 => if r9 = nI 0 then am_cI (am_G am_prog (N + 30) (d + 1) 181 [.ref 3, .int (nI 9)] h8) (fun r11 h10 => some (.int r11, h10)) else am_gR h8 8 3 3 (fun y12 => am_cI (am_G am_prog (N + 30) (d + 1) 64 [.ref y12, .int a1] h8) (fun r14 h13 => am_cI (am_G am_prog (N + 30) (d + 1) 356 [.int r14] h13) (fun r16 h15 => am_cI (am_G am_prog (N + 30) (d + 1) 179 [.ref 3, .int r16] h15) (fun r18 h17 => some (.int r18, h17))))))))
def KX8_give_1 (N d n : Nat) (a0 : Int32) (a1 : Int32) (z : Int32) (h : am_H) : am_O := if z = nI 0 then am_cI (am_G am_prog (N + 30) (d + 1) 181 [.ref 3, .int (nI 2)] h) (fun r2 h1 => some (.int r2, h1)) else am_gR h 8 3 3 (fun y3 => am_cI (am_G am_prog (N + 30) (d + 1) 83 [.ref y3, .int a0, .int a1] h) (fun r5 h4 => if r5 = nI 0 then am_cI (am_G am_prog (N + 30) (d + 1) 181 [.ref 3, .int (nI 9)] h4) (fun r7 h6 => some (.int r7, h6)) else am_gR h4 8 3 3 (fun y8 => am_cI (am_G am_prog (N + 30) (d + 1) 64 [.ref y8, .int a1] h4) (fun r10 h9 => am_cI (am_G am_prog (N + 30) (d + 1) 356 [.int r10] h9) (fun r12 h11 => am_cI (am_G am_prog (N + 30) (d + 1) 179 [.ref 3, .int r12] h11) (fun r14 h13 => some (.int r14, h13)))))))
def KX8_give_2 (N d n : Nat) (a0 : Int32) (z : Int32) (h : am_H) : am_O := if z = nI 0 then am_cI (am_G am_prog (N + 30) (d + 1) 181 [.ref 3, .int (nI 9)] h) (fun r2 h1 => some (.int r2, h1)) else am_gR h 8 3 3 (fun y3 => am_cI (am_G am_prog (N + 30) (d + 1) 64 [.ref y3, .int a0] h) (fun r5 h4 => am_cI (am_G am_prog (N + 30) (d + 1) 356 [.int r5] h4) (fun r7 h6 => am_cI (am_G am_prog (N + 30) (d + 1) 179 [.ref 3, .int r7] h6) (fun r9 h8 => some (.int r9, h8)))))
def KX8_give_3 (N d n : Nat) (z : Int32) (h : am_H) : am_O := am_cI (am_G am_prog (N + 30) (d + 1) 356 [.int z] h) (fun r2 h1 => am_cI (am_G am_prog (N + 30) (d + 1) 179 [.ref 3, .int r2] h1) (fun r4 h3 => some (.int r4, h3)))
def KX8_give_4 (N d n : Nat) (z : Int32) (h : am_H) : am_O := am_cI (am_G am_prog (N + 30) (d + 1) 179 [.ref 3, .int z] h) (fun r2 h1 => some (.int r2, h1))
set_option maxHeartbeats 4000000 in
set_option maxRecDepth 100000 in
theorem sX8_give_0 (N d n : Nat) {X : lt_X} (hX : hsX X) (x1 : Int32) (x2 : Int32) (I : Nat → Nat → Int32) (J : Nat → Nat → Int64) : RX8_give_0 N d (n + 1) X x1 x2 I J = am_cI (am_G am_prog (N + 30) (d + 1) 178 [.ref 3, .int (nI 3), .int x1] (mkh X I J)) (KX8_give_0 N d n x1 x2) := by
  obtain ⟨L, he, sp, t1, t2⟩ := X
  rcases hX with ⟨h1, h2⟩ | ⟨h1, h2⟩ <;> (change he = _ at h1; change sp = _ at h2; subst h1; subst h2) <;> rfl
set_option maxHeartbeats 4000000 in
set_option maxRecDepth 100000 in
theorem kX8_give_0 (N d n : Nat) {X : lt_X} (hX : hsX X) (a0 : Int32) (a1 : Int32) (z : Int32) (I : Nat → Nat → Int32) (J : Nat → Nat → Int64) : KX8_give_0 N d n a0 a1 z (mkh X I J) = if z = nI 0 then some (.int (-1), (mkh X (u2 I 3 15 (nI 2)) J)) else am_cI (am_G am_prog (N + 30) (d + 1) 178 [.ref 3, .int (nI 2), .int a1] (mkh X I J)) (KX8_give_1 N d n a0 a1) := by
  obtain ⟨L, he, sp, t1, t2⟩ := X
  rcases hX with ⟨h1, h2⟩ | ⟨h1, h2⟩ <;> (change he = _ at h1; change sp = _ at h2; subst h1; subst h2) <;> rfl
set_option maxHeartbeats 4000000 in
set_option maxRecDepth 100000 in
theorem kX8_give_1 (N d n : Nat) {X : lt_X} (hX : hsX X) (a0 : Int32) (a1 : Int32) (z : Int32) (I : Nat → Nat → Int32) (J : Nat → Nat → Int64) : KX8_give_1 N d n a0 a1 z (mkh X I J) = if z = nI 0 then some (.int (-1), (mkh X (u2 I 3 15 (nI 2)) J)) else am_cI (am_G am_prog (N + 30) (d + 1) 83 [.ref X.2.1, .int a0, .int a1] (mkh X I J)) (KX8_give_2 N d n a1) := by
  obtain ⟨L, he, sp, t1, t2⟩ := X
  rcases hX with ⟨h1, h2⟩ | ⟨h1, h2⟩ <;> (change he = _ at h1; change sp = _ at h2; subst h1; subst h2) <;> rfl
set_option maxHeartbeats 4000000 in
set_option maxRecDepth 100000 in
theorem kX8_give_2 (N d n : Nat) {X : lt_X} (hX : hsX X) (a0 : Int32) (z : Int32) (I : Nat → Nat → Int32) (J : Nat → Nat → Int64) : KX8_give_2 N d n a0 z (mkh X I J) = if z = nI 0 then some (.int (-1), (mkh X (u2 I 3 15 (nI 9)) J)) else am_cI (am_G am_prog (N + 30) (d + 1) 64 [.ref X.2.1, .int a0] (mkh X I J)) (KX8_give_3 N d n ) := by
  obtain ⟨L, he, sp, t1, t2⟩ := X
  rcases hX with ⟨h1, h2⟩ | ⟨h1, h2⟩ <;> (change he = _ at h1; change sp = _ at h2; subst h1; subst h2) <;> rfl
set_option maxHeartbeats 4000000 in
set_option maxRecDepth 100000 in
theorem kX8_give_3 (N d n : Nat) {X : lt_X} (hX : hsX X) (z : Int32) (I : Nat → Nat → Int32) (J : Nat → Nat → Int64) : KX8_give_3 N d n z (mkh X I J) = am_cI (am_G am_prog (N + 30) (d + 1) 356 [.int z] (mkh X I J)) (KX8_give_4 N d n ) := by
  obtain ⟨L, he, sp, t1, t2⟩ := X
  rcases hX with ⟨h1, h2⟩ | ⟨h1, h2⟩ <;> (change he = _ at h1; change sp = _ at h2; subst h1; subst h2) <;> rfl
set_option maxHeartbeats 4000000 in
set_option maxRecDepth 100000 in
theorem kX8_give_4 (N d n : Nat) {X : lt_X} (hX : hsX X) (z : Int32) (I : Nat → Nat → Int32) (J : Nat → Nat → Int64) : KX8_give_4 N d n z (mkh X I J) = some (.int z, (mkh X (u2 I 3 15 (nI 0)) J)) := by
  obtain ⟨L, he, sp, t1, t2⟩ := X
  rcases hX with ⟨h1, h2⟩ | ⟨h1, h2⟩ <;> (change he = _ at h1; change sp = _ at h2; subst h1; subst h2) <;> rfl
theorem fX8_give (N d : Nat) {X : lt_X} (x1 : Int32) (x2 : Int32) (I : Nat → Nat → Int32) (J : Nat → Nat → Int64) : am_G am_prog N (d + 1) 134 [.ref 3, .int x1, .int x2] (mkh X I J) = am_run (am_G am_prog N d) eX8_give uX8_give N 0 [(0, .ref 3), (1, .int x1), (2, .int x2)] [] (mkh X I J) := by
  refine (am_G_at N d 134 mX8_give _ _ rfl).trans ?_
  rfl
theorem gX8_give (N d : Nat) {X : lt_X} (x1 : Int32) (x2 : Int32) (I : Nat → Nat → Int32) (J : Nat → Nat → Int64) : am_G am_prog (N + 30) (d + 2) 134 [.ref 3, .int x1, .int x2] (mkh X I J) = RX8_give_0 N d (N + 30) X x1 x2 I J := fX8_give (N + 30) (d + 1) x1 x2 I J
def RX8_dump_0 (N d n : Nat) (X : lt_X) (x1 : Int32) (I : Nat → Nat → Int32) (J : Nat → Nat → Int64) : am_O := am_run (am_G am_prog (N + 30) (d + 2)) eX8_dump uX8_dump n 0 [(0, .ref 3), (1, .int x1)] [] (mkh X I J)
def KX8_dump_0 (N d n : Nat) (a0 : Int32) (z : Int32) (h : am_H) : am_O := if z = nI 0 then am_cI (am_G am_prog (N + 30) (d + 2) 181 [.ref 3, .int (nI 2)] h) (fun r2 h1 => some (.int r2, h1)) else am_gR h 8 3 3 (fun y3 => am_gR h 5 y3 17 (fun y4 => am_lI h 10 y4 a0 (fun y5 => am_gR h 8 3 3 (fun y6 => am_gR h 5 y6 17 (fun y7 => am_tI h y7 a0 (-1) (fun h8 => am_cI (am_G am_prog (N + 30) (d + 2) 180 [.ref 3, .int y5] h8) (fun r10 h9 => some (.int r10, h9))))))))
def KX8_dump_1 (N d n : Nat) (z : Int32) (h : am_H) : am_O := some (.int z, h)
set_option maxHeartbeats 4000000 in
set_option maxRecDepth 100000 in
theorem sX8_dump_0 (N d n : Nat) {X : lt_X} (hX : hsX X) (x1 : Int32) (I : Nat → Nat → Int32) (J : Nat → Nat → Int64) : RX8_dump_0 N d (n + 1) X x1 I J = am_cI (am_G am_prog (N + 30) (d + 2) 178 [.ref 3, .int (nI 3), .int x1] (mkh X I J)) (KX8_dump_0 N d n x1) := by
  obtain ⟨L, he, sp, t1, t2⟩ := X
  rcases hX with ⟨h1, h2⟩ | ⟨h1, h2⟩ <;> (change he = _ at h1; change sp = _ at h2; subst h1; subst h2) <;> rfl
set_option maxHeartbeats 4000000 in
set_option maxRecDepth 100000 in
theorem kX8_dump_0 (N d n : Nat) {X : lt_X} (hX : hsX X) (a0 : Int32) (z : Int32) (I : Nat → Nat → Int32) (J : Nat → Nat → Int64) : KX8_dump_0 N d n a0 z (mkh X I J) = if z = nI 0 then some (.int (-1), (mkh X (u2 I 3 15 (nI 2)) J)) else if am_in a0 6 then if am_in a0 6 then am_cI (am_G am_prog (N + 30) (d + 2) 180 [.ref 3, .int (I (X.2.1 + 13) a0.toNatClampNeg)] (mkh X (u2 I (X.2.1 + 13) a0.toNatClampNeg (-1)) J)) (KX8_dump_1 N d n ) else none else none := by
  obtain ⟨L, he, sp, t1, t2⟩ := X
  rcases hX with ⟨h1, h2⟩ | ⟨h1, h2⟩ <;> (change he = _ at h1; change sp = _ at h2; subst h1; subst h2) <;> rfl
set_option maxHeartbeats 4000000 in
set_option maxRecDepth 100000 in
theorem kX8_dump_1 (N d n : Nat) {X : lt_X} (hX : hsX X) (z : Int32) (I : Nat → Nat → Int32) (J : Nat → Nat → Int64) : KX8_dump_1 N d n z (mkh X I J) = some (.int z, (mkh X I J)) := by
  obtain ⟨L, he, sp, t1, t2⟩ := X
  rcases hX with ⟨h1, h2⟩ | ⟨h1, h2⟩ <;> (change he = _ at h1; change sp = _ at h2; subst h1; subst h2) <;> rfl
theorem fX8_dump (N d : Nat) {X : lt_X} (x1 : Int32) (I : Nat → Nat → Int32) (J : Nat → Nat → Int64) : am_G am_prog N (d + 1) 135 [.ref 3, .int x1] (mkh X I J) = am_run (am_G am_prog N d) eX8_dump uX8_dump N 0 [(0, .ref 3), (1, .int x1)] [] (mkh X I J) := by
  refine (am_G_at N d 135 mX8_dump _ _ rfl).trans ?_
  rfl
theorem gX8_dump (N d : Nat) {X : lt_X} (x1 : Int32) (I : Nat → Nat → Int32) (J : Nat → Nat → Int64) : am_G am_prog (N + 30) (d + 3) 135 [.ref 3, .int x1] (mkh X I J) = RX8_dump_0 N d (N + 30) X x1 I J := fX8_dump (N + 30) (d + 2) x1 I J
def RX8_cold_0 (N d n : Nat) (X : lt_X) (x1 : Int32) (x2 : Int32) (I : Nat → Nat → Int32) (J : Nat → Nat → Int64) : am_O := am_run (am_G am_prog (N + 30) (d + 1)) eX8_cold uX8_cold n 0 [(0, .ref 3), (1, .int x1), (2, .int x2)] [] (mkh X I J)
def RX8_cold_38 (N d n : Nat) (X : lt_X) (s0 : Int32) (I : Nat → Nat → Int32) (J : Nat → Nat → Int64) : am_O := am_run (am_G am_prog (N + 30) (d + 1)) eX8_cold uX8_cold n 38 [(0, .ref 3)] [.int s0] (mkh X I J)
def KX8_cold_0 (N d n : Nat) (a0 : Int32) (a1 : Int32) (z : Int32) (h : am_H) : am_O := if z = nI 0 then am_cI (am_G am_prog (N + 30) (d + 1) 183 [.ref 3, .int (nI 2)] h) (fun r2 h1 => am_nb r2 (some (.int r2, h1))) else if a1 = nI 0 then am_gR h 8 3 3 (fun y3 => am_cI (am_G am_prog (N + 30) (d + 1) 85 [.ref y3, .int a0] h) (fun r5 h4 => am_run (am_G am_prog (N + 30) (d + 1)) eX8_cold uX8_cold n 38 [(0, .ref 3)] [.int r5] h4)) else am_gR h 8 3 3 (fun y6 => am_cI (am_G am_prog (N + 30) (d + 1) 84 [.ref y6, .int a0] h) (fun r8 h7 => am_run (am_G am_prog (N + 30) (d + 1)) eX8_cold uX8_cold n 38 [(0, .ref 3)] [.int r8] h7))
def KX8_cold_1 (N d n : Nat) (z : Int32) (h : am_H) : am_O := am_run (am_G am_prog (N + 30) (d + 1)) eX8_cold uX8_cold n 38 [(0, .ref 3)] [.int z] h
def KX8_cold_2 (N d n : Nat) (z : Int32) (h : am_H) : am_O := am_run (am_G am_prog (N + 30) (d + 1)) eX8_cold uX8_cold n 38 [(0, .ref 3)] [.int z] h
set_option maxHeartbeats 4000000 in
set_option maxRecDepth 100000 in
theorem sX8_cold_0 (N d n : Nat) {X : lt_X} (hX : hsX X) (x1 : Int32) (x2 : Int32) (I : Nat → Nat → Int32) (J : Nat → Nat → Int64) : RX8_cold_0 N d (n + 1) X x1 x2 I J = am_cI (am_G am_prog (N + 30) (d + 1) 178 [.ref 3, .int (nI 1), .int x1] (mkh X I J)) (KX8_cold_0 N d n x1 x2) := by
  obtain ⟨L, he, sp, t1, t2⟩ := X
  rcases hX with ⟨h1, h2⟩ | ⟨h1, h2⟩ <;> (change he = _ at h1; change sp = _ at h2; subst h1; subst h2) <;> rfl
set_option maxHeartbeats 4000000 in
set_option maxRecDepth 100000 in
theorem sX8_cold_38 (N d n : Nat) {X : lt_X} (hX : hsX X) (s0 : Int32) (I : Nat → Nat → Int32) (J : Nat → Nat → Int64) : RX8_cold_38 N d (n + 1) X s0 I J = if s0 = nI 0 then some (.int (nI 0), (mkh X (u2 I 3 15 (nI 9)) J)) else some (.int (nI 1), (mkh X (u2 I 3 15 (nI 0)) J)) := by
  obtain ⟨L, he, sp, t1, t2⟩ := X
  rcases hX with ⟨h1, h2⟩ | ⟨h1, h2⟩ <;> (change he = _ at h1; change sp = _ at h2; subst h1; subst h2) <;> rfl
set_option maxHeartbeats 4000000 in
set_option maxRecDepth 100000 in
theorem kX8_cold_0 (N d n : Nat) {X : lt_X} (hX : hsX X) (a0 : Int32) (a1 : Int32) (z : Int32) (I : Nat → Nat → Int32) (J : Nat → Nat → Int64) : KX8_cold_0 N d n a0 a1 z (mkh X I J) = if z = nI 0 then some (.int (nI 0), (mkh X (u2 I 3 15 (nI 2)) J)) else if a1 = nI 0 then am_cI (am_G am_prog (N + 30) (d + 1) 85 [.ref X.2.1, .int a0] (mkh X I J)) (KX8_cold_1 N d n ) else am_cI (am_G am_prog (N + 30) (d + 1) 84 [.ref X.2.1, .int a0] (mkh X I J)) (KX8_cold_2 N d n ) := by
  obtain ⟨L, he, sp, t1, t2⟩ := X
  rcases hX with ⟨h1, h2⟩ | ⟨h1, h2⟩ <;> (change he = _ at h1; change sp = _ at h2; subst h1; subst h2) <;> rfl
set_option maxHeartbeats 4000000 in
set_option maxRecDepth 100000 in
theorem kX8_cold_1 (N d n : Nat) {X : lt_X} (hX : hsX X) (z : Int32) (I : Nat → Nat → Int32) (J : Nat → Nat → Int64) : KX8_cold_1 N d n z (mkh X I J) = RX8_cold_38 N d n X z I J := by
  obtain ⟨L, he, sp, t1, t2⟩ := X
  rcases hX with ⟨h1, h2⟩ | ⟨h1, h2⟩ <;> (change he = _ at h1; change sp = _ at h2; subst h1; subst h2) <;> rfl
set_option maxHeartbeats 4000000 in
set_option maxRecDepth 100000 in
theorem kX8_cold_2 (N d n : Nat) {X : lt_X} (hX : hsX X) (z : Int32) (I : Nat → Nat → Int32) (J : Nat → Nat → Int64) : KX8_cold_2 N d n z (mkh X I J) = RX8_cold_38 N d n X z I J := by
  obtain ⟨L, he, sp, t1, t2⟩ := X
  rcases hX with ⟨h1, h2⟩ | ⟨h1, h2⟩ <;> (change he = _ at h1; change sp = _ at h2; subst h1; subst h2) <;> rfl
theorem fX8_cold (N d : Nat) {X : lt_X} (x1 : Int32) (x2 : Int32) (I : Nat → Nat → Int32) (J : Nat → Nat → Int64) : am_G am_prog N (d + 1) 136 [.ref 3, .int x1, .int x2] (mkh X I J) = am_run (am_G am_prog N d) eX8_cold uX8_cold N 0 [(0, .ref 3), (1, .int x1), (2, .int x2)] [] (mkh X I J) := by
  refine (am_G_at N d 136 mX8_cold _ _ rfl).trans ?_
  rfl
theorem gX8_cold (N d : Nat) {X : lt_X} (x1 : Int32) (x2 : Int32) (I : Nat → Nat → Int32) (J : Nat → Nat → Int64) : am_G am_prog (N + 30) (d + 2) 136 [.ref 3, .int x1, .int x2] (mkh X I J) = RX8_cold_0 N d (N + 30) X x1 x2 I J := fX8_cold (N + 30) (d + 1) x1 x2 I J
def RX8_flaw_0 (N d n : Nat) (X : lt_X) (x1 : Int32) (x2 : Int32) (I : Nat → Nat → Int32) (J : Nat → Nat → Int64) : am_O := am_run (am_G am_prog (N + 30) (d + 1)) eX8_flaw uX8_flaw n 0 [(0, .ref 3), (1, .int x1), (2, .int x2)] [] (mkh X I J)
def RX8_flaw_41 (N d n : Nat) (X : lt_X) (x1 : Int32) (s0 : Int32) (I : Nat → Nat → Int32) (J : Nat → Nat → Int64) : am_O := am_run (am_G am_prog (N + 30) (d + 1)) eX8_flaw uX8_flaw n 41 [(0, .ref 3), (1, .int x1)] [.int s0] (mkh X I J)
def KX8_flaw_0 (N d n : Nat) (a0 : Int32) (a1 : Int32) (z : Int32) (h : am_H) : am_O := if z = nI 0 then am_cI (am_G am_prog (N + 30) (d + 1) 183 [.ref 3, .int (nI 2)] h) (fun r2 h1 => am_nb r2 (some (.int r2, h1))) else if a1 = (nI 6) then if a1 = (nI 6) then am_run (am_G am_prog (N + 30) (d + 1)) eX8_flaw uX8_flaw n 41 [(0, .ref 3), (1, .int a0)] [.int (-1)] h else am_run (am_G am_prog (N + 30) (d + 1)) eX8_flaw uX8_flaw n 41 [(0, .ref 3), (1, .int a0)] [.int a1] h else am_cI (am_G am_prog (N + 30) (d + 1) 178 [.ref 3, .int (nI 1), .int a1] h) (fun r4 h3 => if r4 = nI 0 then am_cI (am_G am_prog (N + 30) (d + 1) 183 [.ref 3, .int (nI 2)] h3) (fun r6 h5 => am_nb r6 (some (.int r6, h5))) else if a1 = (nI 6) then am_run (am_G am_prog (N + 30) (d + 1)) eX8_flaw uX8_flaw n 41 [(0, .ref 3), (1, .int a0)] [.int (-1)] h3 else am_run (am_G am_prog (N + 30) (d + 1)) eX8_flaw uX8_flaw n 41 [(0, .ref 3), (1, .int a0)] [.int a1] h3)
def KX8_flaw_1 (N d n : Nat) (a0 : Int32) (a1 : Int32) (z : Int32) (h : am_H) : am_O := if z = nI 0 then am_cI (am_G am_prog (N + 30) (d + 1) 183 [.ref 3, .int (nI 2)] h) (fun r2 h1 => am_nb r2 (some (.int r2, h1))) else if a1 = (nI 6) then am_run (am_G am_prog (N + 30) (d + 1)) eX8_flaw uX8_flaw n 41 [(0, .ref 3), (1, .int a0)] [.int (-1)] h else am_run (am_G am_prog (N + 30) (d + 1)) eX8_flaw uX8_flaw n 41 [(0, .ref 3), (1, .int a0)] [.int a1] h
set_option maxHeartbeats 4000000 in
set_option maxRecDepth 100000 in
theorem sX8_flaw_0 (N d n : Nat) {X : lt_X} (hX : hsX X) (x1 : Int32) (x2 : Int32) (I : Nat → Nat → Int32) (J : Nat → Nat → Int64) : RX8_flaw_0 N d (n + 1) X x1 x2 I J = am_cI (am_G am_prog (N + 30) (d + 1) 178 [.ref 3, .int (nI 3), .int x1] (mkh X I J)) (KX8_flaw_0 N d n x1 x2) := by
  obtain ⟨L, he, sp, t1, t2⟩ := X
  rcases hX with ⟨h1, h2⟩ | ⟨h1, h2⟩ <;> (change he = _ at h1; change sp = _ at h2; subst h1; subst h2) <;> rfl
set_option maxHeartbeats 4000000 in
set_option maxRecDepth 100000 in
theorem sX8_flaw_41 (N d n : Nat) {X : lt_X} (hX : hsX X) (x1 : Int32) (s0 : Int32) (I : Nat → Nat → Int32) (J : Nat → Nat → Int64) : RX8_flaw_41 N d (n + 1) X x1 s0 I J = if am_in x1 6 then if (I (X.2.1 + 12) x1.toNatClampNeg) = s0 then some (.int (nI 0), (mkh X (u2 I 3 15 (nI 9)) J)) else if am_in x1 6 then if (I (X.2.1 + 11) x1.toNatClampNeg) = s0 then some (.int (nI 0), (mkh X (u2 I 3 15 (nI 9)) J)) else if am_in x1 6 then some (.int (nI 1), (mkh X (u2 (u2 I (X.2.1 + 12) x1.toNatClampNeg s0) 3 15 (nI 0)) J)) else none else none else none := by
  obtain ⟨L, he, sp, t1, t2⟩ := X
  rcases hX with ⟨h1, h2⟩ | ⟨h1, h2⟩ <;> (change he = _ at h1; change sp = _ at h2; subst h1; subst h2) <;> rfl
set_option maxHeartbeats 4000000 in
set_option maxRecDepth 100000 in
theorem kX8_flaw_0 (N d n : Nat) {X : lt_X} (hX : hsX X) (a0 : Int32) (a1 : Int32) (z : Int32) (I : Nat → Nat → Int32) (J : Nat → Nat → Int64) : KX8_flaw_0 N d n a0 a1 z (mkh X I J) = if z = nI 0 then some (.int (nI 0), (mkh X (u2 I 3 15 (nI 2)) J)) else if a1 = (nI 6) then if a1 = (nI 6) then RX8_flaw_41 N d n X a0 (-1) I J else RX8_flaw_41 N d n X a0 a1 I J else am_cI (am_G am_prog (N + 30) (d + 1) 178 [.ref 3, .int (nI 1), .int a1] (mkh X I J)) (KX8_flaw_1 N d n a0 a1) := by
  obtain ⟨L, he, sp, t1, t2⟩ := X
  rcases hX with ⟨h1, h2⟩ | ⟨h1, h2⟩ <;> (change he = _ at h1; change sp = _ at h2; subst h1; subst h2) <;> rfl
set_option maxHeartbeats 4000000 in
set_option maxRecDepth 100000 in
theorem kX8_flaw_1 (N d n : Nat) {X : lt_X} (hX : hsX X) (a0 : Int32) (a1 : Int32) (z : Int32) (I : Nat → Nat → Int32) (J : Nat → Nat → Int64) : KX8_flaw_1 N d n a0 a1 z (mkh X I J) = if z = nI 0 then some (.int (nI 0), (mkh X (u2 I 3 15 (nI 2)) J)) else if a1 = (nI 6) then RX8_flaw_41 N d n X a0 (-1) I J else RX8_flaw_41 N d n X a0 a1 I J := by
  obtain ⟨L, he, sp, t1, t2⟩ := X
  rcases hX with ⟨h1, h2⟩ | ⟨h1, h2⟩ <;> (change he = _ at h1; change sp = _ at h2; subst h1; subst h2) <;> rfl
theorem fX8_flaw (N d : Nat) {X : lt_X} (x1 : Int32) (x2 : Int32) (I : Nat → Nat → Int32) (J : Nat → Nat → Int64) : am_G am_prog N (d + 1) 137 [.ref 3, .int x1, .int x2] (mkh X I J) = am_run (am_G am_prog N d) eX8_flaw uX8_flaw N 0 [(0, .ref 3), (1, .int x1), (2, .int x2)] [] (mkh X I J) := by
  refine (am_G_at N d 137 mX8_flaw _ _ rfl).trans ?_
  rfl
theorem gX8_flaw (N d : Nat) {X : lt_X} (x1 : Int32) (x2 : Int32) (I : Nat → Nat → Int32) (J : Nat → Nat → Int64) : am_G am_prog (N + 30) (d + 2) 137 [.ref 3, .int x1, .int x2] (mkh X I J) = RX8_flaw_0 N d (N + 30) X x1 x2 I J := fX8_flaw (N + 30) (d + 1) x1 x2 I J
def RX8_please_0 (N d n : Nat) (X : lt_X) (x1 : Int32) (x2 : Int32) (x3 : Int32) (I : Nat → Nat → Int32) (J : Nat → Nat → Int64) : am_O := am_run (am_G am_prog (N + 30) (d + 1)) eX8_please uX8_please n 0 [(0, .ref 3), (1, .int x1), (2, .int x2), (3, .int x3)] [] (mkh X I J)
def KX8_please_0 (N d n : Nat) (a0 : Int32) (a1 : Int32) (a2 : Int32) (z : Int32) (h : am_H) : am_O := if z = nI 0 then am_cI (am_G am_prog (N + 30) (d + 1) 181 [.ref 3, .int (nI 2)] h) (fun r2 h1 => some (.int r2, h1)) else am_cI (am_G am_prog (N + 30) (d + 1) 178 [.ref 3, .int (nI 0), .int a1] h) (fun r4 h3 => if r4 = nI 0 then am_cI (am_G am_prog (N + 30) (d + 1) 181 [.ref 3, .int (nI 2)] h3) (fun r6 h5 => some (.int r6, h5)) else if a2 < nI 0 then am_cI (am_G am_prog (N + 30) (d + 1) 181 [.ref 3, .int (nI 5)] h3) (fun r8 h7 => some (.int r8, h7)) else if (nI 9) < a2 then am_cI (am_G am_prog (N + 30) (d + 1) 181 [.ref 3, .int (nI 5)] h3) (fun r10 h9 => some (.int r10, h9)) else am_gR h3 8 3 3 (fun y11 => am_gR h3 5 y11 14 (fun y12 => am_lI h3 10 y12 ((a0 * (nI 6)) + a1) (fun y13 => if y13 = a2 then am_cI (am_G am_prog (N + 30) (d + 1) 181 [.ref 3, .int (nI 9)] h3) (fun r15 h14 => some (.int r15, h14)) else am_gR h3 8 3 3 (fun y16 => am_gR h3 5 y16 14 (fun y17 => am_tI h3 y17 ((a0 * (nI 6)) + a1) a2 (fun h18 => am_cI (am_G am_prog (N + 30) (d + 1) 179 [.ref 3, .int y13] h18) (fun r20 h19 => some (.int r20, h19)))))))))
def KX8_please_1 (N d n : Nat) (a0 : Int32) (a1 : Int32) (a2 : Int32) (z : Int32) (h : am_H) : am_O := if z = nI 0 then am_cI (am_G am_prog (N + 30) (d + 1) 181 [.ref 3, .int (nI 2)] h) (fun r2 h1 => some (.int r2, h1)) else if a2 < nI 0 then am_cI (am_G am_prog (N + 30) (d + 1) 181 [.ref 3, .int (nI 5)] h) (fun r4 h3 => some (.int r4, h3)) else if (nI 9) < a2 then am_cI (am_G am_prog (N + 30) (d + 1) 181 [.ref 3, .int (nI 5)] h) (fun r6 h5 => some (.int r6, h5)) else am_gR h 8 3 3 (fun y7 => am_gR h 5 y7 14 (fun y8 => am_lI h 10 y8 ((a0 * (nI 6)) + a1) (fun y9 => if y9 = a2 then am_cI (am_G am_prog (N + 30) (d + 1) 181 [.ref 3, .int (nI 9)] h) (fun r11 h10 => some (.int r11, h10)) else am_gR h 8 3 3 (fun y12 => am_gR h 5 y12 14 (fun y13 => am_tI h y13 ((a0 * (nI 6)) + a1) a2 (fun h14 => am_cI (am_G am_prog (N + 30) (d + 1) 179 [.ref 3, .int y9] h14) (fun r16 h15 => some (.int r16, h15))))))))
set_option maxHeartbeats 4000000 in
set_option maxRecDepth 100000 in
theorem sX8_please_0 (N d n : Nat) {X : lt_X} (hX : hsX X) (x1 : Int32) (x2 : Int32) (x3 : Int32) (I : Nat → Nat → Int32) (J : Nat → Nat → Int64) : RX8_please_0 N d (n + 1) X x1 x2 x3 I J = am_cI (am_G am_prog (N + 30) (d + 1) 178 [.ref 3, .int (nI 2), .int x1] (mkh X I J)) (KX8_please_0 N d n x1 x2 x3) := by
  obtain ⟨L, he, sp, t1, t2⟩ := X
  rcases hX with ⟨h1, h2⟩ | ⟨h1, h2⟩ <;> (change he = _ at h1; change sp = _ at h2; subst h1; subst h2) <;> rfl
set_option maxHeartbeats 4000000 in
set_option maxRecDepth 100000 in
theorem kX8_please_0 (N d n : Nat) {X : lt_X} (hX : hsX X) (a0 : Int32) (a1 : Int32) (a2 : Int32) (z : Int32) (I : Nat → Nat → Int32) (J : Nat → Nat → Int64) : KX8_please_0 N d n a0 a1 a2 z (mkh X I J) = if z = nI 0 then some (.int (-1), (mkh X (u2 I 3 15 (nI 2)) J)) else am_cI (am_G am_prog (N + 30) (d + 1) 178 [.ref 3, .int (nI 0), .int a1] (mkh X I J)) (KX8_please_1 N d n a0 a1 a2) := by
  obtain ⟨L, he, sp, t1, t2⟩ := X
  rcases hX with ⟨h1, h2⟩ | ⟨h1, h2⟩ <;> (change he = _ at h1; change sp = _ at h2; subst h1; subst h2) <;> rfl
set_option maxHeartbeats 4000000 in
set_option maxRecDepth 100000 in
theorem kX8_please_1 (N d n : Nat) {X : lt_X} (hX : hsX X) (a0 : Int32) (a1 : Int32) (a2 : Int32) (z : Int32) (I : Nat → Nat → Int32) (J : Nat → Nat → Int64) : KX8_please_1 N d n a0 a1 a2 z (mkh X I J) = if z = nI 0 then some (.int (-1), (mkh X (u2 I 3 15 (nI 2)) J)) else if a2 < nI 0 then some (.int (-1), (mkh X (u2 I 3 15 (nI 5)) J)) else if (nI 9) < a2 then some (.int (-1), (mkh X (u2 I 3 15 (nI 5)) J)) else if am_in ((a0 * (nI 6)) + a1) 36 then if (I (X.2.1 + 10) (((a0 * (nI 6)) + a1).toNatClampNeg)) = a2 then some (.int (-1), (mkh X (u2 I 3 15 (nI 9)) J)) else if am_in ((a0 * (nI 6)) + a1) 36 then some (.int (I (X.2.1 + 10) (((a0 * (nI 6)) + a1).toNatClampNeg)), (mkh X (u2 (u2 I (X.2.1 + 10) (((a0 * (nI 6)) + a1).toNatClampNeg) a2) 3 15 (nI 0)) J)) else none else none := by
  obtain ⟨L, he, sp, t1, t2⟩ := X
  rcases hX with ⟨h1, h2⟩ | ⟨h1, h2⟩ <;> (change he = _ at h1; change sp = _ at h2; subst h1; subst h2) <;> rfl
theorem fX8_please (N d : Nat) {X : lt_X} (x1 : Int32) (x2 : Int32) (x3 : Int32) (I : Nat → Nat → Int32) (J : Nat → Nat → Int64) : am_G am_prog N (d + 1) 138 [.ref 3, .int x1, .int x2, .int x3] (mkh X I J) = am_run (am_G am_prog N d) eX8_please uX8_please N 0 [(0, .ref 3), (1, .int x1), (2, .int x2), (3, .int x3)] [] (mkh X I J) := by
  refine (am_G_at N d 138 mX8_please _ _ rfl).trans ?_
  rfl
theorem gX8_please (N d : Nat) {X : lt_X} (x1 : Int32) (x2 : Int32) (x3 : Int32) (I : Nat → Nat → Int32) (J : Nat → Nat → Int64) : am_G am_prog (N + 30) (d + 2) 138 [.ref 3, .int x1, .int x2, .int x3] (mkh X I J) = RX8_please_0 N d (N + 30) X x1 x2 x3 I J := fX8_please (N + 30) (d + 1) x1 x2 x3 I J
def RX8_teach_0 (N d n : Nat) (X : lt_X) (x1 : Int32) (x2 : Int32) (I : Nat → Nat → Int32) (J : Nat → Nat → Int64) : am_O := am_run (am_G am_prog (N + 30) (d + 1)) eX8_teach uX8_teach n 0 [(0, .ref 3), (1, .int x1), (2, .int x2)] [] (mkh X I J)
def KX8_teach_0 (N d n : Nat) (a0 : Int32) (a1 : Int32) (z : Int32) (h : am_H) : am_O := if z = nI 0 then am_cI (am_G am_prog (N + 30) (d + 1) 181 [.ref 3, .int (nI 2)] h) (fun r2 h1 => some (.int r2, h1)) else am_cI (am_G am_prog (N + 30) (d + 1) 178 [.ref 3, .int (nI 0), .int a1] h) (fun r4 h3 => if r4 = nI 0 then am_cI (am_G am_prog (N + 30) (d + 1) 181 [.ref 3, .int (nI 2)] h3) (fun r6 h5 => some (.int r6, h5)) else am_gR h3 8 3 3 (fun y7 => am_gR h3 5 y7 9 (fun y8 => am_lI h3 10 y8 a0 (fun y9 => if y9 < (nI 8) then am_gR h3 8 3 3 (fun y10 => am_cV (am_G am_prog (N + 30) (d + 1) 63 [.ref y10, .int a0, .int a1] h3) (fun h11 => am_gR h11 8 3 3 (fun y12 => am_gR h11 5 y12 9 (fun y13 => am_lI h11 10 y13 a0 (fun y14 => am_cI (am_G am_prog (N + 30) (d + 1) 179 [.ref 3, .int y14] h11) (fun r16 h15 => some (.int r16, h15))))))) else am_cI (am_G am_prog (N + 30) (d + 1) 181 [.ref 3, .int (nI 7)] h3) (fun r18 h17 => some (.int r18, h17))))))
def KX8_teach_1 (N d n : Nat) (a0 : Int32) (a1 : Int32) (z : Int32) (h : am_H) : am_O := if z = nI 0 then am_cI (am_G am_prog (N + 30) (d + 1) 181 [.ref 3, .int (nI 2)] h) (fun r2 h1 => some (.int r2, h1)) else am_gR h 8 3 3 (fun y3 => am_gR h 5 y3 9 (fun y4 => am_lI h 10 y4 a0 (fun y5 => if y5 < (nI 8) then am_gR h 8 3 3 (fun y6 => am_cV (am_G am_prog (N + 30) (d + 1) 63 [.ref y6, .int a0, .int a1] h) (fun h7 => am_gR h7 8 3 3 (fun y8 => am_gR h7 5 y8 9 (fun y9 => am_lI h7 10 y9 a0 (fun y10 => am_cI (am_G am_prog (N + 30) (d + 1) 179 [.ref 3, .int y10] h7) (fun r12 h11 => some (.int r12, h11))))))) else am_cI (am_G am_prog (N + 30) (d + 1) 181 [.ref 3, .int (nI 7)] h) (fun r14 h13 => some (.int r14, h13)))))
def KX8_teach_2 (N d n : Nat) (a0 : Int32) (h : am_H) : am_O := am_gR h 8 3 3 (fun y1 => am_gR h 5 y1 9 (fun y2 => am_lI h 10 y2 a0 (fun y3 => am_cI (am_G am_prog (N + 30) (d + 1) 179 [.ref 3, .int y3] h) (fun r5 h4 => some (.int r5, h4)))))
set_option maxHeartbeats 4000000 in
set_option maxRecDepth 100000 in
theorem sX8_teach_0 (N d n : Nat) {X : lt_X} (hX : hsX X) (x1 : Int32) (x2 : Int32) (I : Nat → Nat → Int32) (J : Nat → Nat → Int64) : RX8_teach_0 N d (n + 1) X x1 x2 I J = am_cI (am_G am_prog (N + 30) (d + 1) 178 [.ref 3, .int (nI 1), .int x1] (mkh X I J)) (KX8_teach_0 N d n x1 x2) := by
  obtain ⟨L, he, sp, t1, t2⟩ := X
  rcases hX with ⟨h1, h2⟩ | ⟨h1, h2⟩ <;> (change he = _ at h1; change sp = _ at h2; subst h1; subst h2) <;> rfl
set_option maxHeartbeats 4000000 in
set_option maxRecDepth 100000 in
theorem kX8_teach_0 (N d n : Nat) {X : lt_X} (hX : hsX X) (a0 : Int32) (a1 : Int32) (z : Int32) (I : Nat → Nat → Int32) (J : Nat → Nat → Int64) : KX8_teach_0 N d n a0 a1 z (mkh X I J) = if z = nI 0 then some (.int (-1), (mkh X (u2 I 3 15 (nI 2)) J)) else am_cI (am_G am_prog (N + 30) (d + 1) 178 [.ref 3, .int (nI 0), .int a1] (mkh X I J)) (KX8_teach_1 N d n a0 a1) := by
  obtain ⟨L, he, sp, t1, t2⟩ := X
  rcases hX with ⟨h1, h2⟩ | ⟨h1, h2⟩ <;> (change he = _ at h1; change sp = _ at h2; subst h1; subst h2) <;> rfl
set_option maxHeartbeats 4000000 in
set_option maxRecDepth 100000 in
theorem kX8_teach_1 (N d n : Nat) {X : lt_X} (hX : hsX X) (a0 : Int32) (a1 : Int32) (z : Int32) (I : Nat → Nat → Int32) (J : Nat → Nat → Int64) : KX8_teach_1 N d n a0 a1 z (mkh X I J) = if z = nI 0 then some (.int (-1), (mkh X (u2 I 3 15 (nI 2)) J)) else if am_in a0 6 then if (I (X.2.1 + 5) a0.toNatClampNeg) < (nI 8) then am_cV (am_G am_prog (N + 30) (d + 1) 63 [.ref X.2.1, .int a0, .int a1] (mkh X I J)) (KX8_teach_2 N d n a0) else some (.int (-1), (mkh X (u2 I 3 15 (nI 7)) J)) else none := by
  obtain ⟨L, he, sp, t1, t2⟩ := X
  rcases hX with ⟨h1, h2⟩ | ⟨h1, h2⟩ <;> (change he = _ at h1; change sp = _ at h2; subst h1; subst h2) <;> rfl
set_option maxHeartbeats 4000000 in
set_option maxRecDepth 100000 in
theorem kX8_teach_2 (N d n : Nat) {X : lt_X} (hX : hsX X) (a0 : Int32) (I : Nat → Nat → Int32) (J : Nat → Nat → Int64) : KX8_teach_2 N d n a0 (mkh X I J) = if am_in a0 6 then some (.int (I (X.2.1 + 5) a0.toNatClampNeg), (mkh X (u2 I 3 15 (nI 0)) J)) else none := by
  obtain ⟨L, he, sp, t1, t2⟩ := X
  rcases hX with ⟨h1, h2⟩ | ⟨h1, h2⟩ <;> (change he = _ at h1; change sp = _ at h2; subst h1; subst h2) <;> rfl
theorem fX8_teach (N d : Nat) {X : lt_X} (x1 : Int32) (x2 : Int32) (I : Nat → Nat → Int32) (J : Nat → Nat → Int64) : am_G am_prog N (d + 1) 139 [.ref 3, .int x1, .int x2] (mkh X I J) = am_run (am_G am_prog N d) eX8_teach uX8_teach N 0 [(0, .ref 3), (1, .int x1), (2, .int x2)] [] (mkh X I J) := by
  refine (am_G_at N d 139 mX8_teach _ _ rfl).trans ?_
  rfl
theorem gX8_teach (N d : Nat) {X : lt_X} (x1 : Int32) (x2 : Int32) (I : Nat → Nat → Int32) (J : Nat → Nat → Int64) : am_G am_prog (N + 30) (d + 2) 139 [.ref 3, .int x1, .int x2] (mkh X I J) = RX8_teach_0 N d (N + 30) X x1 x2 I J := fX8_teach (N + 30) (d + 1) x1 x2 I J
def RX8_rule_0 (N d n : Nat) (X : lt_X) (x1 : Int32) (I : Nat → Nat → Int32) (J : Nat → Nat → Int64) : am_O := am_run (am_G am_prog (N + 30) (d + 1)) eX8_rule uX8_rule n 0 [(0, .ref 3), (1, .int x1)] [] (mkh X I J)
set_option maxHeartbeats 4000000 in
set_option maxRecDepth 100000 in
theorem sX8_rule_0 (N d n : Nat) {X : lt_X} (hX : hsX X) (x1 : Int32) (I : Nat → Nat → Int32) (J : Nat → Nat → Int64) : RX8_rule_0 N d (n + 1) X x1 I J = if x1 < nI 0 then some (.int (nI 0), (mkh X (u2 I 3 15 (nI 5)) J)) else if (nI 16) < x1 then some (.int (nI 0), (mkh X (u2 I 3 15 (nI 5)) J)) else some (.int (nI 1), (mkh X (u2 (u2 I X.2.1 2 x1) 3 15 (nI 0)) J)) := by
  obtain ⟨L, he, sp, t1, t2⟩ := X
  rcases hX with ⟨h1, h2⟩ | ⟨h1, h2⟩ <;> (change he = _ at h1; change sp = _ at h2; subst h1; subst h2) <;> rfl
theorem fX8_rule (N d : Nat) {X : lt_X} (x1 : Int32) (I : Nat → Nat → Int32) (J : Nat → Nat → Int64) : am_G am_prog N (d + 1) 140 [.ref 3, .int x1] (mkh X I J) = am_run (am_G am_prog N d) eX8_rule uX8_rule N 0 [(0, .ref 3), (1, .int x1)] [] (mkh X I J) := by
  refine (am_G_at N d 140 mX8_rule _ _ rfl).trans ?_
  rfl
theorem gX8_rule (N d : Nat) {X : lt_X} (x1 : Int32) (I : Nat → Nat → Int32) (J : Nat → Nat → Int64) : am_G am_prog (N + 30) (d + 2) 140 [.ref 3, .int x1] (mkh X I J) = RX8_rule_0 N d (N + 30) X x1 I J := fX8_rule (N + 30) (d + 1) x1 I J
def RX8_saysIn_0 (N d n : Nat) (X : lt_X) (x1 : Int32) (x2 : Int32) (I : Nat → Nat → Int32) (J : Nat → Nat → Int64) : am_O := am_run (am_G am_prog (N + 30) (d + 2)) eX8_saysIn uX8_saysIn n 0 [(0, .ref 3), (1, .int x1), (2, .int x2)] [] (mkh X I J)
def KX8_saysIn_0 (N d n : Nat) (a0 : Int32) (a1 : Int32) (z : Int32) (h : am_H) : am_O := if z = nI 0 then am_cI (am_G am_prog (N + 30) (d + 2) 181 [.ref 3, .int (nI 2)] h) (fun r2 h1 => some (.int r2, h1)) else if a1 < nI 0 then am_cI (am_G am_prog (N + 30) (d + 2) 181 [.ref 3, .int (nI 5)] h) (fun r4 h3 => some (.int r4, h3)) else if (nI 999) < a1 then am_cI (am_G am_prog (N + 30) (d + 2) 181 [.ref 3, .int (nI 5)] h) (fun r6 h5 => some (.int r6, h5)) else am_gR h 8 3 3 (fun y7 => am_gR h 8 3 3 (fun y8 => am_gI h 5 y8 3 (fun y9 => am_cI (am_G am_prog (N + 30) (d + 2) 73 [.ref y7, .int a0, .int (y9 + a1)] h) (fun r11 h10 => am_cI (am_G am_prog (N + 30) (d + 2) 180 [.ref 3, .int r11] h10) (fun r13 h12 => some (.int r13, h12))))))
def KX8_saysIn_1 (N d n : Nat) (z : Int32) (h : am_H) : am_O := am_cI (am_G am_prog (N + 30) (d + 2) 180 [.ref 3, .int z] h) (fun r2 h1 => some (.int r2, h1))
def KX8_saysIn_2 (N d n : Nat) (z : Int32) (h : am_H) : am_O := some (.int z, h)
set_option maxHeartbeats 4000000 in
set_option maxRecDepth 100000 in
theorem sX8_saysIn_0 (N d n : Nat) {X : lt_X} (hX : hsX X) (x1 : Int32) (x2 : Int32) (I : Nat → Nat → Int32) (J : Nat → Nat → Int64) : RX8_saysIn_0 N d (n + 1) X x1 x2 I J = am_cI (am_G am_prog (N + 30) (d + 2) 178 [.ref 3, .int (nI 1), .int x1] (mkh X I J)) (KX8_saysIn_0 N d n x1 x2) := by
  obtain ⟨L, he, sp, t1, t2⟩ := X
  rcases hX with ⟨h1, h2⟩ | ⟨h1, h2⟩ <;> (change he = _ at h1; change sp = _ at h2; subst h1; subst h2) <;> rfl
set_option maxHeartbeats 4000000 in
set_option maxRecDepth 100000 in
theorem kX8_saysIn_0 (N d n : Nat) {X : lt_X} (hX : hsX X) (a0 : Int32) (a1 : Int32) (z : Int32) (I : Nat → Nat → Int32) (J : Nat → Nat → Int64) : KX8_saysIn_0 N d n a0 a1 z (mkh X I J) = if z = nI 0 then some (.int (-1), (mkh X (u2 I 3 15 (nI 2)) J)) else if a1 < nI 0 then some (.int (-1), (mkh X (u2 I 3 15 (nI 5)) J)) else if (nI 999) < a1 then some (.int (-1), (mkh X (u2 I 3 15 (nI 5)) J)) else am_cI (am_G am_prog (N + 30) (d + 2) 73 [.ref X.2.1, .int a0, .int ((I X.2.1 3) + a1)] (mkh X I J)) (KX8_saysIn_1 N d n ) := by
  obtain ⟨L, he, sp, t1, t2⟩ := X
  rcases hX with ⟨h1, h2⟩ | ⟨h1, h2⟩ <;> (change he = _ at h1; change sp = _ at h2; subst h1; subst h2) <;> rfl
set_option maxHeartbeats 4000000 in
set_option maxRecDepth 100000 in
theorem kX8_saysIn_1 (N d n : Nat) {X : lt_X} (hX : hsX X) (z : Int32) (I : Nat → Nat → Int32) (J : Nat → Nat → Int64) : KX8_saysIn_1 N d n z (mkh X I J) = am_cI (am_G am_prog (N + 30) (d + 2) 180 [.ref 3, .int z] (mkh X I J)) (KX8_saysIn_2 N d n ) := by
  obtain ⟨L, he, sp, t1, t2⟩ := X
  rcases hX with ⟨h1, h2⟩ | ⟨h1, h2⟩ <;> (change he = _ at h1; change sp = _ at h2; subst h1; subst h2) <;> rfl
set_option maxHeartbeats 4000000 in
set_option maxRecDepth 100000 in
theorem kX8_saysIn_2 (N d n : Nat) {X : lt_X} (hX : hsX X) (z : Int32) (I : Nat → Nat → Int32) (J : Nat → Nat → Int64) : KX8_saysIn_2 N d n z (mkh X I J) = some (.int z, (mkh X I J)) := by
  obtain ⟨L, he, sp, t1, t2⟩ := X
  rcases hX with ⟨h1, h2⟩ | ⟨h1, h2⟩ <;> (change he = _ at h1; change sp = _ at h2; subst h1; subst h2) <;> rfl
theorem fX8_saysIn (N d : Nat) {X : lt_X} (x1 : Int32) (x2 : Int32) (I : Nat → Nat → Int32) (J : Nat → Nat → Int64) : am_G am_prog N (d + 1) 141 [.ref 3, .int x1, .int x2] (mkh X I J) = am_run (am_G am_prog N d) eX8_saysIn uX8_saysIn N 0 [(0, .ref 3), (1, .int x1), (2, .int x2)] [] (mkh X I J) := by
  refine (am_G_at N d 141 mX8_saysIn _ _ rfl).trans ?_
  rfl
theorem gX8_saysIn (N d : Nat) {X : lt_X} (x1 : Int32) (x2 : Int32) (I : Nat → Nat → Int32) (J : Nat → Nat → Int64) : am_G am_prog (N + 30) (d + 3) 141 [.ref 3, .int x1, .int x2] (mkh X I J) = RX8_saysIn_0 N d (N + 30) X x1 x2 I J := fX8_saysIn (N + 30) (d + 2) x1 x2 I J
def RX8_hearsIn_0 (N d n : Nat) (X : lt_X) (x1 : Int32) (x2 : Int32) (I : Nat → Nat → Int32) (J : Nat → Nat → Int64) : am_O := am_run (am_G am_prog (N + 30) (d + 1)) eX8_hearsIn uX8_hearsIn n 0 [(0, .ref 3), (1, .int x1), (2, .int x2)] [] (mkh X I J)
def KX8_hearsIn_0 (N d n : Nat) (a0 : Int32) (a1 : Int32) (z : Int32) (h : am_H) : am_O := if z = nI 0 then am_cI (am_G am_prog (N + 30) (d + 1) 181 [.ref 3, .int (nI 2)] h) (fun r2 h1 => some (.int r2, h1)) else if a1 < nI 0 then am_cI (am_G am_prog (N + 30) (d + 1) 181 [.ref 3, .int (nI 5)] h) (fun r4 h3 => some (.int r4, h3)) else if (nI 999) < a1 then am_cI (am_G am_prog (N + 30) (d + 1) 181 [.ref 3, .int (nI 5)] h) (fun r6 h5 => some (.int r6, h5)) else am_gR h 8 3 3 (fun y7 => am_gR h 8 3 3 (fun y8 => am_cI (am_G am_prog (N + 30) (d + 1) 66 [.ref y8, .int a0] h) (fun r10 h9 => am_gR h9 8 3 3 (fun y11 => am_gI h9 5 y11 3 (fun y12 => am_cI (am_G am_prog (N + 30) (d + 1) 74 [.ref y7, .int r10, .int (y12 + a1)] h9) (fun r14 h13 => am_cI (am_G am_prog (N + 30) (d + 1) 179 [.ref 3, .int r14] h13) (fun r16 h15 => some (.int r16, h15))))))))
def KX8_hearsIn_1 (N d n : Nat) (X : lt_X) (a0 : Int32) (z : Int32) (h : am_H) : am_O := am_gR h 8 3 3 (fun y1 => am_gI h 5 y1 3 (fun y2 => am_cI (am_G am_prog (N + 30) (d + 1) 74 [.ref X.2.1, .int z, .int (y2 + a0)] h) (fun r4 h3 => am_cI (am_G am_prog (N + 30) (d + 1) 179 [.ref 3, .int r4] h3) (fun r6 h5 => some (.int r6, h5)))))
def KX8_hearsIn_2 (N d n : Nat) (z : Int32) (h : am_H) : am_O := am_cI (am_G am_prog (N + 30) (d + 1) 179 [.ref 3, .int z] h) (fun r2 h1 => some (.int r2, h1))
set_option maxHeartbeats 4000000 in
set_option maxRecDepth 100000 in
theorem sX8_hearsIn_0 (N d n : Nat) {X : lt_X} (hX : hsX X) (x1 : Int32) (x2 : Int32) (I : Nat → Nat → Int32) (J : Nat → Nat → Int64) : RX8_hearsIn_0 N d (n + 1) X x1 x2 I J = am_cI (am_G am_prog (N + 30) (d + 1) 178 [.ref 3, .int (nI 2), .int x1] (mkh X I J)) (KX8_hearsIn_0 N d n x1 x2) := by
  obtain ⟨L, he, sp, t1, t2⟩ := X
  rcases hX with ⟨h1, h2⟩ | ⟨h1, h2⟩ <;> (change he = _ at h1; change sp = _ at h2; subst h1; subst h2) <;> rfl
set_option maxHeartbeats 4000000 in
set_option maxRecDepth 100000 in
theorem kX8_hearsIn_0 (N d n : Nat) {X : lt_X} (hX : hsX X) (a0 : Int32) (a1 : Int32) (z : Int32) (I : Nat → Nat → Int32) (J : Nat → Nat → Int64) : KX8_hearsIn_0 N d n a0 a1 z (mkh X I J) = if z = nI 0 then some (.int (-1), (mkh X (u2 I 3 15 (nI 2)) J)) else if a1 < nI 0 then some (.int (-1), (mkh X (u2 I 3 15 (nI 5)) J)) else if (nI 999) < a1 then some (.int (-1), (mkh X (u2 I 3 15 (nI 5)) J)) else am_cI (am_G am_prog (N + 30) (d + 1) 66 [.ref X.2.1, .int a0] (mkh X I J)) (KX8_hearsIn_1 N d n X a1) := by
  obtain ⟨L, he, sp, t1, t2⟩ := X
  rcases hX with ⟨h1, h2⟩ | ⟨h1, h2⟩ <;> (change he = _ at h1; change sp = _ at h2; subst h1; subst h2) <;> rfl
set_option maxHeartbeats 4000000 in
set_option maxRecDepth 100000 in
theorem kX8_hearsIn_1 (N d n : Nat) {X : lt_X} (hX : hsX X) (a0 : Int32) (z : Int32) (I : Nat → Nat → Int32) (J : Nat → Nat → Int64) : KX8_hearsIn_1 N d n X a0 z (mkh X I J) = am_cI (am_G am_prog (N + 30) (d + 1) 74 [.ref X.2.1, .int z, .int ((I X.2.1 3) + a0)] (mkh X I J)) (KX8_hearsIn_2 N d n ) := by
  obtain ⟨L, he, sp, t1, t2⟩ := X
  rcases hX with ⟨h1, h2⟩ | ⟨h1, h2⟩ <;> (change he = _ at h1; change sp = _ at h2; subst h1; subst h2) <;> rfl
set_option maxHeartbeats 4000000 in
set_option maxRecDepth 100000 in
theorem kX8_hearsIn_2 (N d n : Nat) {X : lt_X} (hX : hsX X) (z : Int32) (I : Nat → Nat → Int32) (J : Nat → Nat → Int64) : KX8_hearsIn_2 N d n z (mkh X I J) = some (.int z, (mkh X (u2 I 3 15 (nI 0)) J)) := by
  obtain ⟨L, he, sp, t1, t2⟩ := X
  rcases hX with ⟨h1, h2⟩ | ⟨h1, h2⟩ <;> (change he = _ at h1; change sp = _ at h2; subst h1; subst h2) <;> rfl
theorem fX8_hearsIn (N d : Nat) {X : lt_X} (x1 : Int32) (x2 : Int32) (I : Nat → Nat → Int32) (J : Nat → Nat → Int64) : am_G am_prog N (d + 1) 142 [.ref 3, .int x1, .int x2] (mkh X I J) = am_run (am_G am_prog N d) eX8_hearsIn uX8_hearsIn N 0 [(0, .ref 3), (1, .int x1), (2, .int x2)] [] (mkh X I J) := by
  refine (am_G_at N d 142 mX8_hearsIn _ _ rfl).trans ?_
  rfl
theorem gX8_hearsIn (N d : Nat) {X : lt_X} (x1 : Int32) (x2 : Int32) (I : Nat → Nat → Int32) (J : Nat → Nat → Int64) : am_G am_prog (N + 30) (d + 2) 142 [.ref 3, .int x1, .int x2] (mkh X I J) = RX8_hearsIn_0 N d (N + 30) X x1 x2 I J := fX8_hearsIn (N + 30) (d + 1) x1 x2 I J
def RX8_gladIn_0 (N d n : Nat) (X : lt_X) (x1 : Int32) (x2 : Int32) (I : Nat → Nat → Int32) (J : Nat → Nat → Int64) : am_O := am_run (am_G am_prog (N + 30) (d + 1)) eX8_gladIn uX8_gladIn n 0 [(0, .ref 3), (1, .int x1), (2, .int x2)] [] (mkh X I J)
def KX8_gladIn_0 (N d n : Nat) (a0 : Int32) (a1 : Int32) (z : Int32) (h : am_H) : am_O := if z = nI 0 then am_cI (am_G am_prog (N + 30) (d + 1) 181 [.ref 3, .int (nI 2)] h) (fun r2 h1 => some (.int r2, h1)) else if a1 < nI 0 then am_cI (am_G am_prog (N + 30) (d + 1) 181 [.ref 3, .int (nI 5)] h) (fun r4 h3 => some (.int r4, h3)) else if (nI 300) < a1 then am_cI (am_G am_prog (N + 30) (d + 1) 181 [.ref 3, .int (nI 5)] h) (fun r6 h5 => some (.int r6, h5)) else am_gR h 8 3 3 (fun y7 => am_gR h 5 y7 12 (fun y8 => am_lI h 10 y8 a0 (fun y9 => am_gR h 8 3 3 (fun y10 => am_gR h 8 3 3 (fun y11 => am_cI (am_G am_prog (N + 30) (d + 1) 66 [.ref y11, .int a0] h) (fun r13 h12 => am_cI (am_G am_prog (N + 30) (d + 1) 76 [.ref y10, .int a0, .int r13, .int a1] h12) (fun r15 h14 => am_cI (am_G am_prog (N + 30) (d + 1) 179 [.ref 3, .int (y9 + r15)] h14) (fun r17 h16 => some (.int r17, h16)))))))))
def KX8_gladIn_1 (N d n : Nat) (X : lt_X) (a0 : Int32) (a1 : Int32) (a2 : Int32) (z : Int32) (h : am_H) : am_O := am_cI (am_G am_prog (N + 30) (d + 1) 76 [.ref X.2.1, .int a1, .int z, .int a0] h) (fun r2 h1 => am_cI (am_G am_prog (N + 30) (d + 1) 179 [.ref 3, .int (a2 + r2)] h1) (fun r4 h3 => some (.int r4, h3)))
def KX8_gladIn_2 (N d n : Nat) (a0 : Int32) (z : Int32) (h : am_H) : am_O := am_cI (am_G am_prog (N + 30) (d + 1) 179 [.ref 3, .int (a0 + z)] h) (fun r2 h1 => some (.int r2, h1))
set_option maxHeartbeats 4000000 in
set_option maxRecDepth 100000 in
theorem sX8_gladIn_0 (N d n : Nat) {X : lt_X} (hX : hsX X) (x1 : Int32) (x2 : Int32) (I : Nat → Nat → Int32) (J : Nat → Nat → Int64) : RX8_gladIn_0 N d (n + 1) X x1 x2 I J = am_cI (am_G am_prog (N + 30) (d + 1) 178 [.ref 3, .int (nI 2), .int x1] (mkh X I J)) (KX8_gladIn_0 N d n x1 x2) := by
  obtain ⟨L, he, sp, t1, t2⟩ := X
  rcases hX with ⟨h1, h2⟩ | ⟨h1, h2⟩ <;> (change he = _ at h1; change sp = _ at h2; subst h1; subst h2) <;> rfl
set_option maxHeartbeats 4000000 in
set_option maxRecDepth 100000 in
theorem kX8_gladIn_0 (N d n : Nat) {X : lt_X} (hX : hsX X) (a0 : Int32) (a1 : Int32) (z : Int32) (I : Nat → Nat → Int32) (J : Nat → Nat → Int64) : KX8_gladIn_0 N d n a0 a1 z (mkh X I J) = if z = nI 0 then some (.int (-1), (mkh X (u2 I 3 15 (nI 2)) J)) else if a1 < nI 0 then some (.int (-1), (mkh X (u2 I 3 15 (nI 5)) J)) else if (nI 300) < a1 then some (.int (-1), (mkh X (u2 I 3 15 (nI 5)) J)) else if am_in a0 6 then am_cI (am_G am_prog (N + 30) (d + 1) 66 [.ref X.2.1, .int a0] (mkh X I J)) (KX8_gladIn_1 N d n X a1 a0 (I (X.2.1 + 8) a0.toNatClampNeg)) else none := by
  obtain ⟨L, he, sp, t1, t2⟩ := X
  rcases hX with ⟨h1, h2⟩ | ⟨h1, h2⟩ <;> (change he = _ at h1; change sp = _ at h2; subst h1; subst h2) <;> rfl
set_option maxHeartbeats 4000000 in
set_option maxRecDepth 100000 in
theorem kX8_gladIn_1 (N d n : Nat) {X : lt_X} (hX : hsX X) (a0 : Int32) (a1 : Int32) (a2 : Int32) (z : Int32) (I : Nat → Nat → Int32) (J : Nat → Nat → Int64) : KX8_gladIn_1 N d n X a0 a1 a2 z (mkh X I J) = am_cI (am_G am_prog (N + 30) (d + 1) 76 [.ref X.2.1, .int a1, .int z, .int a0] (mkh X I J)) (KX8_gladIn_2 N d n a2) := by
  obtain ⟨L, he, sp, t1, t2⟩ := X
  rcases hX with ⟨h1, h2⟩ | ⟨h1, h2⟩ <;> (change he = _ at h1; change sp = _ at h2; subst h1; subst h2) <;> rfl
set_option maxHeartbeats 4000000 in
set_option maxRecDepth 100000 in
theorem kX8_gladIn_2 (N d n : Nat) {X : lt_X} (hX : hsX X) (a0 : Int32) (z : Int32) (I : Nat → Nat → Int32) (J : Nat → Nat → Int64) : KX8_gladIn_2 N d n a0 z (mkh X I J) = some (.int (a0 + z), (mkh X (u2 I 3 15 (nI 0)) J)) := by
  obtain ⟨L, he, sp, t1, t2⟩ := X
  rcases hX with ⟨h1, h2⟩ | ⟨h1, h2⟩ <;> (change he = _ at h1; change sp = _ at h2; subst h1; subst h2) <;> rfl
theorem fX8_gladIn (N d : Nat) {X : lt_X} (x1 : Int32) (x2 : Int32) (I : Nat → Nat → Int32) (J : Nat → Nat → Int64) : am_G am_prog N (d + 1) 143 [.ref 3, .int x1, .int x2] (mkh X I J) = am_run (am_G am_prog N d) eX8_gladIn uX8_gladIn N 0 [(0, .ref 3), (1, .int x1), (2, .int x2)] [] (mkh X I J) := by
  refine (am_G_at N d 143 mX8_gladIn _ _ rfl).trans ?_
  rfl
theorem gX8_gladIn (N d : Nat) {X : lt_X} (x1 : Int32) (x2 : Int32) (I : Nat → Nat → Int32) (J : Nat → Nat → Int64) : am_G am_prog (N + 30) (d + 2) 143 [.ref 3, .int x1, .int x2] (mkh X I J) = RX8_gladIn_0 N d (N + 30) X x1 x2 I J := fX8_gladIn (N + 30) (d + 1) x1 x2 I J
def RX8_gladBy_0 (N d n : Nat) (X : lt_X) (x1 : Int32) (x2 : Int32) (I : Nat → Nat → Int32) (J : Nat → Nat → Int64) : am_O := am_run (am_G am_prog (N + 30) (d + 1)) eX8_gladBy uX8_gladBy n 0 [(0, .ref 3), (1, .int x1), (2, .int x2)] [] (mkh X I J)
def RX8_gladBy_55 (N d n : Nat) (X : lt_X) (x1 : Int32) (x2 : Int32) (x3 : Int32) (x4 : Int32) (x5 : Int32) (I : Nat → Nat → Int32) (J : Nat → Nat → Int64) : am_O := am_run (am_G am_prog (N + 30) (d + 1)) eX8_gladBy uX8_gladBy n 55 [(0, .ref 3), (1, .int x1), (2, .int x2), (3, .int x3), (4, .int x4), (5, .int x5)] [] (mkh X I J)
def KX8_gladBy_0 (N d n : Nat) (a0 : Int32) (a1 : Int32) (z : Int32) (h : am_H) : am_O := if z = nI 0 then am_cI (am_G am_prog (N + 30) (d + 1) 181 [.ref 3, .int (nI 2)] h) (fun r2 h1 => some (.int r2, h1)) else if a1 < nI 0 then am_cI (am_G am_prog (N + 30) (d + 1) 181 [.ref 3, .int (nI 5)] h) (fun r4 h3 => some (.int r4, h3)) else if (nI 9999) < a1 then am_cI (am_G am_prog (N + 30) (d + 1) 181 [.ref 3, .int (nI 5)] h) (fun r6 h5 => some (.int r6, h5)) else am_gR h 8 3 3 (fun y7 => am_cI (am_G am_prog (N + 30) (d + 1) 66 [.ref y7, .int a0] h) (fun r9 h8 => am_gR h8 8 3 3 (fun y10 => am_gR h8 5 y10 12 (fun y11 => am_lI h8 10 y11 a0 (fun y12 => am_run (am_G am_prog (N + 30) (d + 1)) eX8_gladBy uX8_gladBy n 55 [(0, .ref 3), (1, .int a0), (2, .int a1), (3, .int r9), (4, .int y12), (5, .int (nI 0))] [] h8)))))
def KX8_gladBy_1 (N d n : Nat) (X : lt_X) (a0 : Int32) (a1 : Int32) (a2 : Int32) (a3 : Int32) (a4 : Int32) (z : Int32) (h : am_H) : am_O := am_cI (am_G am_prog (N + 30) (d + 1) 75 [.ref X.2.1, .int a0, .int z] h) (fun r2 h1 => am_run (am_G am_prog (N + 30) (d + 1)) eX8_gladBy uX8_gladBy n 55 [(0, .ref 3), (1, .int a0), (2, .int a1), (3, .int a2), (4, .int (a4 + r2)), (5, .int (a3 + (nI 1)))] [] h1)
def KX8_gladBy_2 (N d n : Nat) (a0 : Int32) (a1 : Int32) (z : Int32) (h : am_H) : am_O := am_gR h 8 3 3 (fun y1 => am_gR h 5 y1 12 (fun y2 => am_lI h 10 y2 a0 (fun y3 => am_run (am_G am_prog (N + 30) (d + 1)) eX8_gladBy uX8_gladBy n 55 [(0, .ref 3), (1, .int a0), (2, .int a1), (3, .int z), (4, .int y3), (5, .int (nI 0))] [] h)))
def KX8_gladBy_3 (N d n : Nat) (a0 : Int32) (a1 : Int32) (a2 : Int32) (a3 : Int32) (a4 : Int32) (z : Int32) (h : am_H) : am_O := am_run (am_G am_prog (N + 30) (d + 1)) eX8_gladBy uX8_gladBy n 55 [(0, .ref 3), (1, .int a0), (2, .int a1), (3, .int a2), (4, .int (a4 + z)), (5, .int (a3 + (nI 1)))] [] h
set_option maxHeartbeats 4000000 in
set_option maxRecDepth 100000 in
theorem sX8_gladBy_0 (N d n : Nat) {X : lt_X} (hX : hsX X) (x1 : Int32) (x2 : Int32) (I : Nat → Nat → Int32) (J : Nat → Nat → Int64) : RX8_gladBy_0 N d (n + 1) X x1 x2 I J = am_cI (am_G am_prog (N + 30) (d + 1) 178 [.ref 3, .int (nI 2), .int x1] (mkh X I J)) (KX8_gladBy_0 N d n x1 x2) := by
  obtain ⟨L, he, sp, t1, t2⟩ := X
  rcases hX with ⟨h1, h2⟩ | ⟨h1, h2⟩ <;> (change he = _ at h1; change sp = _ at h2; subst h1; subst h2) <;> rfl
set_option maxHeartbeats 4000000 in
set_option maxRecDepth 100000 in
theorem sX8_gladBy_55 (N d n : Nat) {X : lt_X} (hX : hsX X) (x1 : Int32) (x2 : Int32) (x3 : Int32) (x4 : Int32) (x5 : Int32) (I : Nat → Nat → Int32) (J : Nat → Nat → Int64) : RX8_gladBy_55 N d (n + 1) X x1 x2 x3 x4 x5 I J = if (nI 300) < x5 then some (.int (-1), (mkh X (u2 I 3 15 (nI 8)) J)) else if x4 < x2 then am_cI (am_G am_prog (N + 30) (d + 1) 74 [.ref X.2.1, .int x3, .int ((I X.2.1 3) + x5)] (mkh X I J)) (KX8_gladBy_1 N d n X x1 x2 x3 x5 x4) else some (.int x5, (mkh X (u2 I 3 15 (nI 0)) J)) := by
  obtain ⟨L, he, sp, t1, t2⟩ := X
  rcases hX with ⟨h1, h2⟩ | ⟨h1, h2⟩ <;> (change he = _ at h1; change sp = _ at h2; subst h1; subst h2) <;> rfl
set_option maxHeartbeats 4000000 in
set_option maxRecDepth 100000 in
theorem kX8_gladBy_0 (N d n : Nat) {X : lt_X} (hX : hsX X) (a0 : Int32) (a1 : Int32) (z : Int32) (I : Nat → Nat → Int32) (J : Nat → Nat → Int64) : KX8_gladBy_0 N d n a0 a1 z (mkh X I J) = if z = nI 0 then some (.int (-1), (mkh X (u2 I 3 15 (nI 2)) J)) else if a1 < nI 0 then some (.int (-1), (mkh X (u2 I 3 15 (nI 5)) J)) else if (nI 9999) < a1 then some (.int (-1), (mkh X (u2 I 3 15 (nI 5)) J)) else am_cI (am_G am_prog (N + 30) (d + 1) 66 [.ref X.2.1, .int a0] (mkh X I J)) (KX8_gladBy_2 N d n a0 a1) := by
  obtain ⟨L, he, sp, t1, t2⟩ := X
  rcases hX with ⟨h1, h2⟩ | ⟨h1, h2⟩ <;> (change he = _ at h1; change sp = _ at h2; subst h1; subst h2) <;> rfl
set_option maxHeartbeats 4000000 in
set_option maxRecDepth 100000 in
theorem kX8_gladBy_1 (N d n : Nat) {X : lt_X} (hX : hsX X) (a0 : Int32) (a1 : Int32) (a2 : Int32) (a3 : Int32) (a4 : Int32) (z : Int32) (I : Nat → Nat → Int32) (J : Nat → Nat → Int64) : KX8_gladBy_1 N d n X a0 a1 a2 a3 a4 z (mkh X I J) = am_cI (am_G am_prog (N + 30) (d + 1) 75 [.ref X.2.1, .int a0, .int z] (mkh X I J)) (KX8_gladBy_3 N d n a0 a1 a2 a3 a4) := by
  obtain ⟨L, he, sp, t1, t2⟩ := X
  rcases hX with ⟨h1, h2⟩ | ⟨h1, h2⟩ <;> (change he = _ at h1; change sp = _ at h2; subst h1; subst h2) <;> rfl
set_option maxHeartbeats 4000000 in
set_option maxRecDepth 100000 in
theorem kX8_gladBy_2 (N d n : Nat) {X : lt_X} (hX : hsX X) (a0 : Int32) (a1 : Int32) (z : Int32) (I : Nat → Nat → Int32) (J : Nat → Nat → Int64) : KX8_gladBy_2 N d n a0 a1 z (mkh X I J) = if am_in a0 6 then RX8_gladBy_55 N d n X a0 a1 z (I (X.2.1 + 8) a0.toNatClampNeg) (nI 0) I J else none := by
  obtain ⟨L, he, sp, t1, t2⟩ := X
  rcases hX with ⟨h1, h2⟩ | ⟨h1, h2⟩ <;> (change he = _ at h1; change sp = _ at h2; subst h1; subst h2) <;> rfl
set_option maxHeartbeats 4000000 in
set_option maxRecDepth 100000 in
theorem kX8_gladBy_3 (N d n : Nat) {X : lt_X} (hX : hsX X) (a0 : Int32) (a1 : Int32) (a2 : Int32) (a3 : Int32) (a4 : Int32) (z : Int32) (I : Nat → Nat → Int32) (J : Nat → Nat → Int64) : KX8_gladBy_3 N d n a0 a1 a2 a3 a4 z (mkh X I J) = RX8_gladBy_55 N d n X a0 a1 a2 (a4 + z) (a3 + (nI 1)) I J := by
  obtain ⟨L, he, sp, t1, t2⟩ := X
  rcases hX with ⟨h1, h2⟩ | ⟨h1, h2⟩ <;> (change he = _ at h1; change sp = _ at h2; subst h1; subst h2) <;> rfl
theorem fX8_gladBy (N d : Nat) {X : lt_X} (x1 : Int32) (x2 : Int32) (I : Nat → Nat → Int32) (J : Nat → Nat → Int64) : am_G am_prog N (d + 1) 144 [.ref 3, .int x1, .int x2] (mkh X I J) = am_run (am_G am_prog N d) eX8_gladBy uX8_gladBy N 0 [(0, .ref 3), (1, .int x1), (2, .int x2)] [] (mkh X I J) := by
  refine (am_G_at N d 144 mX8_gladBy _ _ rfl).trans ?_
  rfl
theorem gX8_gladBy (N d : Nat) {X : lt_X} (x1 : Int32) (x2 : Int32) (I : Nat → Nat → Int32) (J : Nat → Nat → Int64) : am_G am_prog (N + 30) (d + 2) 144 [.ref 3, .int x1, .int x2] (mkh X I J) = RX8_gladBy_0 N d (N + 30) X x1 x2 I J := fX8_gladBy (N + 30) (d + 1) x1 x2 I J
def RX8_lonelyIn_0 (N d n : Nat) (X : lt_X) (x1 : Int32) (I : Nat → Nat → Int32) (J : Nat → Nat → Int64) : am_O := am_run (am_G am_prog (N + 30) (d + 1)) eX8_lonelyIn uX8_lonelyIn n 0 [(0, .ref 3), (1, .int x1)] [] (mkh X I J)
def RX8_lonelyIn_26 (N d n : Nat) (X : lt_X) (x2 : Int32) (x3 : Int32) (I : Nat → Nat → Int32) (J : Nat → Nat → Int64) : am_O := am_run (am_G am_prog (N + 30) (d + 1)) eX8_lonelyIn uX8_lonelyIn n 26 [(0, .ref 3), (2, .int x2), (3, .int x3)] [] (mkh X I J)
def KX8_lonelyIn_0 (N d n : Nat) (a0 : Int32) (z : Int32) (h : am_H) : am_O := if z = nI 0 then am_cI (am_G am_prog (N + 30) (d + 1) 181 [.ref 3, .int (nI 2)] h) (fun r2 h1 => some (.int r2, h1)) else am_gR h 8 3 3 (fun y3 => am_cI (am_G am_prog (N + 30) (d + 1) 66 [.ref y3, .int a0] h) (fun r5 h4 => am_run (am_G am_prog (N + 30) (d + 1)) eX8_lonelyIn uX8_lonelyIn n 26 [(0, .ref 3), (2, .int r5), (3, .int (nI 0))] [] h4))
def KX8_lonelyIn_1 (N d n : Nat) (a0 : Int32) (a1 : Int32) (z : Int32) (h : am_H) : am_O := if z = nI 0 then am_cI (am_G am_prog (N + 30) (d + 1) 179 [.ref 3, .int a1] h) (fun r2 h1 => some (.int r2, h1)) else am_run (am_G am_prog (N + 30) (d + 1)) eX8_lonelyIn uX8_lonelyIn n 26 [(0, .ref 3), (2, .int a0), (3, .int (a1 + (nI 1)))] [] h
def KX8_lonelyIn_2 (N d n : Nat) (z : Int32) (h : am_H) : am_O := am_run (am_G am_prog (N + 30) (d + 1)) eX8_lonelyIn uX8_lonelyIn n 26 [(0, .ref 3), (2, .int z), (3, .int (nI 0))] [] h
set_option maxHeartbeats 4000000 in
set_option maxRecDepth 100000 in
theorem sX8_lonelyIn_0 (N d n : Nat) {X : lt_X} (hX : hsX X) (x1 : Int32) (I : Nat → Nat → Int32) (J : Nat → Nat → Int64) : RX8_lonelyIn_0 N d (n + 1) X x1 I J = am_cI (am_G am_prog (N + 30) (d + 1) 178 [.ref 3, .int (nI 2), .int x1] (mkh X I J)) (KX8_lonelyIn_0 N d n x1) := by
  obtain ⟨L, he, sp, t1, t2⟩ := X
  rcases hX with ⟨h1, h2⟩ | ⟨h1, h2⟩ <;> (change he = _ at h1; change sp = _ at h2; subst h1; subst h2) <;> rfl
set_option maxHeartbeats 4000000 in
set_option maxRecDepth 100000 in
theorem sX8_lonelyIn_26 (N d n : Nat) {X : lt_X} (hX : hsX X) (x2 : Int32) (x3 : Int32) (I : Nat → Nat → Int32) (J : Nat → Nat → Int64) : RX8_lonelyIn_26 N d (n + 1) X x2 x3 I J = if x3 < (nI 300) then am_cI (am_G am_prog (N + 30) (d + 1) 74 [.ref X.2.1, .int x2, .int ((I X.2.1 3) + x3)] (mkh X I J)) (KX8_lonelyIn_1 N d n x2 x3) else some (.int (-1), (mkh X (u2 I 3 15 (nI 8)) J)) := by
  obtain ⟨L, he, sp, t1, t2⟩ := X
  rcases hX with ⟨h1, h2⟩ | ⟨h1, h2⟩ <;> (change he = _ at h1; change sp = _ at h2; subst h1; subst h2) <;> rfl
set_option maxHeartbeats 4000000 in
set_option maxRecDepth 100000 in
theorem kX8_lonelyIn_0 (N d n : Nat) {X : lt_X} (hX : hsX X) (a0 : Int32) (z : Int32) (I : Nat → Nat → Int32) (J : Nat → Nat → Int64) : KX8_lonelyIn_0 N d n a0 z (mkh X I J) = if z = nI 0 then some (.int (-1), (mkh X (u2 I 3 15 (nI 2)) J)) else am_cI (am_G am_prog (N + 30) (d + 1) 66 [.ref X.2.1, .int a0] (mkh X I J)) (KX8_lonelyIn_2 N d n ) := by
  obtain ⟨L, he, sp, t1, t2⟩ := X
  rcases hX with ⟨h1, h2⟩ | ⟨h1, h2⟩ <;> (change he = _ at h1; change sp = _ at h2; subst h1; subst h2) <;> rfl
set_option maxHeartbeats 4000000 in
set_option maxRecDepth 100000 in
theorem kX8_lonelyIn_1 (N d n : Nat) {X : lt_X} (hX : hsX X) (a0 : Int32) (a1 : Int32) (z : Int32) (I : Nat → Nat → Int32) (J : Nat → Nat → Int64) : KX8_lonelyIn_1 N d n a0 a1 z (mkh X I J) = if z = nI 0 then some (.int a1, (mkh X (u2 I 3 15 (nI 0)) J)) else RX8_lonelyIn_26 N d n X a0 (a1 + (nI 1)) I J := by
  obtain ⟨L, he, sp, t1, t2⟩ := X
  rcases hX with ⟨h1, h2⟩ | ⟨h1, h2⟩ <;> (change he = _ at h1; change sp = _ at h2; subst h1; subst h2) <;> rfl
set_option maxHeartbeats 4000000 in
set_option maxRecDepth 100000 in
theorem kX8_lonelyIn_2 (N d n : Nat) {X : lt_X} (hX : hsX X) (z : Int32) (I : Nat → Nat → Int32) (J : Nat → Nat → Int64) : KX8_lonelyIn_2 N d n z (mkh X I J) = RX8_lonelyIn_26 N d n X z (nI 0) I J := by
  obtain ⟨L, he, sp, t1, t2⟩ := X
  rcases hX with ⟨h1, h2⟩ | ⟨h1, h2⟩ <;> (change he = _ at h1; change sp = _ at h2; subst h1; subst h2) <;> rfl
theorem fX8_lonelyIn (N d : Nat) {X : lt_X} (x1 : Int32) (I : Nat → Nat → Int32) (J : Nat → Nat → Int64) : am_G am_prog N (d + 1) 145 [.ref 3, .int x1] (mkh X I J) = am_run (am_G am_prog N d) eX8_lonelyIn uX8_lonelyIn N 0 [(0, .ref 3), (1, .int x1)] [] (mkh X I J) := by
  refine (am_G_at N d 145 mX8_lonelyIn _ _ rfl).trans ?_
  rfl
theorem gX8_lonelyIn (N d : Nat) {X : lt_X} (x1 : Int32) (I : Nat → Nat → Int32) (J : Nat → Nat → Int64) : am_G am_prog (N + 30) (d + 2) 145 [.ref 3, .int x1] (mkh X I J) = RX8_lonelyIn_0 N d (N + 30) X x1 I J := fX8_lonelyIn (N + 30) (d + 1) x1 I J
def RX8_diesIn_0 (N d n : Nat) (X : lt_X) (x1 : Int32) (I : Nat → Nat → Int32) (J : Nat → Nat → Int64) : am_O := am_run (am_G am_prog (N + 30) (d + 1)) eX8_diesIn uX8_diesIn n 0 [(0, .ref 3), (1, .int x1)] [] (mkh X I J)
def KX8_diesIn_0 (N d n : Nat) (a0 : Int32) (z : Int32) (h : am_H) : am_O := if z = nI 0 then am_cI (am_G am_prog (N + 30) (d + 1) 181 [.ref 3, .int (nI 2)] h) (fun r2 h1 => some (.int r2, h1)) else am_gR h 8 3 3 (fun y3 => am_cI (am_G am_prog (N + 30) (d + 1) 70 [.ref y3, .int a0] h) (fun r5 h4 => if r5 = nI 0 then am_cI (am_G am_prog (N + 30) (d + 1) 181 [.ref 3, .int (nI 8)] h4) (fun r7 h6 => some (.int r7, h6)) else am_gR h4 8 3 3 (fun y8 => am_gR h4 5 y8 8 (fun y9 => am_lI h4 10 y9 a0 (fun y10 => am_gR h4 8 3 3 (fun y11 => am_gR h4 5 y11 7 (fun y12 => am_lI h4 10 y12 a0 (fun y13 => am_cI (am_G am_prog (N + 30) (d + 1) 179 [.ref 3, .int (if (nI 1) < (y10 - y13) then (y10 - y13) else (nI 1))] h4) (fun r15 h14 => some (.int r15, h14))))))))))
def KX8_diesIn_1 (N d n : Nat) (a0 : Int32) (z : Int32) (h : am_H) : am_O := if z = nI 0 then am_cI (am_G am_prog (N + 30) (d + 1) 181 [.ref 3, .int (nI 8)] h) (fun r2 h1 => some (.int r2, h1)) else am_gR h 8 3 3 (fun y3 => am_gR h 5 y3 8 (fun y4 => am_lI h 10 y4 a0 (fun y5 => am_gR h 8 3 3 (fun y6 => am_gR h 5 y6 7 (fun y7 => am_lI h 10 y7 a0 (fun y8 => am_cI (am_G am_prog (N + 30) (d + 1) 179 [.ref 3, .int (if (nI 1) < (y5 - y8) then (y5 - y8) else (nI 1))] h) (fun r10 h9 => some (.int r10, h9))))))))
set_option maxHeartbeats 4000000 in
set_option maxRecDepth 100000 in
theorem sX8_diesIn_0 (N d n : Nat) {X : lt_X} (hX : hsX X) (x1 : Int32) (I : Nat → Nat → Int32) (J : Nat → Nat → Int64) : RX8_diesIn_0 N d (n + 1) X x1 I J = am_cI (am_G am_prog (N + 30) (d + 1) 178 [.ref 3, .int (nI 1), .int x1] (mkh X I J)) (KX8_diesIn_0 N d n x1) := by
  obtain ⟨L, he, sp, t1, t2⟩ := X
  rcases hX with ⟨h1, h2⟩ | ⟨h1, h2⟩ <;> (change he = _ at h1; change sp = _ at h2; subst h1; subst h2) <;> rfl
set_option maxHeartbeats 4000000 in
set_option maxRecDepth 100000 in
theorem kX8_diesIn_0 (N d n : Nat) {X : lt_X} (hX : hsX X) (a0 : Int32) (z : Int32) (I : Nat → Nat → Int32) (J : Nat → Nat → Int64) : KX8_diesIn_0 N d n a0 z (mkh X I J) = if z = nI 0 then some (.int (-1), (mkh X (u2 I 3 15 (nI 2)) J)) else am_cI (am_G am_prog (N + 30) (d + 1) 70 [.ref X.2.1, .int a0] (mkh X I J)) (KX8_diesIn_1 N d n a0) := by
  obtain ⟨L, he, sp, t1, t2⟩ := X
  rcases hX with ⟨h1, h2⟩ | ⟨h1, h2⟩ <;> (change he = _ at h1; change sp = _ at h2; subst h1; subst h2) <;> rfl
set_option maxHeartbeats 4000000 in
set_option maxRecDepth 100000 in
theorem kX8_diesIn_1 (N d n : Nat) {X : lt_X} (hX : hsX X) (a0 : Int32) (z : Int32) (I : Nat → Nat → Int32) (J : Nat → Nat → Int64) : KX8_diesIn_1 N d n a0 z (mkh X I J) = if z = nI 0 then some (.int (-1), (mkh X (u2 I 3 15 (nI 8)) J)) else if am_in a0 6 then if am_in a0 6 then some (.int (if (nI 1) < ((I (X.2.1 + 4) a0.toNatClampNeg) - (I (X.2.1 + 3) a0.toNatClampNeg)) then ((I (X.2.1 + 4) a0.toNatClampNeg) - (I (X.2.1 + 3) a0.toNatClampNeg)) else (nI 1)), (mkh X (u2 I 3 15 (nI 0)) J)) else none else none := by
  obtain ⟨L, he, sp, t1, t2⟩ := X
  rcases hX with ⟨h1, h2⟩ | ⟨h1, h2⟩ <;> (change he = _ at h1; change sp = _ at h2; subst h1; subst h2) <;> rfl
theorem fX8_diesIn (N d : Nat) {X : lt_X} (x1 : Int32) (I : Nat → Nat → Int32) (J : Nat → Nat → Int64) : am_G am_prog N (d + 1) 146 [.ref 3, .int x1] (mkh X I J) = am_run (am_G am_prog N d) eX8_diesIn uX8_diesIn N 0 [(0, .ref 3), (1, .int x1)] [] (mkh X I J) := by
  refine (am_G_at N d 146 mX8_diesIn _ _ rfl).trans ?_
  rfl
theorem gX8_diesIn (N d : Nat) {X : lt_X} (x1 : Int32) (I : Nat → Nat → Int32) (J : Nat → Nat → Int64) : am_G am_prog (N + 30) (d + 2) 146 [.ref 3, .int x1] (mkh X I J) = RX8_diesIn_0 N d (N + 30) X x1 I J := fX8_diesIn (N + 30) (d + 1) x1 I J
def RX8_crowd_0 (N d n : Nat) (X : lt_X) (x1 : Int32) (I : Nat → Nat → Int32) (J : Nat → Nat → Int64) : am_O := am_run (am_G am_prog (N + 30) (d + 1)) eX8_crowd uX8_crowd n 0 [(0, .ref 3), (1, .int x1)] [] (mkh X I J)
def KX8_crowd_0 (N d n : Nat) (a0 : Int32) (z : Int32) (h : am_H) : am_O := if z = nI 0 then am_cI (am_G am_prog (N + 30) (d + 1) 181 [.ref 3, .int (nI 2)] h) (fun r2 h1 => some (.int r2, h1)) else am_gR h 8 3 3 (fun y3 => am_cI (am_G am_prog (N + 30) (d + 1) 67 [.ref y3, .int a0] h) (fun r5 h4 => am_cI (am_G am_prog (N + 30) (d + 1) 179 [.ref 3, .int r5] h4) (fun r7 h6 => some (.int r7, h6))))
def KX8_crowd_1 (N d n : Nat) (z : Int32) (h : am_H) : am_O := am_cI (am_G am_prog (N + 30) (d + 1) 179 [.ref 3, .int z] h) (fun r2 h1 => some (.int r2, h1))
set_option maxHeartbeats 4000000 in
set_option maxRecDepth 100000 in
theorem sX8_crowd_0 (N d n : Nat) {X : lt_X} (hX : hsX X) (x1 : Int32) (I : Nat → Nat → Int32) (J : Nat → Nat → Int64) : RX8_crowd_0 N d (n + 1) X x1 I J = am_cI (am_G am_prog (N + 30) (d + 1) 178 [.ref 3, .int (nI 1), .int x1] (mkh X I J)) (KX8_crowd_0 N d n x1) := by
  obtain ⟨L, he, sp, t1, t2⟩ := X
  rcases hX with ⟨h1, h2⟩ | ⟨h1, h2⟩ <;> (change he = _ at h1; change sp = _ at h2; subst h1; subst h2) <;> rfl
set_option maxHeartbeats 4000000 in
set_option maxRecDepth 100000 in
theorem kX8_crowd_0 (N d n : Nat) {X : lt_X} (hX : hsX X) (a0 : Int32) (z : Int32) (I : Nat → Nat → Int32) (J : Nat → Nat → Int64) : KX8_crowd_0 N d n a0 z (mkh X I J) = if z = nI 0 then some (.int (-1), (mkh X (u2 I 3 15 (nI 2)) J)) else am_cI (am_G am_prog (N + 30) (d + 1) 67 [.ref X.2.1, .int a0] (mkh X I J)) (KX8_crowd_1 N d n ) := by
  obtain ⟨L, he, sp, t1, t2⟩ := X
  rcases hX with ⟨h1, h2⟩ | ⟨h1, h2⟩ <;> (change he = _ at h1; change sp = _ at h2; subst h1; subst h2) <;> rfl
set_option maxHeartbeats 4000000 in
set_option maxRecDepth 100000 in
theorem kX8_crowd_1 (N d n : Nat) {X : lt_X} (hX : hsX X) (z : Int32) (I : Nat → Nat → Int32) (J : Nat → Nat → Int64) : KX8_crowd_1 N d n z (mkh X I J) = some (.int z, (mkh X (u2 I 3 15 (nI 0)) J)) := by
  obtain ⟨L, he, sp, t1, t2⟩ := X
  rcases hX with ⟨h1, h2⟩ | ⟨h1, h2⟩ <;> (change he = _ at h1; change sp = _ at h2; subst h1; subst h2) <;> rfl
theorem fX8_crowd (N d : Nat) {X : lt_X} (x1 : Int32) (I : Nat → Nat → Int32) (J : Nat → Nat → Int64) : am_G am_prog N (d + 1) 147 [.ref 3, .int x1] (mkh X I J) = am_run (am_G am_prog N d) eX8_crowd uX8_crowd N 0 [(0, .ref 3), (1, .int x1)] [] (mkh X I J) := by
  refine (am_G_at N d 147 mX8_crowd _ _ rfl).trans ?_
  rfl
theorem gX8_crowd (N d : Nat) {X : lt_X} (x1 : Int32) (I : Nat → Nat → Int32) (J : Nat → Nat → Int64) : am_G am_prog (N + 30) (d + 2) 147 [.ref 3, .int x1] (mkh X I J) = RX8_crowd_0 N d (N + 30) X x1 I J := fX8_crowd (N + 30) (d + 1) x1 I J
def RX8_worth_0 (N d n : Nat) (X : lt_X) (x1 : Int32) (x2 : Int32) (I : Nat → Nat → Int32) (J : Nat → Nat → Int64) : am_O := am_run (am_G am_prog (N + 30) (d + 1)) eX8_worth uX8_worth n 0 [(0, .ref 3), (1, .int x1), (2, .int x2)] [] (mkh X I J)
def KX8_worth_0 (N d n : Nat) (a0 : Int32) (a1 : Int32) (z : Int32) (h : am_H) : am_O := if z = nI 0 then am_cI (am_G am_prog (N + 30) (d + 1) 181 [.ref 3, .int (nI 2)] h) (fun r2 h1 => some (.int r2, h1)) else am_cI (am_G am_prog (N + 30) (d + 1) 178 [.ref 3, .int (nI 3), .int a1] h) (fun r4 h3 => if r4 = nI 0 then am_cI (am_G am_prog (N + 30) (d + 1) 181 [.ref 3, .int (nI 2)] h3) (fun r6 h5 => some (.int r6, h5)) else am_gR h3 8 3 3 (fun y7 => am_cI (am_G am_prog (N + 30) (d + 1) 77 [.ref y7, .int a0, .int a1] h3) (fun r9 h8 => am_cI (am_G am_prog (N + 30) (d + 1) 179 [.ref 3, .int r9] h8) (fun r11 h10 => some (.int r11, h10)))))
def KX8_worth_1 (N d n : Nat) (a0 : Int32) (a1 : Int32) (z : Int32) (h : am_H) : am_O := if z = nI 0 then am_cI (am_G am_prog (N + 30) (d + 1) 181 [.ref 3, .int (nI 2)] h) (fun r2 h1 => some (.int r2, h1)) else am_gR h 8 3 3 (fun y3 => am_cI (am_G am_prog (N + 30) (d + 1) 77 [.ref y3, .int a0, .int a1] h) (fun r5 h4 => am_cI (am_G am_prog (N + 30) (d + 1) 179 [.ref 3, .int r5] h4) (fun r7 h6 => some (.int r7, h6))))
def KX8_worth_2 (N d n : Nat) (z : Int32) (h : am_H) : am_O := am_cI (am_G am_prog (N + 30) (d + 1) 179 [.ref 3, .int z] h) (fun r2 h1 => some (.int r2, h1))
set_option maxHeartbeats 4000000 in
set_option maxRecDepth 100000 in
theorem sX8_worth_0 (N d n : Nat) {X : lt_X} (hX : hsX X) (x1 : Int32) (x2 : Int32) (I : Nat → Nat → Int32) (J : Nat → Nat → Int64) : RX8_worth_0 N d (n + 1) X x1 x2 I J = am_cI (am_G am_prog (N + 30) (d + 1) 178 [.ref 3, .int (nI 2), .int x1] (mkh X I J)) (KX8_worth_0 N d n x1 x2) := by
  obtain ⟨L, he, sp, t1, t2⟩ := X
  rcases hX with ⟨h1, h2⟩ | ⟨h1, h2⟩ <;> (change he = _ at h1; change sp = _ at h2; subst h1; subst h2) <;> rfl
set_option maxHeartbeats 4000000 in
set_option maxRecDepth 100000 in
theorem kX8_worth_0 (N d n : Nat) {X : lt_X} (hX : hsX X) (a0 : Int32) (a1 : Int32) (z : Int32) (I : Nat → Nat → Int32) (J : Nat → Nat → Int64) : KX8_worth_0 N d n a0 a1 z (mkh X I J) = if z = nI 0 then some (.int (-1), (mkh X (u2 I 3 15 (nI 2)) J)) else am_cI (am_G am_prog (N + 30) (d + 1) 178 [.ref 3, .int (nI 3), .int a1] (mkh X I J)) (KX8_worth_1 N d n a0 a1) := by
  obtain ⟨L, he, sp, t1, t2⟩ := X
  rcases hX with ⟨h1, h2⟩ | ⟨h1, h2⟩ <;> (change he = _ at h1; change sp = _ at h2; subst h1; subst h2) <;> rfl
set_option maxHeartbeats 4000000 in
set_option maxRecDepth 100000 in
theorem kX8_worth_1 (N d n : Nat) {X : lt_X} (hX : hsX X) (a0 : Int32) (a1 : Int32) (z : Int32) (I : Nat → Nat → Int32) (J : Nat → Nat → Int64) : KX8_worth_1 N d n a0 a1 z (mkh X I J) = if z = nI 0 then some (.int (-1), (mkh X (u2 I 3 15 (nI 2)) J)) else am_cI (am_G am_prog (N + 30) (d + 1) 77 [.ref X.2.1, .int a0, .int a1] (mkh X I J)) (KX8_worth_2 N d n ) := by
  obtain ⟨L, he, sp, t1, t2⟩ := X
  rcases hX with ⟨h1, h2⟩ | ⟨h1, h2⟩ <;> (change he = _ at h1; change sp = _ at h2; subst h1; subst h2) <;> rfl
set_option maxHeartbeats 4000000 in
set_option maxRecDepth 100000 in
theorem kX8_worth_2 (N d n : Nat) {X : lt_X} (hX : hsX X) (z : Int32) (I : Nat → Nat → Int32) (J : Nat → Nat → Int64) : KX8_worth_2 N d n z (mkh X I J) = some (.int z, (mkh X (u2 I 3 15 (nI 0)) J)) := by
  obtain ⟨L, he, sp, t1, t2⟩ := X
  rcases hX with ⟨h1, h2⟩ | ⟨h1, h2⟩ <;> (change he = _ at h1; change sp = _ at h2; subst h1; subst h2) <;> rfl
theorem fX8_worth (N d : Nat) {X : lt_X} (x1 : Int32) (x2 : Int32) (I : Nat → Nat → Int32) (J : Nat → Nat → Int64) : am_G am_prog N (d + 1) 148 [.ref 3, .int x1, .int x2] (mkh X I J) = am_run (am_G am_prog N d) eX8_worth uX8_worth N 0 [(0, .ref 3), (1, .int x1), (2, .int x2)] [] (mkh X I J) := by
  refine (am_G_at N d 148 mX8_worth _ _ rfl).trans ?_
  rfl
theorem gX8_worth (N d : Nat) {X : lt_X} (x1 : Int32) (x2 : Int32) (I : Nat → Nat → Int32) (J : Nat → Nat → Int64) : am_G am_prog (N + 30) (d + 2) 148 [.ref 3, .int x1, .int x2] (mkh X I J) = RX8_worth_0 N d (N + 30) X x1 x2 I J := fX8_worth (N + 30) (d + 1) x1 x2 I J
def RX8_best_0 (N d n : Nat) (X : lt_X) (x1 : Int32) (I : Nat → Nat → Int32) (J : Nat → Nat → Int64) : am_O := am_run (am_G am_prog (N + 30) (d + 1)) eX8_best uX8_best n 0 [(0, .ref 3), (1, .int x1)] [] (mkh X I J)
def KX8_best_0 (N d n : Nat) (a0 : Int32) (z : Int32) (h : am_H) : am_O := if z = nI 0 then am_cI (am_G am_prog (N + 30) (d + 1) 181 [.ref 3, .int (nI 5)] h) (fun r2 h1 => some (.int r2, h1)) else am_gR h 8 3 10 (fun y3 => am_gR h 8 3 3 (fun y4 => am_cI (am_G am_prog (N + 30) (d + 1) 2 [.ref y3, .ref y4, .int a0] h) (fun r6 h5 => am_cI (am_G am_prog (N + 30) (d + 1) 179 [.ref 3, .int r6] h5) (fun r8 h7 => some (.int r8, h7)))))
def KX8_best_1 (N d n : Nat) (z : Int32) (h : am_H) : am_O := am_cI (am_G am_prog (N + 30) (d + 1) 179 [.ref 3, .int z] h) (fun r2 h1 => some (.int r2, h1))
set_option maxHeartbeats 4000000 in
set_option maxRecDepth 100000 in
theorem sX8_best_0 (N d n : Nat) {X : lt_X} (hX : hsX X) (x1 : Int32) (I : Nat → Nat → Int32) (J : Nat → Nat → Int64) : RX8_best_0 N d (n + 1) X x1 I J = am_cI (am_G am_prog (N + 30) (d + 1) 155 [.ref 3, .int x1] (mkh X I J)) (KX8_best_0 N d n x1) := by
  obtain ⟨L, he, sp, t1, t2⟩ := X
  rcases hX with ⟨h1, h2⟩ | ⟨h1, h2⟩ <;> (change he = _ at h1; change sp = _ at h2; subst h1; subst h2) <;> rfl
set_option maxHeartbeats 4000000 in
set_option maxRecDepth 100000 in
theorem kX8_best_0 (N d n : Nat) {X : lt_X} (hX : hsX X) (a0 : Int32) (z : Int32) (I : Nat → Nat → Int32) (J : Nat → Nat → Int64) : KX8_best_0 N d n a0 z (mkh X I J) = if z = nI 0 then some (.int (-1), (mkh X (u2 I 3 15 (nI 5)) J)) else am_cI (am_G am_prog (N + 30) (d + 1) 2 [.ref 126, .ref X.2.1, .int a0] (mkh X I J)) (KX8_best_1 N d n ) := by
  obtain ⟨L, he, sp, t1, t2⟩ := X
  rcases hX with ⟨h1, h2⟩ | ⟨h1, h2⟩ <;> (change he = _ at h1; change sp = _ at h2; subst h1; subst h2) <;> rfl
set_option maxHeartbeats 4000000 in
set_option maxRecDepth 100000 in
theorem kX8_best_1 (N d n : Nat) {X : lt_X} (hX : hsX X) (z : Int32) (I : Nat → Nat → Int32) (J : Nat → Nat → Int64) : KX8_best_1 N d n z (mkh X I J) = some (.int z, (mkh X (u2 I 3 15 (nI 0)) J)) := by
  obtain ⟨L, he, sp, t1, t2⟩ := X
  rcases hX with ⟨h1, h2⟩ | ⟨h1, h2⟩ <;> (change he = _ at h1; change sp = _ at h2; subst h1; subst h2) <;> rfl
theorem fX8_best (N d : Nat) {X : lt_X} (x1 : Int32) (I : Nat → Nat → Int32) (J : Nat → Nat → Int64) : am_G am_prog N (d + 1) 149 [.ref 3, .int x1] (mkh X I J) = am_run (am_G am_prog N d) eX8_best uX8_best N 0 [(0, .ref 3), (1, .int x1)] [] (mkh X I J) := by
  refine (am_G_at N d 149 mX8_best _ _ rfl).trans ?_
  rfl
theorem gX8_best (N d : Nat) {X : lt_X} (x1 : Int32) (I : Nat → Nat → Int32) (J : Nat → Nat → Int64) : am_G am_prog (N + 30) (d + 2) 149 [.ref 3, .int x1] (mkh X I J) = RX8_best_0 N d (N + 30) X x1 I J := fX8_best (N + 30) (d + 1) x1 I J
def RX8_bestSet_0 (N d n : Nat) (X : lt_X) (x1 : Int32) (x2 : Int32) (I : Nat → Nat → Int32) (J : Nat → Nat → Int64) : am_O := am_run (am_G am_prog (N + 30) (d + 2)) eX8_bestSet uX8_bestSet n 0 [(0, .ref 3), (1, .int x1), (2, .int x2)] [] (mkh X I J)
def KX8_bestSet_0 (N d n : Nat) (a0 : Int32) (a1 : Int32) (z : Int32) (h : am_H) : am_O := if z = nI 0 then am_cI (am_G am_prog (N + 30) (d + 2) 181 [.ref 3, .int (nI 2)] h) (fun r2 h1 => some (.int r2, h1)) else am_cI (am_G am_prog (N + 30) (d + 2) 155 [.ref 3, .int a0] h) (fun r4 h3 => if r4 = nI 0 then am_cI (am_G am_prog (N + 30) (d + 2) 181 [.ref 3, .int (nI 5)] h3) (fun r6 h5 => some (.int r6, h5)) else if ((a0 >>> (a1 &&& 31)) &&& (nI 1)) = nI 0 then am_cI (am_G am_prog (N + 30) (d + 2) 181 [.ref 3, .int (nI 5)] h3) (fun r8 h7 => some (.int r8, h7)) else am_gR h3 8 3 10 (fun y9 => am_gR h3 8 3 3 (fun y10 => am_cI (am_G am_prog (N + 30) (d + 2) 5 [.ref y9, .ref y10, .int a0, .int a1] h3) (fun r12 h11 => am_cI (am_G am_prog (N + 30) (d + 2) 180 [.ref 3, .int r12] h11) (fun r14 h13 => some (.int r14, h13))))))
def KX8_bestSet_1 (N d n : Nat) (a0 : Int32) (a1 : Int32) (z : Int32) (h : am_H) : am_O := if z = nI 0 then am_cI (am_G am_prog (N + 30) (d + 2) 181 [.ref 3, .int (nI 5)] h) (fun r2 h1 => some (.int r2, h1)) else if ((a0 >>> (a1 &&& 31)) &&& (nI 1)) = nI 0 then am_cI (am_G am_prog (N + 30) (d + 2) 181 [.ref 3, .int (nI 5)] h) (fun r4 h3 => some (.int r4, h3)) else am_gR h 8 3 10 (fun y5 => am_gR h 8 3 3 (fun y6 => am_cI (am_G am_prog (N + 30) (d + 2) 5 [.ref y5, .ref y6, .int a0, .int a1] h) (fun r8 h7 => am_cI (am_G am_prog (N + 30) (d + 2) 180 [.ref 3, .int r8] h7) (fun r10 h9 => some (.int r10, h9)))))
def KX8_bestSet_2 (N d n : Nat) (z : Int32) (h : am_H) : am_O := am_cI (am_G am_prog (N + 30) (d + 2) 180 [.ref 3, .int z] h) (fun r2 h1 => some (.int r2, h1))
def KX8_bestSet_3 (N d n : Nat) (z : Int32) (h : am_H) : am_O := some (.int z, h)
set_option maxHeartbeats 4000000 in
set_option maxRecDepth 100000 in
theorem sX8_bestSet_0 (N d n : Nat) {X : lt_X} (hX : hsX X) (x1 : Int32) (x2 : Int32) (I : Nat → Nat → Int32) (J : Nat → Nat → Int64) : RX8_bestSet_0 N d (n + 1) X x1 x2 I J = am_cI (am_G am_prog (N + 30) (d + 2) 178 [.ref 3, .int (nI 2), .int x2] (mkh X I J)) (KX8_bestSet_0 N d n x1 x2) := by
  obtain ⟨L, he, sp, t1, t2⟩ := X
  rcases hX with ⟨h1, h2⟩ | ⟨h1, h2⟩ <;> (change he = _ at h1; change sp = _ at h2; subst h1; subst h2) <;> rfl
set_option maxHeartbeats 4000000 in
set_option maxRecDepth 100000 in
theorem kX8_bestSet_0 (N d n : Nat) {X : lt_X} (hX : hsX X) (a0 : Int32) (a1 : Int32) (z : Int32) (I : Nat → Nat → Int32) (J : Nat → Nat → Int64) : KX8_bestSet_0 N d n a0 a1 z (mkh X I J) = if z = nI 0 then some (.int (-1), (mkh X (u2 I 3 15 (nI 2)) J)) else am_cI (am_G am_prog (N + 30) (d + 2) 155 [.ref 3, .int a0] (mkh X I J)) (KX8_bestSet_1 N d n a0 a1) := by
  obtain ⟨L, he, sp, t1, t2⟩ := X
  rcases hX with ⟨h1, h2⟩ | ⟨h1, h2⟩ <;> (change he = _ at h1; change sp = _ at h2; subst h1; subst h2) <;> rfl
set_option maxHeartbeats 4000000 in
set_option maxRecDepth 100000 in
theorem kX8_bestSet_1 (N d n : Nat) {X : lt_X} (hX : hsX X) (a0 : Int32) (a1 : Int32) (z : Int32) (I : Nat → Nat → Int32) (J : Nat → Nat → Int64) : KX8_bestSet_1 N d n a0 a1 z (mkh X I J) = if z = nI 0 then some (.int (-1), (mkh X (u2 I 3 15 (nI 5)) J)) else if ((a0 >>> (a1 &&& 31)) &&& (nI 1)) = nI 0 then some (.int (-1), (mkh X (u2 I 3 15 (nI 5)) J)) else am_cI (am_G am_prog (N + 30) (d + 2) 5 [.ref 126, .ref X.2.1, .int a0, .int a1] (mkh X I J)) (KX8_bestSet_2 N d n ) := by
  obtain ⟨L, he, sp, t1, t2⟩ := X
  rcases hX with ⟨h1, h2⟩ | ⟨h1, h2⟩ <;> (change he = _ at h1; change sp = _ at h2; subst h1; subst h2) <;> rfl
set_option maxHeartbeats 4000000 in
set_option maxRecDepth 100000 in
theorem kX8_bestSet_2 (N d n : Nat) {X : lt_X} (hX : hsX X) (z : Int32) (I : Nat → Nat → Int32) (J : Nat → Nat → Int64) : KX8_bestSet_2 N d n z (mkh X I J) = am_cI (am_G am_prog (N + 30) (d + 2) 180 [.ref 3, .int z] (mkh X I J)) (KX8_bestSet_3 N d n ) := by
  obtain ⟨L, he, sp, t1, t2⟩ := X
  rcases hX with ⟨h1, h2⟩ | ⟨h1, h2⟩ <;> (change he = _ at h1; change sp = _ at h2; subst h1; subst h2) <;> rfl
set_option maxHeartbeats 4000000 in
set_option maxRecDepth 100000 in
theorem kX8_bestSet_3 (N d n : Nat) {X : lt_X} (hX : hsX X) (z : Int32) (I : Nat → Nat → Int32) (J : Nat → Nat → Int64) : KX8_bestSet_3 N d n z (mkh X I J) = some (.int z, (mkh X I J)) := by
  obtain ⟨L, he, sp, t1, t2⟩ := X
  rcases hX with ⟨h1, h2⟩ | ⟨h1, h2⟩ <;> (change he = _ at h1; change sp = _ at h2; subst h1; subst h2) <;> rfl
theorem fX8_bestSet (N d : Nat) {X : lt_X} (x1 : Int32) (x2 : Int32) (I : Nat → Nat → Int32) (J : Nat → Nat → Int64) : am_G am_prog N (d + 1) 150 [.ref 3, .int x1, .int x2] (mkh X I J) = am_run (am_G am_prog N d) eX8_bestSet uX8_bestSet N 0 [(0, .ref 3), (1, .int x1), (2, .int x2)] [] (mkh X I J) := by
  refine (am_G_at N d 150 mX8_bestSet _ _ rfl).trans ?_
  rfl
theorem gX8_bestSet (N d : Nat) {X : lt_X} (x1 : Int32) (x2 : Int32) (I : Nat → Nat → Int32) (J : Nat → Nat → Int64) : am_G am_prog (N + 30) (d + 3) 150 [.ref 3, .int x1, .int x2] (mkh X I J) = RX8_bestSet_0 N d (N + 30) X x1 x2 I J := fX8_bestSet (N + 30) (d + 2) x1 x2 I J
def RX8_trade_0 (N d n : Nat) (X : lt_X) (x1 : Int32) (I : Nat → Nat → Int32) (J : Nat → Nat → Int64) : am_O := am_run (am_G am_prog (N + 30) (d + 2)) eX8_trade uX8_trade n 0 [(0, .ref 3), (1, .int x1)] [] (mkh X I J)
def KX8_trade_0 (N d n : Nat) (a0 : Int32) (z : Int32) (h : am_H) : am_O := if z = nI 0 then am_cI (am_G am_prog (N + 30) (d + 2) 181 [.ref 3, .int (nI 2)] h) (fun r2 h1 => some (.int r2, h1)) else am_gR h 8 3 10 (fun y3 => am_gR h 8 3 3 (fun y4 => am_cV (am_G am_prog (N + 30) (d + 2) 7 [.ref y3, .ref y4] h) (fun h5 => am_gR h5 8 3 10 (fun y6 => am_gR h5 0 y6 3 (fun y7 => am_lI h5 10 y7 a0 (fun y8 => am_cI (am_G am_prog (N + 30) (d + 2) 180 [.ref 3, .int y8] h5) (fun r10 h9 => some (.int r10, h9))))))))
def KX8_trade_1 (N d n : Nat) (a0 : Int32) (h : am_H) : am_O := am_gR h 8 3 10 (fun y1 => am_gR h 0 y1 3 (fun y2 => am_lI h 10 y2 a0 (fun y3 => am_cI (am_G am_prog (N + 30) (d + 2) 180 [.ref 3, .int y3] h) (fun r5 h4 => some (.int r5, h4)))))
def KX8_trade_2 (N d n : Nat) (z : Int32) (h : am_H) : am_O := some (.int z, h)
set_option maxHeartbeats 4000000 in
set_option maxRecDepth 100000 in
theorem sX8_trade_0 (N d n : Nat) {X : lt_X} (hX : hsX X) (x1 : Int32) (I : Nat → Nat → Int32) (J : Nat → Nat → Int64) : RX8_trade_0 N d (n + 1) X x1 I J = am_cI (am_G am_prog (N + 30) (d + 2) 178 [.ref 3, .int (nI 2), .int x1] (mkh X I J)) (KX8_trade_0 N d n x1) := by
  obtain ⟨L, he, sp, t1, t2⟩ := X
  rcases hX with ⟨h1, h2⟩ | ⟨h1, h2⟩ <;> (change he = _ at h1; change sp = _ at h2; subst h1; subst h2) <;> rfl
set_option maxHeartbeats 4000000 in
set_option maxRecDepth 100000 in
theorem kX8_trade_0 (N d n : Nat) {X : lt_X} (hX : hsX X) (a0 : Int32) (z : Int32) (I : Nat → Nat → Int32) (J : Nat → Nat → Int64) : KX8_trade_0 N d n a0 z (mkh X I J) = if z = nI 0 then some (.int (-1), (mkh X (u2 I 3 15 (nI 2)) J)) else am_cV (am_G am_prog (N + 30) (d + 2) 7 [.ref 126, .ref X.2.1] (mkh X I J)) (KX8_trade_1 N d n a0) := by
  obtain ⟨L, he, sp, t1, t2⟩ := X
  rcases hX with ⟨h1, h2⟩ | ⟨h1, h2⟩ <;> (change he = _ at h1; change sp = _ at h2; subst h1; subst h2) <;> rfl
set_option maxHeartbeats 4000000 in
set_option maxRecDepth 100000 in
theorem kX8_trade_1 (N d n : Nat) {X : lt_X} (hX : hsX X) (a0 : Int32) (I : Nat → Nat → Int32) (J : Nat → Nat → Int64) : KX8_trade_1 N d n a0 (mkh X I J) = if am_in a0 6 then am_cI (am_G am_prog (N + 30) (d + 2) 180 [.ref 3, .int (I 130 a0.toNatClampNeg)] (mkh X I J)) (KX8_trade_2 N d n ) else none := by
  obtain ⟨L, he, sp, t1, t2⟩ := X
  rcases hX with ⟨h1, h2⟩ | ⟨h1, h2⟩ <;> (change he = _ at h1; change sp = _ at h2; subst h1; subst h2) <;> rfl
set_option maxHeartbeats 4000000 in
set_option maxRecDepth 100000 in
theorem kX8_trade_2 (N d n : Nat) {X : lt_X} (hX : hsX X) (z : Int32) (I : Nat → Nat → Int32) (J : Nat → Nat → Int64) : KX8_trade_2 N d n z (mkh X I J) = some (.int z, (mkh X I J)) := by
  obtain ⟨L, he, sp, t1, t2⟩ := X
  rcases hX with ⟨h1, h2⟩ | ⟨h1, h2⟩ <;> (change he = _ at h1; change sp = _ at h2; subst h1; subst h2) <;> rfl
theorem fX8_trade (N d : Nat) {X : lt_X} (x1 : Int32) (I : Nat → Nat → Int32) (J : Nat → Nat → Int64) : am_G am_prog N (d + 1) 151 [.ref 3, .int x1] (mkh X I J) = am_run (am_G am_prog N d) eX8_trade uX8_trade N 0 [(0, .ref 3), (1, .int x1)] [] (mkh X I J) := by
  refine (am_G_at N d 151 mX8_trade _ _ rfl).trans ?_
  rfl
theorem gX8_trade (N d : Nat) {X : lt_X} (x1 : Int32) (I : Nat → Nat → Int32) (J : Nat → Nat → Int64) : am_G am_prog (N + 30) (d + 3) 151 [.ref 3, .int x1] (mkh X I J) = RX8_trade_0 N d (N + 30) X x1 I J := fX8_trade (N + 30) (d + 2) x1 I J
def RX8_trades_0 (N d n : Nat) (X : lt_X) (I : Nat → Nat → Int32) (J : Nat → Nat → Int64) : am_O := am_run (am_G am_prog (N + 30) (d + 1)) eX8_trades uX8_trades n 0 [(0, .ref 3)] [] (mkh X I J)
def RX8_trades_15 (N d n : Nat) (X : lt_X) (x1 : Int32) (x2 : Int32) (I : Nat → Nat → Int32) (J : Nat → Nat → Int64) : am_O := am_run (am_G am_prog (N + 30) (d + 1)) eX8_trades uX8_trades n 15 [(0, .ref 3), (1, .int x1), (2, .int x2)] [] (mkh X I J)
def KX8_trades_0 (N d n : Nat) (h : am_H) : am_O := am_run (am_G am_prog (N + 30) (d + 1)) eX8_trades uX8_trades n 15 [(0, .ref 3), (1, .int (nI 0)), (2, .int (nI 0))] [] h
set_option maxHeartbeats 4000000 in
set_option maxRecDepth 100000 in
theorem sX8_trades_0 (N d n : Nat) {X : lt_X} (hX : hsX X) (I : Nat → Nat → Int32) (J : Nat → Nat → Int64) : RX8_trades_0 N d (n + 1) X I J = am_cV (am_G am_prog (N + 30) (d + 1) 7 [.ref 126, .ref X.2.1] (mkh X I J)) (KX8_trades_0 N d n ) := by
  obtain ⟨L, he, sp, t1, t2⟩ := X
  rcases hX with ⟨h1, h2⟩ | ⟨h1, h2⟩ <;> (change he = _ at h1; change sp = _ at h2; subst h1; subst h2) <;> rfl
set_option maxHeartbeats 4000000 in
set_option maxRecDepth 100000 in
theorem sX8_trades_15 (N d n : Nat) {X : lt_X} (hX : hsX X) (x1 : Int32) (x2 : Int32) (I : Nat → Nat → Int32) (J : Nat → Nat → Int64) : RX8_trades_15 N d (n + 1) X x1 x2 I J = if x2 < (I (X.2.1 + 2) 2) then if am_in x2 6 then if am_in x2 6 then if (I 130 x2.toNatClampNeg) = (I 129 x2.toNatClampNeg) then RX8_trades_15 N d n X x1 (x2 + (nI 1)) I J else RX8_trades_15 N d n X (x1 + (nI 1)) (x2 + (nI 1)) I J else none else none else some (.int x1, (mkh X (u2 I 3 15 (nI 0)) J)) := by
  obtain ⟨L, he, sp, t1, t2⟩ := X
  rcases hX with ⟨h1, h2⟩ | ⟨h1, h2⟩ <;> (change he = _ at h1; change sp = _ at h2; subst h1; subst h2) <;> rfl
set_option maxHeartbeats 4000000 in
set_option maxRecDepth 100000 in
theorem kX8_trades_0 (N d n : Nat) {X : lt_X} (hX : hsX X) (I : Nat → Nat → Int32) (J : Nat → Nat → Int64) : KX8_trades_0 N d n (mkh X I J) = RX8_trades_15 N d n X (nI 0) (nI 0) I J := by
  obtain ⟨L, he, sp, t1, t2⟩ := X
  rcases hX with ⟨h1, h2⟩ | ⟨h1, h2⟩ <;> (change he = _ at h1; change sp = _ at h2; subst h1; subst h2) <;> rfl
theorem fX8_trades (N d : Nat) {X : lt_X} (I : Nat → Nat → Int32) (J : Nat → Nat → Int64) : am_G am_prog N (d + 1) 152 [.ref 3] (mkh X I J) = am_run (am_G am_prog N d) eX8_trades uX8_trades N 0 [(0, .ref 3)] [] (mkh X I J) := by
  refine (am_G_at N d 152 mX8_trades _ _ rfl).trans ?_
  rfl
theorem gX8_trades (N d : Nat) {X : lt_X} (I : Nat → Nat → Int32) (J : Nat → Nat → Int64) : am_G am_prog (N + 30) (d + 2) 152 [.ref 3] (mkh X I J) = RX8_trades_0 N d (N + 30) X I J := fX8_trades (N + 30) (d + 1) I J
def RX8_envies_0 (N d n : Nat) (X : lt_X) (x1 : Int32) (x2 : Int32) (I : Nat → Nat → Int32) (J : Nat → Nat → Int64) : am_O := am_run (am_G am_prog (N + 30) (d + 1)) eX8_envies uX8_envies n 0 [(0, .ref 3), (1, .int x1), (2, .int x2)] [] (mkh X I J)
def RX8_envies_69 (N d n : Nat) (X : lt_X) (s0 : Int32) (I : Nat → Nat → Int32) (J : Nat → Nat → Int64) : am_O := am_run (am_G am_prog (N + 30) (d + 1)) eX8_envies uX8_envies n 69 [(0, .ref 3)] [.int s0] (mkh X I J)
def KX8_envies_0 (N d n : Nat) (a0 : Int32) (a1 : Int32) (z : Int32) (h : am_H) : am_O := if z = nI 0 then am_cI (am_G am_prog (N + 30) (d + 1) 181 [.ref 3, .int (nI 2)] h) (fun r2 h1 => some (.int r2, h1)) else am_cI (am_G am_prog (N + 30) (d + 1) 178 [.ref 3, .int (nI 2), .int a1] h) (fun r4 h3 => if r4 = nI 0 then am_cI (am_G am_prog (N + 30) (d + 1) 181 [.ref 3, .int (nI 2)] h3) (fun r6 h5 => some (.int r6, h5)) else if a0 = a1 then am_cI (am_G am_prog (N + 30) (d + 1) 181 [.ref 3, .int (nI 5)] h3) (fun r8 h7 => some (.int r8, h7)) else am_gR h3 8 3 10 (fun y9 => am_gR h3 8 3 3 (fun y10 => am_cI (am_G am_prog (N + 30) (d + 1) 13 [.ref y9, .ref y10, .int a0, .int a1] h3) (fun r12 h11 => am_gR h11 8 3 10 (fun y13 => am_gR h11 8 3 3 (fun y14 => am_cI (am_G am_prog (N + 30) (d + 1) 13 [.ref y13, .ref y14, .int a0, .int a0] h11) (fun r16 h15 => if r16 < r12 then am_run (am_G am_prog (N + 30) (d + 1)) eX8_envies uX8_envies n 69 [(0, .ref 3)] [.int (nI 1)] h15 else am_run (am_G am_prog (N + 30) (d + 1)) eX8_envies uX8_envies n 69 [(0, .ref 3)] [.int (nI 0)] h15)))))))
def KX8_envies_1 (N d n : Nat) (a0 : Int32) (a1 : Int32) (z : Int32) (h : am_H) : am_O := if z = nI 0 then am_cI (am_G am_prog (N + 30) (d + 1) 181 [.ref 3, .int (nI 2)] h) (fun r2 h1 => some (.int r2, h1)) else if a0 = a1 then am_cI (am_G am_prog (N + 30) (d + 1) 181 [.ref 3, .int (nI 5)] h) (fun r4 h3 => some (.int r4, h3)) else am_gR h 8 3 10 (fun y5 => am_gR h 8 3 3 (fun y6 => am_cI (am_G am_prog (N + 30) (d + 1) 13 [.ref y5, .ref y6, .int a0, .int a1] h) (fun r8 h7 => am_gR h7 8 3 10 (fun y9 => am_gR h7 8 3 3 (fun y10 => am_cI (am_G am_prog (N + 30) (d + 1) 13 [.ref y9, .ref y10, .int a0, .int a0] h7) (fun r12 h11 => if r12 < r8 then am_run (am_G am_prog (N + 30) (d + 1)) eX8_envies uX8_envies n 69 [(0, .ref 3)] [.int (nI 1)] h11 else am_run (am_G am_prog (N + 30) (d + 1)) eX8_envies uX8_envies n 69 [(0, .ref 3)] [.int (nI 0)] h11))))))
def KX8_envies_2 (N d n : Nat) (a0 : Int32) (z : Int32) (h : am_H) : am_O := am_gR h 8 3 10 (fun y1 => am_gR h 8 3 3 (fun y2 => am_cI (am_G am_prog (N + 30) (d + 1) 13 [.ref y1, .ref y2, .int a0, .int a0] h) (fun r4 h3 => if r4 < z then am_run (am_G am_prog (N + 30) (d + 1)) eX8_envies uX8_envies n 69 [(0, .ref 3)] [.int (nI 1)] h3 else am_run (am_G am_prog (N + 30) (d + 1)) eX8_envies uX8_envies n 69 [(0, .ref 3)] [.int (nI 0)] h3)))
def KX8_envies_3 (N d n : Nat) (a0 : Int32) (z : Int32) (h : am_H) : am_O := if z < a0 then am_run (am_G am_prog (N + 30) (d + 1)) eX8_envies uX8_envies n 69 [(0, .ref 3)] [.int (nI 1)] h else am_run (am_G am_prog (N + 30) (d + 1)) eX8_envies uX8_envies n 69 [(0, .ref 3)] [.int (nI 0)] h
set_option maxHeartbeats 4000000 in
set_option maxRecDepth 100000 in
theorem sX8_envies_0 (N d n : Nat) {X : lt_X} (hX : hsX X) (x1 : Int32) (x2 : Int32) (I : Nat → Nat → Int32) (J : Nat → Nat → Int64) : RX8_envies_0 N d (n + 1) X x1 x2 I J = am_cI (am_G am_prog (N + 30) (d + 1) 178 [.ref 3, .int (nI 2), .int x1] (mkh X I J)) (KX8_envies_0 N d n x1 x2) := by
  obtain ⟨L, he, sp, t1, t2⟩ := X
  rcases hX with ⟨h1, h2⟩ | ⟨h1, h2⟩ <;> (change he = _ at h1; change sp = _ at h2; subst h1; subst h2) <;> rfl
set_option maxHeartbeats 4000000 in
set_option maxRecDepth 100000 in
theorem sX8_envies_69 (N d n : Nat) {X : lt_X} (hX : hsX X) (s0 : Int32) (I : Nat → Nat → Int32) (J : Nat → Nat → Int64) : RX8_envies_69 N d (n + 1) X s0 I J = if s0 = nI 0 then some (.int (nI 0), (mkh X (u2 I 3 15 (nI 0)) J)) else some (.int (nI 1), (mkh X (u2 I 3 15 (nI 0)) J)) := by
  obtain ⟨L, he, sp, t1, t2⟩ := X
  rcases hX with ⟨h1, h2⟩ | ⟨h1, h2⟩ <;> (change he = _ at h1; change sp = _ at h2; subst h1; subst h2) <;> rfl
set_option maxHeartbeats 4000000 in
set_option maxRecDepth 100000 in
theorem kX8_envies_0 (N d n : Nat) {X : lt_X} (hX : hsX X) (a0 : Int32) (a1 : Int32) (z : Int32) (I : Nat → Nat → Int32) (J : Nat → Nat → Int64) : KX8_envies_0 N d n a0 a1 z (mkh X I J) = if z = nI 0 then some (.int (-1), (mkh X (u2 I 3 15 (nI 2)) J)) else am_cI (am_G am_prog (N + 30) (d + 1) 178 [.ref 3, .int (nI 2), .int a1] (mkh X I J)) (KX8_envies_1 N d n a0 a1) := by
  obtain ⟨L, he, sp, t1, t2⟩ := X
  rcases hX with ⟨h1, h2⟩ | ⟨h1, h2⟩ <;> (change he = _ at h1; change sp = _ at h2; subst h1; subst h2) <;> rfl
set_option maxHeartbeats 4000000 in
set_option maxRecDepth 100000 in
theorem kX8_envies_1 (N d n : Nat) {X : lt_X} (hX : hsX X) (a0 : Int32) (a1 : Int32) (z : Int32) (I : Nat → Nat → Int32) (J : Nat → Nat → Int64) : KX8_envies_1 N d n a0 a1 z (mkh X I J) = if z = nI 0 then some (.int (-1), (mkh X (u2 I 3 15 (nI 2)) J)) else if a0 = a1 then some (.int (-1), (mkh X (u2 I 3 15 (nI 5)) J)) else am_cI (am_G am_prog (N + 30) (d + 1) 13 [.ref 126, .ref X.2.1, .int a0, .int a1] (mkh X I J)) (KX8_envies_2 N d n a0) := by
  obtain ⟨L, he, sp, t1, t2⟩ := X
  rcases hX with ⟨h1, h2⟩ | ⟨h1, h2⟩ <;> (change he = _ at h1; change sp = _ at h2; subst h1; subst h2) <;> rfl
set_option maxHeartbeats 4000000 in
set_option maxRecDepth 100000 in
theorem kX8_envies_2 (N d n : Nat) {X : lt_X} (hX : hsX X) (a0 : Int32) (z : Int32) (I : Nat → Nat → Int32) (J : Nat → Nat → Int64) : KX8_envies_2 N d n a0 z (mkh X I J) = am_cI (am_G am_prog (N + 30) (d + 1) 13 [.ref 126, .ref X.2.1, .int a0, .int a0] (mkh X I J)) (KX8_envies_3 N d n z) := by
  obtain ⟨L, he, sp, t1, t2⟩ := X
  rcases hX with ⟨h1, h2⟩ | ⟨h1, h2⟩ <;> (change he = _ at h1; change sp = _ at h2; subst h1; subst h2) <;> rfl
set_option maxHeartbeats 4000000 in
set_option maxRecDepth 100000 in
theorem kX8_envies_3 (N d n : Nat) {X : lt_X} (hX : hsX X) (a0 : Int32) (z : Int32) (I : Nat → Nat → Int32) (J : Nat → Nat → Int64) : KX8_envies_3 N d n a0 z (mkh X I J) = if z < a0 then RX8_envies_69 N d n X (nI 1) I J else RX8_envies_69 N d n X (nI 0) I J := by
  obtain ⟨L, he, sp, t1, t2⟩ := X
  rcases hX with ⟨h1, h2⟩ | ⟨h1, h2⟩ <;> (change he = _ at h1; change sp = _ at h2; subst h1; subst h2) <;> rfl
theorem fX8_envies (N d : Nat) {X : lt_X} (x1 : Int32) (x2 : Int32) (I : Nat → Nat → Int32) (J : Nat → Nat → Int64) : am_G am_prog N (d + 1) 153 [.ref 3, .int x1, .int x2] (mkh X I J) = am_run (am_G am_prog N d) eX8_envies uX8_envies N 0 [(0, .ref 3), (1, .int x1), (2, .int x2)] [] (mkh X I J) := by
  refine (am_G_at N d 153 mX8_envies _ _ rfl).trans ?_
  rfl
theorem gX8_envies (N d : Nat) {X : lt_X} (x1 : Int32) (x2 : Int32) (I : Nat → Nat → Int32) (J : Nat → Nat → Int64) : am_G am_prog (N + 30) (d + 2) 153 [.ref 3, .int x1, .int x2] (mkh X I J) = RX8_envies_0 N d (N + 30) X x1 x2 I J := fX8_envies (N + 30) (d + 1) x1 x2 I J
def RX8_pick_0 (N d n : Nat) (X : lt_X) (x1 : Int32) (x2 : Int32) (x3 : Int32) (I : Nat → Nat → Int32) (J : Nat → Nat → Int64) : am_O := am_run (am_G am_prog (N + 30) (d + 2)) eX8_pick uX8_pick n 0 [(0, .ref 3), (1, .int x1), (2, .int x2), (3, .int x3)] [] (mkh X I J)
def KX8_pick_0 (N d n : Nat) (a0 : Int32) (a1 : Int32) (a2 : Int32) (z : Int32) (h : am_H) : am_O := if z = nI 0 then if a1 < nI 0 then am_cI (am_G am_prog (N + 30) (d + 2) 181 [.ref 3, .int (nI 5)] h) (fun r2 h1 => some (.int r2, h1)) else if (nI 6) < a1 then am_cI (am_G am_prog (N + 30) (d + 2) 181 [.ref 3, .int (nI 5)] h) (fun r4 h3 => some (.int r4, h3)) else am_gR h 8 3 0 (fun y5 => am_lR h 13 y5 a0 (fun y6 => am_cI (am_G am_prog (N + 30) (d + 2) 156 [.ref 3, .ref y6, .int a1] h) (fun r8 h7 => if r8 = nI 0 then am_cI (am_G am_prog (N + 30) (d + 2) 181 [.ref 3, .int (nI 5)] h7) (fun r10 h9 => some (.int r10, h9)) else if a2 < nI 0 then am_cI (am_G am_prog (N + 30) (d + 2) 181 [.ref 3, .int (nI 8)] h7) (fun r12 h11 => some (.int r12, h11)) else if a2 < a1 then am_gR h7 8 3 10 (fun y13 => am_gR h7 8 3 3 (fun y14 => am_gR h7 8 3 0 (fun y15 => am_lR h7 13 y15 a0 (fun y16 => am_cI (am_G am_prog (N + 30) (d + 2) 14 [.ref y13, .ref y14, .ref y16, .int a2] h7) (fun r18 h17 => am_cI (am_G am_prog (N + 30) (d + 2) 180 [.ref 3, .int r18] h17) (fun r20 h19 => some (.int r20, h19))))))) else am_cI (am_G am_prog (N + 30) (d + 2) 181 [.ref 3, .int (nI 8)] h7) (fun r22 h21 => some (.int r22, h21))))) else am_cI (am_G am_prog (N + 30) (d + 2) 181 [.ref 3, .int z] h) (fun r24 h23 => some (.int r24, h23))
def KX8_pick_1 (N d n : Nat) (a0 : Int32) (a1 : Int32) (a2 : Int32) (z : Int32) (h : am_H) : am_O := if z = nI 0 then am_cI (am_G am_prog (N + 30) (d + 2) 181 [.ref 3, .int (nI 5)] h) (fun r2 h1 => some (.int r2, h1)) else if a2 < nI 0 then am_cI (am_G am_prog (N + 30) (d + 2) 181 [.ref 3, .int (nI 8)] h) (fun r4 h3 => some (.int r4, h3)) else if a2 < a1 then am_gR h 8 3 10 (fun y5 => am_gR h 8 3 3 (fun y6 => am_gR h 8 3 0 (fun y7 => am_lR h 13 y7 a0 (fun y8 => am_cI (am_G am_prog (N + 30) (d + 2) 14 [.ref y5, .ref y6, .ref y8, .int a2] h) (fun r10 h9 => am_cI (am_G am_prog (N + 30) (d + 2) 180 [.ref 3, .int r10] h9) (fun r12 h11 => some (.int r12, h11))))))) else am_cI (am_G am_prog (N + 30) (d + 2) 181 [.ref 3, .int (nI 8)] h) (fun r14 h13 => some (.int r14, h13))
def KX8_pick_2 (N d n : Nat) (z : Int32) (h : am_H) : am_O := am_cI (am_G am_prog (N + 30) (d + 2) 180 [.ref 3, .int z] h) (fun r2 h1 => some (.int r2, h1))
def KX8_pick_3 (N d n : Nat) (z : Int32) (h : am_H) : am_O := some (.int z, h)
set_option maxHeartbeats 4000000 in
set_option maxRecDepth 100000 in
theorem sX8_pick_0 (N d n : Nat) {X : lt_X} (hX : hsX X) (x1 : Int32) (x2 : Int32) (x3 : Int32) (I : Nat → Nat → Int32) (J : Nat → Nat → Int64) : RX8_pick_0 N d (n + 1) X x1 x2 x3 I J = am_cI (am_G am_prog (N + 30) (d + 2) 119 [.ref 3, .int x1, .long x2.toInt64] (mkh X I J)) (KX8_pick_0 N d n x1 x2 x3) := by
  obtain ⟨L, he, sp, t1, t2⟩ := X
  rcases hX with ⟨h1, h2⟩ | ⟨h1, h2⟩ <;> (change he = _ at h1; change sp = _ at h2; subst h1; subst h2) <;> rfl
set_option maxHeartbeats 4000000 in
set_option maxRecDepth 100000 in
theorem kX8_pick_0 (N d n : Nat) {X : lt_X} (hX : hsX X) (a0 : Int32) (a1 : Int32) (a2 : Int32) (z : Int32) (I : Nat → Nat → Int32) (J : Nat → Nat → Int64) : KX8_pick_0 N d n a0 a1 a2 z (mkh X I J) = if z = nI 0 then if a1 < nI 0 then some (.int (-1), (mkh X (u2 I 3 15 (nI 5)) J)) else if (nI 6) < a1 then some (.int (-1), (mkh X (u2 I 3 15 (nI 5)) J)) else am_lR (mkh X I J) 13 4 a0 (fun y1 => am_cI (am_G am_prog (N + 30) (d + 2) 156 [.ref 3, .ref y1, .int a1] (mkh X I J)) (KX8_pick_1 N d n a0 a1 a2)) else some (.int (-1), (mkh X (u2 I 3 15 z) J)) := by
  obtain ⟨L, he, sp, t1, t2⟩ := X
  rcases hX with ⟨h1, h2⟩ | ⟨h1, h2⟩ <;> (change he = _ at h1; change sp = _ at h2; subst h1; subst h2) <;> rfl
set_option maxHeartbeats 4000000 in
set_option maxRecDepth 100000 in
theorem kX8_pick_1 (N d n : Nat) {X : lt_X} (hX : hsX X) (a0 : Int32) (a1 : Int32) (a2 : Int32) (z : Int32) (I : Nat → Nat → Int32) (J : Nat → Nat → Int64) : KX8_pick_1 N d n a0 a1 a2 z (mkh X I J) = if z = nI 0 then some (.int (-1), (mkh X (u2 I 3 15 (nI 5)) J)) else if a2 < nI 0 then some (.int (-1), (mkh X (u2 I 3 15 (nI 8)) J)) else if a2 < a1 then am_lR (mkh X I J) 13 4 a0 (fun y1 => am_cI (am_G am_prog (N + 30) (d + 2) 14 [.ref 126, .ref X.2.1, .ref y1, .int a2] (mkh X I J)) (KX8_pick_2 N d n )) else some (.int (-1), (mkh X (u2 I 3 15 (nI 8)) J)) := by
  obtain ⟨L, he, sp, t1, t2⟩ := X
  rcases hX with ⟨h1, h2⟩ | ⟨h1, h2⟩ <;> (change he = _ at h1; change sp = _ at h2; subst h1; subst h2) <;> rfl
set_option maxHeartbeats 4000000 in
set_option maxRecDepth 100000 in
theorem kX8_pick_2 (N d n : Nat) {X : lt_X} (hX : hsX X) (z : Int32) (I : Nat → Nat → Int32) (J : Nat → Nat → Int64) : KX8_pick_2 N d n z (mkh X I J) = am_cI (am_G am_prog (N + 30) (d + 2) 180 [.ref 3, .int z] (mkh X I J)) (KX8_pick_3 N d n ) := by
  obtain ⟨L, he, sp, t1, t2⟩ := X
  rcases hX with ⟨h1, h2⟩ | ⟨h1, h2⟩ <;> (change he = _ at h1; change sp = _ at h2; subst h1; subst h2) <;> rfl
set_option maxHeartbeats 4000000 in
set_option maxRecDepth 100000 in
theorem kX8_pick_3 (N d n : Nat) {X : lt_X} (hX : hsX X) (z : Int32) (I : Nat → Nat → Int32) (J : Nat → Nat → Int64) : KX8_pick_3 N d n z (mkh X I J) = some (.int z, (mkh X I J)) := by
  obtain ⟨L, he, sp, t1, t2⟩ := X
  rcases hX with ⟨h1, h2⟩ | ⟨h1, h2⟩ <;> (change he = _ at h1; change sp = _ at h2; subst h1; subst h2) <;> rfl
theorem fX8_pick (N d : Nat) {X : lt_X} (x1 : Int32) (x2 : Int32) (x3 : Int32) (I : Nat → Nat → Int32) (J : Nat → Nat → Int64) : am_G am_prog N (d + 1) 154 [.ref 3, .int x1, .int x2, .int x3] (mkh X I J) = am_run (am_G am_prog N d) eX8_pick uX8_pick N 0 [(0, .ref 3), (1, .int x1), (2, .int x2), (3, .int x3)] [] (mkh X I J) := by
  refine (am_G_at N d 154 mX8_pick _ _ rfl).trans ?_
  rfl
theorem gX8_pick (N d : Nat) {X : lt_X} (x1 : Int32) (x2 : Int32) (x3 : Int32) (I : Nat → Nat → Int32) (J : Nat → Nat → Int64) : am_G am_prog (N + 30) (d + 3) 154 [.ref 3, .int x1, .int x2, .int x3] (mkh X I J) = RX8_pick_0 N d (N + 30) X x1 x2 x3 I J := fX8_pick (N + 30) (d + 2) x1 x2 x3 I J
def RX8_isSetOfPeople_0 (N d n : Nat) (X : lt_X) (x1 : Int32) (I : Nat → Nat → Int32) (J : Nat → Nat → Int64) : am_O := am_run (am_G am_prog (N + 30) (d + 0)) eX8_isSetOfPeople uX8_isSetOfPeople n 0 [(0, .ref 3), (1, .int x1)] [] (mkh X I J)
set_option maxHeartbeats 4000000 in
set_option maxRecDepth 100000 in
theorem sX8_isSetOfPeople_0 (N d n : Nat) {X : lt_X} (hX : hsX X) (x1 : Int32) (I : Nat → Nat → Int32) (J : Nat → Nat → Int64) : RX8_isSetOfPeople_0 N d (n + 1) X x1 I J = if x1 < nI 0 then some (.int (nI 0), (mkh X I J)) else if x1 < ((nI 1) <<< ((I (X.2.1 + 2) 2) &&& 31)) then some (.int (nI 1), (mkh X I J)) else some (.int (nI 0), (mkh X I J)) := by
  obtain ⟨L, he, sp, t1, t2⟩ := X
  rcases hX with ⟨h1, h2⟩ | ⟨h1, h2⟩ <;> (change he = _ at h1; change sp = _ at h2; subst h1; subst h2) <;> rfl
theorem fX8_isSetOfPeople (N d : Nat) {X : lt_X} (x1 : Int32) (I : Nat → Nat → Int32) (J : Nat → Nat → Int64) : am_G am_prog N (d + 1) 155 [.ref 3, .int x1] (mkh X I J) = am_run (am_G am_prog N d) eX8_isSetOfPeople uX8_isSetOfPeople N 0 [(0, .ref 3), (1, .int x1)] [] (mkh X I J) := by
  refine (am_G_at N d 155 mX8_isSetOfPeople _ _ rfl).trans ?_
  rfl
theorem gX8_isSetOfPeople (N d : Nat) {X : lt_X} (x1 : Int32) (I : Nat → Nat → Int32) (J : Nat → Nat → Int64) : am_G am_prog (N + 30) (d + 1) 155 [.ref 3, .int x1] (mkh X I J) = RX8_isSetOfPeople_0 N d (N + 30) X x1 I J := fX8_isSetOfPeople (N + 30) (d + 0) x1 I J
def RX8_isRowOfPeople_0 (N d n : Nat) (X : lt_X) (tr : Nat) (x2 : Int32) (I : Nat → Nat → Int32) (J : Nat → Nat → Int64) : am_O := am_run (am_G am_prog (N + 30) (d + 0)) eX8_isRowOfPeople uX8_isRowOfPeople n 0 [(0, .ref 3), (1, .ref tr), (2, .int x2)] [] (mkh X I J)
def RX8_isRowOfPeople_5 (N d n : Nat) (X : lt_X) (tr : Nat) (x2 : Int32) (x3 : Int32) (x4 : Int32) (I : Nat → Nat → Int32) (J : Nat → Nat → Int64) : am_O := am_run (am_G am_prog (N + 30) (d + 0)) eX8_isRowOfPeople uX8_isRowOfPeople n 5 [(0, .ref 3), (1, .ref tr), (2, .int x2), (3, .int x3), (4, .int x4)] [] (mkh X I J)
set_option maxHeartbeats 4000000 in
set_option maxRecDepth 100000 in
theorem sX8_isRowOfPeople_0 (N d n : Nat) {X : lt_X} {tr : Nat} (hX : hsX X) (htr : isTr tr) (x2 : Int32) (I : Nat → Nat → Int32) (J : Nat → Nat → Int64) : RX8_isRowOfPeople_0 N d (n + 1) X tr x2 I J = RX8_isRowOfPeople_5 N d n X tr x2 (nI 0) (nI 0) I J := by
  obtain ⟨L, he, sp, t1, t2⟩ := X
  rcases hX with ⟨h1, h2⟩ | ⟨h1, h2⟩ <;> (change he = _ at h1; change sp = _ at h2; subst h1; subst h2) <;> rcases htr with rfl | rfl | rfl | rfl <;> rfl
set_option maxHeartbeats 4000000 in
set_option maxRecDepth 100000 in
theorem sX8_isRowOfPeople_5 (N d n : Nat) {X : lt_X} {tr : Nat} (hX : hsX X) (htr : isTr tr) (x2 : Int32) (x3 : Int32) (x4 : Int32) (I : Nat → Nat → Int32) (J : Nat → Nat → Int64) : RX8_isRowOfPeople_5 N d (n + 1) X tr x2 x3 x4 I J = if x4 < x2 then if am_in x4 60 then if (lg_cmp (J (tr + 1) x4.toNatClampNeg) (lN 0)) < nI 0 then some (.int (nI 0), (mkh X I J)) else if (lg_cmp (J (tr + 1) x4.toNatClampNeg) ((I (X.2.1 + 2) 2).toInt64)) < nI 0 then if ((x3 >>> (((J (tr + 1) x4.toNatClampNeg).toInt32) &&& 31)) &&& (nI 1)) = nI 0 then RX8_isRowOfPeople_5 N d n X tr x2 (x3 ||| ((nI 1) <<< (((J (tr + 1) x4.toNatClampNeg).toInt32) &&& 31))) (x4 + (nI 1)) I J else some (.int (nI 0), (mkh X I J)) else some (.int (nI 0), (mkh X I J)) else none else some (.int (nI 1), (mkh X I J)) := by
  obtain ⟨L, he, sp, t1, t2⟩ := X
  rcases hX with ⟨h1, h2⟩ | ⟨h1, h2⟩ <;> (change he = _ at h1; change sp = _ at h2; subst h1; subst h2) <;> rcases htr with rfl | rfl | rfl | rfl <;> rfl
theorem fX8_isRowOfPeople (N d : Nat) {X : lt_X} {tr : Nat} (htr : isTr tr) (x2 : Int32) (I : Nat → Nat → Int32) (J : Nat → Nat → Int64) : am_G am_prog N (d + 1) 156 [.ref 3, .ref tr, .int x2] (mkh X I J) = am_run (am_G am_prog N d) eX8_isRowOfPeople uX8_isRowOfPeople N 0 [(0, .ref 3), (1, .ref tr), (2, .int x2)] [] (mkh X I J) := by
  refine (am_G_at N d 156 mX8_isRowOfPeople _ _ rfl).trans ?_
  rcases htr with rfl | rfl | rfl | rfl <;> rfl
theorem gX8_isRowOfPeople (N d : Nat) {X : lt_X} {tr : Nat} (htr : isTr tr) (x2 : Int32) (I : Nat → Nat → Int32) (J : Nat → Nat → Int64) : am_G am_prog (N + 30) (d + 1) 156 [.ref 3, .ref tr, .int x2] (mkh X I J) = RX8_isRowOfPeople_0 N d (N + 30) X tr x2 I J := fX8_isRowOfPeople (N + 30) (d + 0) htr x2 I J
def RX8_fits_0 (N d n : Nat) (X : lt_X) (x1 : Int32) (x2 : Int32) (I : Nat → Nat → Int32) (J : Nat → Nat → Int64) : am_O := am_run (am_G am_prog (N + 30) (d + 1)) eX8_fits uX8_fits n 0 [(0, .ref 3), (1, .int x1), (2, .int x2)] [] (mkh X I J)
def KX8_fits_0 (N d n : Nat) (a0 : Int32) (a1 : Int32) (z : Int32) (h : am_H) : am_O := if z = nI 0 then am_gR h 8 3 3 (fun y1 => am_gR h 8 3 0 (fun y2 => am_lR h 13 y2 a0 (fun y3 => am_cI (am_G am_prog (N + 30) (d + 1) 86 [.ref y1, .ref y3, .int a1] h) (fun r5 h4 => am_cI (am_G am_prog (N + 30) (d + 1) 179 [.ref 3, .int r5] h4) (fun r7 h6 => some (.int r7, h6)))))) else am_cI (am_G am_prog (N + 30) (d + 1) 181 [.ref 3, .int z] h) (fun r9 h8 => some (.int r9, h8))
def KX8_fits_1 (N d n : Nat) (z : Int32) (h : am_H) : am_O := am_cI (am_G am_prog (N + 30) (d + 1) 179 [.ref 3, .int z] h) (fun r2 h1 => some (.int r2, h1))
set_option maxHeartbeats 4000000 in
set_option maxRecDepth 100000 in
theorem sX8_fits_0 (N d n : Nat) {X : lt_X} (hX : hsX X) (x1 : Int32) (x2 : Int32) (I : Nat → Nat → Int32) (J : Nat → Nat → Int64) : RX8_fits_0 N d (n + 1) X x1 x2 I J = am_cI (am_G am_prog (N + 30) (d + 1) 159 [.ref 3, .int x1, .int x2] (mkh X I J)) (KX8_fits_0 N d n x1 x2) := by
  obtain ⟨L, he, sp, t1, t2⟩ := X
  rcases hX with ⟨h1, h2⟩ | ⟨h1, h2⟩ <;> (change he = _ at h1; change sp = _ at h2; subst h1; subst h2) <;> rfl
set_option maxHeartbeats 4000000 in
set_option maxRecDepth 100000 in
theorem kX8_fits_0 (N d n : Nat) {X : lt_X} (hX : hsX X) (a0 : Int32) (a1 : Int32) (z : Int32) (I : Nat → Nat → Int32) (J : Nat → Nat → Int64) : KX8_fits_0 N d n a0 a1 z (mkh X I J) = if z = nI 0 then am_lR (mkh X I J) 13 4 a0 (fun y1 => am_cI (am_G am_prog (N + 30) (d + 1) 86 [.ref X.2.1, .ref y1, .int a1] (mkh X I J)) (KX8_fits_1 N d n )) else some (.int (-1), (mkh X (u2 I 3 15 z) J)) := by
  obtain ⟨L, he, sp, t1, t2⟩ := X
  rcases hX with ⟨h1, h2⟩ | ⟨h1, h2⟩ <;> (change he = _ at h1; change sp = _ at h2; subst h1; subst h2) <;> rfl
set_option maxHeartbeats 4000000 in
set_option maxRecDepth 100000 in
theorem kX8_fits_1 (N d n : Nat) {X : lt_X} (hX : hsX X) (z : Int32) (I : Nat → Nat → Int32) (J : Nat → Nat → Int64) : KX8_fits_1 N d n z (mkh X I J) = some (.int z, (mkh X (u2 I 3 15 (nI 0)) J)) := by
  obtain ⟨L, he, sp, t1, t2⟩ := X
  rcases hX with ⟨h1, h2⟩ | ⟨h1, h2⟩ <;> (change he = _ at h1; change sp = _ at h2; subst h1; subst h2) <;> rfl
theorem fX8_fits (N d : Nat) {X : lt_X} (x1 : Int32) (x2 : Int32) (I : Nat → Nat → Int32) (J : Nat → Nat → Int64) : am_G am_prog N (d + 1) 157 [.ref 3, .int x1, .int x2] (mkh X I J) = am_run (am_G am_prog N d) eX8_fits uX8_fits N 0 [(0, .ref 3), (1, .int x1), (2, .int x2)] [] (mkh X I J) := by
  refine (am_G_at N d 157 mX8_fits _ _ rfl).trans ?_
  rfl
theorem gX8_fits (N d : Nat) {X : lt_X} (x1 : Int32) (x2 : Int32) (I : Nat → Nat → Int32) (J : Nat → Nat → Int64) : am_G am_prog (N + 30) (d + 2) 157 [.ref 3, .int x1, .int x2] (mkh X I J) = RX8_fits_0 N d (N + 30) X x1 x2 I J := fX8_fits (N + 30) (d + 1) x1 x2 I J
def RX8_ask_0 (N d n : Nat) (X : lt_X) (x1 : Int32) (x2 : Int32) (I : Nat → Nat → Int32) (J : Nat → Nat → Int64) : am_O := am_run (am_G am_prog (N + 30) (d + 1)) eX8_ask uX8_ask n 0 [(0, .ref 3), (1, .int x1), (2, .int x2)] [] (mkh X I J)
def KX8_ask_0 (N d n : Nat) (a0 : Int32) (a1 : Int32) (z : Int32) (h : am_H) : am_O := if z = nI 0 then am_gR h 8 3 3 (fun y1 => am_gR h 8 3 0 (fun y2 => am_lR h 13 y2 a0 (fun y3 => am_cI (am_G am_prog (N + 30) (d + 1) 86 [.ref y1, .ref y3, .int a1] h) (fun r5 h4 => am_cI (am_G am_prog (N + 30) (d + 1) 356 [.int r5] h4) (fun r7 h6 => if r7 < (nI 2) then am_cI (am_G am_prog (N + 30) (d + 1) 181 [.ref 3, .int (nI 8)] h6) (fun r9 h8 => some (.int r9, h8)) else am_gR h6 8 3 3 (fun y10 => am_cI (am_G am_prog (N + 30) (d + 1) 87 [.ref y10, .int r5] h6) (fun r12 h11 => am_cI (am_G am_prog (N + 30) (d + 1) 179 [.ref 3, .int r12] h11) (fun r14 h13 => some (.int r14, h13))))))))) else am_cI (am_G am_prog (N + 30) (d + 1) 181 [.ref 3, .int z] h) (fun r16 h15 => some (.int r16, h15))
def KX8_ask_1 (N d n : Nat) (z : Int32) (h : am_H) : am_O := am_cI (am_G am_prog (N + 30) (d + 1) 356 [.int z] h) (fun r2 h1 => if r2 < (nI 2) then am_cI (am_G am_prog (N + 30) (d + 1) 181 [.ref 3, .int (nI 8)] h1) (fun r4 h3 => some (.int r4, h3)) else am_gR h1 8 3 3 (fun y5 => am_cI (am_G am_prog (N + 30) (d + 1) 87 [.ref y5, .int z] h1) (fun r7 h6 => am_cI (am_G am_prog (N + 30) (d + 1) 179 [.ref 3, .int r7] h6) (fun r9 h8 => some (.int r9, h8)))))
def KX8_ask_2 (N d n : Nat) (a0 : Int32) (z : Int32) (h : am_H) : am_O := if z < (nI 2) then am_cI (am_G am_prog (N + 30) (d + 1) 181 [.ref 3, .int (nI 8)] h) (fun r2 h1 => some (.int r2, h1)) else am_gR h 8 3 3 (fun y3 => am_cI (am_G am_prog (N + 30) (d + 1) 87 [.ref y3, .int a0] h) (fun r5 h4 => am_cI (am_G am_prog (N + 30) (d + 1) 179 [.ref 3, .int r5] h4) (fun r7 h6 => some (.int r7, h6))))
def KX8_ask_3 (N d n : Nat) (z : Int32) (h : am_H) : am_O := am_cI (am_G am_prog (N + 30) (d + 1) 179 [.ref 3, .int z] h) (fun r2 h1 => some (.int r2, h1))
set_option maxHeartbeats 4000000 in
set_option maxRecDepth 100000 in
theorem sX8_ask_0 (N d n : Nat) {X : lt_X} (hX : hsX X) (x1 : Int32) (x2 : Int32) (I : Nat → Nat → Int32) (J : Nat → Nat → Int64) : RX8_ask_0 N d (n + 1) X x1 x2 I J = am_cI (am_G am_prog (N + 30) (d + 1) 159 [.ref 3, .int x1, .int x2] (mkh X I J)) (KX8_ask_0 N d n x1 x2) := by
  obtain ⟨L, he, sp, t1, t2⟩ := X
  rcases hX with ⟨h1, h2⟩ | ⟨h1, h2⟩ <;> (change he = _ at h1; change sp = _ at h2; subst h1; subst h2) <;> rfl
set_option maxHeartbeats 4000000 in
set_option maxRecDepth 100000 in
theorem kX8_ask_0 (N d n : Nat) {X : lt_X} (hX : hsX X) (a0 : Int32) (a1 : Int32) (z : Int32) (I : Nat → Nat → Int32) (J : Nat → Nat → Int64) : KX8_ask_0 N d n a0 a1 z (mkh X I J) = if z = nI 0 then am_lR (mkh X I J) 13 4 a0 (fun y1 => am_cI (am_G am_prog (N + 30) (d + 1) 86 [.ref X.2.1, .ref y1, .int a1] (mkh X I J)) (KX8_ask_1 N d n )) else some (.int (-1), (mkh X (u2 I 3 15 z) J)) := by
  obtain ⟨L, he, sp, t1, t2⟩ := X
  rcases hX with ⟨h1, h2⟩ | ⟨h1, h2⟩ <;> (change he = _ at h1; change sp = _ at h2; subst h1; subst h2) <;> rfl
set_option maxHeartbeats 4000000 in
set_option maxRecDepth 100000 in
theorem kX8_ask_1 (N d n : Nat) {X : lt_X} (hX : hsX X) (z : Int32) (I : Nat → Nat → Int32) (J : Nat → Nat → Int64) : KX8_ask_1 N d n z (mkh X I J) = am_cI (am_G am_prog (N + 30) (d + 1) 356 [.int z] (mkh X I J)) (KX8_ask_2 N d n z) := by
  obtain ⟨L, he, sp, t1, t2⟩ := X
  rcases hX with ⟨h1, h2⟩ | ⟨h1, h2⟩ <;> (change he = _ at h1; change sp = _ at h2; subst h1; subst h2) <;> rfl
set_option maxHeartbeats 4000000 in
set_option maxRecDepth 100000 in
theorem kX8_ask_2 (N d n : Nat) {X : lt_X} (hX : hsX X) (a0 : Int32) (z : Int32) (I : Nat → Nat → Int32) (J : Nat → Nat → Int64) : KX8_ask_2 N d n a0 z (mkh X I J) = if z < (nI 2) then some (.int (-1), (mkh X (u2 I 3 15 (nI 8)) J)) else am_cI (am_G am_prog (N + 30) (d + 1) 87 [.ref X.2.1, .int a0] (mkh X I J)) (KX8_ask_3 N d n ) := by
  obtain ⟨L, he, sp, t1, t2⟩ := X
  rcases hX with ⟨h1, h2⟩ | ⟨h1, h2⟩ <;> (change he = _ at h1; change sp = _ at h2; subst h1; subst h2) <;> rfl
set_option maxHeartbeats 4000000 in
set_option maxRecDepth 100000 in
theorem kX8_ask_3 (N d n : Nat) {X : lt_X} (hX : hsX X) (z : Int32) (I : Nat → Nat → Int32) (J : Nat → Nat → Int64) : KX8_ask_3 N d n z (mkh X I J) = some (.int z, (mkh X (u2 I 3 15 (nI 0)) J)) := by
  obtain ⟨L, he, sp, t1, t2⟩ := X
  rcases hX with ⟨h1, h2⟩ | ⟨h1, h2⟩ <;> (change he = _ at h1; change sp = _ at h2; subst h1; subst h2) <;> rfl
theorem fX8_ask (N d : Nat) {X : lt_X} (x1 : Int32) (x2 : Int32) (I : Nat → Nat → Int32) (J : Nat → Nat → Int64) : am_G am_prog N (d + 1) 158 [.ref 3, .int x1, .int x2] (mkh X I J) = am_run (am_G am_prog N d) eX8_ask uX8_ask N 0 [(0, .ref 3), (1, .int x1), (2, .int x2)] [] (mkh X I J) := by
  refine (am_G_at N d 158 mX8_ask _ _ rfl).trans ?_
  rfl
theorem gX8_ask (N d : Nat) {X : lt_X} (x1 : Int32) (x2 : Int32) (I : Nat → Nat → Int32) (J : Nat → Nat → Int64) : am_G am_prog (N + 30) (d + 2) 158 [.ref 3, .int x1, .int x2] (mkh X I J) = RX8_ask_0 N d (N + 30) X x1 x2 I J := fX8_ask (N + 30) (d + 1) x1 x2 I J
def RX8_twosStatus_0 (N d n : Nat) (X : lt_X) (x1 : Int32) (x2 : Int32) (I : Nat → Nat → Int32) (J : Nat → Nat → Int64) : am_O := am_run (am_G am_prog (N + 30) (d + 2)) eX8_twosStatus uX8_twosStatus n 0 [(0, .ref 3), (1, .int x1), (2, .int x2)] [] (mkh X I J)
def RX8_twosStatus_33 (N d n : Nat) (X : lt_X) (x1 : Int32) (x2 : Int32) (x4 : Int32) (I : Nat → Nat → Int32) (J : Nat → Nat → Int64) : am_O := am_run (am_G am_prog (N + 30) (d + 2)) eX8_twosStatus uX8_twosStatus n 33 [(0, .ref 3), (1, .int x1), (2, .int x2), (4, .int x4)] [] (mkh X I J)
def KX8_twosStatus_0 (N d n : Nat) (a0 : Int32) (a1 : Int32) (z : Int32) (h : am_H) : am_O := if z = nI 0 then if a1 < nI 0 then some (.int (nI 5), h) else if (nI 20) < a1 then some (.int (nI 5), h) else am_run (am_G am_prog (N + 30) (d + 2)) eX8_twosStatus uX8_twosStatus n 33 [(0, .ref 3), (1, .int a0), (2, .int a1), (4, .int (nI 0))] [] h else some (.int z, h)
set_option maxHeartbeats 4000000 in
set_option maxRecDepth 100000 in
theorem sX8_twosStatus_0 (N d n : Nat) {X : lt_X} (hX : hsX X) (x1 : Int32) (x2 : Int32) (I : Nat → Nat → Int32) (J : Nat → Nat → Int64) : RX8_twosStatus_0 N d (n + 1) X x1 x2 I J = am_cI (am_G am_prog (N + 30) (d + 2) 119 [.ref 3, .int x1, .long ((lN 2) * x2.toInt64)] (mkh X I J)) (KX8_twosStatus_0 N d n x1 x2) := by
  obtain ⟨L, he, sp, t1, t2⟩ := X
  rcases hX with ⟨h1, h2⟩ | ⟨h1, h2⟩ <;> (change he = _ at h1; change sp = _ at h2; subst h1; subst h2) <;> rfl
set_option maxHeartbeats 4000000 in
set_option maxRecDepth 100000 in
theorem sX8_twosStatus_33 (N d n : Nat) {X : lt_X} (hX : hsX X) (x1 : Int32) (x2 : Int32) (x4 : Int32) (I : Nat → Nat → Int32) (J : Nat → Nat → Int64) : RX8_twosStatus_33 N d (n + 1) X x1 x2 x4 I J = if x4 < x2 then am_lR (mkh X I J) 13 4 x1 (fun y1 => am_gR (mkh X I J) 7 y1 0 (fun y2 => am_lL (mkh X I J) y2 ((nI 2) * x4) (fun y3 => am_lR (mkh X I J) 13 4 x1 (fun y4 => am_gR (mkh X I J) 7 y4 0 (fun y5 => am_lL (mkh X I J) y5 (((nI 2) * x4) + (nI 1)) (fun y6 => if (lg_cmp y3 (lN 0)) < nI 0 then some (.int (nI 5), (mkh X I J)) else if nI 0 < (lg_cmp y3 (lN 9999)) then some (.int (nI 5), (mkh X I J)) else if (lg_cmp y6 (lN 0)) < nI 0 then some (.int (nI 5), (mkh X I J)) else if (lg_cmp y6 ((I (X.2.1 + 2) 0).toInt64)) < nI 0 then RX8_twosStatus_33 N d n X x1 x2 (x4 + (nI 1)) I J else some (.int (nI 5), (mkh X I J)))))))) else some (.int (nI 0), (mkh X I J)) := by
  obtain ⟨L, he, sp, t1, t2⟩ := X
  rcases hX with ⟨h1, h2⟩ | ⟨h1, h2⟩ <;> (change he = _ at h1; change sp = _ at h2; subst h1; subst h2) <;> rfl
set_option maxHeartbeats 4000000 in
set_option maxRecDepth 100000 in
theorem kX8_twosStatus_0 (N d n : Nat) {X : lt_X} (hX : hsX X) (a0 : Int32) (a1 : Int32) (z : Int32) (I : Nat → Nat → Int32) (J : Nat → Nat → Int64) : KX8_twosStatus_0 N d n a0 a1 z (mkh X I J) = if z = nI 0 then if a1 < nI 0 then some (.int (nI 5), (mkh X I J)) else if (nI 20) < a1 then some (.int (nI 5), (mkh X I J)) else RX8_twosStatus_33 N d n X a0 a1 (nI 0) I J else some (.int z, (mkh X I J)) := by
  obtain ⟨L, he, sp, t1, t2⟩ := X
  rcases hX with ⟨h1, h2⟩ | ⟨h1, h2⟩ <;> (change he = _ at h1; change sp = _ at h2; subst h1; subst h2) <;> rfl
theorem fX8_twosStatus (N d : Nat) {X : lt_X} (x1 : Int32) (x2 : Int32) (I : Nat → Nat → Int32) (J : Nat → Nat → Int64) : am_G am_prog N (d + 1) 159 [.ref 3, .int x1, .int x2] (mkh X I J) = am_run (am_G am_prog N d) eX8_twosStatus uX8_twosStatus N 0 [(0, .ref 3), (1, .int x1), (2, .int x2)] [] (mkh X I J) := by
  refine (am_G_at N d 159 mX8_twosStatus _ _ rfl).trans ?_
  rfl
theorem gX8_twosStatus (N d : Nat) {X : lt_X} (x1 : Int32) (x2 : Int32) (I : Nat → Nat → Int32) (J : Nat → Nat → Int64) : am_G am_prog (N + 30) (d + 3) 159 [.ref 3, .int x1, .int x2] (mkh X I J) = RX8_twosStatus_0 N d (N + 30) X x1 x2 I J := fX8_twosStatus (N + 30) (d + 2) x1 x2 I J
def RX8_peace_0 (N d n : Nat) (X : lt_X) (x1 : Int32) (I : Nat → Nat → Int32) (J : Nat → Nat → Int64) : am_O := am_run (am_G am_prog (N + 30) (d + 2)) eX8_peace uX8_peace n 0 [(0, .ref 3), (1, .int x1)] [] (mkh X I J)
def KX8_peace_0 (N d n : Nat) (a0 : Int32) (z : Int32) (h : am_H) : am_O := if z = nI 0 then am_gR h 8 3 3 (fun y1 => am_cI (am_G am_prog (N + 30) (d + 2) 91 [.ref y1, .int a0] h) (fun r3 h2 => am_cI (am_G am_prog (N + 30) (d + 2) 179 [.ref 3, .int r3] h2) (fun r5 h4 => some (.int r5, h4)))) else am_cI (am_G am_prog (N + 30) (d + 2) 181 [.ref 3, .int z] h) (fun r7 h6 => some (.int r7, h6))
def KX8_peace_1 (N d n : Nat) (z : Int32) (h : am_H) : am_O := am_cI (am_G am_prog (N + 30) (d + 2) 179 [.ref 3, .int z] h) (fun r2 h1 => some (.int r2, h1))
set_option maxHeartbeats 4000000 in
set_option maxRecDepth 100000 in
theorem sX8_peace_0 (N d n : Nat) {X : lt_X} (hX : hsX X) (x1 : Int32) (I : Nat → Nat → Int32) (J : Nat → Nat → Int64) : RX8_peace_0 N d (n + 1) X x1 I J = am_cI (am_G am_prog (N + 30) (d + 2) 162 [.ref 3, .int x1] (mkh X I J)) (KX8_peace_0 N d n x1) := by
  obtain ⟨L, he, sp, t1, t2⟩ := X
  rcases hX with ⟨h1, h2⟩ | ⟨h1, h2⟩ <;> (change he = _ at h1; change sp = _ at h2; subst h1; subst h2) <;> rfl
set_option maxHeartbeats 4000000 in
set_option maxRecDepth 100000 in
theorem kX8_peace_0 (N d n : Nat) {X : lt_X} (hX : hsX X) (a0 : Int32) (z : Int32) (I : Nat → Nat → Int32) (J : Nat → Nat → Int64) : KX8_peace_0 N d n a0 z (mkh X I J) = if z = nI 0 then am_cI (am_G am_prog (N + 30) (d + 2) 91 [.ref X.2.1, .int a0] (mkh X I J)) (KX8_peace_1 N d n ) else some (.int (-1), (mkh X (u2 I 3 15 z) J)) := by
  obtain ⟨L, he, sp, t1, t2⟩ := X
  rcases hX with ⟨h1, h2⟩ | ⟨h1, h2⟩ <;> (change he = _ at h1; change sp = _ at h2; subst h1; subst h2) <;> rfl
set_option maxHeartbeats 4000000 in
set_option maxRecDepth 100000 in
theorem kX8_peace_1 (N d n : Nat) {X : lt_X} (hX : hsX X) (z : Int32) (I : Nat → Nat → Int32) (J : Nat → Nat → Int64) : KX8_peace_1 N d n z (mkh X I J) = some (.int z, (mkh X (u2 I 3 15 (nI 0)) J)) := by
  obtain ⟨L, he, sp, t1, t2⟩ := X
  rcases hX with ⟨h1, h2⟩ | ⟨h1, h2⟩ <;> (change he = _ at h1; change sp = _ at h2; subst h1; subst h2) <;> rfl
theorem fX8_peace (N d : Nat) {X : lt_X} (x1 : Int32) (I : Nat → Nat → Int32) (J : Nat → Nat → Int64) : am_G am_prog N (d + 1) 160 [.ref 3, .int x1] (mkh X I J) = am_run (am_G am_prog N d) eX8_peace uX8_peace N 0 [(0, .ref 3), (1, .int x1)] [] (mkh X I J) := by
  refine (am_G_at N d 160 mX8_peace _ _ rfl).trans ?_
  rfl
theorem gX8_peace (N d : Nat) {X : lt_X} (x1 : Int32) (I : Nat → Nat → Int32) (J : Nat → Nat → Int64) : am_G am_prog (N + 30) (d + 3) 160 [.ref 3, .int x1] (mkh X I J) = RX8_peace_0 N d (N + 30) X x1 I J := fX8_peace (N + 30) (d + 2) x1 I J
def RX8_peaceBy_0 (N d n : Nat) (X : lt_X) (x1 : Int32) (I : Nat → Nat → Int32) (J : Nat → Nat → Int64) : am_O := am_run (am_G am_prog (N + 30) (d + 2)) eX8_peaceBy uX8_peaceBy n 0 [(0, .ref 3), (1, .int x1)] [] (mkh X I J)
def KX8_peaceBy_0 (N d n : Nat) (a0 : Int32) (z : Int32) (h : am_H) : am_O := if z = nI 0 then am_gR h 8 3 3 (fun y1 => am_gR h 8 3 3 (fun y2 => am_cI (am_G am_prog (N + 30) (d + 2) 91 [.ref y2, .int a0] h) (fun r4 h3 => am_cI (am_G am_prog (N + 30) (d + 2) 89 [.ref y1, .int a0, .int r4] h3) (fun r6 h5 => am_cI (am_G am_prog (N + 30) (d + 2) 179 [.ref 3, .int r6] h5) (fun r8 h7 => some (.int r8, h7)))))) else am_cI (am_G am_prog (N + 30) (d + 2) 181 [.ref 3, .int z] h) (fun r10 h9 => some (.int r10, h9))
def KX8_peaceBy_1 (N d n : Nat) (X : lt_X) (a0 : Int32) (z : Int32) (h : am_H) : am_O := am_cI (am_G am_prog (N + 30) (d + 2) 89 [.ref X.2.1, .int a0, .int z] h) (fun r2 h1 => am_cI (am_G am_prog (N + 30) (d + 2) 179 [.ref 3, .int r2] h1) (fun r4 h3 => some (.int r4, h3)))
def KX8_peaceBy_2 (N d n : Nat) (z : Int32) (h : am_H) : am_O := am_cI (am_G am_prog (N + 30) (d + 2) 179 [.ref 3, .int z] h) (fun r2 h1 => some (.int r2, h1))
set_option maxHeartbeats 4000000 in
set_option maxRecDepth 100000 in
theorem sX8_peaceBy_0 (N d n : Nat) {X : lt_X} (hX : hsX X) (x1 : Int32) (I : Nat → Nat → Int32) (J : Nat → Nat → Int64) : RX8_peaceBy_0 N d (n + 1) X x1 I J = am_cI (am_G am_prog (N + 30) (d + 2) 162 [.ref 3, .int x1] (mkh X I J)) (KX8_peaceBy_0 N d n x1) := by
  obtain ⟨L, he, sp, t1, t2⟩ := X
  rcases hX with ⟨h1, h2⟩ | ⟨h1, h2⟩ <;> (change he = _ at h1; change sp = _ at h2; subst h1; subst h2) <;> rfl
set_option maxHeartbeats 4000000 in
set_option maxRecDepth 100000 in
theorem kX8_peaceBy_0 (N d n : Nat) {X : lt_X} (hX : hsX X) (a0 : Int32) (z : Int32) (I : Nat → Nat → Int32) (J : Nat → Nat → Int64) : KX8_peaceBy_0 N d n a0 z (mkh X I J) = if z = nI 0 then am_cI (am_G am_prog (N + 30) (d + 2) 91 [.ref X.2.1, .int a0] (mkh X I J)) (KX8_peaceBy_1 N d n X a0) else some (.int (-1), (mkh X (u2 I 3 15 z) J)) := by
  obtain ⟨L, he, sp, t1, t2⟩ := X
  rcases hX with ⟨h1, h2⟩ | ⟨h1, h2⟩ <;> (change he = _ at h1; change sp = _ at h2; subst h1; subst h2) <;> rfl
set_option maxHeartbeats 4000000 in
set_option maxRecDepth 100000 in
theorem kX8_peaceBy_1 (N d n : Nat) {X : lt_X} (hX : hsX X) (a0 : Int32) (z : Int32) (I : Nat → Nat → Int32) (J : Nat → Nat → Int64) : KX8_peaceBy_1 N d n X a0 z (mkh X I J) = am_cI (am_G am_prog (N + 30) (d + 2) 89 [.ref X.2.1, .int a0, .int z] (mkh X I J)) (KX8_peaceBy_2 N d n ) := by
  obtain ⟨L, he, sp, t1, t2⟩ := X
  rcases hX with ⟨h1, h2⟩ | ⟨h1, h2⟩ <;> (change he = _ at h1; change sp = _ at h2; subst h1; subst h2) <;> rfl
set_option maxHeartbeats 4000000 in
set_option maxRecDepth 100000 in
theorem kX8_peaceBy_2 (N d n : Nat) {X : lt_X} (hX : hsX X) (z : Int32) (I : Nat → Nat → Int32) (J : Nat → Nat → Int64) : KX8_peaceBy_2 N d n z (mkh X I J) = some (.int z, (mkh X (u2 I 3 15 (nI 0)) J)) := by
  obtain ⟨L, he, sp, t1, t2⟩ := X
  rcases hX with ⟨h1, h2⟩ | ⟨h1, h2⟩ <;> (change he = _ at h1; change sp = _ at h2; subst h1; subst h2) <;> rfl
theorem fX8_peaceBy (N d : Nat) {X : lt_X} (x1 : Int32) (I : Nat → Nat → Int32) (J : Nat → Nat → Int64) : am_G am_prog N (d + 1) 161 [.ref 3, .int x1] (mkh X I J) = am_run (am_G am_prog N d) eX8_peaceBy uX8_peaceBy N 0 [(0, .ref 3), (1, .int x1)] [] (mkh X I J) := by
  refine (am_G_at N d 161 mX8_peaceBy _ _ rfl).trans ?_
  rfl
theorem gX8_peaceBy (N d : Nat) {X : lt_X} (x1 : Int32) (I : Nat → Nat → Int32) (J : Nat → Nat → Int64) : am_G am_prog (N + 30) (d + 3) 161 [.ref 3, .int x1] (mkh X I J) = RX8_peaceBy_0 N d (N + 30) X x1 I J := fX8_peaceBy (N + 30) (d + 2) x1 I J
def RX8_peaceStatus_0 (N d n : Nat) (X : lt_X) (x1 : Int32) (I : Nat → Nat → Int32) (J : Nat → Nat → Int64) : am_O := am_run (am_G am_prog (N + 30) (d + 1)) eX8_peaceStatus uX8_peaceStatus n 0 [(0, .ref 3), (1, .int x1)] [] (mkh X I J)
def KX8_peaceStatus_0 (N d n : Nat) (z : Int32) (h : am_H) : am_O := if z = nI 0 then some (.int (nI 5), h) else am_gR h 8 3 3 (fun y1 => am_gR h 5 y1 1 (fun y2 => am_lI h 10 y2 (nI 0) (fun y3 => if y3 = nI 0 then some (.int (nI 8), h) else some (.int (nI 0), h))))
set_option maxHeartbeats 4000000 in
set_option maxRecDepth 100000 in
theorem sX8_peaceStatus_0 (N d n : Nat) {X : lt_X} (hX : hsX X) (x1 : Int32) (I : Nat → Nat → Int32) (J : Nat → Nat → Int64) : RX8_peaceStatus_0 N d (n + 1) X x1 I J = if x1 = nI 0 then some (.int (nI 5), (mkh X I J)) else am_cI (am_G am_prog (N + 30) (d + 1) 155 [.ref 3, .int x1] (mkh X I J)) (KX8_peaceStatus_0 N d n ) := by
  obtain ⟨L, he, sp, t1, t2⟩ := X
  rcases hX with ⟨h1, h2⟩ | ⟨h1, h2⟩ <;> (change he = _ at h1; change sp = _ at h2; subst h1; subst h2) <;> rfl
set_option maxHeartbeats 4000000 in
set_option maxRecDepth 100000 in
theorem kX8_peaceStatus_0 (N d n : Nat) {X : lt_X} (hX : hsX X) (z : Int32) (I : Nat → Nat → Int32) (J : Nat → Nat → Int64) : KX8_peaceStatus_0 N d n z (mkh X I J) = if z = nI 0 then some (.int (nI 5), (mkh X I J)) else if (I (X.2.1 + 2) 0) = nI 0 then some (.int (nI 8), (mkh X I J)) else some (.int (nI 0), (mkh X I J)) := by
  obtain ⟨L, he, sp, t1, t2⟩ := X
  rcases hX with ⟨h1, h2⟩ | ⟨h1, h2⟩ <;> (change he = _ at h1; change sp = _ at h2; subst h1; subst h2) <;> rfl
theorem fX8_peaceStatus (N d : Nat) {X : lt_X} (x1 : Int32) (I : Nat → Nat → Int32) (J : Nat → Nat → Int64) : am_G am_prog N (d + 1) 162 [.ref 3, .int x1] (mkh X I J) = am_run (am_G am_prog N d) eX8_peaceStatus uX8_peaceStatus N 0 [(0, .ref 3), (1, .int x1)] [] (mkh X I J) := by
  refine (am_G_at N d 162 mX8_peaceStatus _ _ rfl).trans ?_
  rfl
theorem gX8_peaceStatus (N d : Nat) {X : lt_X} (x1 : Int32) (I : Nat → Nat → Int32) (J : Nat → Nat → Int64) : am_G am_prog (N + 30) (d + 2) 162 [.ref 3, .int x1] (mkh X I J) = RX8_peaceStatus_0 N d (N + 30) X x1 I J := fX8_peaceStatus (N + 30) (d + 1) x1 I J
def RX8_popular_0 (N d n : Nat) (X : lt_X) (x1 : Int32) (I : Nat → Nat → Int32) (J : Nat → Nat → Int64) : am_O := am_run (am_G am_prog (N + 30) (d + 2)) eX8_popular uX8_popular n 0 [(0, .ref 3), (1, .int x1)] [] (mkh X I J)
def KX8_popular_0 (N d n : Nat) (a0 : Int32) (z : Int32) (h : am_H) : am_O := if z = nI 0 then am_gR h 8 3 3 (fun y1 => am_gR h 8 3 3 (fun y2 => am_cI (am_G am_prog (N + 30) (d + 2) 67 [.ref y2, .int a0] h) (fun r4 h3 => am_cI (am_G am_prog (N + 30) (d + 2) 93 [.ref y1, .int r4] h3) (fun r6 h5 => am_cI (am_G am_prog (N + 30) (d + 2) 179 [.ref 3, .int r6] h5) (fun r8 h7 => some (.int r8, h7)))))) else am_cI (am_G am_prog (N + 30) (d + 2) 181 [.ref 3, .int z] h) (fun r10 h9 => some (.int r10, h9))
def KX8_popular_1 (N d n : Nat) (X : lt_X) (z : Int32) (h : am_H) : am_O := am_cI (am_G am_prog (N + 30) (d + 2) 93 [.ref X.2.1, .int z] h) (fun r2 h1 => am_cI (am_G am_prog (N + 30) (d + 2) 179 [.ref 3, .int r2] h1) (fun r4 h3 => some (.int r4, h3)))
def KX8_popular_2 (N d n : Nat) (z : Int32) (h : am_H) : am_O := am_cI (am_G am_prog (N + 30) (d + 2) 179 [.ref 3, .int z] h) (fun r2 h1 => some (.int r2, h1))
set_option maxHeartbeats 4000000 in
set_option maxRecDepth 100000 in
theorem sX8_popular_0 (N d n : Nat) {X : lt_X} (hX : hsX X) (x1 : Int32) (I : Nat → Nat → Int32) (J : Nat → Nat → Int64) : RX8_popular_0 N d (n + 1) X x1 I J = am_cI (am_G am_prog (N + 30) (d + 2) 165 [.ref 3, .int x1] (mkh X I J)) (KX8_popular_0 N d n x1) := by
  obtain ⟨L, he, sp, t1, t2⟩ := X
  rcases hX with ⟨h1, h2⟩ | ⟨h1, h2⟩ <;> (change he = _ at h1; change sp = _ at h2; subst h1; subst h2) <;> rfl
set_option maxHeartbeats 4000000 in
set_option maxRecDepth 100000 in
theorem kX8_popular_0 (N d n : Nat) {X : lt_X} (hX : hsX X) (a0 : Int32) (z : Int32) (I : Nat → Nat → Int32) (J : Nat → Nat → Int64) : KX8_popular_0 N d n a0 z (mkh X I J) = if z = nI 0 then am_cI (am_G am_prog (N + 30) (d + 2) 67 [.ref X.2.1, .int a0] (mkh X I J)) (KX8_popular_1 N d n X ) else some (.int (-1), (mkh X (u2 I 3 15 z) J)) := by
  obtain ⟨L, he, sp, t1, t2⟩ := X
  rcases hX with ⟨h1, h2⟩ | ⟨h1, h2⟩ <;> (change he = _ at h1; change sp = _ at h2; subst h1; subst h2) <;> rfl
set_option maxHeartbeats 4000000 in
set_option maxRecDepth 100000 in
theorem kX8_popular_1 (N d n : Nat) {X : lt_X} (hX : hsX X) (z : Int32) (I : Nat → Nat → Int32) (J : Nat → Nat → Int64) : KX8_popular_1 N d n X z (mkh X I J) = am_cI (am_G am_prog (N + 30) (d + 2) 93 [.ref X.2.1, .int z] (mkh X I J)) (KX8_popular_2 N d n ) := by
  obtain ⟨L, he, sp, t1, t2⟩ := X
  rcases hX with ⟨h1, h2⟩ | ⟨h1, h2⟩ <;> (change he = _ at h1; change sp = _ at h2; subst h1; subst h2) <;> rfl
set_option maxHeartbeats 4000000 in
set_option maxRecDepth 100000 in
theorem kX8_popular_2 (N d n : Nat) {X : lt_X} (hX : hsX X) (z : Int32) (I : Nat → Nat → Int32) (J : Nat → Nat → Int64) : KX8_popular_2 N d n z (mkh X I J) = some (.int z, (mkh X (u2 I 3 15 (nI 0)) J)) := by
  obtain ⟨L, he, sp, t1, t2⟩ := X
  rcases hX with ⟨h1, h2⟩ | ⟨h1, h2⟩ <;> (change he = _ at h1; change sp = _ at h2; subst h1; subst h2) <;> rfl
theorem fX8_popular (N d : Nat) {X : lt_X} (x1 : Int32) (I : Nat → Nat → Int32) (J : Nat → Nat → Int64) : am_G am_prog N (d + 1) 163 [.ref 3, .int x1] (mkh X I J) = am_run (am_G am_prog N d) eX8_popular uX8_popular N 0 [(0, .ref 3), (1, .int x1)] [] (mkh X I J) := by
  refine (am_G_at N d 163 mX8_popular _ _ rfl).trans ?_
  rfl
theorem gX8_popular (N d : Nat) {X : lt_X} (x1 : Int32) (I : Nat → Nat → Int32) (J : Nat → Nat → Int64) : am_G am_prog (N + 30) (d + 3) 163 [.ref 3, .int x1] (mkh X I J) = RX8_popular_0 N d (N + 30) X x1 I J := fX8_popular (N + 30) (d + 2) x1 I J
def RX8_popularBy_0 (N d n : Nat) (X : lt_X) (x1 : Int32) (I : Nat → Nat → Int32) (J : Nat → Nat → Int64) : am_O := am_run (am_G am_prog (N + 30) (d + 2)) eX8_popularBy uX8_popularBy n 0 [(0, .ref 3), (1, .int x1)] [] (mkh X I J)
def KX8_popularBy_0 (N d n : Nat) (a0 : Int32) (z : Int32) (h : am_H) : am_O := if z = nI 0 then am_gR h 8 3 3 (fun y1 => am_cI (am_G am_prog (N + 30) (d + 2) 67 [.ref y1, .int a0] h) (fun r3 h2 => am_gR h2 8 3 3 (fun y4 => am_gR h2 8 3 3 (fun y5 => am_cI (am_G am_prog (N + 30) (d + 2) 93 [.ref y5, .int r3] h2) (fun r7 h6 => am_cI (am_G am_prog (N + 30) (d + 2) 92 [.ref y4, .int r3, .int r7] h6) (fun r9 h8 => am_cI (am_G am_prog (N + 30) (d + 2) 179 [.ref 3, .int r9] h8) (fun r11 h10 => some (.int r11, h10)))))))) else am_cI (am_G am_prog (N + 30) (d + 2) 181 [.ref 3, .int z] h) (fun r13 h12 => some (.int r13, h12))
def KX8_popularBy_1 (N d n : Nat) (z : Int32) (h : am_H) : am_O := am_gR h 8 3 3 (fun y1 => am_gR h 8 3 3 (fun y2 => am_cI (am_G am_prog (N + 30) (d + 2) 93 [.ref y2, .int z] h) (fun r4 h3 => am_cI (am_G am_prog (N + 30) (d + 2) 92 [.ref y1, .int z, .int r4] h3) (fun r6 h5 => am_cI (am_G am_prog (N + 30) (d + 2) 179 [.ref 3, .int r6] h5) (fun r8 h7 => some (.int r8, h7))))))
def KX8_popularBy_2 (N d n : Nat) (X : lt_X) (a0 : Int32) (z : Int32) (h : am_H) : am_O := am_cI (am_G am_prog (N + 30) (d + 2) 92 [.ref X.2.1, .int a0, .int z] h) (fun r2 h1 => am_cI (am_G am_prog (N + 30) (d + 2) 179 [.ref 3, .int r2] h1) (fun r4 h3 => some (.int r4, h3)))
def KX8_popularBy_3 (N d n : Nat) (z : Int32) (h : am_H) : am_O := am_cI (am_G am_prog (N + 30) (d + 2) 179 [.ref 3, .int z] h) (fun r2 h1 => some (.int r2, h1))
set_option maxHeartbeats 4000000 in
set_option maxRecDepth 100000 in
theorem sX8_popularBy_0 (N d n : Nat) {X : lt_X} (hX : hsX X) (x1 : Int32) (I : Nat → Nat → Int32) (J : Nat → Nat → Int64) : RX8_popularBy_0 N d (n + 1) X x1 I J = am_cI (am_G am_prog (N + 30) (d + 2) 165 [.ref 3, .int x1] (mkh X I J)) (KX8_popularBy_0 N d n x1) := by
  obtain ⟨L, he, sp, t1, t2⟩ := X
  rcases hX with ⟨h1, h2⟩ | ⟨h1, h2⟩ <;> (change he = _ at h1; change sp = _ at h2; subst h1; subst h2) <;> rfl
set_option maxHeartbeats 4000000 in
set_option maxRecDepth 100000 in
theorem kX8_popularBy_0 (N d n : Nat) {X : lt_X} (hX : hsX X) (a0 : Int32) (z : Int32) (I : Nat → Nat → Int32) (J : Nat → Nat → Int64) : KX8_popularBy_0 N d n a0 z (mkh X I J) = if z = nI 0 then am_cI (am_G am_prog (N + 30) (d + 2) 67 [.ref X.2.1, .int a0] (mkh X I J)) (KX8_popularBy_1 N d n ) else some (.int (-1), (mkh X (u2 I 3 15 z) J)) := by
  obtain ⟨L, he, sp, t1, t2⟩ := X
  rcases hX with ⟨h1, h2⟩ | ⟨h1, h2⟩ <;> (change he = _ at h1; change sp = _ at h2; subst h1; subst h2) <;> rfl
set_option maxHeartbeats 4000000 in
set_option maxRecDepth 100000 in
theorem kX8_popularBy_1 (N d n : Nat) {X : lt_X} (hX : hsX X) (z : Int32) (I : Nat → Nat → Int32) (J : Nat → Nat → Int64) : KX8_popularBy_1 N d n z (mkh X I J) = am_cI (am_G am_prog (N + 30) (d + 2) 93 [.ref X.2.1, .int z] (mkh X I J)) (KX8_popularBy_2 N d n X z) := by
  obtain ⟨L, he, sp, t1, t2⟩ := X
  rcases hX with ⟨h1, h2⟩ | ⟨h1, h2⟩ <;> (change he = _ at h1; change sp = _ at h2; subst h1; subst h2) <;> rfl
set_option maxHeartbeats 4000000 in
set_option maxRecDepth 100000 in
theorem kX8_popularBy_2 (N d n : Nat) {X : lt_X} (hX : hsX X) (a0 : Int32) (z : Int32) (I : Nat → Nat → Int32) (J : Nat → Nat → Int64) : KX8_popularBy_2 N d n X a0 z (mkh X I J) = am_cI (am_G am_prog (N + 30) (d + 2) 92 [.ref X.2.1, .int a0, .int z] (mkh X I J)) (KX8_popularBy_3 N d n ) := by
  obtain ⟨L, he, sp, t1, t2⟩ := X
  rcases hX with ⟨h1, h2⟩ | ⟨h1, h2⟩ <;> (change he = _ at h1; change sp = _ at h2; subst h1; subst h2) <;> rfl
set_option maxHeartbeats 4000000 in
set_option maxRecDepth 100000 in
theorem kX8_popularBy_3 (N d n : Nat) {X : lt_X} (hX : hsX X) (z : Int32) (I : Nat → Nat → Int32) (J : Nat → Nat → Int64) : KX8_popularBy_3 N d n z (mkh X I J) = some (.int z, (mkh X (u2 I 3 15 (nI 0)) J)) := by
  obtain ⟨L, he, sp, t1, t2⟩ := X
  rcases hX with ⟨h1, h2⟩ | ⟨h1, h2⟩ <;> (change he = _ at h1; change sp = _ at h2; subst h1; subst h2) <;> rfl
theorem fX8_popularBy (N d : Nat) {X : lt_X} (x1 : Int32) (I : Nat → Nat → Int32) (J : Nat → Nat → Int64) : am_G am_prog N (d + 1) 164 [.ref 3, .int x1] (mkh X I J) = am_run (am_G am_prog N d) eX8_popularBy uX8_popularBy N 0 [(0, .ref 3), (1, .int x1)] [] (mkh X I J) := by
  refine (am_G_at N d 164 mX8_popularBy _ _ rfl).trans ?_
  rfl
theorem gX8_popularBy (N d : Nat) {X : lt_X} (x1 : Int32) (I : Nat → Nat → Int32) (J : Nat → Nat → Int64) : am_G am_prog (N + 30) (d + 3) 164 [.ref 3, .int x1] (mkh X I J) = RX8_popularBy_0 N d (N + 30) X x1 I J := fX8_popularBy (N + 30) (d + 2) x1 I J
def RX8_popularStatus_0 (N d n : Nat) (X : lt_X) (x1 : Int32) (I : Nat → Nat → Int32) (J : Nat → Nat → Int64) : am_O := am_run (am_G am_prog (N + 30) (d + 1)) eX8_popularStatus uX8_popularStatus n 0 [(0, .ref 3), (1, .int x1)] [] (mkh X I J)
def KX8_popularStatus_0 (N d n : Nat) (z : Int32) (h : am_H) : am_O := if z = nI 0 then some (.int (nI 2), h) else am_gR h 8 3 3 (fun y1 => am_gR h 5 y1 1 (fun y2 => am_lI h 10 y2 (nI 0) (fun y3 => if y3 = nI 0 then some (.int (nI 8), h) else some (.int (nI 0), h))))
set_option maxHeartbeats 4000000 in
set_option maxRecDepth 100000 in
theorem sX8_popularStatus_0 (N d n : Nat) {X : lt_X} (hX : hsX X) (x1 : Int32) (I : Nat → Nat → Int32) (J : Nat → Nat → Int64) : RX8_popularStatus_0 N d (n + 1) X x1 I J = am_cI (am_G am_prog (N + 30) (d + 1) 178 [.ref 3, .int (nI 1), .int x1] (mkh X I J)) (KX8_popularStatus_0 N d n ) := by
  obtain ⟨L, he, sp, t1, t2⟩ := X
  rcases hX with ⟨h1, h2⟩ | ⟨h1, h2⟩ <;> (change he = _ at h1; change sp = _ at h2; subst h1; subst h2) <;> rfl
set_option maxHeartbeats 4000000 in
set_option maxRecDepth 100000 in
theorem kX8_popularStatus_0 (N d n : Nat) {X : lt_X} (hX : hsX X) (z : Int32) (I : Nat → Nat → Int32) (J : Nat → Nat → Int64) : KX8_popularStatus_0 N d n z (mkh X I J) = if z = nI 0 then some (.int (nI 2), (mkh X I J)) else if (I (X.2.1 + 2) 0) = nI 0 then some (.int (nI 8), (mkh X I J)) else some (.int (nI 0), (mkh X I J)) := by
  obtain ⟨L, he, sp, t1, t2⟩ := X
  rcases hX with ⟨h1, h2⟩ | ⟨h1, h2⟩ <;> (change he = _ at h1; change sp = _ at h2; subst h1; subst h2) <;> rfl
theorem fX8_popularStatus (N d : Nat) {X : lt_X} (x1 : Int32) (I : Nat → Nat → Int32) (J : Nat → Nat → Int64) : am_G am_prog N (d + 1) 165 [.ref 3, .int x1] (mkh X I J) = am_run (am_G am_prog N d) eX8_popularStatus uX8_popularStatus N 0 [(0, .ref 3), (1, .int x1)] [] (mkh X I J) := by
  refine (am_G_at N d 165 mX8_popularStatus _ _ rfl).trans ?_
  rfl
theorem gX8_popularStatus (N d : Nat) {X : lt_X} (x1 : Int32) (I : Nat → Nat → Int32) (J : Nat → Nat → Int64) : am_G am_prog (N + 30) (d + 2) 165 [.ref 3, .int x1] (mkh X I J) = RX8_popularStatus_0 N d (N + 30) X x1 I J := fX8_popularStatus (N + 30) (d + 1) x1 I J
def RX8_game_0 (N d n : Nat) (X : lt_X) (x1 : Int32) (x2 : Int32) (x3 : Int32) (I : Nat → Nat → Int32) (J : Nat → Nat → Int64) : am_O := am_run (am_G am_prog (N + 30) (d + 2)) eX8_game uX8_game n 0 [(0, .ref 3), (1, .int x1), (2, .int x2), (3, .int x3)] [] (mkh X I J)
def KX8_game_0 (N d n : Nat) (a0 : Int32) (a1 : Int32) (a2 : Int32) (z : Int32) (h : am_H) : am_O := if z = nI 0 then am_gR h 8 3 10 (fun y1 => am_gR h 8 3 3 (fun y2 => am_cI (am_G am_prog (N + 30) (d + 2) 16 [.ref y1, .ref y2, .int a0, .int a1, .int a2] h) (fun r4 h3 => am_cI (am_G am_prog (N + 30) (d + 2) 179 [.ref 3, .int r4] h3) (fun r6 h5 => some (.int r6, h5))))) else am_cI (am_G am_prog (N + 30) (d + 2) 181 [.ref 3, .int z] h) (fun r8 h7 => some (.int r8, h7))
def KX8_game_1 (N d n : Nat) (z : Int32) (h : am_H) : am_O := am_cI (am_G am_prog (N + 30) (d + 2) 179 [.ref 3, .int z] h) (fun r2 h1 => some (.int r2, h1))
set_option maxHeartbeats 4000000 in
set_option maxRecDepth 100000 in
theorem sX8_game_0 (N d n : Nat) {X : lt_X} (hX : hsX X) (x1 : Int32) (x2 : Int32) (x3 : Int32) (I : Nat → Nat → Int32) (J : Nat → Nat → Int64) : RX8_game_0 N d (n + 1) X x1 x2 x3 I J = am_cI (am_G am_prog (N + 30) (d + 2) 168 [.ref 3, .int x1, .int x2, .int x3] (mkh X I J)) (KX8_game_0 N d n x1 x2 x3) := by
  obtain ⟨L, he, sp, t1, t2⟩ := X
  rcases hX with ⟨h1, h2⟩ | ⟨h1, h2⟩ <;> (change he = _ at h1; change sp = _ at h2; subst h1; subst h2) <;> rfl
set_option maxHeartbeats 4000000 in
set_option maxRecDepth 100000 in
theorem kX8_game_0 (N d n : Nat) {X : lt_X} (hX : hsX X) (a0 : Int32) (a1 : Int32) (a2 : Int32) (z : Int32) (I : Nat → Nat → Int32) (J : Nat → Nat → Int64) : KX8_game_0 N d n a0 a1 a2 z (mkh X I J) = if z = nI 0 then am_cI (am_G am_prog (N + 30) (d + 2) 16 [.ref 126, .ref X.2.1, .int a0, .int a1, .int a2] (mkh X I J)) (KX8_game_1 N d n ) else some (.int (-1), (mkh X (u2 I 3 15 z) J)) := by
  obtain ⟨L, he, sp, t1, t2⟩ := X
  rcases hX with ⟨h1, h2⟩ | ⟨h1, h2⟩ <;> (change he = _ at h1; change sp = _ at h2; subst h1; subst h2) <;> rfl
set_option maxHeartbeats 4000000 in
set_option maxRecDepth 100000 in
theorem kX8_game_1 (N d n : Nat) {X : lt_X} (hX : hsX X) (z : Int32) (I : Nat → Nat → Int32) (J : Nat → Nat → Int64) : KX8_game_1 N d n z (mkh X I J) = some (.int z, (mkh X (u2 I 3 15 (nI 0)) J)) := by
  obtain ⟨L, he, sp, t1, t2⟩ := X
  rcases hX with ⟨h1, h2⟩ | ⟨h1, h2⟩ <;> (change he = _ at h1; change sp = _ at h2; subst h1; subst h2) <;> rfl
theorem fX8_game (N d : Nat) {X : lt_X} (x1 : Int32) (x2 : Int32) (x3 : Int32) (I : Nat → Nat → Int32) (J : Nat → Nat → Int64) : am_G am_prog N (d + 1) 166 [.ref 3, .int x1, .int x2, .int x3] (mkh X I J) = am_run (am_G am_prog N d) eX8_game uX8_game N 0 [(0, .ref 3), (1, .int x1), (2, .int x2), (3, .int x3)] [] (mkh X I J) := by
  refine (am_G_at N d 166 mX8_game _ _ rfl).trans ?_
  rfl
theorem gX8_game (N d : Nat) {X : lt_X} (x1 : Int32) (x2 : Int32) (x3 : Int32) (I : Nat → Nat → Int32) (J : Nat → Nat → Int64) : am_G am_prog (N + 30) (d + 3) 166 [.ref 3, .int x1, .int x2, .int x3] (mkh X I J) = RX8_game_0 N d (N + 30) X x1 x2 x3 I J := fX8_game (N + 30) (d + 2) x1 x2 x3 I J
def RX8_moveOf_0 (N d n : Nat) (X : lt_X) (x1 : Int32) (x2 : Int32) (x3 : Int32) (I : Nat → Nat → Int32) (J : Nat → Nat → Int64) : am_O := am_run (am_G am_prog (N + 30) (d + 2)) eX8_moveOf uX8_moveOf n 0 [(0, .ref 3), (1, .int x1), (2, .int x2), (3, .int x3)] [] (mkh X I J)
def KX8_moveOf_0 (N d n : Nat) (a0 : Int32) (a1 : Int32) (a2 : Int32) (z : Int32) (h : am_H) : am_O := if z = nI 0 then if a2 = nI 0 then am_cI (am_G am_prog (N + 30) (d + 2) 181 [.ref 3, .int (nI 5)] h) (fun r2 h1 => some (.int r2, h1)) else am_gR h 8 3 10 (fun y3 => am_gR h 8 3 3 (fun y4 => am_cI (am_G am_prog (N + 30) (d + 2) 19 [.ref y3, .ref y4, .int a0, .int a1, .int a2] h) (fun r6 h5 => am_cI (am_G am_prog (N + 30) (d + 2) 180 [.ref 3, .int r6] h5) (fun r8 h7 => some (.int r8, h7))))) else am_cI (am_G am_prog (N + 30) (d + 2) 181 [.ref 3, .int z] h) (fun r10 h9 => some (.int r10, h9))
def KX8_moveOf_1 (N d n : Nat) (z : Int32) (h : am_H) : am_O := am_cI (am_G am_prog (N + 30) (d + 2) 180 [.ref 3, .int z] h) (fun r2 h1 => some (.int r2, h1))
def KX8_moveOf_2 (N d n : Nat) (z : Int32) (h : am_H) : am_O := some (.int z, h)
set_option maxHeartbeats 4000000 in
set_option maxRecDepth 100000 in
theorem sX8_moveOf_0 (N d n : Nat) {X : lt_X} (hX : hsX X) (x1 : Int32) (x2 : Int32) (x3 : Int32) (I : Nat → Nat → Int32) (J : Nat → Nat → Int64) : RX8_moveOf_0 N d (n + 1) X x1 x2 x3 I J = am_cI (am_G am_prog (N + 30) (d + 2) 168 [.ref 3, .int x1, .int x2, .int x3] (mkh X I J)) (KX8_moveOf_0 N d n x1 x2 x3) := by
  obtain ⟨L, he, sp, t1, t2⟩ := X
  rcases hX with ⟨h1, h2⟩ | ⟨h1, h2⟩ <;> (change he = _ at h1; change sp = _ at h2; subst h1; subst h2) <;> rfl
set_option maxHeartbeats 4000000 in
set_option maxRecDepth 100000 in
theorem kX8_moveOf_0 (N d n : Nat) {X : lt_X} (hX : hsX X) (a0 : Int32) (a1 : Int32) (a2 : Int32) (z : Int32) (I : Nat → Nat → Int32) (J : Nat → Nat → Int64) : KX8_moveOf_0 N d n a0 a1 a2 z (mkh X I J) = if z = nI 0 then if a2 = nI 0 then some (.int (-1), (mkh X (u2 I 3 15 (nI 5)) J)) else am_cI (am_G am_prog (N + 30) (d + 2) 19 [.ref 126, .ref X.2.1, .int a0, .int a1, .int a2] (mkh X I J)) (KX8_moveOf_1 N d n ) else some (.int (-1), (mkh X (u2 I 3 15 z) J)) := by
  obtain ⟨L, he, sp, t1, t2⟩ := X
  rcases hX with ⟨h1, h2⟩ | ⟨h1, h2⟩ <;> (change he = _ at h1; change sp = _ at h2; subst h1; subst h2) <;> rfl
set_option maxHeartbeats 4000000 in
set_option maxRecDepth 100000 in
theorem kX8_moveOf_1 (N d n : Nat) {X : lt_X} (hX : hsX X) (z : Int32) (I : Nat → Nat → Int32) (J : Nat → Nat → Int64) : KX8_moveOf_1 N d n z (mkh X I J) = am_cI (am_G am_prog (N + 30) (d + 2) 180 [.ref 3, .int z] (mkh X I J)) (KX8_moveOf_2 N d n ) := by
  obtain ⟨L, he, sp, t1, t2⟩ := X
  rcases hX with ⟨h1, h2⟩ | ⟨h1, h2⟩ <;> (change he = _ at h1; change sp = _ at h2; subst h1; subst h2) <;> rfl
set_option maxHeartbeats 4000000 in
set_option maxRecDepth 100000 in
theorem kX8_moveOf_2 (N d n : Nat) {X : lt_X} (hX : hsX X) (z : Int32) (I : Nat → Nat → Int32) (J : Nat → Nat → Int64) : KX8_moveOf_2 N d n z (mkh X I J) = some (.int z, (mkh X I J)) := by
  obtain ⟨L, he, sp, t1, t2⟩ := X
  rcases hX with ⟨h1, h2⟩ | ⟨h1, h2⟩ <;> (change he = _ at h1; change sp = _ at h2; subst h1; subst h2) <;> rfl
theorem fX8_moveOf (N d : Nat) {X : lt_X} (x1 : Int32) (x2 : Int32) (x3 : Int32) (I : Nat → Nat → Int32) (J : Nat → Nat → Int64) : am_G am_prog N (d + 1) 167 [.ref 3, .int x1, .int x2, .int x3] (mkh X I J) = am_run (am_G am_prog N d) eX8_moveOf uX8_moveOf N 0 [(0, .ref 3), (1, .int x1), (2, .int x2), (3, .int x3)] [] (mkh X I J) := by
  refine (am_G_at N d 167 mX8_moveOf _ _ rfl).trans ?_
  rfl
theorem gX8_moveOf (N d : Nat) {X : lt_X} (x1 : Int32) (x2 : Int32) (x3 : Int32) (I : Nat → Nat → Int32) (J : Nat → Nat → Int64) : am_G am_prog (N + 30) (d + 3) 167 [.ref 3, .int x1, .int x2, .int x3] (mkh X I J) = RX8_moveOf_0 N d (N + 30) X x1 x2 x3 I J := fX8_moveOf (N + 30) (d + 2) x1 x2 x3 I J
def RX8_gameStatus_0 (N d n : Nat) (X : lt_X) (x1 : Int32) (x2 : Int32) (x3 : Int32) (I : Nat → Nat → Int32) (J : Nat → Nat → Int64) : am_O := am_run (am_G am_prog (N + 30) (d + 1)) eX8_gameStatus uX8_gameStatus n 0 [(0, .ref 3), (1, .int x1), (2, .int x2), (3, .int x3)] [] (mkh X I J)
def KX8_gameStatus_0 (N d n : Nat) (a0 : Int32) (a1 : Int32) (a2 : Int32) (z : Int32) (h : am_H) : am_O := if z = nI 0 then some (.int (nI 2), h) else am_cI (am_G am_prog (N + 30) (d + 1) 178 [.ref 3, .int (nI 2), .int a1] h) (fun r2 h1 => if r2 = nI 0 then some (.int (nI 2), h1) else if a0 = a1 then some (.int (nI 5), h1) else if a2 < nI 0 then some (.int (nI 5), h1) else if (nI 5) < a2 then some (.int (nI 5), h1) else some (.int (nI 0), h1))
def KX8_gameStatus_1 (N d n : Nat) (a0 : Int32) (a1 : Int32) (a2 : Int32) (z : Int32) (h : am_H) : am_O := if z = nI 0 then some (.int (nI 2), h) else if a0 = a1 then some (.int (nI 5), h) else if a2 < nI 0 then some (.int (nI 5), h) else if (nI 5) < a2 then some (.int (nI 5), h) else some (.int (nI 0), h)
set_option maxHeartbeats 4000000 in
set_option maxRecDepth 100000 in
theorem sX8_gameStatus_0 (N d n : Nat) {X : lt_X} (hX : hsX X) (x1 : Int32) (x2 : Int32) (x3 : Int32) (I : Nat → Nat → Int32) (J : Nat → Nat → Int64) : RX8_gameStatus_0 N d (n + 1) X x1 x2 x3 I J = am_cI (am_G am_prog (N + 30) (d + 1) 178 [.ref 3, .int (nI 2), .int x1] (mkh X I J)) (KX8_gameStatus_0 N d n x1 x2 x3) := by
  obtain ⟨L, he, sp, t1, t2⟩ := X
  rcases hX with ⟨h1, h2⟩ | ⟨h1, h2⟩ <;> (change he = _ at h1; change sp = _ at h2; subst h1; subst h2) <;> rfl
set_option maxHeartbeats 4000000 in
set_option maxRecDepth 100000 in
theorem kX8_gameStatus_0 (N d n : Nat) {X : lt_X} (hX : hsX X) (a0 : Int32) (a1 : Int32) (a2 : Int32) (z : Int32) (I : Nat → Nat → Int32) (J : Nat → Nat → Int64) : KX8_gameStatus_0 N d n a0 a1 a2 z (mkh X I J) = if z = nI 0 then some (.int (nI 2), (mkh X I J)) else am_cI (am_G am_prog (N + 30) (d + 1) 178 [.ref 3, .int (nI 2), .int a1] (mkh X I J)) (KX8_gameStatus_1 N d n a0 a1 a2) := by
  obtain ⟨L, he, sp, t1, t2⟩ := X
  rcases hX with ⟨h1, h2⟩ | ⟨h1, h2⟩ <;> (change he = _ at h1; change sp = _ at h2; subst h1; subst h2) <;> rfl
set_option maxHeartbeats 4000000 in
set_option maxRecDepth 100000 in
theorem kX8_gameStatus_1 (N d n : Nat) {X : lt_X} (hX : hsX X) (a0 : Int32) (a1 : Int32) (a2 : Int32) (z : Int32) (I : Nat → Nat → Int32) (J : Nat → Nat → Int64) : KX8_gameStatus_1 N d n a0 a1 a2 z (mkh X I J) = if z = nI 0 then some (.int (nI 2), (mkh X I J)) else if a0 = a1 then some (.int (nI 5), (mkh X I J)) else if a2 < nI 0 then some (.int (nI 5), (mkh X I J)) else if (nI 5) < a2 then some (.int (nI 5), (mkh X I J)) else some (.int (nI 0), (mkh X I J)) := by
  obtain ⟨L, he, sp, t1, t2⟩ := X
  rcases hX with ⟨h1, h2⟩ | ⟨h1, h2⟩ <;> (change he = _ at h1; change sp = _ at h2; subst h1; subst h2) <;> rfl
theorem fX8_gameStatus (N d : Nat) {X : lt_X} (x1 : Int32) (x2 : Int32) (x3 : Int32) (I : Nat → Nat → Int32) (J : Nat → Nat → Int64) : am_G am_prog N (d + 1) 168 [.ref 3, .int x1, .int x2, .int x3] (mkh X I J) = am_run (am_G am_prog N d) eX8_gameStatus uX8_gameStatus N 0 [(0, .ref 3), (1, .int x1), (2, .int x2), (3, .int x3)] [] (mkh X I J) := by
  refine (am_G_at N d 168 mX8_gameStatus _ _ rfl).trans ?_
  rfl
theorem gX8_gameStatus (N d : Nat) {X : lt_X} (x1 : Int32) (x2 : Int32) (x3 : Int32) (I : Nat → Nat → Int32) (J : Nat → Nat → Int64) : am_G am_prog (N + 30) (d + 2) 168 [.ref 3, .int x1, .int x2, .int x3] (mkh X I J) = RX8_gameStatus_0 N d (N + 30) X x1 x2 x3 I J := fX8_gameStatus (N + 30) (d + 1) x1 x2 x3 I J
def RX8_alive_0 (N d n : Nat) (X : lt_X) (x1 : Int32) (x2 : Int32) (I : Nat → Nat → Int32) (J : Nat → Nat → Int64) : am_O := am_run (am_G am_prog (N + 30) (d + 1)) eX8_alive uX8_alive n 0 [(0, .ref 3), (1, .int x1), (2, .int x2)] [] (mkh X I J)
def KX8_alive_0 (N d n : Nat) (a0 : Int32) (a1 : Int32) (z : Int32) (h : am_H) : am_O := if z = nI 0 then am_cI (am_G am_prog (N + 30) (d + 1) 183 [.ref 3, .int (nI 2)] h) (fun r2 h1 => am_nb r2 (some (.int r2, h1))) else if a1 < nI 0 then am_cI (am_G am_prog (N + 30) (d + 1) 183 [.ref 3, .int (nI 5)] h) (fun r4 h3 => am_nb r4 (some (.int r4, h3))) else if (nI 12) < a1 then am_cI (am_G am_prog (N + 30) (d + 1) 183 [.ref 3, .int (nI 5)] h) (fun r6 h5 => am_nb r6 (some (.int r6, h5))) else am_gR h 8 3 3 (fun y7 => am_cI (am_G am_prog (N + 30) (d + 1) 70 [.ref y7, .int a0] h) (fun r9 h8 => if r9 = nI 0 then am_cI (am_G am_prog (N + 30) (d + 1) 183 [.ref 3, .int (nI 9)] h8) (fun r11 h10 => am_nb r11 (some (.int r11, h10))) else am_gR h8 8 3 3 (fun y12 => am_gI h8 5 y12 2 (fun y13 => am_cL (am_G am_prog (N + 30) (d + 1) 171 [.int ((nI 16) - y13), .int a1] h8) (fun r15 h14 => am_cL (am_G am_prog (N + 30) (d + 1) 171 [.int (nI 16), .int a1] h14) (fun r17 h16 => am_cV (am_G am_prog (N + 30) (d + 1) 172 [.ref 3, .long r15, .long r17] h16) (fun h18 => am_cI (am_G am_prog (N + 30) (d + 1) 182 [.ref 3] h18) (fun r20 h19 => am_nb r20 (some (.int r20, h19))))))))))
def KX8_alive_1 (N d n : Nat) (a0 : Int32) (z : Int32) (h : am_H) : am_O := if z = nI 0 then am_cI (am_G am_prog (N + 30) (d + 1) 183 [.ref 3, .int (nI 9)] h) (fun r2 h1 => am_nb r2 (some (.int r2, h1))) else am_gR h 8 3 3 (fun y3 => am_gI h 5 y3 2 (fun y4 => am_cL (am_G am_prog (N + 30) (d + 1) 171 [.int ((nI 16) - y4), .int a0] h) (fun r6 h5 => am_cL (am_G am_prog (N + 30) (d + 1) 171 [.int (nI 16), .int a0] h5) (fun r8 h7 => am_cV (am_G am_prog (N + 30) (d + 1) 172 [.ref 3, .long r6, .long r8] h7) (fun h9 => am_cI (am_G am_prog (N + 30) (d + 1) 182 [.ref 3] h9) (fun r11 h10 => am_nb r11 (some (.int r11, h10))))))))
def KX8_alive_2 (N d n : Nat) (a0 : Int32) (z : Int64) (h : am_H) : am_O := am_cL (am_G am_prog (N + 30) (d + 1) 171 [.int (nI 16), .int a0] h) (fun r2 h1 => am_cV (am_G am_prog (N + 30) (d + 1) 172 [.ref 3, .long z, .long r2] h1) (fun h3 => am_cI (am_G am_prog (N + 30) (d + 1) 182 [.ref 3] h3) (fun r5 h4 => am_nb r5 (some (.int r5, h4)))))
def KX8_alive_3 (N d n : Nat) (a0 : Int64) (z : Int64) (h : am_H) : am_O := am_cV (am_G am_prog (N + 30) (d + 1) 172 [.ref 3, .long a0, .long z] h) (fun h1 => am_cI (am_G am_prog (N + 30) (d + 1) 182 [.ref 3] h1) (fun r3 h2 => am_nb r3 (some (.int r3, h2))))
def KX8_alive_4 (N d n : Nat) (h : am_H) : am_O := am_cI (am_G am_prog (N + 30) (d + 1) 182 [.ref 3] h) (fun r2 h1 => am_nb r2 (some (.int r2, h1)))
set_option maxHeartbeats 4000000 in
set_option maxRecDepth 100000 in
theorem sX8_alive_0 (N d n : Nat) {X : lt_X} (hX : hsX X) (x1 : Int32) (x2 : Int32) (I : Nat → Nat → Int32) (J : Nat → Nat → Int64) : RX8_alive_0 N d (n + 1) X x1 x2 I J = am_cI (am_G am_prog (N + 30) (d + 1) 178 [.ref 3, .int (nI 1), .int x1] (mkh X I J)) (KX8_alive_0 N d n x1 x2) := by
  obtain ⟨L, he, sp, t1, t2⟩ := X
  rcases hX with ⟨h1, h2⟩ | ⟨h1, h2⟩ <;> (change he = _ at h1; change sp = _ at h2; subst h1; subst h2) <;> rfl
set_option maxHeartbeats 4000000 in
set_option maxRecDepth 100000 in
theorem kX8_alive_0 (N d n : Nat) {X : lt_X} (hX : hsX X) (a0 : Int32) (a1 : Int32) (z : Int32) (I : Nat → Nat → Int32) (J : Nat → Nat → Int64) : KX8_alive_0 N d n a0 a1 z (mkh X I J) = if z = nI 0 then some (.int (nI 0), (mkh X (u2 I 3 15 (nI 2)) J)) else if a1 < nI 0 then some (.int (nI 0), (mkh X (u2 I 3 15 (nI 5)) J)) else if (nI 12) < a1 then some (.int (nI 0), (mkh X (u2 I 3 15 (nI 5)) J)) else am_cI (am_G am_prog (N + 30) (d + 1) 70 [.ref X.2.1, .int a0] (mkh X I J)) (KX8_alive_1 N d n a1) := by
  obtain ⟨L, he, sp, t1, t2⟩ := X
  rcases hX with ⟨h1, h2⟩ | ⟨h1, h2⟩ <;> (change he = _ at h1; change sp = _ at h2; subst h1; subst h2) <;> rfl
set_option maxHeartbeats 4000000 in
set_option maxRecDepth 100000 in
theorem kX8_alive_1 (N d n : Nat) {X : lt_X} (hX : hsX X) (a0 : Int32) (z : Int32) (I : Nat → Nat → Int32) (J : Nat → Nat → Int64) : KX8_alive_1 N d n a0 z (mkh X I J) = if z = nI 0 then some (.int (nI 0), (mkh X (u2 I 3 15 (nI 9)) J)) else am_cL (am_G am_prog (N + 30) (d + 1) 171 [.int ((nI 16) - (I X.2.1 2)), .int a0] (mkh X I J)) (KX8_alive_2 N d n a0) := by
  obtain ⟨L, he, sp, t1, t2⟩ := X
  rcases hX with ⟨h1, h2⟩ | ⟨h1, h2⟩ <;> (change he = _ at h1; change sp = _ at h2; subst h1; subst h2) <;> rfl
set_option maxHeartbeats 4000000 in
set_option maxRecDepth 100000 in
theorem kX8_alive_2 (N d n : Nat) {X : lt_X} (hX : hsX X) (a0 : Int32) (z : Int64) (I : Nat → Nat → Int32) (J : Nat → Nat → Int64) : KX8_alive_2 N d n a0 z (mkh X I J) = am_cL (am_G am_prog (N + 30) (d + 1) 171 [.int (nI 16), .int a0] (mkh X I J)) (KX8_alive_3 N d n z) := by
  obtain ⟨L, he, sp, t1, t2⟩ := X
  rcases hX with ⟨h1, h2⟩ | ⟨h1, h2⟩ <;> (change he = _ at h1; change sp = _ at h2; subst h1; subst h2) <;> rfl
set_option maxHeartbeats 4000000 in
set_option maxRecDepth 100000 in
theorem kX8_alive_3 (N d n : Nat) {X : lt_X} (hX : hsX X) (a0 : Int64) (z : Int64) (I : Nat → Nat → Int32) (J : Nat → Nat → Int64) : KX8_alive_3 N d n a0 z (mkh X I J) = am_cV (am_G am_prog (N + 30) (d + 1) 172 [.ref 3, .long a0, .long z] (mkh X I J)) (KX8_alive_4 N d n ) := by
  obtain ⟨L, he, sp, t1, t2⟩ := X
  rcases hX with ⟨h1, h2⟩ | ⟨h1, h2⟩ <;> (change he = _ at h1; change sp = _ at h2; subst h1; subst h2) <;> rfl
set_option maxHeartbeats 4000000 in
set_option maxRecDepth 100000 in
theorem kX8_alive_4 (N d n : Nat) {X : lt_X} (hX : hsX X) (I : Nat → Nat → Int32) (J : Nat → Nat → Int64) : KX8_alive_4 N d n (mkh X I J) = some (.int (nI 1), (mkh X (u2 I 3 15 (nI 0)) J)) := by
  obtain ⟨L, he, sp, t1, t2⟩ := X
  rcases hX with ⟨h1, h2⟩ | ⟨h1, h2⟩ <;> (change he = _ at h1; change sp = _ at h2; subst h1; subst h2) <;> rfl
theorem fX8_alive (N d : Nat) {X : lt_X} (x1 : Int32) (x2 : Int32) (I : Nat → Nat → Int32) (J : Nat → Nat → Int64) : am_G am_prog N (d + 1) 169 [.ref 3, .int x1, .int x2] (mkh X I J) = am_run (am_G am_prog N d) eX8_alive uX8_alive N 0 [(0, .ref 3), (1, .int x1), (2, .int x2)] [] (mkh X I J) := by
  refine (am_G_at N d 169 mX8_alive _ _ rfl).trans ?_
  rfl
theorem gX8_alive (N d : Nat) {X : lt_X} (x1 : Int32) (x2 : Int32) (I : Nat → Nat → Int32) (J : Nat → Nat → Int64) : am_G am_prog (N + 30) (d + 2) 169 [.ref 3, .int x1, .int x2] (mkh X I J) = RX8_alive_0 N d (N + 30) X x1 x2 I J := fX8_alive (N + 30) (d + 1) x1 x2 I J
def RX8_warm_0 (N d n : Nat) (X : lt_X) (x1 : Int32) (I : Nat → Nat → Int32) (J : Nat → Nat → Int64) : am_O := am_run (am_G am_prog (N + 30) (d + 1)) eX8_warm uX8_warm n 0 [(0, .ref 3), (1, .int x1)] [] (mkh X I J)
def KX8_warm_0 (N d n : Nat) (a0 : Int32) (z : Int32) (h : am_H) : am_O := if z = nI 0 then am_cI (am_G am_prog (N + 30) (d + 1) 183 [.ref 3, .int (nI 2)] h) (fun r2 h1 => am_nb r2 (some (.int r2, h1))) else am_gR h 8 3 3 (fun y3 => am_cI (am_G am_prog (N + 30) (d + 1) 66 [.ref y3, .int a0] h) (fun r5 h4 => am_gR h4 8 3 3 (fun y6 => am_gI h4 5 y6 5 (fun y7 => am_cI (am_G am_prog (N + 30) (d + 1) 356 [.int (r5 &&& y7)] h4) (fun r9 h8 => am_cL (am_G am_prog (N + 30) (d + 1) 171 [.int (nI 16), .int r9] h8) (fun r11 h10 => am_gR h10 8 3 3 (fun y12 => am_gI h10 5 y12 2 (fun y13 => am_cL (am_G am_prog (N + 30) (d + 1) 171 [.int y13, .int r9] h10) (fun r15 h14 => am_cV (am_G am_prog (N + 30) (d + 1) 172 [.ref 3, .long (r11 - r15), .long r11] h14) (fun h16 => am_cI (am_G am_prog (N + 30) (d + 1) 182 [.ref 3] h16) (fun r18 h17 => am_nb r18 (some (.int r18, h17)))))))))))))
def KX8_warm_1 (N d n : Nat) (z : Int32) (h : am_H) : am_O := am_gR h 8 3 3 (fun y1 => am_gI h 5 y1 5 (fun y2 => am_cI (am_G am_prog (N + 30) (d + 1) 356 [.int (z &&& y2)] h) (fun r4 h3 => am_cL (am_G am_prog (N + 30) (d + 1) 171 [.int (nI 16), .int r4] h3) (fun r6 h5 => am_gR h5 8 3 3 (fun y7 => am_gI h5 5 y7 2 (fun y8 => am_cL (am_G am_prog (N + 30) (d + 1) 171 [.int y8, .int r4] h5) (fun r10 h9 => am_cV (am_G am_prog (N + 30) (d + 1) 172 [.ref 3, .long (r6 - r10), .long r6] h9) (fun h11 => am_cI (am_G am_prog (N + 30) (d + 1) 182 [.ref 3] h11) (fun r13 h12 => am_nb r13 (some (.int r13, h12)))))))))))
def KX8_warm_2 (N d n : Nat) (z : Int32) (h : am_H) : am_O := am_cL (am_G am_prog (N + 30) (d + 1) 171 [.int (nI 16), .int z] h) (fun r2 h1 => am_gR h1 8 3 3 (fun y3 => am_gI h1 5 y3 2 (fun y4 => am_cL (am_G am_prog (N + 30) (d + 1) 171 [.int y4, .int z] h1) (fun r6 h5 => am_cV (am_G am_prog (N + 30) (d + 1) 172 [.ref 3, .long (r2 - r6), .long r2] h5) (fun h7 => am_cI (am_G am_prog (N + 30) (d + 1) 182 [.ref 3] h7) (fun r9 h8 => am_nb r9 (some (.int r9, h8))))))))
def KX8_warm_3 (N d n : Nat) (a0 : Int32) (z : Int64) (h : am_H) : am_O := am_gR h 8 3 3 (fun y1 => am_gI h 5 y1 2 (fun y2 => am_cL (am_G am_prog (N + 30) (d + 1) 171 [.int y2, .int a0] h) (fun r4 h3 => am_cV (am_G am_prog (N + 30) (d + 1) 172 [.ref 3, .long (z - r4), .long z] h3) (fun h5 => am_cI (am_G am_prog (N + 30) (d + 1) 182 [.ref 3] h5) (fun r7 h6 => am_nb r7 (some (.int r7, h6)))))))
def KX8_warm_4 (N d n : Nat) (a0 : Int64) (z : Int64) (h : am_H) : am_O := am_cV (am_G am_prog (N + 30) (d + 1) 172 [.ref 3, .long (a0 - z), .long a0] h) (fun h1 => am_cI (am_G am_prog (N + 30) (d + 1) 182 [.ref 3] h1) (fun r3 h2 => am_nb r3 (some (.int r3, h2))))
def KX8_warm_5 (N d n : Nat) (h : am_H) : am_O := am_cI (am_G am_prog (N + 30) (d + 1) 182 [.ref 3] h) (fun r2 h1 => am_nb r2 (some (.int r2, h1)))
set_option maxHeartbeats 4000000 in
set_option maxRecDepth 100000 in
theorem sX8_warm_0 (N d n : Nat) {X : lt_X} (hX : hsX X) (x1 : Int32) (I : Nat → Nat → Int32) (J : Nat → Nat → Int64) : RX8_warm_0 N d (n + 1) X x1 I J = am_cI (am_G am_prog (N + 30) (d + 1) 178 [.ref 3, .int (nI 2), .int x1] (mkh X I J)) (KX8_warm_0 N d n x1) := by
  obtain ⟨L, he, sp, t1, t2⟩ := X
  rcases hX with ⟨h1, h2⟩ | ⟨h1, h2⟩ <;> (change he = _ at h1; change sp = _ at h2; subst h1; subst h2) <;> rfl
set_option maxHeartbeats 4000000 in
set_option maxRecDepth 100000 in
theorem kX8_warm_0 (N d n : Nat) {X : lt_X} (hX : hsX X) (a0 : Int32) (z : Int32) (I : Nat → Nat → Int32) (J : Nat → Nat → Int64) : KX8_warm_0 N d n a0 z (mkh X I J) = if z = nI 0 then some (.int (nI 0), (mkh X (u2 I 3 15 (nI 2)) J)) else am_cI (am_G am_prog (N + 30) (d + 1) 66 [.ref X.2.1, .int a0] (mkh X I J)) (KX8_warm_1 N d n ) := by
  obtain ⟨L, he, sp, t1, t2⟩ := X
  rcases hX with ⟨h1, h2⟩ | ⟨h1, h2⟩ <;> (change he = _ at h1; change sp = _ at h2; subst h1; subst h2) <;> rfl
set_option maxHeartbeats 4000000 in
set_option maxRecDepth 100000 in
theorem kX8_warm_1 (N d n : Nat) {X : lt_X} (hX : hsX X) (z : Int32) (I : Nat → Nat → Int32) (J : Nat → Nat → Int64) : KX8_warm_1 N d n z (mkh X I J) = am_cI (am_G am_prog (N + 30) (d + 1) 356 [.int (z &&& (I X.2.1 5))] (mkh X I J)) (KX8_warm_2 N d n ) := by
  obtain ⟨L, he, sp, t1, t2⟩ := X
  rcases hX with ⟨h1, h2⟩ | ⟨h1, h2⟩ <;> (change he = _ at h1; change sp = _ at h2; subst h1; subst h2) <;> rfl
set_option maxHeartbeats 4000000 in
set_option maxRecDepth 100000 in
theorem kX8_warm_2 (N d n : Nat) {X : lt_X} (hX : hsX X) (z : Int32) (I : Nat → Nat → Int32) (J : Nat → Nat → Int64) : KX8_warm_2 N d n z (mkh X I J) = am_cL (am_G am_prog (N + 30) (d + 1) 171 [.int (nI 16), .int z] (mkh X I J)) (KX8_warm_3 N d n z) := by
  obtain ⟨L, he, sp, t1, t2⟩ := X
  rcases hX with ⟨h1, h2⟩ | ⟨h1, h2⟩ <;> (change he = _ at h1; change sp = _ at h2; subst h1; subst h2) <;> rfl
set_option maxHeartbeats 4000000 in
set_option maxRecDepth 100000 in
theorem kX8_warm_3 (N d n : Nat) {X : lt_X} (hX : hsX X) (a0 : Int32) (z : Int64) (I : Nat → Nat → Int32) (J : Nat → Nat → Int64) : KX8_warm_3 N d n a0 z (mkh X I J) = am_cL (am_G am_prog (N + 30) (d + 1) 171 [.int (I X.2.1 2), .int a0] (mkh X I J)) (KX8_warm_4 N d n z) := by
  obtain ⟨L, he, sp, t1, t2⟩ := X
  rcases hX with ⟨h1, h2⟩ | ⟨h1, h2⟩ <;> (change he = _ at h1; change sp = _ at h2; subst h1; subst h2) <;> rfl
set_option maxHeartbeats 4000000 in
set_option maxRecDepth 100000 in
theorem kX8_warm_4 (N d n : Nat) {X : lt_X} (hX : hsX X) (a0 : Int64) (z : Int64) (I : Nat → Nat → Int32) (J : Nat → Nat → Int64) : KX8_warm_4 N d n a0 z (mkh X I J) = am_cV (am_G am_prog (N + 30) (d + 1) 172 [.ref 3, .long (a0 - z), .long a0] (mkh X I J)) (KX8_warm_5 N d n ) := by
  obtain ⟨L, he, sp, t1, t2⟩ := X
  rcases hX with ⟨h1, h2⟩ | ⟨h1, h2⟩ <;> (change he = _ at h1; change sp = _ at h2; subst h1; subst h2) <;> rfl
set_option maxHeartbeats 4000000 in
set_option maxRecDepth 100000 in
theorem kX8_warm_5 (N d n : Nat) {X : lt_X} (hX : hsX X) (I : Nat → Nat → Int32) (J : Nat → Nat → Int64) : KX8_warm_5 N d n (mkh X I J) = some (.int (nI 1), (mkh X (u2 I 3 15 (nI 0)) J)) := by
  obtain ⟨L, he, sp, t1, t2⟩ := X
  rcases hX with ⟨h1, h2⟩ | ⟨h1, h2⟩ <;> (change he = _ at h1; change sp = _ at h2; subst h1; subst h2) <;> rfl
theorem fX8_warm (N d : Nat) {X : lt_X} (x1 : Int32) (I : Nat → Nat → Int32) (J : Nat → Nat → Int64) : am_G am_prog N (d + 1) 170 [.ref 3, .int x1] (mkh X I J) = am_run (am_G am_prog N d) eX8_warm uX8_warm N 0 [(0, .ref 3), (1, .int x1)] [] (mkh X I J) := by
  refine (am_G_at N d 170 mX8_warm _ _ rfl).trans ?_
  rfl
theorem gX8_warm (N d : Nat) {X : lt_X} (x1 : Int32) (I : Nat → Nat → Int32) (J : Nat → Nat → Int64) : am_G am_prog (N + 30) (d + 2) 170 [.ref 3, .int x1] (mkh X I J) = RX8_warm_0 N d (N + 30) X x1 I J := fX8_warm (N + 30) (d + 1) x1 I J
def RX8_power_0 (N d n : Nat) (X : lt_X) (x0 : Int32) (x1 : Int32) (I : Nat → Nat → Int32) (J : Nat → Nat → Int64) : am_O := am_run (am_G am_prog (N + 30) (d + 0)) eX8_power uX8_power n 0 [(0, .int x0), (1, .int x1)] [] (mkh X I J)
def RX8_power_5 (N d n : Nat) (X : lt_X) (x0 : Int32) (x1 : Int32) (x2 : Int64) (x4 : Int32) (I : Nat → Nat → Int32) (J : Nat → Nat → Int64) : am_O := am_run (am_G am_prog (N + 30) (d + 0)) eX8_power uX8_power n 5 [(0, .int x0), (1, .int x1), (2, .long x2), (4, .int x4)] [] (mkh X I J)
set_option maxHeartbeats 4000000 in
set_option maxRecDepth 100000 in
theorem sX8_power_0 (N d n : Nat) {X : lt_X} (hX : hsX X) (x0 : Int32) (x1 : Int32) (I : Nat → Nat → Int32) (J : Nat → Nat → Int64) : RX8_power_0 N d (n + 1) X x0 x1 I J = RX8_power_5 N d n X x0 x1 (lN 1) (nI 0) I J := by
  obtain ⟨L, he, sp, t1, t2⟩ := X
  rcases hX with ⟨h1, h2⟩ | ⟨h1, h2⟩ <;> (change he = _ at h1; change sp = _ at h2; subst h1; subst h2) <;> rfl
set_option maxHeartbeats 4000000 in
set_option maxRecDepth 100000 in
theorem sX8_power_5 (N d n : Nat) {X : lt_X} (hX : hsX X) (x0 : Int32) (x1 : Int32) (x2 : Int64) (x4 : Int32) (I : Nat → Nat → Int32) (J : Nat → Nat → Int64) : RX8_power_5 N d (n + 1) X x0 x1 x2 x4 I J = if x4 < x1 then RX8_power_5 N d n X x0 x1 (x2 * x0.toInt64) (x4 + (nI 1)) I J else some (.long x2, (mkh X I J)) := by
  obtain ⟨L, he, sp, t1, t2⟩ := X
  rcases hX with ⟨h1, h2⟩ | ⟨h1, h2⟩ <;> (change he = _ at h1; change sp = _ at h2; subst h1; subst h2) <;> rfl
theorem fX8_power (N d : Nat) {X : lt_X} (x0 : Int32) (x1 : Int32) (I : Nat → Nat → Int32) (J : Nat → Nat → Int64) : am_G am_prog N (d + 1) 171 [.int x0, .int x1] (mkh X I J) = am_run (am_G am_prog N d) eX8_power uX8_power N 0 [(0, .int x0), (1, .int x1)] [] (mkh X I J) := by
  refine (am_G_at N d 171 mX8_power _ _ rfl).trans ?_
  rfl
theorem gX8_power (N d : Nat) {X : lt_X} (x0 : Int32) (x1 : Int32) (I : Nat → Nat → Int32) (J : Nat → Nat → Int64) : am_G am_prog (N + 30) (d + 1) 171 [.int x0, .int x1] (mkh X I J) = RX8_power_0 N d (N + 30) X x0 x1 I J := fX8_power (N + 30) (d + 0) x0 x1 I J
def RX8_tell_0 (N d n : Nat) (X : lt_X) (x1 : Int64) (x3 : Int64) (I : Nat → Nat → Int32) (J : Nat → Nat → Int64) : am_O := am_run (am_G am_prog (N + 30) (d + 0)) eX8_tell uX8_tell n 0 [(0, .ref 3), (1, .long x1), (3, .long x3)] [] (mkh X I J)
def RX8_tell_9 (N d n : Nat) (X : lt_X) (x1 : Int64) (x3 : Int64) (x5 : Int64) (x7 : Int64) (x9 : Int32) (I : Nat → Nat → Int32) (J : Nat → Nat → Int64) : am_O := am_run (am_G am_prog (N + 30) (d + 0)) eX8_tell uX8_tell n 9 [(0, .ref 3), (1, .long x1), (3, .long x3), (5, .long x5), (7, .long x7), (9, .int x9)] [] (mkh X I J)
def RX8_tell_58 (N d n : Nat) (X : lt_X) (x1 : Int64) (x3 : Int64) (s0 : Int64) (I : Nat → Nat → Int32) (J : Nat → Nat → Int64) : am_O := am_run (am_G am_prog (N + 30) (d + 0)) eX8_tell uX8_tell n 58 [(0, .ref 3), (1, .long x1), (3, .long x3)] [.long s0] (mkh X I J)
set_option maxHeartbeats 4000000 in
set_option maxRecDepth 100000 in
theorem sX8_tell_0 (N d n : Nat) {X : lt_X} (hX : hsX X) (x1 : Int64) (x3 : Int64) (I : Nat → Nat → Int32) (J : Nat → Nat → Int64) : RX8_tell_0 N d (n + 1) X x1 x3 I J = RX8_tell_9 N d n X x1 x3 x1 x3 (nI 0) I J := by
  obtain ⟨L, he, sp, t1, t2⟩ := X
  rcases hX with ⟨h1, h2⟩ | ⟨h1, h2⟩ <;> (change he = _ at h1; change sp = _ at h2; subst h1; subst h2) <;> rfl
set_option maxHeartbeats 4000000 in
set_option maxRecDepth 100000 in
theorem sX8_tell_9 (N d n : Nat) {X : lt_X} (hX : hsX X) (x1 : Int64) (x3 : Int64) (x5 : Int64) (x7 : Int64) (x9 : Int32) (I : Nat → Nat → Int32) (J : Nat → Nat → Int64) : RX8_tell_9 N d (n + 1) X x1 x3 x5 x7 x9 I J = if x9 < (nI 200) then if (lg_cmp x7 (lN 0)) = nI 0 then if nI 0 < (lg_cmp x5 (lN 0)) then RX8_tell_58 N d n X x1 x3 x5 I J else RX8_tell_58 N d n X x1 x3 (lN 1) I J else am_nzL x7 (RX8_tell_9 N d n X x1 x3 x7 (x5 - x5 / x7 * x7) (x9 + (nI 1)) I J) else if nI 0 < (lg_cmp x5 (lN 0)) then RX8_tell_58 N d n X x1 x3 x5 I J else RX8_tell_58 N d n X x1 x3 (lN 1) I J := by
  obtain ⟨L, he, sp, t1, t2⟩ := X
  rcases hX with ⟨h1, h2⟩ | ⟨h1, h2⟩ <;> (change he = _ at h1; change sp = _ at h2; subst h1; subst h2) <;> rfl
set_option maxHeartbeats 4000000 in
set_option maxRecDepth 100000 in
theorem sX8_tell_58 (N d n : Nat) {X : lt_X} (hX : hsX X) (x1 : Int64) (x3 : Int64) (s0 : Int64) (I : Nat → Nat → Int32) (J : Nat → Nat → Int64) : RX8_tell_58 N d (n + 1) X x1 x3 s0 I J = am_nzL s0 (am_nzL s0 (some (.null, (mkh X I (u2L (u2L J 3 16 (x1 / s0)) 3 17 (x3 / s0)))))) := by
  obtain ⟨L, he, sp, t1, t2⟩ := X
  rcases hX with ⟨h1, h2⟩ | ⟨h1, h2⟩ <;> (change he = _ at h1; change sp = _ at h2; subst h1; subst h2) <;> rfl
theorem fX8_tell (N d : Nat) {X : lt_X} (x1 : Int64) (x3 : Int64) (I : Nat → Nat → Int32) (J : Nat → Nat → Int64) : am_G am_prog N (d + 1) 172 [.ref 3, .long x1, .long x3] (mkh X I J) = am_run (am_G am_prog N d) eX8_tell uX8_tell N 0 [(0, .ref 3), (1, .long x1), (3, .long x3)] [] (mkh X I J) := by
  refine (am_G_at N d 172 mX8_tell _ _ rfl).trans ?_
  rfl
theorem gX8_tell (N d : Nat) {X : lt_X} (x1 : Int64) (x3 : Int64) (I : Nat → Nat → Int32) (J : Nat → Nat → Int64) : am_G am_prog (N + 30) (d + 1) 172 [.ref 3, .long x1, .long x3] (mkh X I J) = RX8_tell_0 N d (N + 30) X x1 x3 I J := fX8_tell (N + 30) (d + 0) x1 x3 I J
def RX8_live_0 (N d n : Nat) (X : lt_X) (x1 : Int32) (I : Nat → Nat → Int32) (J : Nat → Nat → Int64) : am_O := am_run (am_G am_prog (N + 30) (d + 1)) eX8_live uX8_live n 0 [(0, .ref 3), (1, .int x1)] [] (mkh X I J)
def KX8_live_0 (N d n : Nat) (a0 : Int32) (z : Int32) (h : am_H) : am_O := am_gR h 8 3 11 (fun y1 => am_gR h 8 3 3 (fun y2 => am_cV (am_G am_prog (N + 30) (d + 1) 35 [.ref y1, .ref y2, .int a0] h) (fun h3 => am_pZ h3 8 3 13 (nI 1) (fun h4 => am_gR h4 8 3 12 (fun y5 => am_gR h4 8 3 11 (fun y6 => am_gI h4 3 y6 3 (fun y7 => am_tI h4 y5 (nI 0) y7 (fun h8 => am_gR h8 8 3 12 (fun y9 => am_gR h8 8 3 11 (fun y10 => am_gI h8 3 y10 4 (fun y11 => am_tI h8 y9 (nI 1) y11 (fun h12 => am_gR h12 8 3 12 (fun y13 => am_gR h12 8 3 3 (fun y14 => am_cI (am_G am_prog (N + 30) (d + 1) 69 [.ref y14] h12) (fun r16 h15 => am_tI h15 y13 (nI 2) (r16 - z) (fun h17 => am_gR h17 8 3 12 (fun y18 => am_gR h17 8 3 11 (fun y19 => am_gI h17 3 y19 5 (fun y20 => am_tI h17 y18 (nI 3) y20 (fun h21 => am_gR h21 8 3 12 (fun y22 => am_gR h21 8 3 11 (fun y23 => am_gI h21 3 y23 6 (fun y24 => if y24 = nI 0 then am_tI h21 y22 (nI 4) (nI 0) (fun h25 => am_gR h25 8 3 11 (fun y26 => am_gI h25 3 y26 2 (fun y27 => am_cI (am_G am_prog (N + 30) (d + 1) 179 [.ref 3, .int y27] h25) (fun r29 h28 => some (.int r29, h28))))) else am_tI h21 y22 (nI 4) (nI 1) (fun h30 => am_gR h30 8 3 11 (fun y31 => am_gI h30 3 y31 2 (fun y32 => am_cI (am_G am_prog (N + 30) (d + 1) 179 [.ref 3, .int y32] h30) (fun r34 h33 => some (.int r34, h33))))))))))))))))))))))))))))
def KX8_live_1 (N d n : Nat) (a0 : Int32) (h : am_H) : am_O := am_pZ h 8 3 13 (nI 1) (fun h1 => am_gR h1 8 3 12 (fun y2 => am_gR h1 8 3 11 (fun y3 => am_gI h1 3 y3 3 (fun y4 => am_tI h1 y2 (nI 0) y4 (fun h5 => am_gR h5 8 3 12 (fun y6 => am_gR h5 8 3 11 (fun y7 => am_gI h5 3 y7 4 (fun y8 => am_tI h5 y6 (nI 1) y8 (fun h9 => am_gR h9 8 3 12 (fun y10 => am_gR h9 8 3 3 (fun y11 => am_cI (am_G am_prog (N + 30) (d + 1) 69 [.ref y11] h9) (fun r13 h12 => am_tI h12 y10 (nI 2) (r13 - a0) (fun h14 => am_gR h14 8 3 12 (fun y15 => am_gR h14 8 3 11 (fun y16 => am_gI h14 3 y16 5 (fun y17 => am_tI h14 y15 (nI 3) y17 (fun h18 => am_gR h18 8 3 12 (fun y19 => am_gR h18 8 3 11 (fun y20 => am_gI h18 3 y20 6 (fun y21 => if y21 = nI 0 then am_tI h18 y19 (nI 4) (nI 0) (fun h22 => am_gR h22 8 3 11 (fun y23 => am_gI h22 3 y23 2 (fun y24 => am_cI (am_G am_prog (N + 30) (d + 1) 179 [.ref 3, .int y24] h22) (fun r26 h25 => some (.int r26, h25))))) else am_tI h18 y19 (nI 4) (nI 1) (fun h27 => am_gR h27 8 3 11 (fun y28 => am_gI h27 3 y28 2 (fun y29 => am_cI (am_G am_prog (N + 30) (d + 1) 179 [.ref 3, .int y29] h27) (fun r31 h30 => some (.int r31, h30)))))))))))))))))))))))))
def KX8_live_2 (N d n : Nat) (a0 : Int32) (z : Int32) (h : am_H) : am_O := am_tI h 134 (nI 2) (z - a0) (fun h1 => am_gR h1 8 3 12 (fun y2 => am_gR h1 8 3 11 (fun y3 => am_gI h1 3 y3 5 (fun y4 => am_tI h1 y2 (nI 3) y4 (fun h5 => am_gR h5 8 3 12 (fun y6 => am_gR h5 8 3 11 (fun y7 => am_gI h5 3 y7 6 (fun y8 => if y8 = nI 0 then am_tI h5 y6 (nI 4) (nI 0) (fun h9 => am_gR h9 8 3 11 (fun y10 => am_gI h9 3 y10 2 (fun y11 => am_cI (am_G am_prog (N + 30) (d + 1) 179 [.ref 3, .int y11] h9) (fun r13 h12 => some (.int r13, h12))))) else am_tI h5 y6 (nI 4) (nI 1) (fun h14 => am_gR h14 8 3 11 (fun y15 => am_gI h14 3 y15 2 (fun y16 => am_cI (am_G am_prog (N + 30) (d + 1) 179 [.ref 3, .int y16] h14) (fun r18 h17 => some (.int r18, h17)))))))))))))
set_option maxHeartbeats 4000000 in
set_option maxRecDepth 100000 in
theorem sX8_live_0 (N d n : Nat) {X : lt_X} (hX : hsX X) (x1 : Int32) (I : Nat → Nat → Int32) (J : Nat → Nat → Int64) : RX8_live_0 N d (n + 1) X x1 I J = if x1 < nI 0 then some (.int (-1), (mkh X (u2 I 3 15 (nI 5)) J)) else if (nI 9999) < x1 then some (.int (-1), (mkh X (u2 I 3 15 (nI 5)) J)) else if (I (X.2.1 + 14) 5) = nI 0 then some (.int (-1), (mkh X (u2 I 3 15 (nI 8)) J)) else am_cI (am_G am_prog (N + 30) (d + 1) 69 [.ref X.2.1] (mkh X I J)) (KX8_live_0 N d n x1) := by
  obtain ⟨L, he, sp, t1, t2⟩ := X
  rcases hX with ⟨h1, h2⟩ | ⟨h1, h2⟩ <;> (change he = _ at h1; change sp = _ at h2; subst h1; subst h2) <;> rfl
set_option maxHeartbeats 4000000 in
set_option maxRecDepth 100000 in
theorem kX8_live_0 (N d n : Nat) {X : lt_X} (hX : hsX X) (a0 : Int32) (z : Int32) (I : Nat → Nat → Int32) (J : Nat → Nat → Int64) : KX8_live_0 N d n a0 z (mkh X I J) = am_cV (am_G am_prog (N + 30) (d + 1) 35 [.ref 132, .ref X.2.1, .int a0] (mkh X I J)) (KX8_live_1 N d n z) := by
  obtain ⟨L, he, sp, t1, t2⟩ := X
  rcases hX with ⟨h1, h2⟩ | ⟨h1, h2⟩ <;> (change he = _ at h1; change sp = _ at h2; subst h1; subst h2) <;> rfl
set_option maxHeartbeats 4000000 in
set_option maxRecDepth 100000 in
theorem kX8_live_1 (N d n : Nat) {X : lt_X} (hX : hsX X) (a0 : Int32) (I : Nat → Nat → Int32) (J : Nat → Nat → Int64) : KX8_live_1 N d n a0 (mkh X I J) = am_cI (am_G am_prog (N + 30) (d + 1) 69 [.ref X.2.1] (mkh X (u2 (u2 (u2 I 3 13 (nI 1)) 134 0 (I 132 3)) 134 1 (I 132 4)) J)) (KX8_live_2 N d n a0) := by
  obtain ⟨L, he, sp, t1, t2⟩ := X
  rcases hX with ⟨h1, h2⟩ | ⟨h1, h2⟩ <;> (change he = _ at h1; change sp = _ at h2; subst h1; subst h2) <;> rfl
set_option maxHeartbeats 4000000 in
set_option maxRecDepth 100000 in
theorem kX8_live_2 (N d n : Nat) {X : lt_X} (hX : hsX X) (a0 : Int32) (z : Int32) (I : Nat → Nat → Int32) (J : Nat → Nat → Int64) : KX8_live_2 N d n a0 z (mkh X I J) = if (I 132 6) = nI 0 then some (.int (I 132 2), (mkh X (u2 (u2 (u2 (u2 I 134 2 (z - a0)) 134 3 (I 132 5)) 134 4 (nI 0)) 3 15 (nI 0)) J)) else some (.int (I 132 2), (mkh X (u2 (u2 (u2 (u2 I 134 2 (z - a0)) 134 3 (I 132 5)) 134 4 (nI 1)) 3 15 (nI 0)) J)) := by
  obtain ⟨L, he, sp, t1, t2⟩ := X
  rcases hX with ⟨h1, h2⟩ | ⟨h1, h2⟩ <;> (change he = _ at h1; change sp = _ at h2; subst h1; subst h2) <;> rfl
theorem fX8_live (N d : Nat) {X : lt_X} (x1 : Int32) (I : Nat → Nat → Int32) (J : Nat → Nat → Int64) : am_G am_prog N (d + 1) 173 [.ref 3, .int x1] (mkh X I J) = am_run (am_G am_prog N d) eX8_live uX8_live N 0 [(0, .ref 3), (1, .int x1)] [] (mkh X I J) := by
  refine (am_G_at N d 173 mX8_live _ _ rfl).trans ?_
  rfl
theorem gX8_live (N d : Nat) {X : lt_X} (x1 : Int32) (I : Nat → Nat → Int32) (J : Nat → Nat → Int64) : am_G am_prog (N + 30) (d + 2) 173 [.ref 3, .int x1] (mkh X I J) = RX8_live_0 N d (N + 30) X x1 I J := fX8_live (N + 30) (d + 1) x1 I J
def RX8_lived_0 (N d n : Nat) (X : lt_X) (x1 : Int32) (I : Nat → Nat → Int32) (J : Nat → Nat → Int64) : am_O := am_run (am_G am_prog (N + 30) (d + 1)) eX8_lived uX8_lived n 0 [(0, .ref 3), (1, .int x1)] [] (mkh X I J)
set_option maxHeartbeats 4000000 in
set_option maxRecDepth 100000 in
theorem sX8_lived_0 (N d n : Nat) {X : lt_X} (hX : hsX X) (x1 : Int32) (I : Nat → Nat → Int32) (J : Nat → Nat → Int64) : RX8_lived_0 N d (n + 1) X x1 I J = if x1 < nI 0 then some (.int (-1), (mkh X (u2 I 3 15 (nI 5)) J)) else if (nI 4) < x1 then some (.int (-1), (mkh X (u2 I 3 15 (nI 5)) J)) else if (I 3 13) = nI 0 then some (.int (-1), (mkh X (u2 I 3 15 (nI 8)) J)) else if am_in x1 5 then some (.int (I 134 x1.toNatClampNeg), (mkh X (u2 I 3 15 (nI 0)) J)) else none := by
  obtain ⟨L, he, sp, t1, t2⟩ := X
  rcases hX with ⟨h1, h2⟩ | ⟨h1, h2⟩ <;> (change he = _ at h1; change sp = _ at h2; subst h1; subst h2) <;> rfl
theorem fX8_lived (N d : Nat) {X : lt_X} (x1 : Int32) (I : Nat → Nat → Int32) (J : Nat → Nat → Int64) : am_G am_prog N (d + 1) 174 [.ref 3, .int x1] (mkh X I J) = am_run (am_G am_prog N d) eX8_lived uX8_lived N 0 [(0, .ref 3), (1, .int x1)] [] (mkh X I J) := by
  refine (am_G_at N d 174 mX8_lived _ _ rfl).trans ?_
  rfl
theorem gX8_lived (N d : Nat) {X : lt_X} (x1 : Int32) (I : Nat → Nat → Int32) (J : Nat → Nat → Int64) : am_G am_prog (N + 30) (d + 2) 174 [.ref 3, .int x1] (mkh X I J) = RX8_lived_0 N d (N + 30) X x1 I J := fX8_lived (N + 30) (d + 1) x1 I J
def RX8_mean_0 (N d n : Nat) (X : lt_X) (x1 : Int32) (x2 : Int32) (I : Nat → Nat → Int32) (J : Nat → Nat → Int64) : am_O := am_run (am_G am_prog (N + 30) (d + 1)) eX8_mean uX8_mean n 0 [(0, .ref 3), (1, .int x1), (2, .int x2)] [] (mkh X I J)
def RX8_mean_64 (N d n : Nat) (X : lt_X) (x1 : Int32) (x2 : Int32) (x3 : Int64) (x5 : Int32) (I : Nat → Nat → Int32) (J : Nat → Nat → Int64) : am_O := am_run (am_G am_prog (N + 30) (d + 1)) eX8_mean uX8_mean n 64 [(0, .ref 3), (1, .int x1), (2, .int x2), (3, .long x3), (5, .int x5)] [] (mkh X I J)
def KX8_mean_0 (N d n : Nat) (a0 : Int32) (a1 : Int32) (a2 : Int64) (a3 : Int32) (h : am_H) : am_O := am_gR h 8 3 11 (fun y1 => am_gR h 8 3 4 (fun y2 => am_cV (am_G am_prog (N + 30) (d + 1) 35 [.ref y1, .ref y2, .int (a0 + a3)] h) (fun h3 => am_gR h3 8 3 4 (fun y4 => am_cI (am_G am_prog (N + 30) (d + 1) 69 [.ref y4] h3) (fun r6 h5 => am_run (am_G am_prog (N + 30) (d + 1)) eX8_mean uX8_mean n 64 [(0, .ref 3), (1, .int a0), (2, .int a1), (3, .long (a2 + r6.toInt64)), (5, .int (a3 + (nI 1)))] [] h5)))))
def KX8_mean_1 (N d n : Nat) (h : am_H) : am_O := am_cI (am_G am_prog (N + 30) (d + 1) 182 [.ref 3] h) (fun r2 h1 => am_nb r2 (some (.int r2, h1)))
def KX8_mean_2 (N d n : Nat) (a0 : Int32) (a1 : Int32) (a2 : Int64) (a3 : Int32) (h : am_H) : am_O := am_gR h 8 3 4 (fun y1 => am_cI (am_G am_prog (N + 30) (d + 1) 69 [.ref y1] h) (fun r3 h2 => am_run (am_G am_prog (N + 30) (d + 1)) eX8_mean uX8_mean n 64 [(0, .ref 3), (1, .int a0), (2, .int a1), (3, .long (a2 + r3.toInt64)), (5, .int (a3 + (nI 1)))] [] h2))
def KX8_mean_3 (N d n : Nat) (a0 : Int32) (a1 : Int32) (a2 : Int32) (a3 : Int64) (z : Int32) (h : am_H) : am_O := am_run (am_G am_prog (N + 30) (d + 1)) eX8_mean uX8_mean n 64 [(0, .ref 3), (1, .int a0), (2, .int a1), (3, .long (a3 + z.toInt64)), (5, .int (a2 + (nI 1)))] [] h
set_option maxHeartbeats 4000000 in
set_option maxRecDepth 100000 in
theorem sX8_mean_0 (N d n : Nat) {X : lt_X} (hX : hsX X) (x1 : Int32) (x2 : Int32) (I : Nat → Nat → Int32) (J : Nat → Nat → Int64) : RX8_mean_0 N d (n + 1) X x1 x2 I J = if x1 < nI 0 then some (.int (nI 0), (mkh X (u2 I 3 15 (nI 5)) J)) else if (nI 9999) < x1 then some (.int (nI 0), (mkh X (u2 I 3 15 (nI 5)) J)) else if x2 < (nI 1) then some (.int (nI 0), (mkh X (u2 I 3 15 (nI 5)) J)) else if (nI 20) < x2 then some (.int (nI 0), (mkh X (u2 I 3 15 (nI 5)) J)) else if (nI 9999) < ((x1 + x2) - (nI 1)) then some (.int (nI 0), (mkh X (u2 I 3 15 (nI 5)) J)) else if (I (X.2.1 + 14) 5) = nI 0 then some (.int (nI 0), (mkh X (u2 I 3 15 (nI 8)) J)) else RX8_mean_64 N d n X x1 x2 (lN 0) (nI 0) I J := by
  obtain ⟨L, he, sp, t1, t2⟩ := X
  rcases hX with ⟨h1, h2⟩ | ⟨h1, h2⟩ <;> (change he = _ at h1; change sp = _ at h2; subst h1; subst h2) <;> rfl
set_option maxHeartbeats 4000000 in
set_option maxRecDepth 100000 in
theorem sX8_mean_64 (N d n : Nat) {X : lt_X} (hX : hsX X) (x1 : Int32) (x2 : Int32) (x3 : Int64) (x5 : Int32) (I : Nat → Nat → Int32) (J : Nat → Nat → Int64) : RX8_mean_64 N d (n + 1) X x1 x2 x3 x5 I J = if x5 < x2 then am_cV (am_G am_prog (N + 30) (d + 1) 58 [.ref X.2.2.1, .ref X.2.1] (mkh X I J)) (KX8_mean_0 N d n x1 x2 x3 x5) else am_cV (am_G am_prog (N + 30) (d + 1) 172 [.ref 3, .long x3, .long x2.toInt64] (mkh X I J)) (KX8_mean_1 N d n ) := by
  obtain ⟨L, he, sp, t1, t2⟩ := X
  rcases hX with ⟨h1, h2⟩ | ⟨h1, h2⟩ <;> (change he = _ at h1; change sp = _ at h2; subst h1; subst h2) <;> rfl
set_option maxHeartbeats 4000000 in
set_option maxRecDepth 100000 in
theorem kX8_mean_0 (N d n : Nat) {X : lt_X} (hX : hsX X) (a0 : Int32) (a1 : Int32) (a2 : Int64) (a3 : Int32) (I : Nat → Nat → Int32) (J : Nat → Nat → Int64) : KX8_mean_0 N d n a0 a1 a2 a3 (mkh X I J) = am_cV (am_G am_prog (N + 30) (d + 1) 35 [.ref 132, .ref X.2.2.1, .int (a0 + a3)] (mkh X I J)) (KX8_mean_2 N d n a0 a1 a2 a3) := by
  obtain ⟨L, he, sp, t1, t2⟩ := X
  rcases hX with ⟨h1, h2⟩ | ⟨h1, h2⟩ <;> (change he = _ at h1; change sp = _ at h2; subst h1; subst h2) <;> rfl
set_option maxHeartbeats 4000000 in
set_option maxRecDepth 100000 in
theorem kX8_mean_1 (N d n : Nat) {X : lt_X} (hX : hsX X) (I : Nat → Nat → Int32) (J : Nat → Nat → Int64) : KX8_mean_1 N d n (mkh X I J) = some (.int (nI 1), (mkh X (u2 I 3 15 (nI 0)) J)) := by
  obtain ⟨L, he, sp, t1, t2⟩ := X
  rcases hX with ⟨h1, h2⟩ | ⟨h1, h2⟩ <;> (change he = _ at h1; change sp = _ at h2; subst h1; subst h2) <;> rfl
set_option maxHeartbeats 4000000 in
set_option maxRecDepth 100000 in
theorem kX8_mean_2 (N d n : Nat) {X : lt_X} (hX : hsX X) (a0 : Int32) (a1 : Int32) (a2 : Int64) (a3 : Int32) (I : Nat → Nat → Int32) (J : Nat → Nat → Int64) : KX8_mean_2 N d n a0 a1 a2 a3 (mkh X I J) = am_cI (am_G am_prog (N + 30) (d + 1) 69 [.ref X.2.2.1] (mkh X I J)) (KX8_mean_3 N d n a0 a1 a3 a2) := by
  obtain ⟨L, he, sp, t1, t2⟩ := X
  rcases hX with ⟨h1, h2⟩ | ⟨h1, h2⟩ <;> (change he = _ at h1; change sp = _ at h2; subst h1; subst h2) <;> rfl
set_option maxHeartbeats 4000000 in
set_option maxRecDepth 100000 in
theorem kX8_mean_3 (N d n : Nat) {X : lt_X} (hX : hsX X) (a0 : Int32) (a1 : Int32) (a2 : Int32) (a3 : Int64) (z : Int32) (I : Nat → Nat → Int32) (J : Nat → Nat → Int64) : KX8_mean_3 N d n a0 a1 a2 a3 z (mkh X I J) = RX8_mean_64 N d n X a0 a1 (a3 + z.toInt64) (a2 + (nI 1)) I J := by
  obtain ⟨L, he, sp, t1, t2⟩ := X
  rcases hX with ⟨h1, h2⟩ | ⟨h1, h2⟩ <;> (change he = _ at h1; change sp = _ at h2; subst h1; subst h2) <;> rfl
theorem fX8_mean (N d : Nat) {X : lt_X} (x1 : Int32) (x2 : Int32) (I : Nat → Nat → Int32) (J : Nat → Nat → Int64) : am_G am_prog N (d + 1) 175 [.ref 3, .int x1, .int x2] (mkh X I J) = am_run (am_G am_prog N d) eX8_mean uX8_mean N 0 [(0, .ref 3), (1, .int x1), (2, .int x2)] [] (mkh X I J) := by
  refine (am_G_at N d 175 mX8_mean _ _ rfl).trans ?_
  rfl
theorem gX8_mean (N d : Nat) {X : lt_X} (x1 : Int32) (x2 : Int32) (I : Nat → Nat → Int32) (J : Nat → Nat → Int64) : am_G am_prog (N + 30) (d + 2) 175 [.ref 3, .int x1, .int x2] (mkh X I J) = RX8_mean_0 N d (N + 30) X x1 x2 I J := fX8_mean (N + 30) (d + 1) x1 x2 I J
def RX8_mark_0 (N d n : Nat) (X : lt_X) (I : Nat → Nat → Int32) (J : Nat → Nat → Int64) : am_O := am_run (am_G am_prog (N + 30) (d + 1)) eX8_mark uX8_mark n 0 [(0, .ref 3)] [] (mkh X I J)
def KX8_mark_0 (N d n : Nat) (h : am_H) : am_O := am_gI h 8 3 6 (fun y1 => am_pI h 8 3 6 (y1 + (nI 1)) (fun h2 => am_gI h2 8 3 6 (fun y3 => am_cI (am_G am_prog (N + 30) (d + 1) 179 [.ref 3, .int y3] h2) (fun r5 h4 => some (.int r5, h4)))))
set_option maxHeartbeats 4000000 in
set_option maxRecDepth 100000 in
theorem sX8_mark_0 (N d n : Nat) {X : lt_X} (hX : hsX X) (I : Nat → Nat → Int32) (J : Nat → Nat → Int64) : RX8_mark_0 N d (n + 1) X I J = if (I 3 6) < (nI 3) then am_lR (mkh X I J) 14 54 (I 3 6) (fun y1 => am_cV (am_G am_prog (N + 30) (d + 1) 58 [.ref y1, .ref X.2.1] (mkh X I J)) (KX8_mark_0 N d n )) else some (.int (-1), (mkh X (u2 I 3 15 (nI 7)) J)) := by
  obtain ⟨L, he, sp, t1, t2⟩ := X
  rcases hX with ⟨h1, h2⟩ | ⟨h1, h2⟩ <;> (change he = _ at h1; change sp = _ at h2; subst h1; subst h2) <;> rfl
set_option maxHeartbeats 4000000 in
set_option maxRecDepth 100000 in
theorem kX8_mark_0 (N d n : Nat) {X : lt_X} (hX : hsX X) (I : Nat → Nat → Int32) (J : Nat → Nat → Int64) : KX8_mark_0 N d n (mkh X I J) = some (.int ((I 3 6) + (nI 1)), (mkh X (u2 (u2 I 3 6 ((I 3 6) + (nI 1))) 3 15 (nI 0)) J)) := by
  obtain ⟨L, he, sp, t1, t2⟩ := X
  rcases hX with ⟨h1, h2⟩ | ⟨h1, h2⟩ <;> (change he = _ at h1; change sp = _ at h2; subst h1; subst h2) <;> rfl
theorem fX8_mark (N d : Nat) {X : lt_X} (I : Nat → Nat → Int32) (J : Nat → Nat → Int64) : am_G am_prog N (d + 1) 176 [.ref 3] (mkh X I J) = am_run (am_G am_prog N d) eX8_mark uX8_mark N 0 [(0, .ref 3)] [] (mkh X I J) := by
  refine (am_G_at N d 176 mX8_mark _ _ rfl).trans ?_
  rfl
theorem gX8_mark (N d : Nat) {X : lt_X} (I : Nat → Nat → Int32) (J : Nat → Nat → Int64) : am_G am_prog (N + 30) (d + 2) 176 [.ref 3] (mkh X I J) = RX8_mark_0 N d (N + 30) X I J := fX8_mark (N + 30) (d + 1) I J
def RX8_back_0 (N d n : Nat) (X : lt_X) (I : Nat → Nat → Int32) (J : Nat → Nat → Int64) : am_O := am_run (am_G am_prog (N + 30) (d + 1)) eX8_back uX8_back n 0 [(0, .ref 3)] [] (mkh X I J)
def KX8_back_0 (N d n : Nat) (h : am_H) : am_O := am_gI h 8 3 6 (fun y1 => am_cI (am_G am_prog (N + 30) (d + 1) 179 [.ref 3, .int y1] h) (fun r3 h2 => some (.int r3, h2)))
set_option maxHeartbeats 4000000 in
set_option maxRecDepth 100000 in
theorem sX8_back_0 (N d n : Nat) {X : lt_X} (hX : hsX X) (I : Nat → Nat → Int32) (J : Nat → Nat → Int64) : RX8_back_0 N d (n + 1) X I J = if nI 0 < (I 3 6) then am_lR (mkh X (u2 I 3 6 ((I 3 6) - (nI 1))) J) 14 54 ((I 3 6) - (nI 1)) (fun y1 => am_cV (am_G am_prog (N + 30) (d + 1) 58 [.ref X.2.1, .ref y1] (mkh X (u2 I 3 6 ((I 3 6) - (nI 1))) J)) (KX8_back_0 N d n )) else some (.int (-1), (mkh X (u2 I 3 15 (nI 8)) J)) := by
  obtain ⟨L, he, sp, t1, t2⟩ := X
  rcases hX with ⟨h1, h2⟩ | ⟨h1, h2⟩ <;> (change he = _ at h1; change sp = _ at h2; subst h1; subst h2) <;> rfl
set_option maxHeartbeats 4000000 in
set_option maxRecDepth 100000 in
theorem kX8_back_0 (N d n : Nat) {X : lt_X} (hX : hsX X) (I : Nat → Nat → Int32) (J : Nat → Nat → Int64) : KX8_back_0 N d n (mkh X I J) = some (.int (I 3 6), (mkh X (u2 I 3 15 (nI 0)) J)) := by
  obtain ⟨L, he, sp, t1, t2⟩ := X
  rcases hX with ⟨h1, h2⟩ | ⟨h1, h2⟩ <;> (change he = _ at h1; change sp = _ at h2; subst h1; subst h2) <;> rfl
theorem fX8_back (N d : Nat) {X : lt_X} (I : Nat → Nat → Int32) (J : Nat → Nat → Int64) : am_G am_prog N (d + 1) 177 [.ref 3] (mkh X I J) = am_run (am_G am_prog N d) eX8_back uX8_back N 0 [(0, .ref 3)] [] (mkh X I J) := by
  refine (am_G_at N d 177 mX8_back _ _ rfl).trans ?_
  rfl
theorem gX8_back (N d : Nat) {X : lt_X} (I : Nat → Nat → Int32) (J : Nat → Nat → Int64) : am_G am_prog (N + 30) (d + 2) 177 [.ref 3] (mkh X I J) = RX8_back_0 N d (N + 30) X I J := fX8_back (N + 30) (d + 1) I J
def RX8_has_0 (N d n : Nat) (X : lt_X) (x1 : Int32) (x2 : Int32) (I : Nat → Nat → Int32) (J : Nat → Nat → Int64) : am_O := am_run (am_G am_prog (N + 30) (d + 0)) eX8_has uX8_has n 0 [(0, .ref 3), (1, .int x1), (2, .int x2)] [] (mkh X I J)
set_option maxHeartbeats 4000000 in
set_option maxRecDepth 100000 in
theorem sX8_has_0 (N d n : Nat) {X : lt_X} (hX : hsX X) (x1 : Int32) (x2 : Int32) (I : Nat → Nat → Int32) (J : Nat → Nat → Int64) : RX8_has_0 N d (n + 1) X x1 x2 I J = if x2 < nI 0 then some (.int (nI 0), (mkh X I J)) else if am_in x1 4 then if x2 < (I (X.2.1 + 2) x1.toNatClampNeg) then some (.int (nI 1), (mkh X I J)) else some (.int (nI 0), (mkh X I J)) else none := by
  obtain ⟨L, he, sp, t1, t2⟩ := X
  rcases hX with ⟨h1, h2⟩ | ⟨h1, h2⟩ <;> (change he = _ at h1; change sp = _ at h2; subst h1; subst h2) <;> rfl
theorem fX8_has (N d : Nat) {X : lt_X} (x1 : Int32) (x2 : Int32) (I : Nat → Nat → Int32) (J : Nat → Nat → Int64) : am_G am_prog N (d + 1) 178 [.ref 3, .int x1, .int x2] (mkh X I J) = am_run (am_G am_prog N d) eX8_has uX8_has N 0 [(0, .ref 3), (1, .int x1), (2, .int x2)] [] (mkh X I J) := by
  refine (am_G_at N d 178 mX8_has _ _ rfl).trans ?_
  rfl
theorem gX8_has (N d : Nat) {X : lt_X} (x1 : Int32) (x2 : Int32) (I : Nat → Nat → Int32) (J : Nat → Nat → Int64) : am_G am_prog (N + 30) (d + 1) 178 [.ref 3, .int x1, .int x2] (mkh X I J) = RX8_has_0 N d (N + 30) X x1 x2 I J := fX8_has (N + 30) (d + 0) x1 x2 I J
def RX8_answer_0 (N d n : Nat) (X : lt_X) (x1 : Int32) (I : Nat → Nat → Int32) (J : Nat → Nat → Int64) : am_O := am_run (am_G am_prog (N + 30) (d + 0)) eX8_answer uX8_answer n 0 [(0, .ref 3), (1, .int x1)] [] (mkh X I J)
set_option maxHeartbeats 4000000 in
set_option maxRecDepth 100000 in
theorem sX8_answer_0 (N d n : Nat) {X : lt_X} (hX : hsX X) (x1 : Int32) (I : Nat → Nat → Int32) (J : Nat → Nat → Int64) : RX8_answer_0 N d (n + 1) X x1 I J = some (.int x1, (mkh X (u2 I 3 15 (nI 0)) J)) := by
  obtain ⟨L, he, sp, t1, t2⟩ := X
  rcases hX with ⟨h1, h2⟩ | ⟨h1, h2⟩ <;> (change he = _ at h1; change sp = _ at h2; subst h1; subst h2) <;> rfl
theorem fX8_answer (N d : Nat) {X : lt_X} (x1 : Int32) (I : Nat → Nat → Int32) (J : Nat → Nat → Int64) : am_G am_prog N (d + 1) 179 [.ref 3, .int x1] (mkh X I J) = am_run (am_G am_prog N d) eX8_answer uX8_answer N 0 [(0, .ref 3), (1, .int x1)] [] (mkh X I J) := by
  refine (am_G_at N d 179 mX8_answer _ _ rfl).trans ?_
  rfl
theorem gX8_answer (N d : Nat) {X : lt_X} (x1 : Int32) (I : Nat → Nat → Int32) (J : Nat → Nat → Int64) : am_G am_prog (N + 30) (d + 1) 179 [.ref 3, .int x1] (mkh X I J) = RX8_answer_0 N d (N + 30) X x1 I J := fX8_answer (N + 30) (d + 0) x1 I J
def RX8_answerIfAny_0 (N d n : Nat) (X : lt_X) (x1 : Int32) (I : Nat → Nat → Int32) (J : Nat → Nat → Int64) : am_O := am_run (am_G am_prog (N + 30) (d + 1)) eX8_answerIfAny uX8_answerIfAny n 0 [(0, .ref 3), (1, .int x1)] [] (mkh X I J)
set_option maxHeartbeats 4000000 in
set_option maxRecDepth 100000 in
theorem sX8_answerIfAny_0 (N d n : Nat) {X : lt_X} (hX : hsX X) (x1 : Int32) (I : Nat → Nat → Int32) (J : Nat → Nat → Int64) : RX8_answerIfAny_0 N d (n + 1) X x1 I J = if x1 = (-1) then some (.int (-1), (mkh X (u2 I 3 15 (nI 8)) J)) else some (.int x1, (mkh X (u2 I 3 15 (nI 0)) J)) := by
  obtain ⟨L, he, sp, t1, t2⟩ := X
  rcases hX with ⟨h1, h2⟩ | ⟨h1, h2⟩ <;> (change he = _ at h1; change sp = _ at h2; subst h1; subst h2) <;> rfl
theorem fX8_answerIfAny (N d : Nat) {X : lt_X} (x1 : Int32) (I : Nat → Nat → Int32) (J : Nat → Nat → Int64) : am_G am_prog N (d + 1) 180 [.ref 3, .int x1] (mkh X I J) = am_run (am_G am_prog N d) eX8_answerIfAny uX8_answerIfAny N 0 [(0, .ref 3), (1, .int x1)] [] (mkh X I J) := by
  refine (am_G_at N d 180 mX8_answerIfAny _ _ rfl).trans ?_
  rfl
theorem gX8_answerIfAny (N d : Nat) {X : lt_X} (x1 : Int32) (I : Nat → Nat → Int32) (J : Nat → Nat → Int64) : am_G am_prog (N + 30) (d + 2) 180 [.ref 3, .int x1] (mkh X I J) = RX8_answerIfAny_0 N d (N + 30) X x1 I J := fX8_answerIfAny (N + 30) (d + 1) x1 I J
def RX8_refuse_0 (N d n : Nat) (X : lt_X) (x1 : Int32) (I : Nat → Nat → Int32) (J : Nat → Nat → Int64) : am_O := am_run (am_G am_prog (N + 30) (d + 0)) eX8_refuse uX8_refuse n 0 [(0, .ref 3), (1, .int x1)] [] (mkh X I J)
set_option maxHeartbeats 4000000 in
set_option maxRecDepth 100000 in
theorem sX8_refuse_0 (N d n : Nat) {X : lt_X} (hX : hsX X) (x1 : Int32) (I : Nat → Nat → Int32) (J : Nat → Nat → Int64) : RX8_refuse_0 N d (n + 1) X x1 I J = some (.int (-1), (mkh X (u2 I 3 15 x1) J)) := by
  obtain ⟨L, he, sp, t1, t2⟩ := X
  rcases hX with ⟨h1, h2⟩ | ⟨h1, h2⟩ <;> (change he = _ at h1; change sp = _ at h2; subst h1; subst h2) <;> rfl
theorem fX8_refuse (N d : Nat) {X : lt_X} (x1 : Int32) (I : Nat → Nat → Int32) (J : Nat → Nat → Int64) : am_G am_prog N (d + 1) 181 [.ref 3, .int x1] (mkh X I J) = am_run (am_G am_prog N d) eX8_refuse uX8_refuse N 0 [(0, .ref 3), (1, .int x1)] [] (mkh X I J) := by
  refine (am_G_at N d 181 mX8_refuse _ _ rfl).trans ?_
  rfl
theorem gX8_refuse (N d : Nat) {X : lt_X} (x1 : Int32) (I : Nat → Nat → Int32) (J : Nat → Nat → Int64) : am_G am_prog (N + 30) (d + 1) 181 [.ref 3, .int x1] (mkh X I J) = RX8_refuse_0 N d (N + 30) X x1 I J := fX8_refuse (N + 30) (d + 0) x1 I J
def RX8_agree_0 (N d n : Nat) (X : lt_X) (I : Nat → Nat → Int32) (J : Nat → Nat → Int64) : am_O := am_run (am_G am_prog (N + 30) (d + 0)) eX8_agree uX8_agree n 0 [(0, .ref 3)] [] (mkh X I J)
set_option maxHeartbeats 4000000 in
set_option maxRecDepth 100000 in
theorem sX8_agree_0 (N d n : Nat) {X : lt_X} (hX : hsX X) (I : Nat → Nat → Int32) (J : Nat → Nat → Int64) : RX8_agree_0 N d (n + 1) X I J = some (.int (nI 1), (mkh X (u2 I 3 15 (nI 0)) J)) := by
  obtain ⟨L, he, sp, t1, t2⟩ := X
  rcases hX with ⟨h1, h2⟩ | ⟨h1, h2⟩ <;> (change he = _ at h1; change sp = _ at h2; subst h1; subst h2) <;> rfl
theorem fX8_agree (N d : Nat) {X : lt_X} (I : Nat → Nat → Int32) (J : Nat → Nat → Int64) : am_G am_prog N (d + 1) 182 [.ref 3] (mkh X I J) = am_run (am_G am_prog N d) eX8_agree uX8_agree N 0 [(0, .ref 3)] [] (mkh X I J) := by
  refine (am_G_at N d 182 mX8_agree _ _ rfl).trans ?_
  rfl
theorem gX8_agree (N d : Nat) {X : lt_X} (I : Nat → Nat → Int32) (J : Nat → Nat → Int64) : am_G am_prog (N + 30) (d + 1) 182 [.ref 3] (mkh X I J) = RX8_agree_0 N d (N + 30) X I J := fX8_agree (N + 30) (d + 0) I J
def RX8_deny_0 (N d n : Nat) (X : lt_X) (x1 : Int32) (I : Nat → Nat → Int32) (J : Nat → Nat → Int64) : am_O := am_run (am_G am_prog (N + 30) (d + 0)) eX8_deny uX8_deny n 0 [(0, .ref 3), (1, .int x1)] [] (mkh X I J)
set_option maxHeartbeats 4000000 in
set_option maxRecDepth 100000 in
theorem sX8_deny_0 (N d n : Nat) {X : lt_X} (hX : hsX X) (x1 : Int32) (I : Nat → Nat → Int32) (J : Nat → Nat → Int64) : RX8_deny_0 N d (n + 1) X x1 I J = some (.int (nI 0), (mkh X (u2 I 3 15 x1) J)) := by
  obtain ⟨L, he, sp, t1, t2⟩ := X
  rcases hX with ⟨h1, h2⟩ | ⟨h1, h2⟩ <;> (change he = _ at h1; change sp = _ at h2; subst h1; subst h2) <;> rfl
theorem fX8_deny (N d : Nat) {X : lt_X} (x1 : Int32) (I : Nat → Nat → Int32) (J : Nat → Nat → Int64) : am_G am_prog N (d + 1) 183 [.ref 3, .int x1] (mkh X I J) = am_run (am_G am_prog N d) eX8_deny uX8_deny N 0 [(0, .ref 3), (1, .int x1)] [] (mkh X I J) := by
  refine (am_G_at N d 183 mX8_deny _ _ rfl).trans ?_
  rfl
theorem gX8_deny (N d : Nat) {X : lt_X} (x1 : Int32) (I : Nat → Nat → Int32) (J : Nat → Nat → Int64) : am_G am_prog (N + 30) (d + 1) 183 [.ref 3, .int x1] (mkh X I J) = RX8_deny_0 N d (N + 30) X x1 I J := fX8_deny (N + 30) (d + 0) x1 I J
