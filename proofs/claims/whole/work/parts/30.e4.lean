/-! printed by wip/whole/eqs4.py (sym4.py) -/
def RX2_readsFor_0 (N d n : Nat) (X : lt_X) (I : Nat → Nat → Int32) (J : Nat → Nat → Int64) : am_O := am_run (am_G am_prog (N + 30) (d + 1)) eX2_readsFor uX2_readsFor n 0 [(0, .ref 118), (1, .ref X.2.1)] [] (mkh X I J)
def RX2_readsFor_19 (N d n : Nat) (X : lt_X) (x2 : Int32) (I : Nat → Nat → Int32) (J : Nat → Nat → Int64) : am_O := am_run (am_G am_prog (N + 30) (d + 1)) eX2_readsFor uX2_readsFor n 19 [(0, .ref 118), (2, .int x2)] [] (mkh X I J)
def RX2_readsFor_51 (N d n : Nat) (X : lt_X) (I : Nat → Nat → Int32) (J : Nat → Nat → Int64) : am_O := am_run (am_G am_prog (N + 30) (d + 1)) eX2_readsFor uX2_readsFor n 51 [(0, .ref 118)] [] (mkh X I J)
def KX2_readsFor_0 (N d n : Nat) (a0 : Int32) (z : Int32) (h : am_H) : am_O := if z = nI 0 then some (.int (nI 0), h) else am_run (am_G am_prog (N + 30) (d + 1)) eX2_readsFor uX2_readsFor n 19 [(0, .ref 118), (2, .int (a0 + (nI 1)))] [] h
def KX2_readsFor_1 (N d n : Nat) (z : Int32) (h : am_H) : am_O := if z = nI 0 then some (.int (nI 0), h) else some (.int (nI 1), h)
set_option maxHeartbeats 4000000 in
set_option maxRecDepth 100000 in
theorem sX2_readsFor_0 (N d n : Nat) {X : lt_X} (hX : hsX X) (I : Nat → Nat → Int32) (J : Nat → Nat → Int64) : RX2_readsFor_0 N d (n + 1) X I J = RX2_readsFor_19 N d n (X.1, X.2.1, X.2.2.1, X.2.2.2.1, some X.2.1) (nI 0) (u2 (u2 (u2 (u2 I 119 5 (nI 0)) 119 6 (nI 0)) 119 7 (nI 0)) 118 3 (nI 0)) J := by
  obtain ⟨L, he, sp, t1, t2⟩ := X
  show _ = am_run (am_G am_prog (N + 30) (d + 1)) eX2_readsFor uX2_readsFor n 19 [(0, Value.ref 118), (2, Value.int (nI 0))] [] (am_sI (am_sI (am_sI (am_sI (mkh (L, he, sp, t1, some he) I J) 119 5 (nI 0)) 119 6 (nI 0)) 119 7 (nI 0)) 118 3 (nI 0))
  rw [← mkh_R118 L he sp he t1 t2]
  rcases hX with ⟨h1, h2⟩ | ⟨h1, h2⟩ <;> (change he = _ at h1; change sp = _ at h2; subst h1; subst h2) <;> rfl
set_option maxHeartbeats 4000000 in
set_option maxRecDepth 100000 in
theorem sX2_readsFor_19 (N d n : Nat) {X : lt_X} (hX : hsX X) (x2 : Int32) (I : Nat → Nat → Int32) (J : Nat → Nat → Int64) : RX2_readsFor_19 N d (n + 1) X x2 I J = if (nI 900) < x2 then RX2_readsFor_51 N d n X I J else if (I 115 4) = nI 0 then RX2_readsFor_51 N d n X I J else am_cI (am_G am_prog (N + 30) (d + 1) 25 [.ref 118] (mkh X I J)) (KX2_readsFor_0 N d n x2) := by
  obtain ⟨L, he, sp, t1, t2⟩ := X
  rcases hX with ⟨h1, h2⟩ | ⟨h1, h2⟩ <;> (change he = _ at h1; change sp = _ at h2; subst h1; subst h2) <;> rfl
set_option maxHeartbeats 4000000 in
set_option maxRecDepth 100000 in
theorem sX2_readsFor_51 (N d n : Nat) {X : lt_X} (hX : hsX X) (I : Nat → Nat → Int32) (J : Nat → Nat → Int64) : RX2_readsFor_51 N d (n + 1) X I J = if (I 118 3) = nI 0 then some (.int (nI 1), (mkh X (u2 I 119 5 (nI 1)) J)) else am_cI (am_G am_prog (N + 30) (d + 1) 50 [.ref 115] (mkh X (u2 I 119 5 (nI 1)) J)) (KX2_readsFor_1 N d n ) := by
  obtain ⟨L, he, sp, t1, t2⟩ := X
  rcases hX with ⟨h1, h2⟩ | ⟨h1, h2⟩ <;> (change he = _ at h1; change sp = _ at h2; subst h1; subst h2) <;> rfl
set_option maxHeartbeats 4000000 in
set_option maxRecDepth 100000 in
theorem kX2_readsFor_0 (N d n : Nat) {X : lt_X} (hX : hsX X) (a0 : Int32) (z : Int32) (I : Nat → Nat → Int32) (J : Nat → Nat → Int64) : KX2_readsFor_0 N d n a0 z (mkh X I J) = if z = nI 0 then some (.int (nI 0), (mkh X I J)) else RX2_readsFor_19 N d n X (a0 + (nI 1)) I J := by
  obtain ⟨L, he, sp, t1, t2⟩ := X
  rcases hX with ⟨h1, h2⟩ | ⟨h1, h2⟩ <;> (change he = _ at h1; change sp = _ at h2; subst h1; subst h2) <;> rfl
set_option maxHeartbeats 4000000 in
set_option maxRecDepth 100000 in
theorem kX2_readsFor_1 (N d n : Nat) {X : lt_X} (hX : hsX X) (z : Int32) (I : Nat → Nat → Int32) (J : Nat → Nat → Int64) : KX2_readsFor_1 N d n z (mkh X I J) = if z = nI 0 then some (.int (nI 0), (mkh X I J)) else some (.int (nI 1), (mkh X I J)) := by
  obtain ⟨L, he, sp, t1, t2⟩ := X
  rcases hX with ⟨h1, h2⟩ | ⟨h1, h2⟩ <;> (change he = _ at h1; change sp = _ at h2; subst h1; subst h2) <;> rfl
theorem fX2_readsFor (N d : Nat) {X : lt_X} (hX : hsX X) (I : Nat → Nat → Int32) (J : Nat → Nat → Int64) : am_G am_prog N (d + 1) 24 [.ref 118, .ref X.2.1] (mkh X I J) = am_run (am_G am_prog N d) eX2_readsFor uX2_readsFor N 0 [(0, .ref 118), (1, .ref X.2.1)] [] (mkh X I J) := by
  refine (am_G_at N d 24 mX2_readsFor _ _ rfl).trans ?_
  obtain ⟨L, he, sp, t1, t2⟩ := X
  rcases hX with ⟨h1, h2⟩ | ⟨h1, h2⟩ <;> (change he = _ at h1; change sp = _ at h2; subst h1; subst h2) <;> rfl
theorem gX2_readsFor (N d : Nat) {X : lt_X} (hX : hsX X) (I : Nat → Nat → Int32) (J : Nat → Nat → Int64) : am_G am_prog (N + 30) (d + 2) 24 [.ref 118, .ref X.2.1] (mkh X I J) = RX2_readsFor_0 N d (N + 30) X I J := fX2_readsFor (N + 30) (d + 1) hX I J
def RX2_readsNext_0 (N d n : Nat) (X : lt_X) (I : Nat → Nat → Int32) (J : Nat → Nat → Int64) : am_O := am_run (am_G am_prog (N + 30) (d + 0)) eX2_readsNext uX2_readsNext n 0 [(0, .ref 118)] [] (mkh X I J)
def RX2_readsNext_26 (N d n : Nat) (X : lt_X) (x1 : Int32) (I : Nat → Nat → Int32) (J : Nat → Nat → Int64) : am_O := am_run (am_G am_prog (N + 30) (d + 0)) eX2_readsNext uX2_readsNext n 26 [(0, .ref 118), (1, .int x1)] [] (mkh X I J)
def RX2_readsNext_105 (N d n : Nat) (X : lt_X) (x1 : Int32) (I : Nat → Nat → Int32) (J : Nat → Nat → Int64) : am_O := am_run (am_G am_prog (N + 30) (d + 0)) eX2_readsNext uX2_readsNext n 105 [(0, .ref 118), (1, .int x1)] [] (mkh X I J)
def RX2_readsNext_134 (N d n : Nat) (X : lt_X) (x2 : Int32) (I : Nat → Nat → Int32) (J : Nat → Nat → Int64) : am_O := am_run (am_G am_prog (N + 30) (d + 0)) eX2_readsNext uX2_readsNext n 134 [(0, .ref 118), (2, .int x2)] [] (mkh X I J)
def KX2_readsNext_0 (N d n : Nat) (z : Int32) (h : am_H) : am_O := am_nb z (some (.int z, h))
def KX2_readsNext_1 (N d n : Nat) (a0 : Int32) (z : Int32) (h : am_H) : am_O := if z = nI 0 then am_gR h 2 118 0 (fun y1 => am_cI (am_G am_prog (N + 30) (d + 0) 50 [.ref y1] h) (fun r3 h2 => am_nb r3 (some (.int r3, h2)))) else am_gR h 2 118 1 (fun y4 => am_gI h 1 y4 7 (fun y5 => if y5 < (nI 30) then am_gR h 2 118 1 (fun y6 => am_gI h 1 y6 6 (fun y7 => if y7 < (nI 60) then if a0 = (nI 120) then am_gI h 2 118 3 (fun y8 => if y8 < (nI 3) then am_run (am_G am_prog (N + 30) (d + 0)) eX2_readsNext uX2_readsNext n 105 [(0, .ref 118), (1, .int a0)] [] h else am_gR h 2 118 0 (fun y9 => am_cI (am_G am_prog (N + 30) (d + 0) 49 [.ref y9, .int (nI 7)] h) (fun r11 h10 => am_nb r11 (some (.int r11, h10))))) else if a0 = (nI 124) then am_gI h 2 118 3 (fun y12 => if y12 < (nI 3) then am_run (am_G am_prog (N + 30) (d + 0)) eX2_readsNext uX2_readsNext n 105 [(0, .ref 118), (1, .int a0)] [] h else am_gR h 2 118 0 (fun y13 => am_cI (am_G am_prog (N + 30) (d + 0) 49 [.ref y13, .int (nI 7)] h) (fun r15 h14 => am_nb r15 (some (.int r15, h14))))) else am_run (am_G am_prog (N + 30) (d + 0)) eX2_readsNext uX2_readsNext n 105 [(0, .ref 118), (1, .int a0)] [] h else am_gR h 2 118 0 (fun y16 => am_cI (am_G am_prog (N + 30) (d + 0) 49 [.ref y16, .int (nI 6)] h) (fun r18 h17 => am_nb r18 (some (.int r18, h17)))))) else am_gR h 2 118 0 (fun y19 => am_cI (am_G am_prog (N + 30) (d + 0) 49 [.ref y19, .int (nI 6)] h) (fun r21 h20 => am_nb r21 (some (.int r21, h20))))))
def KX2_readsNext_2 (N d n : Nat) (a0 : Int32) (z : Int32) (h : am_H) : am_O := am_gR h 2 118 0 (fun y1 => am_cV (am_G am_prog (N + 30) (d + 0) 46 [.ref y1] h) (fun h2 => if a0 = (nI 120) then am_cI (am_G am_prog (N + 30) (d + 0) 29 [.ref 118, .int z] h2) (fun r4 h3 => if r4 = nI 0 then some (.int (nI 0), h3) else am_run (am_G am_prog (N + 30) (d + 0)) eX2_readsNext uX2_readsNext n 134 [(0, .ref 118), (2, .int z)] [] h3) else am_run (am_G am_prog (N + 30) (d + 0)) eX2_readsNext uX2_readsNext n 134 [(0, .ref 118), (2, .int z)] [] h2))
def KX2_readsNext_3 (N d n : Nat) (a0 : Int32) (z : Int32) (h : am_H) : am_O := if z = nI 0 then some (.int (nI 0), h) else am_gR h 2 118 1 (fun y1 => am_gR h 1 y1 3 (fun y2 => am_gR h 2 118 0 (fun y3 => am_gI h 4 y3 8 (fun y4 => am_tI h y2 a0 y4 (fun h5 => am_gR h5 2 118 0 (fun y6 => am_cI (am_G am_prog (N + 30) (d + 0) 51 [.ref y6, .int (nI 59)] h5) (fun r8 h7 => am_nb r8 (some (.int r8, h7)))))))))
def KX2_readsNext_4 (N d n : Nat) (z : Int32) (h : am_H) : am_O := am_nb z (some (.int z, h))
def KX2_readsNext_5 (N d n : Nat) (z : Int32) (h : am_H) : am_O := am_nb z (some (.int z, h))
def KX2_readsNext_6 (N d n : Nat) (z : Int32) (h : am_H) : am_O := am_nb z (some (.int z, h))
def KX2_readsNext_7 (N d n : Nat) (a0 : Int32) (a1 : Int32) (h : am_H) : am_O := if a1 = (nI 120) then am_cI (am_G am_prog (N + 30) (d + 0) 29 [.ref 118, .int a0] h) (fun r2 h1 => if r2 = nI 0 then some (.int (nI 0), h1) else am_run (am_G am_prog (N + 30) (d + 0)) eX2_readsNext uX2_readsNext n 134 [(0, .ref 118), (2, .int a0)] [] h1) else am_run (am_G am_prog (N + 30) (d + 0)) eX2_readsNext uX2_readsNext n 134 [(0, .ref 118), (2, .int a0)] [] h
def KX2_readsNext_8 (N d n : Nat) (z : Int32) (h : am_H) : am_O := am_nb z (some (.int z, h))
def KX2_readsNext_9 (N d n : Nat) (a0 : Int32) (z : Int32) (h : am_H) : am_O := if z = nI 0 then some (.int (nI 0), h) else am_run (am_G am_prog (N + 30) (d + 0)) eX2_readsNext uX2_readsNext n 134 [(0, .ref 118), (2, .int a0)] [] h
set_option maxHeartbeats 4000000 in
set_option maxRecDepth 100000 in
theorem sX2_readsNext_0 (N d n : Nat) {X : lt_X} (hX : hsX X) (hD : X.2.2.2.2 = some X.2.1) (I : Nat → Nat → Int32) (J : Nat → Nat → Int64) : RX2_readsNext_0 N d (n + 1) X I J = if (I 115 4) = (nI 125) then if nI 0 < (I 118 3) then am_cI (am_G am_prog (N + 30) (d + 0) 28 [.ref 118] (mkh X I J)) (KX2_readsNext_0 N d n ) else RX2_readsNext_26 N d n X (I 115 4) I J else RX2_readsNext_26 N d n X (I 115 4) I J := by
  obtain ⟨L, he, sp, t1, t2⟩ := X
  change t2 = some he at hD; subst hD
  rcases hX with ⟨h1, h2⟩ | ⟨h1, h2⟩ <;> (change he = _ at h1; change sp = _ at h2; subst h1; subst h2) <;> rfl
set_option maxHeartbeats 4000000 in
set_option maxRecDepth 100000 in
theorem sX2_readsNext_26 (N d n : Nat) {X : lt_X} (hX : hsX X) (hD : X.2.2.2.2 = some X.2.1) (x1 : Int32) (I : Nat → Nat → Int32) (J : Nat → Nat → Int64) : RX2_readsNext_26 N d (n + 1) X x1 I J = am_cI (am_G am_prog (N + 30) (d + 0) 26 [.int x1] (mkh X I J)) (KX2_readsNext_1 N d n x1) := by
  obtain ⟨L, he, sp, t1, t2⟩ := X
  change t2 = some he at hD; subst hD
  rcases hX with ⟨h1, h2⟩ | ⟨h1, h2⟩ <;> (change he = _ at h1; change sp = _ at h2; subst h1; subst h2) <;> rfl
set_option maxHeartbeats 4000000 in
set_option maxRecDepth 100000 in
theorem sX2_readsNext_105 (N d n : Nat) {X : lt_X} (hX : hsX X) (hD : X.2.2.2.2 = some X.2.1) (x1 : Int32) (I : Nat → Nat → Int32) (J : Nat → Nat → Int64) : RX2_readsNext_105 N d (n + 1) X x1 I J = am_cI (am_G am_prog (N + 30) (d + 0) 27 [.ref 118, .int x1] (mkh X I J)) (KX2_readsNext_2 N d n x1) := by
  obtain ⟨L, he, sp, t1, t2⟩ := X
  change t2 = some he at hD; subst hD
  rcases hX with ⟨h1, h2⟩ | ⟨h1, h2⟩ <;> (change he = _ at h1; change sp = _ at h2; subst h1; subst h2) <;> rfl
set_option maxHeartbeats 4000000 in
set_option maxRecDepth 100000 in
theorem sX2_readsNext_134 (N d n : Nat) {X : lt_X} (hX : hsX X) (hD : X.2.2.2.2 = some X.2.1) (x2 : Int32) (I : Nat → Nat → Int32) (J : Nat → Nat → Int64) : RX2_readsNext_134 N d (n + 1) X x2 I J = am_cI (am_G am_prog (N + 30) (d + 0) 30 [.ref 118, .int x2] (mkh X I J)) (KX2_readsNext_3 N d n x2) := by
  obtain ⟨L, he, sp, t1, t2⟩ := X
  change t2 = some he at hD; subst hD
  rcases hX with ⟨h1, h2⟩ | ⟨h1, h2⟩ <;> (change he = _ at h1; change sp = _ at h2; subst h1; subst h2) <;> rfl
set_option maxHeartbeats 4000000 in
set_option maxRecDepth 100000 in
theorem kX2_readsNext_0 (N d n : Nat) {X : lt_X} (hX : hsX X) (hD : X.2.2.2.2 = some X.2.1) (z : Int32) (I : Nat → Nat → Int32) (J : Nat → Nat → Int64) : KX2_readsNext_0 N d n z (mkh X I J) = am_nb z (some (.int z, (mkh X I J))) := by
  obtain ⟨L, he, sp, t1, t2⟩ := X
  change t2 = some he at hD; subst hD
  rcases hX with ⟨h1, h2⟩ | ⟨h1, h2⟩ <;> (change he = _ at h1; change sp = _ at h2; subst h1; subst h2) <;> rfl
set_option maxHeartbeats 4000000 in
set_option maxRecDepth 100000 in
theorem kX2_readsNext_1 (N d n : Nat) {X : lt_X} (hX : hsX X) (hD : X.2.2.2.2 = some X.2.1) (a0 : Int32) (z : Int32) (I : Nat → Nat → Int32) (J : Nat → Nat → Int64) : KX2_readsNext_1 N d n a0 z (mkh X I J) = if z = nI 0 then am_cI (am_G am_prog (N + 30) (d + 0) 50 [.ref 115] (mkh X I J)) (KX2_readsNext_4 N d n ) else if (I 119 7) < (nI 30) then if (I 119 6) < (nI 60) then if a0 = (nI 120) then if (I 118 3) < (nI 3) then RX2_readsNext_105 N d n X a0 I J else am_cI (am_G am_prog (N + 30) (d + 0) 49 [.ref 115, .int (nI 7)] (mkh X I J)) (KX2_readsNext_5 N d n ) else if a0 = (nI 124) then if (I 118 3) < (nI 3) then RX2_readsNext_105 N d n X a0 I J else am_cI (am_G am_prog (N + 30) (d + 0) 49 [.ref 115, .int (nI 7)] (mkh X I J)) (KX2_readsNext_5 N d n ) else RX2_readsNext_105 N d n X a0 I J else am_cI (am_G am_prog (N + 30) (d + 0) 49 [.ref 115, .int (nI 6)] (mkh X I J)) (KX2_readsNext_6 N d n ) else am_cI (am_G am_prog (N + 30) (d + 0) 49 [.ref 115, .int (nI 6)] (mkh X I J)) (KX2_readsNext_6 N d n ) := by
  obtain ⟨L, he, sp, t1, t2⟩ := X
  change t2 = some he at hD; subst hD
  rcases hX with ⟨h1, h2⟩ | ⟨h1, h2⟩ <;> (change he = _ at h1; change sp = _ at h2; subst h1; subst h2) <;> rfl
set_option maxHeartbeats 4000000 in
set_option maxRecDepth 100000 in
theorem kX2_readsNext_2 (N d n : Nat) {X : lt_X} (hX : hsX X) (hD : X.2.2.2.2 = some X.2.1) (a0 : Int32) (z : Int32) (I : Nat → Nat → Int32) (J : Nat → Nat → Int64) : KX2_readsNext_2 N d n a0 z (mkh X I J) = am_cV (am_G am_prog (N + 30) (d + 0) 46 [.ref 115] (mkh X I J)) (KX2_readsNext_7 N d n z a0) := by
  obtain ⟨L, he, sp, t1, t2⟩ := X
  change t2 = some he at hD; subst hD
  rcases hX with ⟨h1, h2⟩ | ⟨h1, h2⟩ <;> (change he = _ at h1; change sp = _ at h2; subst h1; subst h2) <;> rfl
set_option maxHeartbeats 4000000 in
set_option maxRecDepth 100000 in
theorem kX2_readsNext_3 (N d n : Nat) {X : lt_X} (hX : hsX X) (hD : X.2.2.2.2 = some X.2.1) (a0 : Int32) (z : Int32) (I : Nat → Nat → Int32) (J : Nat → Nat → Int64) : KX2_readsNext_3 N d n a0 z (mkh X I J) = if z = nI 0 then some (.int (nI 0), (mkh X I J)) else if am_in a0 60 then am_cI (am_G am_prog (N + 30) (d + 0) 51 [.ref 115, .int (nI 59)] (mkh X (u2 I 123 a0.toNatClampNeg (I 115 8)) J)) (KX2_readsNext_8 N d n ) else none := by
  obtain ⟨L, he, sp, t1, t2⟩ := X
  change t2 = some he at hD; subst hD
  rcases hX with ⟨h1, h2⟩ | ⟨h1, h2⟩ <;> (change he = _ at h1; change sp = _ at h2; subst h1; subst h2) <;> rfl
set_option maxHeartbeats 4000000 in
set_option maxRecDepth 100000 in
theorem kX2_readsNext_4 (N d n : Nat) {X : lt_X} (hX : hsX X) (hD : X.2.2.2.2 = some X.2.1) (z : Int32) (I : Nat → Nat → Int32) (J : Nat → Nat → Int64) : KX2_readsNext_4 N d n z (mkh X I J) = am_nb z (some (.int z, (mkh X I J))) := by
  obtain ⟨L, he, sp, t1, t2⟩ := X
  change t2 = some he at hD; subst hD
  rcases hX with ⟨h1, h2⟩ | ⟨h1, h2⟩ <;> (change he = _ at h1; change sp = _ at h2; subst h1; subst h2) <;> rfl
set_option maxHeartbeats 4000000 in
set_option maxRecDepth 100000 in
theorem kX2_readsNext_5 (N d n : Nat) {X : lt_X} (hX : hsX X) (hD : X.2.2.2.2 = some X.2.1) (z : Int32) (I : Nat → Nat → Int32) (J : Nat → Nat → Int64) : KX2_readsNext_5 N d n z (mkh X I J) = am_nb z (some (.int z, (mkh X I J))) := by
  obtain ⟨L, he, sp, t1, t2⟩ := X
  change t2 = some he at hD; subst hD
  rcases hX with ⟨h1, h2⟩ | ⟨h1, h2⟩ <;> (change he = _ at h1; change sp = _ at h2; subst h1; subst h2) <;> rfl
set_option maxHeartbeats 4000000 in
set_option maxRecDepth 100000 in
theorem kX2_readsNext_6 (N d n : Nat) {X : lt_X} (hX : hsX X) (hD : X.2.2.2.2 = some X.2.1) (z : Int32) (I : Nat → Nat → Int32) (J : Nat → Nat → Int64) : KX2_readsNext_6 N d n z (mkh X I J) = am_nb z (some (.int z, (mkh X I J))) := by
  obtain ⟨L, he, sp, t1, t2⟩ := X
  change t2 = some he at hD; subst hD
  rcases hX with ⟨h1, h2⟩ | ⟨h1, h2⟩ <;> (change he = _ at h1; change sp = _ at h2; subst h1; subst h2) <;> rfl
set_option maxHeartbeats 4000000 in
set_option maxRecDepth 100000 in
theorem kX2_readsNext_7 (N d n : Nat) {X : lt_X} (hX : hsX X) (hD : X.2.2.2.2 = some X.2.1) (a0 : Int32) (a1 : Int32) (I : Nat → Nat → Int32) (J : Nat → Nat → Int64) : KX2_readsNext_7 N d n a0 a1 (mkh X I J) = if a1 = (nI 120) then am_cI (am_G am_prog (N + 30) (d + 0) 29 [.ref 118, .int a0] (mkh X I J)) (KX2_readsNext_9 N d n a0) else RX2_readsNext_134 N d n X a0 I J := by
  obtain ⟨L, he, sp, t1, t2⟩ := X
  change t2 = some he at hD; subst hD
  rcases hX with ⟨h1, h2⟩ | ⟨h1, h2⟩ <;> (change he = _ at h1; change sp = _ at h2; subst h1; subst h2) <;> rfl
set_option maxHeartbeats 4000000 in
set_option maxRecDepth 100000 in
theorem kX2_readsNext_8 (N d n : Nat) {X : lt_X} (hX : hsX X) (hD : X.2.2.2.2 = some X.2.1) (z : Int32) (I : Nat → Nat → Int32) (J : Nat → Nat → Int64) : KX2_readsNext_8 N d n z (mkh X I J) = am_nb z (some (.int z, (mkh X I J))) := by
  obtain ⟨L, he, sp, t1, t2⟩ := X
  change t2 = some he at hD; subst hD
  rcases hX with ⟨h1, h2⟩ | ⟨h1, h2⟩ <;> (change he = _ at h1; change sp = _ at h2; subst h1; subst h2) <;> rfl
set_option maxHeartbeats 4000000 in
set_option maxRecDepth 100000 in
theorem kX2_readsNext_9 (N d n : Nat) {X : lt_X} (hX : hsX X) (hD : X.2.2.2.2 = some X.2.1) (a0 : Int32) (z : Int32) (I : Nat → Nat → Int32) (J : Nat → Nat → Int64) : KX2_readsNext_9 N d n a0 z (mkh X I J) = if z = nI 0 then some (.int (nI 0), (mkh X I J)) else RX2_readsNext_134 N d n X a0 I J := by
  obtain ⟨L, he, sp, t1, t2⟩ := X
  change t2 = some he at hD; subst hD
  rcases hX with ⟨h1, h2⟩ | ⟨h1, h2⟩ <;> (change he = _ at h1; change sp = _ at h2; subst h1; subst h2) <;> rfl
theorem fX2_readsNext (N d : Nat) {X : lt_X} (I : Nat → Nat → Int32) (J : Nat → Nat → Int64) : am_G am_prog N (d + 1) 25 [.ref 118] (mkh X I J) = am_run (am_G am_prog N d) eX2_readsNext uX2_readsNext N 0 [(0, .ref 118)] [] (mkh X I J) := by
  refine (am_G_at N d 25 mX2_readsNext _ _ rfl).trans ?_
  rfl
theorem gX2_readsNext (N d : Nat) {X : lt_X} (I : Nat → Nat → Int32) (J : Nat → Nat → Int64) : am_G am_prog (N + 30) (d + 1) 25 [.ref 118] (mkh X I J) = RX2_readsNext_0 N d (N + 30) X I J := fX2_readsNext (N + 30) (d + 0) I J
def RX2_isStep_0 (N d n : Nat) (X : lt_X) (x0 : Int32) (I : Nat → Nat → Int32) (J : Nat → Nat → Int64) : am_O := am_run (am_G am_prog (N + 30) (d + 0)) eX2_isStep uX2_isStep n 0 [(0, .int x0)] [] (mkh X I J)
def RX2_isStep_12 (N d n : Nat) (X : lt_X) (x0 : Int32) (I : Nat → Nat → Int32) (J : Nat → Nat → Int64) : am_O := am_run (am_G am_prog (N + 30) (d + 0)) eX2_isStep uX2_isStep n 12 [(0, .int x0)] [] (mkh X I J)
set_option maxHeartbeats 4000000 in
set_option maxRecDepth 100000 in
theorem sX2_isStep_0 (N d n : Nat) {X : lt_X} (hX : hsX X) (hD : X.2.2.2.2 = some X.2.1) (x0 : Int32) (I : Nat → Nat → Int32) (J : Nat → Nat → Int64) : RX2_isStep_0 N d (n + 1) X x0 I J = if x0 < (nI 113) then RX2_isStep_12 N d n X x0 I J else if (nI 120) < x0 then RX2_isStep_12 N d n X x0 I J else some (.int (nI 1), (mkh X I J)) := by
  obtain ⟨L, he, sp, t1, t2⟩ := X
  change t2 = some he at hD; subst hD
  rcases hX with ⟨h1, h2⟩ | ⟨h1, h2⟩ <;> (change he = _ at h1; change sp = _ at h2; subst h1; subst h2) <;> rfl
set_option maxHeartbeats 4000000 in
set_option maxRecDepth 100000 in
theorem sX2_isStep_12 (N d n : Nat) {X : lt_X} (hX : hsX X) (hD : X.2.2.2.2 = some X.2.1) (x0 : Int32) (I : Nat → Nat → Int32) (J : Nat → Nat → Int64) : RX2_isStep_12 N d (n + 1) X x0 I J = if x0 = (nI 124) then some (.int (nI 1), (mkh X I J)) else if x0 = (nI 126) then some (.int (nI 1), (mkh X I J)) else some (.int (nI 0), (mkh X I J)) := by
  obtain ⟨L, he, sp, t1, t2⟩ := X
  change t2 = some he at hD; subst hD
  rcases hX with ⟨h1, h2⟩ | ⟨h1, h2⟩ <;> (change he = _ at h1; change sp = _ at h2; subst h1; subst h2) <;> rfl
theorem fX2_isStep (N d : Nat) {X : lt_X} (x0 : Int32) (I : Nat → Nat → Int32) (J : Nat → Nat → Int64) : am_G am_prog N (d + 1) 26 [.int x0] (mkh X I J) = am_run (am_G am_prog N d) eX2_isStep uX2_isStep N 0 [(0, .int x0)] [] (mkh X I J) := by
  refine (am_G_at N d 26 mX2_isStep _ _ rfl).trans ?_
  rfl
theorem gX2_isStep (N d : Nat) {X : lt_X} (x0 : Int32) (I : Nat → Nat → Int32) (J : Nat → Nat → Int64) : am_G am_prog (N + 30) (d + 1) 26 [.int x0] (mkh X I J) = RX2_isStep_0 N d (N + 30) X x0 I J := fX2_isStep (N + 30) (d + 0) x0 I J
def RX2_adds_0 (N d n : Nat) (X : lt_X) (x1 : Int32) (I : Nat → Nat → Int32) (J : Nat → Nat → Int64) : am_O := am_run (am_G am_prog (N + 30) (d + 0)) eX2_adds uX2_adds n 0 [(0, .ref 118), (1, .int x1)] [] (mkh X I J)
def RX2_adds_56 (N d n : Nat) (X : lt_X) (x2 : Int32) (I : Nat → Nat → Int32) (J : Nat → Nat → Int64) : am_O := am_run (am_G am_prog (N + 30) (d + 0)) eX2_adds uX2_adds n 56 [(0, .ref 118), (2, .int x2)] [] (mkh X I J)
set_option maxHeartbeats 4000000 in
set_option maxRecDepth 100000 in
theorem sX2_adds_0 (N d n : Nat) {X : lt_X} (hX : hsX X) (hD : X.2.2.2.2 = some X.2.1) (x1 : Int32) (I : Nat → Nat → Int32) (J : Nat → Nat → Int64) : RX2_adds_0 N d (n + 1) X x1 I J = if am_in (I 119 6) 60 then if x1 = (nI 120) then RX2_adds_56 N d n X (I 119 6) (u2 (u2 (u2 I 120 ((I 119 6).toNatClampNeg) x1) 119 6 ((I 119 6) + (nI 1))) 119 7 ((I 119 7) + (nI 1))) J else if x1 = (nI 124) then RX2_adds_56 N d n X (I 119 6) (u2 (u2 (u2 I 120 ((I 119 6).toNatClampNeg) x1) 119 6 ((I 119 6) + (nI 1))) 119 7 ((I 119 7) + (nI 1))) J else some (.int (I 119 6), (mkh X (u2 (u2 (u2 I 120 ((I 119 6).toNatClampNeg) x1) 119 6 ((I 119 6) + (nI 1))) 119 7 ((I 119 7) + (nI 1))) J)) else none := by
  obtain ⟨L, he, sp, t1, t2⟩ := X
  change t2 = some he at hD; subst hD
  rcases hX with ⟨h1, h2⟩ | ⟨h1, h2⟩ <;> (change he = _ at h1; change sp = _ at h2; subst h1; subst h2) <;> rfl
set_option maxHeartbeats 4000000 in
set_option maxRecDepth 100000 in
theorem sX2_adds_56 (N d n : Nat) {X : lt_X} (hX : hsX X) (hD : X.2.2.2.2 = some X.2.1) (x2 : Int32) (I : Nat → Nat → Int32) (J : Nat → Nat → Int64) : RX2_adds_56 N d (n + 1) X x2 I J = if am_in (I 118 3) 3 then some (.int x2, (mkh X (u2 (u2 I 125 ((I 118 3).toNatClampNeg) x2) 118 3 ((I 118 3) + (nI 1))) J)) else none := by
  obtain ⟨L, he, sp, t1, t2⟩ := X
  change t2 = some he at hD; subst hD
  rcases hX with ⟨h1, h2⟩ | ⟨h1, h2⟩ <;> (change he = _ at h1; change sp = _ at h2; subst h1; subst h2) <;> rfl
theorem fX2_adds (N d : Nat) {X : lt_X} (x1 : Int32) (I : Nat → Nat → Int32) (J : Nat → Nat → Int64) : am_G am_prog N (d + 1) 27 [.ref 118, .int x1] (mkh X I J) = am_run (am_G am_prog N d) eX2_adds uX2_adds N 0 [(0, .ref 118), (1, .int x1)] [] (mkh X I J) := by
  refine (am_G_at N d 27 mX2_adds _ _ rfl).trans ?_
  rfl
theorem gX2_adds (N d : Nat) {X : lt_X} (x1 : Int32) (I : Nat → Nat → Int32) (J : Nat → Nat → Int64) : am_G am_prog (N + 30) (d + 1) 27 [.ref 118, .int x1] (mkh X I J) = RX2_adds_0 N d (N + 30) X x1 I J := fX2_adds (N + 30) (d + 0) x1 I J
def RX2_readsEnd_0 (N d n : Nat) (X : lt_X) (I : Nat → Nat → Int32) (J : Nat → Nat → Int64) : am_O := am_run (am_G am_prog (N + 30) (d + 0)) eX2_readsEnd uX2_readsEnd n 0 [(0, .ref 118)] [] (mkh X I J)
def KX2_readsEnd_0 (N d n : Nat) (h : am_H) : am_O := am_gR h 2 118 0 (fun y1 => am_cI (am_G am_prog (N + 30) (d + 0) 51 [.ref y1, .int (nI 59)] h) (fun r3 h2 => am_nb r3 (some (.int r3, h2))))
def KX2_readsEnd_1 (N d n : Nat) (z : Int32) (h : am_H) : am_O := am_nb z (some (.int z, h))
def KX2_readsEnd_2 (N d n : Nat) (z : Int32) (h : am_H) : am_O := am_nb z (some (.int z, h))
set_option maxHeartbeats 4000000 in
set_option maxRecDepth 100000 in
theorem sX2_readsEnd_0 (N d n : Nat) {X : lt_X} (hX : hsX X) (hD : X.2.2.2.2 = some X.2.1) (I : Nat → Nat → Int32) (J : Nat → Nat → Int64) : RX2_readsEnd_0 N d (n + 1) X I J = if (I 119 6) < (nI 60) then if am_in (I 119 6) 60 then if am_in ((I 118 3) - (nI 1)) 3 then if am_in (I 119 6) 60 then if am_in ((I 118 3) - (nI 1)) 3 then if am_in (I 125 (((I 118 3) - (nI 1)).toNatClampNeg)) 60 then am_cV (am_G am_prog (N + 30) (d + 0) 46 [.ref 115] (mkh X (u2 (u2 (u2 (u2 (u2 I 118 3 ((I 118 3) - (nI 1))) 120 ((I 119 6).toNatClampNeg) (nI 125)) 124 ((I 119 6).toNatClampNeg) (I 125 (((I 118 3) - (nI 1)).toNatClampNeg))) 124 ((I 125 (((I 118 3) - (nI 1)).toNatClampNeg)).toNatClampNeg) (I 119 6)) 119 6 ((I 119 6) + (nI 1))) J)) (KX2_readsEnd_0 N d n ) else none else none else none else none else none else am_cI (am_G am_prog (N + 30) (d + 0) 50 [.ref 115] (mkh X I J)) (KX2_readsEnd_1 N d n ) := by
  obtain ⟨L, he, sp, t1, t2⟩ := X
  change t2 = some he at hD; subst hD
  rcases hX with ⟨h1, h2⟩ | ⟨h1, h2⟩ <;> (change he = _ at h1; change sp = _ at h2; subst h1; subst h2) <;> rfl
set_option maxHeartbeats 4000000 in
set_option maxRecDepth 100000 in
theorem kX2_readsEnd_0 (N d n : Nat) {X : lt_X} (hX : hsX X) (hD : X.2.2.2.2 = some X.2.1) (I : Nat → Nat → Int32) (J : Nat → Nat → Int64) : KX2_readsEnd_0 N d n (mkh X I J) = am_cI (am_G am_prog (N + 30) (d + 0) 51 [.ref 115, .int (nI 59)] (mkh X I J)) (KX2_readsEnd_2 N d n ) := by
  obtain ⟨L, he, sp, t1, t2⟩ := X
  change t2 = some he at hD; subst hD
  rcases hX with ⟨h1, h2⟩ | ⟨h1, h2⟩ <;> (change he = _ at h1; change sp = _ at h2; subst h1; subst h2) <;> rfl
set_option maxHeartbeats 4000000 in
set_option maxRecDepth 100000 in
theorem kX2_readsEnd_1 (N d n : Nat) {X : lt_X} (hX : hsX X) (hD : X.2.2.2.2 = some X.2.1) (z : Int32) (I : Nat → Nat → Int32) (J : Nat → Nat → Int64) : KX2_readsEnd_1 N d n z (mkh X I J) = am_nb z (some (.int z, (mkh X I J))) := by
  obtain ⟨L, he, sp, t1, t2⟩ := X
  change t2 = some he at hD; subst hD
  rcases hX with ⟨h1, h2⟩ | ⟨h1, h2⟩ <;> (change he = _ at h1; change sp = _ at h2; subst h1; subst h2) <;> rfl
set_option maxHeartbeats 4000000 in
set_option maxRecDepth 100000 in
theorem kX2_readsEnd_2 (N d n : Nat) {X : lt_X} (hX : hsX X) (hD : X.2.2.2.2 = some X.2.1) (z : Int32) (I : Nat → Nat → Int32) (J : Nat → Nat → Int64) : KX2_readsEnd_2 N d n z (mkh X I J) = am_nb z (some (.int z, (mkh X I J))) := by
  obtain ⟨L, he, sp, t1, t2⟩ := X
  change t2 = some he at hD; subst hD
  rcases hX with ⟨h1, h2⟩ | ⟨h1, h2⟩ <;> (change he = _ at h1; change sp = _ at h2; subst h1; subst h2) <;> rfl
theorem fX2_readsEnd (N d : Nat) {X : lt_X} (I : Nat → Nat → Int32) (J : Nat → Nat → Int64) : am_G am_prog N (d + 1) 28 [.ref 118] (mkh X I J) = am_run (am_G am_prog N d) eX2_readsEnd uX2_readsEnd N 0 [(0, .ref 118)] [] (mkh X I J) := by
  refine (am_G_at N d 28 mX2_readsEnd _ _ rfl).trans ?_
  rfl
theorem gX2_readsEnd (N d : Nat) {X : lt_X} (I : Nat → Nat → Int32) (J : Nat → Nat → Int64) : am_G am_prog (N + 30) (d + 1) 28 [.ref 118] (mkh X I J) = RX2_readsEnd_0 N d (N + 30) X I J := fX2_readsEnd (N + 30) (d + 0) I J
def RX2_readsTestWord_0 (N d n : Nat) (X : lt_X) (x1 : Int32) (I : Nat → Nat → Int32) (J : Nat → Nat → Int64) : am_O := am_run (am_G am_prog (N + 30) (d + 0)) eX2_readsTestWord uX2_readsTestWord n 0 [(0, .ref 118), (1, .int x1)] [] (mkh X I J)
def RX2_readsTestWord_34 (N d n : Nat) (X : lt_X) (x1 : Int32) (x2 : Int32) (I : Nat → Nat → Int32) (J : Nat → Nat → Int64) : am_O := am_run (am_G am_prog (N + 30) (d + 0)) eX2_readsTestWord uX2_readsTestWord n 34 [(0, .ref 118), (1, .int x1), (2, .int x2)] [] (mkh X I J)
def KX2_readsTestWord_0 (N d n : Nat) (z : Int32) (h : am_H) : am_O := am_nb z (some (.int z, h))
def KX2_readsTestWord_1 (N d n : Nat) (h : am_H) : am_O := some (.int (nI 1), h)
set_option maxHeartbeats 4000000 in
set_option maxRecDepth 100000 in
theorem sX2_readsTestWord_0 (N d n : Nat) {X : lt_X} (hX : hsX X) (hD : X.2.2.2.2 = some X.2.1) (x1 : Int32) (I : Nat → Nat → Int32) (J : Nat → Nat → Int64) : RX2_readsTestWord_0 N d (n + 1) X x1 I J = if (I 115 4) = (nI 121) then RX2_readsTestWord_34 N d n X x1 (I 115 4) I J else if (I 115 4) = (nI 122) then RX2_readsTestWord_34 N d n X x1 (I 115 4) I J else if (I 115 4) = (nI 123) then RX2_readsTestWord_34 N d n X x1 (I 115 4) I J else am_cI (am_G am_prog (N + 30) (d + 0) 50 [.ref 115] (mkh X I J)) (KX2_readsTestWord_0 N d n ) := by
  obtain ⟨L, he, sp, t1, t2⟩ := X
  change t2 = some he at hD; subst hD
  rcases hX with ⟨h1, h2⟩ | ⟨h1, h2⟩ <;> (change he = _ at h1; change sp = _ at h2; subst h1; subst h2) <;> rfl
set_option maxHeartbeats 4000000 in
set_option maxRecDepth 100000 in
theorem sX2_readsTestWord_34 (N d n : Nat) {X : lt_X} (hX : hsX X) (hD : X.2.2.2.2 = some X.2.1) (x1 : Int32) (x2 : Int32) (I : Nat → Nat → Int32) (J : Nat → Nat → Int64) : RX2_readsTestWord_34 N d (n + 1) X x1 x2 I J = if am_in x1 60 then am_cV (am_G am_prog (N + 30) (d + 0) 46 [.ref 115] (mkh X (u2 I 120 x1.toNatClampNeg x2) J)) (KX2_readsTestWord_1 N d n ) else none := by
  obtain ⟨L, he, sp, t1, t2⟩ := X
  change t2 = some he at hD; subst hD
  rcases hX with ⟨h1, h2⟩ | ⟨h1, h2⟩ <;> (change he = _ at h1; change sp = _ at h2; subst h1; subst h2) <;> rfl
set_option maxHeartbeats 4000000 in
set_option maxRecDepth 100000 in
theorem kX2_readsTestWord_0 (N d n : Nat) {X : lt_X} (hX : hsX X) (hD : X.2.2.2.2 = some X.2.1) (z : Int32) (I : Nat → Nat → Int32) (J : Nat → Nat → Int64) : KX2_readsTestWord_0 N d n z (mkh X I J) = am_nb z (some (.int z, (mkh X I J))) := by
  obtain ⟨L, he, sp, t1, t2⟩ := X
  change t2 = some he at hD; subst hD
  rcases hX with ⟨h1, h2⟩ | ⟨h1, h2⟩ <;> (change he = _ at h1; change sp = _ at h2; subst h1; subst h2) <;> rfl
set_option maxHeartbeats 4000000 in
set_option maxRecDepth 100000 in
theorem kX2_readsTestWord_1 (N d n : Nat) {X : lt_X} (hX : hsX X) (hD : X.2.2.2.2 = some X.2.1) (I : Nat → Nat → Int32) (J : Nat → Nat → Int64) : KX2_readsTestWord_1 N d n (mkh X I J) = some (.int (nI 1), (mkh X I J)) := by
  obtain ⟨L, he, sp, t1, t2⟩ := X
  change t2 = some he at hD; subst hD
  rcases hX with ⟨h1, h2⟩ | ⟨h1, h2⟩ <;> (change he = _ at h1; change sp = _ at h2; subst h1; subst h2) <;> rfl
theorem fX2_readsTestWord (N d : Nat) {X : lt_X} (x1 : Int32) (I : Nat → Nat → Int32) (J : Nat → Nat → Int64) : am_G am_prog N (d + 1) 29 [.ref 118, .int x1] (mkh X I J) = am_run (am_G am_prog N d) eX2_readsTestWord uX2_readsTestWord N 0 [(0, .ref 118), (1, .int x1)] [] (mkh X I J) := by
  refine (am_G_at N d 29 mX2_readsTestWord _ _ rfl).trans ?_
  rfl
theorem gX2_readsTestWord (N d : Nat) {X : lt_X} (x1 : Int32) (I : Nat → Nat → Int32) (J : Nat → Nat → Int64) : am_G am_prog (N + 30) (d + 1) 29 [.ref 118, .int x1] (mkh X I J) = RX2_readsTestWord_0 N d (N + 30) X x1 I J := fX2_readsTestWord (N + 30) (d + 0) x1 I J
def RX2_readsRest_0 (N d n : Nat) (X : lt_X) (x1 : Int32) (I : Nat → Nat → Int32) (J : Nat → Nat → Int64) : am_O := am_run (am_G am_prog (N + 30) (d + 0)) eX2_readsRest uX2_readsRest n 0 [(0, .ref 118), (1, .int x1)] [] (mkh X I J)
def KX2_readsRest_0 (N d n : Nat) (z : Int32) (h : am_H) : am_O := am_nb z (some (.int z, h))
def KX2_readsRest_1 (N d n : Nat) (z : Int32) (h : am_H) : am_O := am_nb z (some (.int z, h))
def KX2_readsRest_2 (N d n : Nat) (a0 : Int32) (z : Int32) (h : am_H) : am_O := if z = nI 0 then some (.int (nI 0), h) else am_cI (am_G am_prog (N + 30) (d + 0) 33 [.ref 118, .int a0, .int (nI 2)] h) (fun r2 h1 => if r2 = nI 0 then some (.int (nI 0), h1) else am_gR h1 2 118 0 (fun y3 => am_cI (am_G am_prog (N + 30) (d + 0) 52 [.ref y3, .int (nI 0), .int (nI 999)] h1) (fun r5 h4 => if r5 = nI 0 then some (.int (nI 0), h4) else some (.int (nI 1), h4))))
def KX2_readsRest_3 (N d n : Nat) (a0 : Int32) (z : Int32) (h : am_H) : am_O := if z = nI 0 then some (.int (nI 0), h) else am_cI (am_G am_prog (N + 30) (d + 0) 33 [.ref 118, .int a0, .int (nI 2)] h) (fun r2 h1 => if r2 = nI 0 then some (.int (nI 0), h1) else some (.int (nI 1), h1))
def KX2_readsRest_4 (N d n : Nat) (z : Int32) (h : am_H) : am_O := am_nb z (some (.int z, h))
def KX2_readsRest_5 (N d n : Nat) (a0 : Int32) (z : Int32) (h : am_H) : am_O := if z = nI 0 then some (.int (nI 0), h) else am_cI (am_G am_prog (N + 30) (d + 0) 31 [.ref 118, .int a0] h) (fun r2 h1 => if r2 = nI 0 then some (.int (nI 0), h1) else am_gR h1 2 118 0 (fun y3 => am_cI (am_G am_prog (N + 30) (d + 0) 52 [.ref y3, .int (nI 0), .int (nI 9999)] h1) (fun r5 h4 => if r5 = nI 0 then some (.int (nI 0), h4) else some (.int (nI 1), h4))))
def KX2_readsRest_6 (N d n : Nat) (a0 : Int32) (z : Int32) (h : am_H) : am_O := if z = nI 0 then some (.int (nI 0), h) else am_cI (am_G am_prog (N + 30) (d + 0) 33 [.ref 118, .int a0, .int (nI 3)] h) (fun r2 h1 => if r2 = nI 0 then some (.int (nI 0), h1) else some (.int (nI 1), h1))
def KX2_readsRest_7 (N d n : Nat) (z : Int32) (h : am_H) : am_O := am_nb z (some (.int z, h))
def KX2_readsRest_8 (N d n : Nat) (z : Int32) (h : am_H) : am_O := if z = nI 0 then some (.int (nI 0), h) else am_gR h 2 118 0 (fun y1 => am_cI (am_G am_prog (N + 30) (d + 0) 52 [.ref y1, .int (nI 0), .int (nI 999)] h) (fun r3 h2 => if r3 = nI 0 then some (.int (nI 0), h2) else some (.int (nI 1), h2)))
def KX2_readsRest_9 (N d n : Nat) (z : Int32) (h : am_H) : am_O := if z = nI 0 then some (.int (nI 0), h) else some (.int (nI 1), h)
def KX2_readsRest_10 (N d n : Nat) (z : Int32) (h : am_H) : am_O := if z = nI 0 then some (.int (nI 0), h) else am_gR h 2 118 0 (fun y1 => am_cI (am_G am_prog (N + 30) (d + 0) 52 [.ref y1, .int (nI 0), .int (nI 9999)] h) (fun r3 h2 => if r3 = nI 0 then some (.int (nI 0), h2) else some (.int (nI 1), h2)))
def KX2_readsRest_11 (N d n : Nat) (z : Int32) (h : am_H) : am_O := if z = nI 0 then some (.int (nI 0), h) else some (.int (nI 1), h)
def KX2_readsRest_12 (N d n : Nat) (z : Int32) (h : am_H) : am_O := if z = nI 0 then some (.int (nI 0), h) else some (.int (nI 1), h)
def KX2_readsRest_13 (N d n : Nat) (z : Int32) (h : am_H) : am_O := if z = nI 0 then some (.int (nI 0), h) else some (.int (nI 1), h)
set_option maxHeartbeats 4000000 in
set_option maxRecDepth 100000 in
theorem sX2_readsRest_0 (N d n : Nat) {X : lt_X} (hX : hsX X) (hD : X.2.2.2.2 = some X.2.1) (x1 : Int32) (I : Nat → Nat → Int32) (J : Nat → Nat → Int64) : RX2_readsRest_0 N d (n + 1) X x1 I J = if am_in x1 60 then if (I 120 x1.toNatClampNeg) = nI 113 then am_cI (am_G am_prog (N + 30) (d + 0) 52 [.ref 115, .int (nI 1), .int (nI 48)] (mkh X I J)) (KX2_readsRest_0 N d n ) else if (I 120 x1.toNatClampNeg) = nI 114 then am_cI (am_G am_prog (N + 30) (d + 0) 52 [.ref 115, .int (nI 1), .int (nI 20)] (mkh X I J)) (KX2_readsRest_1 N d n ) else if (I 120 x1.toNatClampNeg) = nI 115 then am_cI (am_G am_prog (N + 30) (d + 0) 32 [.ref 118, .int x1, .int (nI 3)] (mkh X I J)) (KX2_readsRest_2 N d n x1) else if (I 120 x1.toNatClampNeg) = nI 116 then am_cI (am_G am_prog (N + 30) (d + 0) 32 [.ref 118, .int x1, .int (nI 3)] (mkh X I J)) (KX2_readsRest_3 N d n x1) else if (I 120 x1.toNatClampNeg) = nI 117 then am_cI (am_G am_prog (N + 30) (d + 0) 32 [.ref 118, .int x1, .int (nI 1)] (mkh X I J)) (KX2_readsRest_4 N d n ) else if (I 120 x1.toNatClampNeg) = nI 118 then am_cI (am_G am_prog (N + 30) (d + 0) 32 [.ref 118, .int x1, .int (nI 1)] (mkh X I J)) (KX2_readsRest_4 N d n ) else if (I 120 x1.toNatClampNeg) = nI 119 then some (.int (nI 1), (mkh X I J)) else if (I 120 x1.toNatClampNeg) = nI 120 then some (.int (nI 1), (mkh X I J)) else if (I 120 x1.toNatClampNeg) = nI 121 then am_cI (am_G am_prog (N + 30) (d + 0) 32 [.ref 118, .int x1, .int (nI 2)] (mkh X I J)) (KX2_readsRest_5 N d n x1) else if (I 120 x1.toNatClampNeg) = nI 122 then am_cI (am_G am_prog (N + 30) (d + 0) 32 [.ref 118, .int x1, .int (nI 1)] (mkh X I J)) (KX2_readsRest_4 N d n ) else if (I 120 x1.toNatClampNeg) = nI 123 then am_cI (am_G am_prog (N + 30) (d + 0) 32 [.ref 118, .int x1, .int (nI 2)] (mkh X I J)) (KX2_readsRest_6 N d n x1) else if (I 120 x1.toNatClampNeg) = nI 124 then am_cI (am_G am_prog (N + 30) (d + 0) 52 [.ref 115, .int (nI 1), .int (nI 99)] (mkh X I J)) (KX2_readsRest_7 N d n ) else some (.int (nI 1), (mkh X I J)) else none := by
  obtain ⟨L, he, sp, t1, t2⟩ := X
  change t2 = some he at hD; subst hD
  rcases hX with ⟨h1, h2⟩ | ⟨h1, h2⟩ <;> (change he = _ at h1; change sp = _ at h2; subst h1; subst h2) <;> rfl
set_option maxHeartbeats 4000000 in
set_option maxRecDepth 100000 in
theorem kX2_readsRest_0 (N d n : Nat) {X : lt_X} (hX : hsX X) (hD : X.2.2.2.2 = some X.2.1) (z : Int32) (I : Nat → Nat → Int32) (J : Nat → Nat → Int64) : KX2_readsRest_0 N d n z (mkh X I J) = am_nb z (some (.int z, (mkh X I J))) := by
  obtain ⟨L, he, sp, t1, t2⟩ := X
  change t2 = some he at hD; subst hD
  rcases hX with ⟨h1, h2⟩ | ⟨h1, h2⟩ <;> (change he = _ at h1; change sp = _ at h2; subst h1; subst h2) <;> rfl
set_option maxHeartbeats 4000000 in
set_option maxRecDepth 100000 in
theorem kX2_readsRest_1 (N d n : Nat) {X : lt_X} (hX : hsX X) (hD : X.2.2.2.2 = some X.2.1) (z : Int32) (I : Nat → Nat → Int32) (J : Nat → Nat → Int64) : KX2_readsRest_1 N d n z (mkh X I J) = am_nb z (some (.int z, (mkh X I J))) := by
  obtain ⟨L, he, sp, t1, t2⟩ := X
  change t2 = some he at hD; subst hD
  rcases hX with ⟨h1, h2⟩ | ⟨h1, h2⟩ <;> (change he = _ at h1; change sp = _ at h2; subst h1; subst h2) <;> rfl
set_option maxHeartbeats 4000000 in
set_option maxRecDepth 100000 in
theorem kX2_readsRest_2 (N d n : Nat) {X : lt_X} (hX : hsX X) (hD : X.2.2.2.2 = some X.2.1) (a0 : Int32) (z : Int32) (I : Nat → Nat → Int32) (J : Nat → Nat → Int64) : KX2_readsRest_2 N d n a0 z (mkh X I J) = if z = nI 0 then some (.int (nI 0), (mkh X I J)) else am_cI (am_G am_prog (N + 30) (d + 0) 33 [.ref 118, .int a0, .int (nI 2)] (mkh X I J)) (KX2_readsRest_8 N d n ) := by
  obtain ⟨L, he, sp, t1, t2⟩ := X
  change t2 = some he at hD; subst hD
  rcases hX with ⟨h1, h2⟩ | ⟨h1, h2⟩ <;> (change he = _ at h1; change sp = _ at h2; subst h1; subst h2) <;> rfl
set_option maxHeartbeats 4000000 in
set_option maxRecDepth 100000 in
theorem kX2_readsRest_3 (N d n : Nat) {X : lt_X} (hX : hsX X) (hD : X.2.2.2.2 = some X.2.1) (a0 : Int32) (z : Int32) (I : Nat → Nat → Int32) (J : Nat → Nat → Int64) : KX2_readsRest_3 N d n a0 z (mkh X I J) = if z = nI 0 then some (.int (nI 0), (mkh X I J)) else am_cI (am_G am_prog (N + 30) (d + 0) 33 [.ref 118, .int a0, .int (nI 2)] (mkh X I J)) (KX2_readsRest_9 N d n ) := by
  obtain ⟨L, he, sp, t1, t2⟩ := X
  change t2 = some he at hD; subst hD
  rcases hX with ⟨h1, h2⟩ | ⟨h1, h2⟩ <;> (change he = _ at h1; change sp = _ at h2; subst h1; subst h2) <;> rfl
set_option maxHeartbeats 4000000 in
set_option maxRecDepth 100000 in
theorem kX2_readsRest_4 (N d n : Nat) {X : lt_X} (hX : hsX X) (hD : X.2.2.2.2 = some X.2.1) (z : Int32) (I : Nat → Nat → Int32) (J : Nat → Nat → Int64) : KX2_readsRest_4 N d n z (mkh X I J) = am_nb z (some (.int z, (mkh X I J))) := by
  obtain ⟨L, he, sp, t1, t2⟩ := X
  change t2 = some he at hD; subst hD
  rcases hX with ⟨h1, h2⟩ | ⟨h1, h2⟩ <;> (change he = _ at h1; change sp = _ at h2; subst h1; subst h2) <;> rfl
set_option maxHeartbeats 4000000 in
set_option maxRecDepth 100000 in
theorem kX2_readsRest_5 (N d n : Nat) {X : lt_X} (hX : hsX X) (hD : X.2.2.2.2 = some X.2.1) (a0 : Int32) (z : Int32) (I : Nat → Nat → Int32) (J : Nat → Nat → Int64) : KX2_readsRest_5 N d n a0 z (mkh X I J) = if z = nI 0 then some (.int (nI 0), (mkh X I J)) else am_cI (am_G am_prog (N + 30) (d + 0) 31 [.ref 118, .int a0] (mkh X I J)) (KX2_readsRest_10 N d n ) := by
  obtain ⟨L, he, sp, t1, t2⟩ := X
  change t2 = some he at hD; subst hD
  rcases hX with ⟨h1, h2⟩ | ⟨h1, h2⟩ <;> (change he = _ at h1; change sp = _ at h2; subst h1; subst h2) <;> rfl
set_option maxHeartbeats 4000000 in
set_option maxRecDepth 100000 in
theorem kX2_readsRest_6 (N d n : Nat) {X : lt_X} (hX : hsX X) (hD : X.2.2.2.2 = some X.2.1) (a0 : Int32) (z : Int32) (I : Nat → Nat → Int32) (J : Nat → Nat → Int64) : KX2_readsRest_6 N d n a0 z (mkh X I J) = if z = nI 0 then some (.int (nI 0), (mkh X I J)) else am_cI (am_G am_prog (N + 30) (d + 0) 33 [.ref 118, .int a0, .int (nI 3)] (mkh X I J)) (KX2_readsRest_11 N d n ) := by
  obtain ⟨L, he, sp, t1, t2⟩ := X
  change t2 = some he at hD; subst hD
  rcases hX with ⟨h1, h2⟩ | ⟨h1, h2⟩ <;> (change he = _ at h1; change sp = _ at h2; subst h1; subst h2) <;> rfl
set_option maxHeartbeats 4000000 in
set_option maxRecDepth 100000 in
theorem kX2_readsRest_7 (N d n : Nat) {X : lt_X} (hX : hsX X) (hD : X.2.2.2.2 = some X.2.1) (z : Int32) (I : Nat → Nat → Int32) (J : Nat → Nat → Int64) : KX2_readsRest_7 N d n z (mkh X I J) = am_nb z (some (.int z, (mkh X I J))) := by
  obtain ⟨L, he, sp, t1, t2⟩ := X
  change t2 = some he at hD; subst hD
  rcases hX with ⟨h1, h2⟩ | ⟨h1, h2⟩ <;> (change he = _ at h1; change sp = _ at h2; subst h1; subst h2) <;> rfl
set_option maxHeartbeats 4000000 in
set_option maxRecDepth 100000 in
theorem kX2_readsRest_8 (N d n : Nat) {X : lt_X} (hX : hsX X) (hD : X.2.2.2.2 = some X.2.1) (z : Int32) (I : Nat → Nat → Int32) (J : Nat → Nat → Int64) : KX2_readsRest_8 N d n z (mkh X I J) = if z = nI 0 then some (.int (nI 0), (mkh X I J)) else am_cI (am_G am_prog (N + 30) (d + 0) 52 [.ref 115, .int (nI 0), .int (nI 999)] (mkh X I J)) (KX2_readsRest_12 N d n ) := by
  obtain ⟨L, he, sp, t1, t2⟩ := X
  change t2 = some he at hD; subst hD
  rcases hX with ⟨h1, h2⟩ | ⟨h1, h2⟩ <;> (change he = _ at h1; change sp = _ at h2; subst h1; subst h2) <;> rfl
set_option maxHeartbeats 4000000 in
set_option maxRecDepth 100000 in
theorem kX2_readsRest_9 (N d n : Nat) {X : lt_X} (hX : hsX X) (hD : X.2.2.2.2 = some X.2.1) (z : Int32) (I : Nat → Nat → Int32) (J : Nat → Nat → Int64) : KX2_readsRest_9 N d n z (mkh X I J) = if z = nI 0 then some (.int (nI 0), (mkh X I J)) else some (.int (nI 1), (mkh X I J)) := by
  obtain ⟨L, he, sp, t1, t2⟩ := X
  change t2 = some he at hD; subst hD
  rcases hX with ⟨h1, h2⟩ | ⟨h1, h2⟩ <;> (change he = _ at h1; change sp = _ at h2; subst h1; subst h2) <;> rfl
set_option maxHeartbeats 4000000 in
set_option maxRecDepth 100000 in
theorem kX2_readsRest_10 (N d n : Nat) {X : lt_X} (hX : hsX X) (hD : X.2.2.2.2 = some X.2.1) (z : Int32) (I : Nat → Nat → Int32) (J : Nat → Nat → Int64) : KX2_readsRest_10 N d n z (mkh X I J) = if z = nI 0 then some (.int (nI 0), (mkh X I J)) else am_cI (am_G am_prog (N + 30) (d + 0) 52 [.ref 115, .int (nI 0), .int (nI 9999)] (mkh X I J)) (KX2_readsRest_13 N d n ) := by
  obtain ⟨L, he, sp, t1, t2⟩ := X
  change t2 = some he at hD; subst hD
  rcases hX with ⟨h1, h2⟩ | ⟨h1, h2⟩ <;> (change he = _ at h1; change sp = _ at h2; subst h1; subst h2) <;> rfl
set_option maxHeartbeats 4000000 in
set_option maxRecDepth 100000 in
theorem kX2_readsRest_11 (N d n : Nat) {X : lt_X} (hX : hsX X) (hD : X.2.2.2.2 = some X.2.1) (z : Int32) (I : Nat → Nat → Int32) (J : Nat → Nat → Int64) : KX2_readsRest_11 N d n z (mkh X I J) = if z = nI 0 then some (.int (nI 0), (mkh X I J)) else some (.int (nI 1), (mkh X I J)) := by
  obtain ⟨L, he, sp, t1, t2⟩ := X
  change t2 = some he at hD; subst hD
  rcases hX with ⟨h1, h2⟩ | ⟨h1, h2⟩ <;> (change he = _ at h1; change sp = _ at h2; subst h1; subst h2) <;> rfl
set_option maxHeartbeats 4000000 in
set_option maxRecDepth 100000 in
theorem kX2_readsRest_12 (N d n : Nat) {X : lt_X} (hX : hsX X) (hD : X.2.2.2.2 = some X.2.1) (z : Int32) (I : Nat → Nat → Int32) (J : Nat → Nat → Int64) : KX2_readsRest_12 N d n z (mkh X I J) = if z = nI 0 then some (.int (nI 0), (mkh X I J)) else some (.int (nI 1), (mkh X I J)) := by
  obtain ⟨L, he, sp, t1, t2⟩ := X
  change t2 = some he at hD; subst hD
  rcases hX with ⟨h1, h2⟩ | ⟨h1, h2⟩ <;> (change he = _ at h1; change sp = _ at h2; subst h1; subst h2) <;> rfl
set_option maxHeartbeats 4000000 in
set_option maxRecDepth 100000 in
theorem kX2_readsRest_13 (N d n : Nat) {X : lt_X} (hX : hsX X) (hD : X.2.2.2.2 = some X.2.1) (z : Int32) (I : Nat → Nat → Int32) (J : Nat → Nat → Int64) : KX2_readsRest_13 N d n z (mkh X I J) = if z = nI 0 then some (.int (nI 0), (mkh X I J)) else some (.int (nI 1), (mkh X I J)) := by
  obtain ⟨L, he, sp, t1, t2⟩ := X
  change t2 = some he at hD; subst hD
  rcases hX with ⟨h1, h2⟩ | ⟨h1, h2⟩ <;> (change he = _ at h1; change sp = _ at h2; subst h1; subst h2) <;> rfl
theorem fX2_readsRest (N d : Nat) {X : lt_X} (x1 : Int32) (I : Nat → Nat → Int32) (J : Nat → Nat → Int64) : am_G am_prog N (d + 1) 30 [.ref 118, .int x1] (mkh X I J) = am_run (am_G am_prog N d) eX2_readsRest uX2_readsRest N 0 [(0, .ref 118), (1, .int x1)] [] (mkh X I J) := by
  refine (am_G_at N d 30 mX2_readsRest _ _ rfl).trans ?_
  rfl
theorem gX2_readsRest (N d : Nat) {X : lt_X} (x1 : Int32) (I : Nat → Nat → Int32) (J : Nat → Nat → Int64) : am_G am_prog (N + 30) (d + 1) 30 [.ref 118, .int x1] (mkh X I J) = RX2_readsRest_0 N d (N + 30) X x1 I J := fX2_readsRest (N + 30) (d + 0) x1 I J
def RX2_readsCompares_0 (N d n : Nat) (X : lt_X) (x1 : Int32) (I : Nat → Nat → Int32) (J : Nat → Nat → Int64) : am_O := am_run (am_G am_prog (N + 30) (d + 0)) eX2_readsCompares uX2_readsCompares n 0 [(0, .ref 118), (1, .int x1)] [] (mkh X I J)
def RX2_readsCompares_34 (N d n : Nat) (X : lt_X) (x1 : Int32) (x2 : Int32) (I : Nat → Nat → Int32) (J : Nat → Nat → Int64) : am_O := am_run (am_G am_prog (N + 30) (d + 0)) eX2_readsCompares uX2_readsCompares n 34 [(0, .ref 118), (1, .int x1), (2, .int x2)] [] (mkh X I J)
def KX2_readsCompares_0 (N d n : Nat) (z : Int32) (h : am_H) : am_O := am_nb z (some (.int z, h))
def KX2_readsCompares_1 (N d n : Nat) (h : am_H) : am_O := some (.int (nI 1), h)
set_option maxHeartbeats 4000000 in
set_option maxRecDepth 100000 in
theorem sX2_readsCompares_0 (N d n : Nat) {X : lt_X} (hX : hsX X) (hD : X.2.2.2.2 = some X.2.1) (x1 : Int32) (I : Nat → Nat → Int32) (J : Nat → Nat → Int64) : RX2_readsCompares_0 N d (n + 1) X x1 I J = if (I 115 4) = (nI 60) then RX2_readsCompares_34 N d n X x1 (I 115 4) I J else if (I 115 4) = (nI 62) then RX2_readsCompares_34 N d n X x1 (I 115 4) I J else if (I 115 4) = (nI 61) then RX2_readsCompares_34 N d n X x1 (I 115 4) I J else am_cI (am_G am_prog (N + 30) (d + 0) 50 [.ref 115] (mkh X I J)) (KX2_readsCompares_0 N d n ) := by
  obtain ⟨L, he, sp, t1, t2⟩ := X
  change t2 = some he at hD; subst hD
  rcases hX with ⟨h1, h2⟩ | ⟨h1, h2⟩ <;> (change he = _ at h1; change sp = _ at h2; subst h1; subst h2) <;> rfl
set_option maxHeartbeats 4000000 in
set_option maxRecDepth 100000 in
theorem sX2_readsCompares_34 (N d n : Nat) {X : lt_X} (hX : hsX X) (hD : X.2.2.2.2 = some X.2.1) (x1 : Int32) (x2 : Int32) (I : Nat → Nat → Int32) (J : Nat → Nat → Int64) : RX2_readsCompares_34 N d (n + 1) X x1 x2 I J = if am_in x1 60 then am_cV (am_G am_prog (N + 30) (d + 0) 46 [.ref 115] (mkh X (u2 I 122 x1.toNatClampNeg x2) J)) (KX2_readsCompares_1 N d n ) else none := by
  obtain ⟨L, he, sp, t1, t2⟩ := X
  change t2 = some he at hD; subst hD
  rcases hX with ⟨h1, h2⟩ | ⟨h1, h2⟩ <;> (change he = _ at h1; change sp = _ at h2; subst h1; subst h2) <;> rfl
set_option maxHeartbeats 4000000 in
set_option maxRecDepth 100000 in
theorem kX2_readsCompares_0 (N d n : Nat) {X : lt_X} (hX : hsX X) (hD : X.2.2.2.2 = some X.2.1) (z : Int32) (I : Nat → Nat → Int32) (J : Nat → Nat → Int64) : KX2_readsCompares_0 N d n z (mkh X I J) = am_nb z (some (.int z, (mkh X I J))) := by
  obtain ⟨L, he, sp, t1, t2⟩ := X
  change t2 = some he at hD; subst hD
  rcases hX with ⟨h1, h2⟩ | ⟨h1, h2⟩ <;> (change he = _ at h1; change sp = _ at h2; subst h1; subst h2) <;> rfl
set_option maxHeartbeats 4000000 in
set_option maxRecDepth 100000 in
theorem kX2_readsCompares_1 (N d n : Nat) {X : lt_X} (hX : hsX X) (hD : X.2.2.2.2 = some X.2.1) (I : Nat → Nat → Int32) (J : Nat → Nat → Int64) : KX2_readsCompares_1 N d n (mkh X I J) = some (.int (nI 1), (mkh X I J)) := by
  obtain ⟨L, he, sp, t1, t2⟩ := X
  change t2 = some he at hD; subst hD
  rcases hX with ⟨h1, h2⟩ | ⟨h1, h2⟩ <;> (change he = _ at h1; change sp = _ at h2; subst h1; subst h2) <;> rfl
theorem fX2_readsCompares (N d : Nat) {X : lt_X} (x1 : Int32) (I : Nat → Nat → Int32) (J : Nat → Nat → Int64) : am_G am_prog N (d + 1) 31 [.ref 118, .int x1] (mkh X I J) = am_run (am_G am_prog N d) eX2_readsCompares uX2_readsCompares N 0 [(0, .ref 118), (1, .int x1)] [] (mkh X I J) := by
  refine (am_G_at N d 31 mX2_readsCompares _ _ rfl).trans ?_
  rfl
theorem gX2_readsCompares (N d : Nat) {X : lt_X} (x1 : Int32) (I : Nat → Nat → Int32) (J : Nat → Nat → Int64) : am_G am_prog (N + 30) (d + 1) 31 [.ref 118, .int x1] (mkh X I J) = RX2_readsCompares_0 N d (N + 30) X x1 I J := fX2_readsCompares (N + 30) (d + 0) x1 I J
def RX2_readsFirst_0 (N d n : Nat) (X : lt_X) (x1 : Int32) (x2 : Int32) (I : Nat → Nat → Int32) (J : Nat → Nat → Int64) : am_O := am_run (am_G am_prog (N + 30) (d + 0)) eX2_readsFirst uX2_readsFirst n 0 [(0, .ref 118), (1, .int x1), (2, .int x2)] [] (mkh X I J)
def KX2_readsFirst_0 (N d n : Nat) (a0 : Int32) (z : Int32) (h : am_H) : am_O := if z = nI 0 then some (.int (nI 0), h) else am_gR h 2 118 1 (fun y1 => am_gR h 1 y1 1 (fun y2 => am_gR h 2 118 0 (fun y3 => am_gI h 4 y3 9 (fun y4 => am_tI h y2 a0 y4 (fun h5 => am_gR h5 2 118 0 (fun y6 => am_cV (am_G am_prog (N + 30) (d + 0) 46 [.ref y6] h5) (fun h7 => some (.int (nI 1), h7))))))))
def KX2_readsFirst_1 (N d n : Nat) (h : am_H) : am_O := some (.int (nI 1), h)
set_option maxHeartbeats 4000000 in
set_option maxRecDepth 100000 in
theorem sX2_readsFirst_0 (N d n : Nat) {X : lt_X} (hX : hsX X) (hD : X.2.2.2.2 = some X.2.1) (x1 : Int32) (x2 : Int32) (I : Nat → Nat → Int32) (J : Nat → Nat → Int64) : RX2_readsFirst_0 N d (n + 1) X x1 x2 I J = am_cI (am_G am_prog (N + 30) (d + 0) 53 [.ref 115, .ref X.2.1, .int x2] (mkh X I J)) (KX2_readsFirst_0 N d n x1) := by
  obtain ⟨L, he, sp, t1, t2⟩ := X
  change t2 = some he at hD; subst hD
  rcases hX with ⟨h1, h2⟩ | ⟨h1, h2⟩ <;> (change he = _ at h1; change sp = _ at h2; subst h1; subst h2) <;> rfl
set_option maxHeartbeats 4000000 in
set_option maxRecDepth 100000 in
theorem kX2_readsFirst_0 (N d n : Nat) {X : lt_X} (hX : hsX X) (hD : X.2.2.2.2 = some X.2.1) (a0 : Int32) (z : Int32) (I : Nat → Nat → Int32) (J : Nat → Nat → Int64) : KX2_readsFirst_0 N d n a0 z (mkh X I J) = if z = nI 0 then some (.int (nI 0), (mkh X I J)) else if am_in a0 60 then am_cV (am_G am_prog (N + 30) (d + 0) 46 [.ref 115] (mkh X (u2 I 121 a0.toNatClampNeg (I 115 9)) J)) (KX2_readsFirst_1 N d n ) else none := by
  obtain ⟨L, he, sp, t1, t2⟩ := X
  change t2 = some he at hD; subst hD
  rcases hX with ⟨h1, h2⟩ | ⟨h1, h2⟩ <;> (change he = _ at h1; change sp = _ at h2; subst h1; subst h2) <;> rfl
set_option maxHeartbeats 4000000 in
set_option maxRecDepth 100000 in
theorem kX2_readsFirst_1 (N d n : Nat) {X : lt_X} (hX : hsX X) (hD : X.2.2.2.2 = some X.2.1) (I : Nat → Nat → Int32) (J : Nat → Nat → Int64) : KX2_readsFirst_1 N d n (mkh X I J) = some (.int (nI 1), (mkh X I J)) := by
  obtain ⟨L, he, sp, t1, t2⟩ := X
  change t2 = some he at hD; subst hD
  rcases hX with ⟨h1, h2⟩ | ⟨h1, h2⟩ <;> (change he = _ at h1; change sp = _ at h2; subst h1; subst h2) <;> rfl
theorem fX2_readsFirst (N d : Nat) {X : lt_X} (x1 : Int32) (x2 : Int32) (I : Nat → Nat → Int32) (J : Nat → Nat → Int64) : am_G am_prog N (d + 1) 32 [.ref 118, .int x1, .int x2] (mkh X I J) = am_run (am_G am_prog N d) eX2_readsFirst uX2_readsFirst N 0 [(0, .ref 118), (1, .int x1), (2, .int x2)] [] (mkh X I J) := by
  refine (am_G_at N d 32 mX2_readsFirst _ _ rfl).trans ?_
  rfl
theorem gX2_readsFirst (N d : Nat) {X : lt_X} (x1 : Int32) (x2 : Int32) (I : Nat → Nat → Int32) (J : Nat → Nat → Int64) : am_G am_prog (N + 30) (d + 1) 32 [.ref 118, .int x1, .int x2] (mkh X I J) = RX2_readsFirst_0 N d (N + 30) X x1 x2 I J := fX2_readsFirst (N + 30) (d + 0) x1 x2 I J
def RX2_readsSecond_0 (N d n : Nat) (X : lt_X) (x1 : Int32) (x2 : Int32) (I : Nat → Nat → Int32) (J : Nat → Nat → Int64) : am_O := am_run (am_G am_prog (N + 30) (d + 0)) eX2_readsSecond uX2_readsSecond n 0 [(0, .ref 118), (1, .int x1), (2, .int x2)] [] (mkh X I J)
def KX2_readsSecond_0 (N d n : Nat) (a0 : Int32) (z : Int32) (h : am_H) : am_O := if z = nI 0 then some (.int (nI 0), h) else am_gR h 2 118 1 (fun y1 => am_gR h 1 y1 2 (fun y2 => am_gR h 2 118 0 (fun y3 => am_gI h 4 y3 9 (fun y4 => am_tI h y2 a0 y4 (fun h5 => am_gR h5 2 118 0 (fun y6 => am_cV (am_G am_prog (N + 30) (d + 0) 46 [.ref y6] h5) (fun h7 => some (.int (nI 1), h7))))))))
def KX2_readsSecond_1 (N d n : Nat) (h : am_H) : am_O := some (.int (nI 1), h)
set_option maxHeartbeats 4000000 in
set_option maxRecDepth 100000 in
theorem sX2_readsSecond_0 (N d n : Nat) {X : lt_X} (hX : hsX X) (hD : X.2.2.2.2 = some X.2.1) (x1 : Int32) (x2 : Int32) (I : Nat → Nat → Int32) (J : Nat → Nat → Int64) : RX2_readsSecond_0 N d (n + 1) X x1 x2 I J = am_cI (am_G am_prog (N + 30) (d + 0) 53 [.ref 115, .ref X.2.1, .int x2] (mkh X I J)) (KX2_readsSecond_0 N d n x1) := by
  obtain ⟨L, he, sp, t1, t2⟩ := X
  change t2 = some he at hD; subst hD
  rcases hX with ⟨h1, h2⟩ | ⟨h1, h2⟩ <;> (change he = _ at h1; change sp = _ at h2; subst h1; subst h2) <;> rfl
set_option maxHeartbeats 4000000 in
set_option maxRecDepth 100000 in
theorem kX2_readsSecond_0 (N d n : Nat) {X : lt_X} (hX : hsX X) (hD : X.2.2.2.2 = some X.2.1) (a0 : Int32) (z : Int32) (I : Nat → Nat → Int32) (J : Nat → Nat → Int64) : KX2_readsSecond_0 N d n a0 z (mkh X I J) = if z = nI 0 then some (.int (nI 0), (mkh X I J)) else if am_in a0 60 then am_cV (am_G am_prog (N + 30) (d + 0) 46 [.ref 115] (mkh X (u2 I 122 a0.toNatClampNeg (I 115 9)) J)) (KX2_readsSecond_1 N d n ) else none := by
  obtain ⟨L, he, sp, t1, t2⟩ := X
  change t2 = some he at hD; subst hD
  rcases hX with ⟨h1, h2⟩ | ⟨h1, h2⟩ <;> (change he = _ at h1; change sp = _ at h2; subst h1; subst h2) <;> rfl
set_option maxHeartbeats 4000000 in
set_option maxRecDepth 100000 in
theorem kX2_readsSecond_1 (N d n : Nat) {X : lt_X} (hX : hsX X) (hD : X.2.2.2.2 = some X.2.1) (I : Nat → Nat → Int32) (J : Nat → Nat → Int64) : KX2_readsSecond_1 N d n (mkh X I J) = some (.int (nI 1), (mkh X I J)) := by
  obtain ⟨L, he, sp, t1, t2⟩ := X
  change t2 = some he at hD; subst hD
  rcases hX with ⟨h1, h2⟩ | ⟨h1, h2⟩ <;> (change he = _ at h1; change sp = _ at h2; subst h1; subst h2) <;> rfl
theorem fX2_readsSecond (N d : Nat) {X : lt_X} (x1 : Int32) (x2 : Int32) (I : Nat → Nat → Int32) (J : Nat → Nat → Int64) : am_G am_prog N (d + 1) 33 [.ref 118, .int x1, .int x2] (mkh X I J) = am_run (am_G am_prog N d) eX2_readsSecond uX2_readsSecond N 0 [(0, .ref 118), (1, .int x1), (2, .int x2)] [] (mkh X I J) := by
  refine (am_G_at N d 33 mX2_readsSecond _ _ rfl).trans ?_
  rfl
theorem gX2_readsSecond (N d : Nat) {X : lt_X} (x1 : Int32) (x2 : Int32) (I : Nat → Nat → Int32) (J : Nat → Nat → Int64) : am_G am_prog (N + 30) (d + 1) 33 [.ref 118, .int x1, .int x2] (mkh X I J) = RX2_readsSecond_0 N d (N + 30) X x1 x2 I J := fX2_readsSecond (N + 30) (d + 0) x1 x2 I J
def RX4_open_0 (N d n : Nat) (X : lt_X) (x1 : Int32) (I : Nat → Nat → Int32) (J : Nat → Nat → Int64) : am_O := am_run (am_G am_prog (N + 30) (d + 0)) eX4_open uX4_open n 0 [(0, .ref 115), (1, .int x1)] [] (mkh X I J)
def KX4_open_0 (N d n : Nat) (h : am_H) : am_O := some (.null, h)
set_option maxHeartbeats 4000000 in
set_option maxRecDepth 100000 in
theorem sX4_open_0 (N d n : Nat) {X : lt_X} (x1 : Int32) (I : Nat → Nat → Int32) (J : Nat → Nat → Int64) : RX4_open_0 N d (n + 1) X x1 I J = am_cV (am_G am_prog (N + 30) (d + 0) 46 [.ref 115] (mkh X (u2 (u2 (u2 (u2 I 115 2 (if (nI 900) < x1 then (nI 900) else x1)) 115 3 (nI 0)) 115 10 (nI 0)) 115 11 (-1)) J)) (KX4_open_0 N d n ) := by
  rfl
set_option maxHeartbeats 4000000 in
set_option maxRecDepth 100000 in
theorem kX4_open_0 (N d n : Nat) {X : lt_X} (I : Nat → Nat → Int32) (J : Nat → Nat → Int64) : KX4_open_0 N d n (mkh X I J) = some (.null, (mkh X I J)) := by
  rfl
theorem fX4_open (N d : Nat) {X : lt_X} (x1 : Int32) (I : Nat → Nat → Int32) (J : Nat → Nat → Int64) : am_G am_prog N (d + 1) 45 [.ref 115, .int x1] (mkh X I J) = am_run (am_G am_prog N d) eX4_open uX4_open N 0 [(0, .ref 115), (1, .int x1)] [] (mkh X I J) := by
  refine (am_G_at N d 45 mX4_open _ _ rfl).trans ?_
  rfl
theorem gX4_open (N d : Nat) {X : lt_X} (x1 : Int32) (I : Nat → Nat → Int32) (J : Nat → Nat → Int64) : am_G am_prog (N + 30) (d + 1) 45 [.ref 115, .int x1] (mkh X I J) = RX4_open_0 N d (N + 30) X x1 I J := fX4_open (N + 30) (d + 0) x1 I J
def RX4_advance_0 (N d n : Nat) (X : lt_X) (I : Nat → Nat → Int32) (J : Nat → Nat → Int64) : am_O := am_run (am_G am_prog (N + 30) (d + 0)) eX4_advance uX4_advance n 0 [(0, .ref 115)] [] (mkh X I J)
def RX4_advance_52 (N d n : Nat) (X : lt_X) (I : Nat → Nat → Int32) (J : Nat → Nat → Int64) : am_O := am_run (am_G am_prog (N + 30) (d + 0)) eX4_advance uX4_advance n 52 [(0, .ref 115)] [] (mkh X I J)
def RX4_advance_125 (N d n : Nat) (X : lt_X) (x1 : Int32) (I : Nat → Nat → Int32) (J : Nat → Nat → Int64) : am_O := am_run (am_G am_prog (N + 30) (d + 0)) eX4_advance uX4_advance n 125 [(0, .ref 115), (1, .int x1)] [] (mkh X I J)
def KX4_advance_0 (N d n : Nat) (h : am_H) : am_O := some (.null, h)
def KX4_advance_1 (N d n : Nat) (h : am_H) : am_O := some (.null, h)
set_option maxHeartbeats 4000000 in
set_option maxRecDepth 100000 in
theorem sX4_advance_0 (N d n : Nat) {X : lt_X} (I : Nat → Nat → Int32) (J : Nat → Nat → Int64) : RX4_advance_0 N d (n + 1) X I J = if (I 115 3) < (I 115 2) then if am_in (I 115 3) 900 then if (I 13 ((I 115 3).toNatClampNeg)) = (nI 10) then RX4_advance_0 N d n X (u2 I 115 3 ((I 115 3) + (nI 1))) J else if am_in (I 115 3) 900 then if (I 13 ((I 115 3).toNatClampNeg)) = (nI 32) then RX4_advance_0 N d n X (u2 I 115 3 ((I 115 3) + (nI 1))) J else RX4_advance_52 N d n X I J else none else none else RX4_advance_52 N d n X I J := by
  rfl
set_option maxHeartbeats 4000000 in
set_option maxRecDepth 100000 in
theorem sX4_advance_52 (N d n : Nat) {X : lt_X} (I : Nat → Nat → Int32) (J : Nat → Nat → Int64) : RX4_advance_52 N d (n + 1) X I J = if (I 115 3) < (I 115 2) then if am_in (I 115 3) 900 then if (I 13 ((I 115 3).toNatClampNeg)) < (nI 97) then if (I 13 ((I 115 3).toNatClampNeg)) < (nI 48) then RX4_advance_125 N d n X (I 13 ((I 115 3).toNatClampNeg)) (u2 I 115 5 (I 115 3)) J else if (nI 57) < (I 13 ((I 115 3).toNatClampNeg)) then RX4_advance_125 N d n X (I 13 ((I 115 3).toNatClampNeg)) (u2 I 115 5 (I 115 3)) J else am_cV (am_G am_prog (N + 30) (d + 0) 48 [.ref 115] (mkh X (u2 I 115 5 (I 115 3)) J)) (KX4_advance_0 N d n ) else if (nI 122) < (I 13 ((I 115 3).toNatClampNeg)) then if (I 13 ((I 115 3).toNatClampNeg)) < (nI 48) then RX4_advance_125 N d n X (I 13 ((I 115 3).toNatClampNeg)) (u2 I 115 5 (I 115 3)) J else if (nI 57) < (I 13 ((I 115 3).toNatClampNeg)) then RX4_advance_125 N d n X (I 13 ((I 115 3).toNatClampNeg)) (u2 I 115 5 (I 115 3)) J else am_cV (am_G am_prog (N + 30) (d + 0) 48 [.ref 115] (mkh X (u2 I 115 5 (I 115 3)) J)) (KX4_advance_0 N d n ) else am_cV (am_G am_prog (N + 30) (d + 0) 47 [.ref 115] (mkh X (u2 I 115 5 (I 115 3)) J)) (KX4_advance_1 N d n ) else none else some (.null, (mkh X (u2 (u2 I 115 5 (I 115 3)) 115 4 (nI 0)) J)) := by
  rfl
set_option maxHeartbeats 4000000 in
set_option maxRecDepth 100000 in
theorem sX4_advance_125 (N d n : Nat) {X : lt_X} (x1 : Int32) (I : Nat → Nat → Int32) (J : Nat → Nat → Int64) : RX4_advance_125 N d (n + 1) X x1 I J = if x1 = (nI 59) then some (.null, (mkh X (u2 (u2 I 115 4 x1) 115 3 ((I 115 3) + (nI 1))) J)) else if x1 = (nI 60) then some (.null, (mkh X (u2 (u2 I 115 4 x1) 115 3 ((I 115 3) + (nI 1))) J)) else if x1 = (nI 62) then some (.null, (mkh X (u2 (u2 I 115 4 x1) 115 3 ((I 115 3) + (nI 1))) J)) else if x1 = (nI 61) then some (.null, (mkh X (u2 (u2 I 115 4 x1) 115 3 ((I 115 3) + (nI 1))) J)) else some (.null, (mkh X (u2 (u2 I 115 4 (-1)) 115 3 ((I 115 3) + (nI 1))) J)) := by
  rfl
set_option maxHeartbeats 4000000 in
set_option maxRecDepth 100000 in
theorem kX4_advance_0 (N d n : Nat) {X : lt_X} (I : Nat → Nat → Int32) (J : Nat → Nat → Int64) : KX4_advance_0 N d n (mkh X I J) = some (.null, (mkh X I J)) := by
  rfl
set_option maxHeartbeats 4000000 in
set_option maxRecDepth 100000 in
theorem kX4_advance_1 (N d n : Nat) {X : lt_X} (I : Nat → Nat → Int32) (J : Nat → Nat → Int64) : KX4_advance_1 N d n (mkh X I J) = some (.null, (mkh X I J)) := by
  rfl
theorem fX4_advance (N d : Nat) {X : lt_X} (I : Nat → Nat → Int32) (J : Nat → Nat → Int64) : am_G am_prog N (d + 1) 46 [.ref 115] (mkh X I J) = am_run (am_G am_prog N d) eX4_advance uX4_advance N 0 [(0, .ref 115)] [] (mkh X I J) := by
  refine (am_G_at N d 46 mX4_advance _ _ rfl).trans ?_
  rfl
theorem gX4_advance (N d : Nat) {X : lt_X} (I : Nat → Nat → Int32) (J : Nat → Nat → Int64) : am_G am_prog (N + 30) (d + 1) 46 [.ref 115] (mkh X I J) = RX4_advance_0 N d (N + 30) X I J := fX4_advance (N + 30) (d + 0) I J
def RX4_advanceWord_0 (N d n : Nat) (X : lt_X) (I : Nat → Nat → Int32) (J : Nat → Nat → Int64) : am_O := am_run (am_G am_prog (N + 30) (d + 0)) eX4_advanceWord uX4_advanceWord n 0 [(0, .ref 115)] [] (mkh X I J)
def RX4_advanceWord_5 (N d n : Nat) (X : lt_X) (I : Nat → Nat → Int32) (J : Nat → Nat → Int64) : am_O := am_run (am_G am_prog (N + 30) (d + 0)) eX4_advanceWord uX4_advanceWord n 5 [(0, .ref 115)] [] (mkh X I J)
def RX4_advanceWord_83 (N d n : Nat) (X : lt_X) (I : Nat → Nat → Int32) (J : Nat → Nat → Int64) : am_O := am_run (am_G am_prog (N + 30) (d + 0)) eX4_advanceWord uX4_advanceWord n 83 [(0, .ref 115)] [] (mkh X I J)
def RX4_advanceWord_108 (N d n : Nat) (X : lt_X) (x1 : Int32) (I : Nat → Nat → Int32) (J : Nat → Nat → Int64) : am_O := am_run (am_G am_prog (N + 30) (d + 0)) eX4_advanceWord uX4_advanceWord n 108 [(0, .ref 115), (1, .int x1)] [] (mkh X I J)
set_option maxHeartbeats 4000000 in
set_option maxRecDepth 100000 in
theorem sX4_advanceWord_0 (N d n : Nat) {X : lt_X} (I : Nat → Nat → Int32) (J : Nat → Nat → Int64) : RX4_advanceWord_0 N d (n + 1) X I J = RX4_advanceWord_5 N d n X I (u2L J 115 7 (lN 0)) := by
  rfl
set_option maxHeartbeats 4000000 in
set_option maxRecDepth 100000 in
theorem sX4_advanceWord_5 (N d n : Nat) {X : lt_X} (I : Nat → Nat → Int32) (J : Nat → Nat → Int64) : RX4_advanceWord_5 N d (n + 1) X I J = if (I 115 3) < (I 115 2) then if am_in (I 115 3) 900 then if (I 13 ((I 115 3).toNatClampNeg)) < (nI 97) then RX4_advanceWord_83 N d n X I J else if am_in (I 115 3) 900 then if (nI 122) < (I 13 ((I 115 3).toNatClampNeg)) then RX4_advanceWord_83 N d n X I J else if am_in (I 115 3) 900 then RX4_advanceWord_5 N d n X (u2 I 115 3 ((I 115 3) + (nI 1))) (u2L J 115 7 (((J 115 7) <<< ((nI 5).toInt64 &&& 63)) ||| ((((I 13 ((I 115 3).toNatClampNeg)) - (nI 97)) + (nI 1)).toInt64))) else none else none else none else RX4_advanceWord_83 N d n X I J := by
  rfl
set_option maxHeartbeats 4000000 in
set_option maxRecDepth 100000 in
theorem sX4_advanceWord_83 (N d n : Nat) {X : lt_X} (I : Nat → Nat → Int32) (J : Nat → Nat → Int64) : RX4_advanceWord_83 N d (n + 1) X I J = if (nI 8) < ((I 115 3) - (I 115 5)) then RX4_advanceWord_108 N d n X (nI 0) (u2 I 115 4 (nI 3)) J else RX4_advanceWord_108 N d n X (nI 0) (u2 I 115 4 (nI 2)) J := by
  rfl
set_option maxHeartbeats 4000000 in
set_option maxRecDepth 100000 in
theorem sX4_advanceWord_108 (N d n : Nat) {X : lt_X} (x1 : Int32) (I : Nat → Nat → Int32) (J : Nat → Nat → Int64) : RX4_advanceWord_108 N d (n + 1) X x1 I J = if x1 < (nI 27) then if (I 115 4) = (nI 2) then if am_in x1 27 then if (lg_cmp (J 116 x1.toNatClampNeg) (J 115 7)) = nI 0 then RX4_advanceWord_108 N d n X (x1 + (nI 1)) (u2 I 115 4 ((nI 100) + x1)) J else RX4_advanceWord_108 N d n X (x1 + (nI 1)) I J else none else some (.null, (mkh X I J)) else some (.null, (mkh X I J)) := by
  rfl
theorem fX4_advanceWord (N d : Nat) {X : lt_X} (I : Nat → Nat → Int32) (J : Nat → Nat → Int64) : am_G am_prog N (d + 1) 47 [.ref 115] (mkh X I J) = am_run (am_G am_prog N d) eX4_advanceWord uX4_advanceWord N 0 [(0, .ref 115)] [] (mkh X I J) := by
  refine (am_G_at N d 47 mX4_advanceWord _ _ rfl).trans ?_
  rfl
theorem gX4_advanceWord (N d : Nat) {X : lt_X} (I : Nat → Nat → Int32) (J : Nat → Nat → Int64) : am_G am_prog (N + 30) (d + 1) 47 [.ref 115] (mkh X I J) = RX4_advanceWord_0 N d (N + 30) X I J := fX4_advanceWord (N + 30) (d + 0) I J
def RX4_advanceNumber_0 (N d n : Nat) (X : lt_X) (I : Nat → Nat → Int32) (J : Nat → Nat → Int64) : am_O := am_run (am_G am_prog (N + 30) (d + 0)) eX4_advanceNumber uX4_advanceNumber n 0 [(0, .ref 115)] [] (mkh X I J)
def RX4_advanceNumber_5 (N d n : Nat) (X : lt_X) (I : Nat → Nat → Int32) (J : Nat → Nat → Int64) : am_O := am_run (am_G am_prog (N + 30) (d + 0)) eX4_advanceNumber uX4_advanceNumber n 5 [(0, .ref 115)] [] (mkh X I J)
def RX4_advanceNumber_81 (N d n : Nat) (X : lt_X) (I : Nat → Nat → Int32) (J : Nat → Nat → Int64) : am_O := am_run (am_G am_prog (N + 30) (d + 0)) eX4_advanceNumber uX4_advanceNumber n 81 [(0, .ref 115)] [] (mkh X I J)
set_option maxHeartbeats 4000000 in
set_option maxRecDepth 100000 in
theorem sX4_advanceNumber_0 (N d n : Nat) {X : lt_X} (I : Nat → Nat → Int32) (J : Nat → Nat → Int64) : RX4_advanceNumber_0 N d (n + 1) X I J = RX4_advanceNumber_5 N d n X (u2 I 115 6 (nI 0)) J := by
  rfl
set_option maxHeartbeats 4000000 in
set_option maxRecDepth 100000 in
theorem sX4_advanceNumber_5 (N d n : Nat) {X : lt_X} (I : Nat → Nat → Int32) (J : Nat → Nat → Int64) : RX4_advanceNumber_5 N d (n + 1) X I J = if (I 115 3) < (I 115 2) then if am_in (I 115 3) 900 then if (I 13 ((I 115 3).toNatClampNeg)) < (nI 48) then RX4_advanceNumber_81 N d n X I J else if am_in (I 115 3) 900 then if (nI 57) < (I 13 ((I 115 3).toNatClampNeg)) then RX4_advanceNumber_81 N d n X I J else if am_in (I 115 3) 900 then RX4_advanceNumber_5 N d n X (u2 (u2 I 115 6 ((((I 115 6) * (nI 10)) + (I 13 ((I 115 3).toNatClampNeg))) - (nI 48))) 115 3 ((I 115 3) + (nI 1))) J else none else none else none else RX4_advanceNumber_81 N d n X I J := by
  rfl
set_option maxHeartbeats 4000000 in
set_option maxRecDepth 100000 in
theorem sX4_advanceNumber_81 (N d n : Nat) {X : lt_X} (I : Nat → Nat → Int32) (J : Nat → Nat → Int64) : RX4_advanceNumber_81 N d (n + 1) X I J = if (nI 4) < ((I 115 3) - (I 115 5)) then some (.null, (mkh X (u2 I 115 4 (-1)) J)) else some (.null, (mkh X (u2 I 115 4 (nI 1)) J)) := by
  rfl
theorem fX4_advanceNumber (N d : Nat) {X : lt_X} (I : Nat → Nat → Int32) (J : Nat → Nat → Int64) : am_G am_prog N (d + 1) 48 [.ref 115] (mkh X I J) = am_run (am_G am_prog N d) eX4_advanceNumber uX4_advanceNumber N 0 [(0, .ref 115)] [] (mkh X I J) := by
  refine (am_G_at N d 48 mX4_advanceNumber _ _ rfl).trans ?_
  rfl
theorem gX4_advanceNumber (N d : Nat) {X : lt_X} (I : Nat → Nat → Int32) (J : Nat → Nat → Int64) : am_G am_prog (N + 30) (d + 1) 48 [.ref 115] (mkh X I J) = RX4_advanceNumber_0 N d (N + 30) X I J := fX4_advanceNumber (N + 30) (d + 0) I J
def RX4_fail_0 (N d n : Nat) (X : lt_X) (x1 : Int32) (I : Nat → Nat → Int32) (J : Nat → Nat → Int64) : am_O := am_run (am_G am_prog (N + 30) (d + 0)) eX4_fail uX4_fail n 0 [(0, .ref 115), (1, .int x1)] [] (mkh X I J)
set_option maxHeartbeats 4000000 in
set_option maxRecDepth 100000 in
theorem sX4_fail_0 (N d n : Nat) {X : lt_X} (x1 : Int32) (I : Nat → Nat → Int32) (J : Nat → Nat → Int64) : RX4_fail_0 N d (n + 1) X x1 I J = some (.int (nI 0), (mkh X (u2 (u2 I 115 10 x1) 115 11 (I 115 5)) J)) := by
  rfl
theorem fX4_fail (N d : Nat) {X : lt_X} (x1 : Int32) (I : Nat → Nat → Int32) (J : Nat → Nat → Int64) : am_G am_prog N (d + 1) 49 [.ref 115, .int x1] (mkh X I J) = am_run (am_G am_prog N d) eX4_fail uX4_fail N 0 [(0, .ref 115), (1, .int x1)] [] (mkh X I J) := by
  refine (am_G_at N d 49 mX4_fail _ _ rfl).trans ?_
  rfl
theorem gX4_fail (N d : Nat) {X : lt_X} (x1 : Int32) (I : Nat → Nat → Int32) (J : Nat → Nat → Int64) : am_G am_prog (N + 30) (d + 1) 49 [.ref 115, .int x1] (mkh X I J) = RX4_fail_0 N d (N + 30) X x1 I J := fX4_fail (N + 30) (d + 0) x1 I J
def RX4_refuses_0 (N d n : Nat) (X : lt_X) (I : Nat → Nat → Int32) (J : Nat → Nat → Int64) : am_O := am_run (am_G am_prog (N + 30) (d + 0)) eX4_refuses uX4_refuses n 0 [(0, .ref 115)] [] (mkh X I J)
set_option maxHeartbeats 4000000 in
set_option maxRecDepth 100000 in
theorem sX4_refuses_0 (N d n : Nat) {X : lt_X} (I : Nat → Nat → Int32) (J : Nat → Nat → Int64) : RX4_refuses_0 N d (n + 1) X I J = if (I 115 4) = (-1) then some (.int (nI 0), (mkh X (u2 (u2 I 115 10 (nI 1)) 115 11 (I 115 5)) J)) else some (.int (nI 0), (mkh X (u2 (u2 I 115 10 (nI 2)) 115 11 (I 115 5)) J)) := by
  rfl
theorem fX4_refuses (N d : Nat) {X : lt_X} (I : Nat → Nat → Int32) (J : Nat → Nat → Int64) : am_G am_prog N (d + 1) 50 [.ref 115] (mkh X I J) = am_run (am_G am_prog N d) eX4_refuses uX4_refuses N 0 [(0, .ref 115)] [] (mkh X I J) := by
  refine (am_G_at N d 50 mX4_refuses _ _ rfl).trans ?_
  rfl
theorem gX4_refuses (N d : Nat) {X : lt_X} (I : Nat → Nat → Int32) (J : Nat → Nat → Int64) : am_G am_prog (N + 30) (d + 1) 50 [.ref 115] (mkh X I J) = RX4_refuses_0 N d (N + 30) X I J := fX4_refuses (N + 30) (d + 0) I J
def RX4_takes_0 (N d n : Nat) (X : lt_X) (x1 : Int32) (I : Nat → Nat → Int32) (J : Nat → Nat → Int64) : am_O := am_run (am_G am_prog (N + 30) (d + 0)) eX4_takes uX4_takes n 0 [(0, .ref 115), (1, .int x1)] [] (mkh X I J)
def KX4_takes_0 (N d n : Nat) (h : am_H) : am_O := some (.int (nI 1), h)
def KX4_takes_1 (N d n : Nat) (z : Int32) (h : am_H) : am_O := am_nb z (some (.int z, h))
set_option maxHeartbeats 4000000 in
set_option maxRecDepth 100000 in
theorem sX4_takes_0 (N d n : Nat) {X : lt_X} (x1 : Int32) (I : Nat → Nat → Int32) (J : Nat → Nat → Int64) : RX4_takes_0 N d (n + 1) X x1 I J = if (I 115 4) = x1 then am_cV (am_G am_prog (N + 30) (d + 0) 46 [.ref 115] (mkh X I J)) (KX4_takes_0 N d n ) else am_cI (am_G am_prog (N + 30) (d + 0) 50 [.ref 115] (mkh X I J)) (KX4_takes_1 N d n ) := by
  rfl
set_option maxHeartbeats 4000000 in
set_option maxRecDepth 100000 in
theorem kX4_takes_0 (N d n : Nat) {X : lt_X} (I : Nat → Nat → Int32) (J : Nat → Nat → Int64) : KX4_takes_0 N d n (mkh X I J) = some (.int (nI 1), (mkh X I J)) := by
  rfl
set_option maxHeartbeats 4000000 in
set_option maxRecDepth 100000 in
theorem kX4_takes_1 (N d n : Nat) {X : lt_X} (z : Int32) (I : Nat → Nat → Int32) (J : Nat → Nat → Int64) : KX4_takes_1 N d n z (mkh X I J) = am_nb z (some (.int z, (mkh X I J))) := by
  rfl
theorem fX4_takes (N d : Nat) {X : lt_X} (x1 : Int32) (I : Nat → Nat → Int32) (J : Nat → Nat → Int64) : am_G am_prog N (d + 1) 51 [.ref 115, .int x1] (mkh X I J) = am_run (am_G am_prog N d) eX4_takes uX4_takes N 0 [(0, .ref 115), (1, .int x1)] [] (mkh X I J) := by
  refine (am_G_at N d 51 mX4_takes _ _ rfl).trans ?_
  rfl
theorem gX4_takes (N d : Nat) {X : lt_X} (x1 : Int32) (I : Nat → Nat → Int32) (J : Nat → Nat → Int64) : am_G am_prog (N + 30) (d + 1) 51 [.ref 115, .int x1] (mkh X I J) = RX4_takes_0 N d (N + 30) X x1 I J := fX4_takes (N + 30) (d + 0) x1 I J
def RX4_takesNumber_0 (N d n : Nat) (X : lt_X) (x1 : Int32) (x2 : Int32) (I : Nat → Nat → Int32) (J : Nat → Nat → Int64) : am_O := am_run (am_G am_prog (N + 30) (d + 0)) eX4_takesNumber uX4_takesNumber n 0 [(0, .ref 115), (1, .int x1), (2, .int x2)] [] (mkh X I J)
def KX4_takesNumber_0 (N d n : Nat) (z : Int32) (h : am_H) : am_O := am_nb z (some (.int z, h))
def KX4_takesNumber_1 (N d n : Nat) (h : am_H) : am_O := some (.int (nI 1), h)
def KX4_takesNumber_2 (N d n : Nat) (z : Int32) (h : am_H) : am_O := am_nb z (some (.int z, h))
set_option maxHeartbeats 4000000 in
set_option maxRecDepth 100000 in
theorem sX4_takesNumber_0 (N d n : Nat) {X : lt_X} (x1 : Int32) (x2 : Int32) (I : Nat → Nat → Int32) (J : Nat → Nat → Int64) : RX4_takesNumber_0 N d (n + 1) X x1 x2 I J = if (I 115 4) = (nI 1) then if (I 115 6) < x1 then am_cI (am_G am_prog (N + 30) (d + 0) 49 [.ref 115, .int (nI 4)] (mkh X I J)) (KX4_takesNumber_0 N d n ) else if x2 < (I 115 6) then am_cI (am_G am_prog (N + 30) (d + 0) 49 [.ref 115, .int (nI 4)] (mkh X I J)) (KX4_takesNumber_0 N d n ) else am_cV (am_G am_prog (N + 30) (d + 0) 46 [.ref 115] (mkh X (u2 I 115 8 (I 115 6)) J)) (KX4_takesNumber_1 N d n ) else am_cI (am_G am_prog (N + 30) (d + 0) 50 [.ref 115] (mkh X I J)) (KX4_takesNumber_2 N d n ) := by
  rfl
set_option maxHeartbeats 4000000 in
set_option maxRecDepth 100000 in
theorem kX4_takesNumber_0 (N d n : Nat) {X : lt_X} (z : Int32) (I : Nat → Nat → Int32) (J : Nat → Nat → Int64) : KX4_takesNumber_0 N d n z (mkh X I J) = am_nb z (some (.int z, (mkh X I J))) := by
  rfl
set_option maxHeartbeats 4000000 in
set_option maxRecDepth 100000 in
theorem kX4_takesNumber_1 (N d n : Nat) {X : lt_X} (I : Nat → Nat → Int32) (J : Nat → Nat → Int64) : KX4_takesNumber_1 N d n (mkh X I J) = some (.int (nI 1), (mkh X I J)) := by
  rfl
set_option maxHeartbeats 4000000 in
set_option maxRecDepth 100000 in
theorem kX4_takesNumber_2 (N d n : Nat) {X : lt_X} (z : Int32) (I : Nat → Nat → Int32) (J : Nat → Nat → Int64) : KX4_takesNumber_2 N d n z (mkh X I J) = am_nb z (some (.int z, (mkh X I J))) := by
  rfl
theorem fX4_takesNumber (N d : Nat) {X : lt_X} (x1 : Int32) (x2 : Int32) (I : Nat → Nat → Int32) (J : Nat → Nat → Int64) : am_G am_prog N (d + 1) 52 [.ref 115, .int x1, .int x2] (mkh X I J) = am_run (am_G am_prog N d) eX4_takesNumber uX4_takesNumber N 0 [(0, .ref 115), (1, .int x1), (2, .int x2)] [] (mkh X I J) := by
  refine (am_G_at N d 52 mX4_takesNumber _ _ rfl).trans ?_
  rfl
theorem gX4_takesNumber (N d : Nat) {X : lt_X} (x1 : Int32) (x2 : Int32) (I : Nat → Nat → Int32) (J : Nat → Nat → Int64) : am_G am_prog (N + 30) (d + 1) 52 [.ref 115, .int x1, .int x2] (mkh X I J) = RX4_takesNumber_0 N d (N + 30) X x1 x2 I J := fX4_takesNumber (N + 30) (d + 0) x1 x2 I J
def RX4_isNameOf_0 (N d n : Nat) (X : lt_X) (t : Nat) (x2 : Int32) (I : Nat → Nat → Int32) (J : Nat → Nat → Int64) : am_O := am_run (am_G am_prog (N + 30) (d + 0)) eX4_isNameOf uX4_isNameOf n 0 [(0, .ref 115), (1, .ref t), (2, .int x2)] [] (mkh X I J)
def KX4_isNameOf_0 (N d n : Nat) (z : Int32) (h : am_H) : am_O := am_pI h 4 115 9 z (fun h1 => am_gI h1 4 115 9 (fun y2 => if y2 = (-1) then am_cI (am_G am_prog (N + 30) (d + 0) 49 [.ref 115, .int (nI 3)] h1) (fun r4 h3 => if r4 = nI 0 then some (.int (nI 0), h3) else some (.int (nI 1), h3)) else some (.int (nI 1), h1)))
def KX4_isNameOf_1 (N d n : Nat) (z : Int32) (h : am_H) : am_O := am_nb z (some (.int z, h))
def KX4_isNameOf_2 (N d n : Nat) (z : Int32) (h : am_H) : am_O := if z = nI 0 then some (.int (nI 0), h) else some (.int (nI 1), h)
set_option maxHeartbeats 4000000 in
set_option maxRecDepth 100000 in
theorem sX4_isNameOf_0 (N d n : Nat) {X : lt_X} {t : Nat} (ht : isT t) (x2 : Int32) (I : Nat → Nat → Int32) (J : Nat → Nat → Int64) : RX4_isNameOf_0 N d (n + 1) X t x2 I J = if (I 115 4) = (nI 2) then am_cI (am_G am_prog (N + 30) (d + 0) 59 [.ref t, .int x2, .long (J 115 7)] (mkh X I J)) (KX4_isNameOf_0 N d n ) else am_cI (am_G am_prog (N + 30) (d + 0) 50 [.ref 115] (mkh X I J)) (KX4_isNameOf_1 N d n ) := by
  rcases ht with rfl | rfl | rfl | rfl | rfl <;> rfl
set_option maxHeartbeats 4000000 in
set_option maxRecDepth 100000 in
theorem kX4_isNameOf_0 (N d n : Nat) {X : lt_X} (z : Int32) (I : Nat → Nat → Int32) (J : Nat → Nat → Int64) : KX4_isNameOf_0 N d n z (mkh X I J) = if z = (-1) then am_cI (am_G am_prog (N + 30) (d + 0) 49 [.ref 115, .int (nI 3)] (mkh X (u2 I 115 9 z) J)) (KX4_isNameOf_2 N d n ) else some (.int (nI 1), (mkh X (u2 I 115 9 z) J)) := by
  rfl
set_option maxHeartbeats 4000000 in
set_option maxRecDepth 100000 in
theorem kX4_isNameOf_1 (N d n : Nat) {X : lt_X} (z : Int32) (I : Nat → Nat → Int32) (J : Nat → Nat → Int64) : KX4_isNameOf_1 N d n z (mkh X I J) = am_nb z (some (.int z, (mkh X I J))) := by
  rfl
set_option maxHeartbeats 4000000 in
set_option maxRecDepth 100000 in
theorem kX4_isNameOf_2 (N d n : Nat) {X : lt_X} (z : Int32) (I : Nat → Nat → Int32) (J : Nat → Nat → Int64) : KX4_isNameOf_2 N d n z (mkh X I J) = if z = nI 0 then some (.int (nI 0), (mkh X I J)) else some (.int (nI 1), (mkh X I J)) := by
  rfl
theorem fX4_isNameOf (N d : Nat) {X : lt_X} {t : Nat} (ht : isT t) (x2 : Int32) (I : Nat → Nat → Int32) (J : Nat → Nat → Int64) : am_G am_prog N (d + 1) 53 [.ref 115, .ref t, .int x2] (mkh X I J) = am_run (am_G am_prog N d) eX4_isNameOf uX4_isNameOf N 0 [(0, .ref 115), (1, .ref t), (2, .int x2)] [] (mkh X I J) := by
  refine (am_G_at N d 53 mX4_isNameOf _ _ rfl).trans ?_
  rcases ht with rfl | rfl | rfl | rfl | rfl <;> rfl
theorem gX4_isNameOf (N d : Nat) {X : lt_X} {t : Nat} (ht : isT t) (x2 : Int32) (I : Nat → Nat → Int32) (J : Nat → Nat → Int64) : am_G am_prog (N + 30) (d + 1) 53 [.ref 115, .ref t, .int x2] (mkh X I J) = RX4_isNameOf_0 N d (N + 30) X t x2 I J := fX4_isNameOf (N + 30) (d + 0) ht x2 I J
def RX4_takesName_0 (N d n : Nat) (X : lt_X) (t : Nat) (x2 : Int32) (I : Nat → Nat → Int32) (J : Nat → Nat → Int64) : am_O := am_run (am_G am_prog (N + 30) (d + 0)) eX4_takesName uX4_takesName n 0 [(0, .ref 115), (1, .ref t), (2, .int x2)] [] (mkh X I J)
def KX4_takesName_0 (N d n : Nat) (z : Int32) (h : am_H) : am_O := if z = nI 0 then some (.int (nI 0), h) else am_cV (am_G am_prog (N + 30) (d + 0) 46 [.ref 115] h) (fun h1 => some (.int (nI 1), h1))
def KX4_takesName_1 (N d n : Nat) (h : am_H) : am_O := some (.int (nI 1), h)
set_option maxHeartbeats 4000000 in
set_option maxRecDepth 100000 in
theorem sX4_takesName_0 (N d n : Nat) {X : lt_X} {t : Nat} (ht : isT t) (x2 : Int32) (I : Nat → Nat → Int32) (J : Nat → Nat → Int64) : RX4_takesName_0 N d (n + 1) X t x2 I J = am_cI (am_G am_prog (N + 30) (d + 0) 53 [.ref 115, .ref t, .int x2] (mkh X I J)) (KX4_takesName_0 N d n ) := by
  rcases ht with rfl | rfl | rfl | rfl | rfl <;> rfl
set_option maxHeartbeats 4000000 in
set_option maxRecDepth 100000 in
theorem kX4_takesName_0 (N d n : Nat) {X : lt_X} (z : Int32) (I : Nat → Nat → Int32) (J : Nat → Nat → Int64) : KX4_takesName_0 N d n z (mkh X I J) = if z = nI 0 then some (.int (nI 0), (mkh X I J)) else am_cV (am_G am_prog (N + 30) (d + 0) 46 [.ref 115] (mkh X I J)) (KX4_takesName_1 N d n ) := by
  rfl
set_option maxHeartbeats 4000000 in
set_option maxRecDepth 100000 in
theorem kX4_takesName_1 (N d n : Nat) {X : lt_X} (I : Nat → Nat → Int32) (J : Nat → Nat → Int64) : KX4_takesName_1 N d n (mkh X I J) = some (.int (nI 1), (mkh X I J)) := by
  rfl
theorem fX4_takesName (N d : Nat) {X : lt_X} {t : Nat} (ht : isT t) (x2 : Int32) (I : Nat → Nat → Int32) (J : Nat → Nat → Int64) : am_G am_prog N (d + 1) 54 [.ref 115, .ref t, .int x2] (mkh X I J) = am_run (am_G am_prog N d) eX4_takesName uX4_takesName N 0 [(0, .ref 115), (1, .ref t), (2, .int x2)] [] (mkh X I J) := by
  refine (am_G_at N d 54 mX4_takesName _ _ rfl).trans ?_
  rcases ht with rfl | rfl | rfl | rfl | rfl <;> rfl
theorem gX4_takesName (N d : Nat) {X : lt_X} {t : Nat} (ht : isT t) (x2 : Int32) (I : Nat → Nat → Int32) (J : Nat → Nat → Int64) : am_G am_prog (N + 30) (d + 1) 54 [.ref 115, .ref t, .int x2] (mkh X I J) = RX4_takesName_0 N d (N + 30) X t x2 I J := fX4_takesName (N + 30) (d + 0) ht x2 I J
def RX4_takesNewName_0 (N d n : Nat) (X : lt_X) (t : Nat) (x2 : Int32) (I : Nat → Nat → Int32) (J : Nat → Nat → Int64) : am_O := am_run (am_G am_prog (N + 30) (d + 0)) eX4_takesNewName uX4_takesNewName n 0 [(0, .ref 115), (1, .ref t), (2, .int x2)] [] (mkh X I J)
def KX4_takesNewName_0 (N d n : Nat) (t : Nat) (a0 : Int32) (z : Int32) (h : am_H) : am_O := if z = nI 0 then am_gL h 4 115 7 (fun y1 => am_cI (am_G am_prog (N + 30) (d + 0) 62 [.ref t, .int a0, .long y1] h) (fun r3 h2 => am_pI h2 4 115 9 r3 (fun h4 => am_cV (am_G am_prog (N + 30) (d + 0) 46 [.ref 115] h4) (fun h5 => some (.int (nI 1), h5))))) else am_cI (am_G am_prog (N + 30) (d + 0) 49 [.ref 115, .int (nI 3)] h) (fun r7 h6 => am_nb r7 (some (.int r7, h6)))
def KX4_takesNewName_1 (N d n : Nat) (z : Int32) (h : am_H) : am_O := am_nb z (some (.int z, h))
def KX4_takesNewName_2 (N d n : Nat) (z : Int32) (h : am_H) : am_O := am_pI h 4 115 9 z (fun h1 => am_cV (am_G am_prog (N + 30) (d + 0) 46 [.ref 115] h1) (fun h2 => some (.int (nI 1), h2)))
def KX4_takesNewName_3 (N d n : Nat) (z : Int32) (h : am_H) : am_O := am_nb z (some (.int z, h))
def KX4_takesNewName_4 (N d n : Nat) (h : am_H) : am_O := some (.int (nI 1), h)
set_option maxHeartbeats 4000000 in
set_option maxRecDepth 100000 in
theorem sX4_takesNewName_0 (N d n : Nat) {X : lt_X} {t : Nat} (ht : isT t) (x2 : Int32) (I : Nat → Nat → Int32) (J : Nat → Nat → Int64) : RX4_takesNewName_0 N d (n + 1) X t x2 I J = if (I 115 4) = (nI 2) then am_cI (am_G am_prog (N + 30) (d + 0) 60 [.ref t, .long (J 115 7)] (mkh X I J)) (KX4_takesNewName_0 N d n t x2) else am_cI (am_G am_prog (N + 30) (d + 0) 50 [.ref 115] (mkh X I J)) (KX4_takesNewName_1 N d n ) := by
  rcases ht with rfl | rfl | rfl | rfl | rfl <;> rfl
set_option maxHeartbeats 4000000 in
set_option maxRecDepth 100000 in
theorem kX4_takesNewName_0 (N d n : Nat) {X : lt_X} {t : Nat} (ht : isT t) (a0 : Int32) (z : Int32) (I : Nat → Nat → Int32) (J : Nat → Nat → Int64) : KX4_takesNewName_0 N d n t a0 z (mkh X I J) = if z = nI 0 then am_cI (am_G am_prog (N + 30) (d + 0) 62 [.ref t, .int a0, .long (J 115 7)] (mkh X I J)) (KX4_takesNewName_2 N d n ) else am_cI (am_G am_prog (N + 30) (d + 0) 49 [.ref 115, .int (nI 3)] (mkh X I J)) (KX4_takesNewName_3 N d n ) := by
  rcases ht with rfl | rfl | rfl | rfl | rfl <;> rfl
set_option maxHeartbeats 4000000 in
set_option maxRecDepth 100000 in
theorem kX4_takesNewName_1 (N d n : Nat) {X : lt_X} (z : Int32) (I : Nat → Nat → Int32) (J : Nat → Nat → Int64) : KX4_takesNewName_1 N d n z (mkh X I J) = am_nb z (some (.int z, (mkh X I J))) := by
  rfl
set_option maxHeartbeats 4000000 in
set_option maxRecDepth 100000 in
theorem kX4_takesNewName_2 (N d n : Nat) {X : lt_X} (z : Int32) (I : Nat → Nat → Int32) (J : Nat → Nat → Int64) : KX4_takesNewName_2 N d n z (mkh X I J) = am_cV (am_G am_prog (N + 30) (d + 0) 46 [.ref 115] (mkh X (u2 I 115 9 z) J)) (KX4_takesNewName_4 N d n ) := by
  rfl
set_option maxHeartbeats 4000000 in
set_option maxRecDepth 100000 in
theorem kX4_takesNewName_3 (N d n : Nat) {X : lt_X} (z : Int32) (I : Nat → Nat → Int32) (J : Nat → Nat → Int64) : KX4_takesNewName_3 N d n z (mkh X I J) = am_nb z (some (.int z, (mkh X I J))) := by
  rfl
set_option maxHeartbeats 4000000 in
set_option maxRecDepth 100000 in
theorem kX4_takesNewName_4 (N d n : Nat) {X : lt_X} (I : Nat → Nat → Int32) (J : Nat → Nat → Int64) : KX4_takesNewName_4 N d n (mkh X I J) = some (.int (nI 1), (mkh X I J)) := by
  rfl
theorem fX4_takesNewName (N d : Nat) {X : lt_X} {t : Nat} (ht : isT t) (x2 : Int32) (I : Nat → Nat → Int32) (J : Nat → Nat → Int64) : am_G am_prog N (d + 1) 55 [.ref 115, .ref t, .int x2] (mkh X I J) = am_run (am_G am_prog N d) eX4_takesNewName uX4_takesNewName N 0 [(0, .ref 115), (1, .ref t), (2, .int x2)] [] (mkh X I J) := by
  refine (am_G_at N d 55 mX4_takesNewName _ _ rfl).trans ?_
  rcases ht with rfl | rfl | rfl | rfl | rfl <;> rfl
theorem gX4_takesNewName (N d : Nat) {X : lt_X} {t : Nat} (ht : isT t) (x2 : Int32) (I : Nat → Nat → Int32) (J : Nat → Nat → Int64) : am_G am_prog (N + 30) (d + 1) 55 [.ref 115, .ref t, .int x2] (mkh X I J) = RX4_takesNewName_0 N d (N + 30) X t x2 I J := fX4_takesNewName (N + 30) (d + 0) ht x2 I J
def RX6_readsInto_0 (N d n : Nat) (X : lt_X) (I : Nat → Nat → Int32) (J : Nat → Nat → Int64) : am_O := am_run (am_G am_prog (N + 30) (d + 0)) eX6_readsInto uX6_readsInto n 0 [(0, .ref 117), (1, .ref X.2.2.1)] [] (mkh X I J)
def RX6_readsInto_19 (N d n : Nat) (X : lt_X) (x2 : Int32) (I : Nat → Nat → Int32) (J : Nat → Nat → Int64) : am_O := am_run (am_G am_prog (N + 30) (d + 0)) eX6_readsInto uX6_readsInto n 19 [(0, .ref 117), (2, .int x2)] [] (mkh X I J)
def KX6_readsInto_0 (N d n : Nat) (h : am_H) : am_O := am_pZ h 6 117 2 (nI 0) (fun h1 => am_run (am_G am_prog (N + 30) (d + 0)) eX6_readsInto uX6_readsInto n 19 [(0, .ref 117), (2, .int (nI 0))] [] h1)
def KX6_readsInto_1 (N d n : Nat) (a0 : Int32) (z : Int32) (h : am_H) : am_O := if z = nI 0 then some (.int (nI 0), h) else am_run (am_G am_prog (N + 30) (d + 0)) eX6_readsInto uX6_readsInto n 19 [(0, .ref 117), (2, .int (a0 + (nI 1)))] [] h
set_option maxHeartbeats 4000000 in
set_option maxRecDepth 100000 in
theorem sX6_readsInto_0 (N d n : Nat) {X : lt_X} (hX : hsX X) (I : Nat → Nat → Int32) (J : Nat → Nat → Int64) : RX6_readsInto_0 N d (n + 1) X I J = am_cV (am_G am_prog (N + 30) (d + 0) 57 [.ref X.2.2.1] (mkh (X.1, X.2.1, X.2.2.1, some X.2.2.1, X.2.2.2.2) I J)) (KX6_readsInto_0 N d n ) := by
  obtain ⟨L, he, sp, t1, t2⟩ := X
  show _ = am_cV (am_G am_prog (N + 30) (d + 0) 57 [Value.ref sp] (mkh (L, he, sp, some sp, t2) I J)) (KX6_readsInto_0 N d n)
  rw [← mkh_R117 L he sp sp t1 t2]
  rcases hX with ⟨h1, h2⟩ | ⟨h1, h2⟩ <;> (change he = _ at h1; change sp = _ at h2; subst h1; subst h2) <;> rfl
set_option maxHeartbeats 4000000 in
set_option maxRecDepth 100000 in
theorem sX6_readsInto_19 (N d n : Nat) {X : lt_X} (hX : hsX X) (x2 : Int32) (I : Nat → Nat → Int32) (J : Nat → Nat → Int64) : RX6_readsInto_19 N d (n + 1) X x2 I J = if (nI 900) < x2 then some (.int (nI 1), (mkh X I J)) else if (I 115 4) = nI 0 then some (.int (nI 1), (mkh X I J)) else am_cI (am_G am_prog (N + 30) (d + 0) 96 [.ref 117] (mkh X I J)) (KX6_readsInto_1 N d n x2) := by
  obtain ⟨L, he, sp, t1, t2⟩ := X
  rcases hX with ⟨h1, h2⟩ | ⟨h1, h2⟩ <;> (change he = _ at h1; change sp = _ at h2; subst h1; subst h2) <;> rfl
set_option maxHeartbeats 4000000 in
set_option maxRecDepth 100000 in
theorem kX6_readsInto_0 (N d n : Nat) {X : lt_X} (hX : hsX X) (I : Nat → Nat → Int32) (J : Nat → Nat → Int64) : KX6_readsInto_0 N d n (mkh X I J) = RX6_readsInto_19 N d n X (nI 0) (u2 I 117 2 (nI 0)) J := by
  obtain ⟨L, he, sp, t1, t2⟩ := X
  rcases hX with ⟨h1, h2⟩ | ⟨h1, h2⟩ <;> (change he = _ at h1; change sp = _ at h2; subst h1; subst h2) <;> rfl
set_option maxHeartbeats 4000000 in
set_option maxRecDepth 100000 in
theorem kX6_readsInto_1 (N d n : Nat) {X : lt_X} (hX : hsX X) (a0 : Int32) (z : Int32) (I : Nat → Nat → Int32) (J : Nat → Nat → Int64) : KX6_readsInto_1 N d n a0 z (mkh X I J) = if z = nI 0 then some (.int (nI 0), (mkh X I J)) else RX6_readsInto_19 N d n X (a0 + (nI 1)) I J := by
  obtain ⟨L, he, sp, t1, t2⟩ := X
  rcases hX with ⟨h1, h2⟩ | ⟨h1, h2⟩ <;> (change he = _ at h1; change sp = _ at h2; subst h1; subst h2) <;> rfl
theorem fX6_readsInto (N d : Nat) {X : lt_X} (hX : hsX X) (I : Nat → Nat → Int32) (J : Nat → Nat → Int64) : am_G am_prog N (d + 1) 95 [.ref 117, .ref X.2.2.1] (mkh X I J) = am_run (am_G am_prog N d) eX6_readsInto uX6_readsInto N 0 [(0, .ref 117), (1, .ref X.2.2.1)] [] (mkh X I J) := by
  refine (am_G_at N d 95 mX6_readsInto _ _ rfl).trans ?_
  obtain ⟨L, he, sp, t1, t2⟩ := X
  rcases hX with ⟨h1, h2⟩ | ⟨h1, h2⟩ <;> (change he = _ at h1; change sp = _ at h2; subst h1; subst h2) <;> rfl
theorem gX6_readsInto (N d : Nat) {X : lt_X} (hX : hsX X) (I : Nat → Nat → Int32) (J : Nat → Nat → Int64) : am_G am_prog (N + 30) (d + 1) 95 [.ref 117, .ref X.2.2.1] (mkh X I J) = RX6_readsInto_0 N d (N + 30) X I J := fX6_readsInto (N + 30) (d + 0) hX I J
def RX6_readsPart_0 (N d n : Nat) (X : lt_X) (I : Nat → Nat → Int32) (J : Nat → Nat → Int64) : am_O := am_run (am_G am_prog (N + 30) (d + 0)) eX6_readsPart uX6_readsPart n 0 [(0, .ref 117)] [] (mkh X I J)
def KX6_readsPart_0 (N d n : Nat) (z : Int32) (h : am_H) : am_O := am_nb z (some (.int z, h))
def KX6_readsPart_1 (N d n : Nat) (z : Int32) (h : am_H) : am_O := if z = nI 0 then some (.int (nI 0), h) else am_gR h 6 117 0 (fun y1 => am_cI (am_G am_prog (N + 30) (d + 0) 51 [.ref y1, .int (nI 59)] h) (fun r3 h2 => if r3 = nI 0 then some (.int (nI 0), h2) else some (.int (nI 1), h2)))
def KX6_readsPart_2 (N d n : Nat) (z : Int32) (h : am_H) : am_O := if z = nI 0 then some (.int (nI 0), h) else am_gR h 6 117 0 (fun y1 => am_gI h 4 y1 9 (fun y2 => am_cI (am_G am_prog (N + 30) (d + 0) 99 [.ref 117, .int y2] h) (fun r4 h3 => if r4 = nI 0 then some (.int (nI 0), h3) else some (.int (nI 1), h3))))
def KX6_readsPart_3 (N d n : Nat) (z : Int32) (h : am_H) : am_O := am_nb z (some (.int z, h))
def KX6_readsPart_4 (N d n : Nat) (z : Int32) (h : am_H) : am_O := if z = nI 0 then some (.int (nI 0), h) else am_gR h 6 117 0 (fun y1 => am_gI h 4 y1 9 (fun y2 => am_cI (am_G am_prog (N + 30) (d + 0) 101 [.ref 117, .int y2] h) (fun r4 h3 => if r4 = nI 0 then some (.int (nI 0), h3) else some (.int (nI 1), h3))))
def KX6_readsPart_5 (N d n : Nat) (z : Int32) (h : am_H) : am_O := am_nb z (some (.int z, h))
def KX6_readsPart_6 (N d n : Nat) (z : Int32) (h : am_H) : am_O := if z = nI 0 then some (.int (nI 0), h) else am_gR h 6 117 0 (fun y1 => am_gI h 4 y1 9 (fun y2 => am_cI (am_G am_prog (N + 30) (d + 0) 103 [.ref 117, .int y2] h) (fun r4 h3 => if r4 = nI 0 then some (.int (nI 0), h3) else some (.int (nI 1), h3))))
def KX6_readsPart_7 (N d n : Nat) (z : Int32) (h : am_H) : am_O := if z = nI 0 then some (.int (nI 0), h) else some (.int (nI 1), h)
def KX6_readsPart_8 (N d n : Nat) (z : Int32) (h : am_H) : am_O := if z = nI 0 then some (.int (nI 0), h) else some (.int (nI 1), h)
def KX6_readsPart_9 (N d n : Nat) (z : Int32) (h : am_H) : am_O := if z = nI 0 then some (.int (nI 0), h) else some (.int (nI 1), h)
def KX6_readsPart_10 (N d n : Nat) (z : Int32) (h : am_H) : am_O := if z = nI 0 then some (.int (nI 0), h) else some (.int (nI 1), h)
set_option maxHeartbeats 4000000 in
set_option maxRecDepth 100000 in
theorem sX6_readsPart_0 (N d n : Nat) {X : lt_X} (hX : hsX X) (hW : X.2.2.2.1 = some X.2.2.1) (I : Nat → Nat → Int32) (J : Nat → Nat → Int64) : RX6_readsPart_0 N d (n + 1) X I J = if (I 115 4) = nI 100 then am_cI (am_G am_prog (N + 30) (d + 0) 98 [.ref 117] (mkh X I J)) (KX6_readsPart_0 N d n ) else if (I 115 4) = nI 101 then am_cI (am_G am_prog (N + 30) (d + 0) 97 [.ref 117, .int (nI 0)] (mkh X I J)) (KX6_readsPart_1 N d n ) else if (I 115 4) = nI 102 then am_cI (am_G am_prog (N + 30) (d + 0) 97 [.ref 117, .int (nI 1)] (mkh X I J)) (KX6_readsPart_2 N d n ) else if (I 115 4) = nI 103 then am_cI (am_G am_prog (N + 30) (d + 0) 50 [.ref 115] (mkh X I J)) (KX6_readsPart_3 N d n ) else if (I 115 4) = nI 104 then am_cI (am_G am_prog (N + 30) (d + 0) 50 [.ref 115] (mkh X I J)) (KX6_readsPart_3 N d n ) else if (I 115 4) = nI 105 then am_cI (am_G am_prog (N + 30) (d + 0) 50 [.ref 115] (mkh X I J)) (KX6_readsPart_3 N d n ) else if (I 115 4) = nI 106 then am_cI (am_G am_prog (N + 30) (d + 0) 97 [.ref 117, .int (nI 2)] (mkh X I J)) (KX6_readsPart_4 N d n ) else if (I 115 4) = nI 107 then am_cI (am_G am_prog (N + 30) (d + 0) 50 [.ref 115] (mkh X I J)) (KX6_readsPart_3 N d n ) else if (I 115 4) = nI 108 then am_cI (am_G am_prog (N + 30) (d + 0) 102 [.ref 117] (mkh X I J)) (KX6_readsPart_5 N d n ) else if (I 115 4) = nI 109 then am_cI (am_G am_prog (N + 30) (d + 0) 97 [.ref 117, .int (nI 3)] (mkh X I J)) (KX6_readsPart_6 N d n ) else am_cI (am_G am_prog (N + 30) (d + 0) 50 [.ref 115] (mkh X I J)) (KX6_readsPart_3 N d n ) := by
  obtain ⟨L, he, sp, t1, t2⟩ := X
  change t1 = some sp at hW; subst hW
  rcases hX with ⟨h1, h2⟩ | ⟨h1, h2⟩ <;> (change he = _ at h1; change sp = _ at h2; subst h1; subst h2) <;> rfl
set_option maxHeartbeats 4000000 in
set_option maxRecDepth 100000 in
theorem kX6_readsPart_0 (N d n : Nat) {X : lt_X} (hX : hsX X) (hW : X.2.2.2.1 = some X.2.2.1) (z : Int32) (I : Nat → Nat → Int32) (J : Nat → Nat → Int64) : KX6_readsPart_0 N d n z (mkh X I J) = am_nb z (some (.int z, (mkh X I J))) := by
  obtain ⟨L, he, sp, t1, t2⟩ := X
  change t1 = some sp at hW; subst hW
  rcases hX with ⟨h1, h2⟩ | ⟨h1, h2⟩ <;> (change he = _ at h1; change sp = _ at h2; subst h1; subst h2) <;> rfl
set_option maxHeartbeats 4000000 in
set_option maxRecDepth 100000 in
theorem kX6_readsPart_1 (N d n : Nat) {X : lt_X} (hX : hsX X) (hW : X.2.2.2.1 = some X.2.2.1) (z : Int32) (I : Nat → Nat → Int32) (J : Nat → Nat → Int64) : KX6_readsPart_1 N d n z (mkh X I J) = if z = nI 0 then some (.int (nI 0), (mkh X I J)) else am_cI (am_G am_prog (N + 30) (d + 0) 51 [.ref 115, .int (nI 59)] (mkh X I J)) (KX6_readsPart_7 N d n ) := by
  obtain ⟨L, he, sp, t1, t2⟩ := X
  change t1 = some sp at hW; subst hW
  rcases hX with ⟨h1, h2⟩ | ⟨h1, h2⟩ <;> (change he = _ at h1; change sp = _ at h2; subst h1; subst h2) <;> rfl
set_option maxHeartbeats 4000000 in
set_option maxRecDepth 100000 in
theorem kX6_readsPart_2 (N d n : Nat) {X : lt_X} (hX : hsX X) (hW : X.2.2.2.1 = some X.2.2.1) (z : Int32) (I : Nat → Nat → Int32) (J : Nat → Nat → Int64) : KX6_readsPart_2 N d n z (mkh X I J) = if z = nI 0 then some (.int (nI 0), (mkh X I J)) else am_cI (am_G am_prog (N + 30) (d + 0) 99 [.ref 117, .int (I 115 9)] (mkh X I J)) (KX6_readsPart_8 N d n ) := by
  obtain ⟨L, he, sp, t1, t2⟩ := X
  change t1 = some sp at hW; subst hW
  rcases hX with ⟨h1, h2⟩ | ⟨h1, h2⟩ <;> (change he = _ at h1; change sp = _ at h2; subst h1; subst h2) <;> rfl
set_option maxHeartbeats 4000000 in
set_option maxRecDepth 100000 in
theorem kX6_readsPart_3 (N d n : Nat) {X : lt_X} (hX : hsX X) (hW : X.2.2.2.1 = some X.2.2.1) (z : Int32) (I : Nat → Nat → Int32) (J : Nat → Nat → Int64) : KX6_readsPart_3 N d n z (mkh X I J) = am_nb z (some (.int z, (mkh X I J))) := by
  obtain ⟨L, he, sp, t1, t2⟩ := X
  change t1 = some sp at hW; subst hW
  rcases hX with ⟨h1, h2⟩ | ⟨h1, h2⟩ <;> (change he = _ at h1; change sp = _ at h2; subst h1; subst h2) <;> rfl
set_option maxHeartbeats 4000000 in
set_option maxRecDepth 100000 in
theorem kX6_readsPart_4 (N d n : Nat) {X : lt_X} (hX : hsX X) (hW : X.2.2.2.1 = some X.2.2.1) (z : Int32) (I : Nat → Nat → Int32) (J : Nat → Nat → Int64) : KX6_readsPart_4 N d n z (mkh X I J) = if z = nI 0 then some (.int (nI 0), (mkh X I J)) else am_cI (am_G am_prog (N + 30) (d + 0) 101 [.ref 117, .int (I 115 9)] (mkh X I J)) (KX6_readsPart_9 N d n ) := by
  obtain ⟨L, he, sp, t1, t2⟩ := X
  change t1 = some sp at hW; subst hW
  rcases hX with ⟨h1, h2⟩ | ⟨h1, h2⟩ <;> (change he = _ at h1; change sp = _ at h2; subst h1; subst h2) <;> rfl
set_option maxHeartbeats 4000000 in
set_option maxRecDepth 100000 in
theorem kX6_readsPart_5 (N d n : Nat) {X : lt_X} (hX : hsX X) (hW : X.2.2.2.1 = some X.2.2.1) (z : Int32) (I : Nat → Nat → Int32) (J : Nat → Nat → Int64) : KX6_readsPart_5 N d n z (mkh X I J) = am_nb z (some (.int z, (mkh X I J))) := by
  obtain ⟨L, he, sp, t1, t2⟩ := X
  change t1 = some sp at hW; subst hW
  rcases hX with ⟨h1, h2⟩ | ⟨h1, h2⟩ <;> (change he = _ at h1; change sp = _ at h2; subst h1; subst h2) <;> rfl
set_option maxHeartbeats 4000000 in
set_option maxRecDepth 100000 in
theorem kX6_readsPart_6 (N d n : Nat) {X : lt_X} (hX : hsX X) (hW : X.2.2.2.1 = some X.2.2.1) (z : Int32) (I : Nat → Nat → Int32) (J : Nat → Nat → Int64) : KX6_readsPart_6 N d n z (mkh X I J) = if z = nI 0 then some (.int (nI 0), (mkh X I J)) else am_cI (am_G am_prog (N + 30) (d + 0) 103 [.ref 117, .int (I 115 9)] (mkh X I J)) (KX6_readsPart_10 N d n ) := by
  obtain ⟨L, he, sp, t1, t2⟩ := X
  change t1 = some sp at hW; subst hW
  rcases hX with ⟨h1, h2⟩ | ⟨h1, h2⟩ <;> (change he = _ at h1; change sp = _ at h2; subst h1; subst h2) <;> rfl
set_option maxHeartbeats 4000000 in
set_option maxRecDepth 100000 in
theorem kX6_readsPart_7 (N d n : Nat) {X : lt_X} (hX : hsX X) (hW : X.2.2.2.1 = some X.2.2.1) (z : Int32) (I : Nat → Nat → Int32) (J : Nat → Nat → Int64) : KX6_readsPart_7 N d n z (mkh X I J) = if z = nI 0 then some (.int (nI 0), (mkh X I J)) else some (.int (nI 1), (mkh X I J)) := by
  obtain ⟨L, he, sp, t1, t2⟩ := X
  change t1 = some sp at hW; subst hW
  rcases hX with ⟨h1, h2⟩ | ⟨h1, h2⟩ <;> (change he = _ at h1; change sp = _ at h2; subst h1; subst h2) <;> rfl
set_option maxHeartbeats 4000000 in
set_option maxRecDepth 100000 in
theorem kX6_readsPart_8 (N d n : Nat) {X : lt_X} (hX : hsX X) (hW : X.2.2.2.1 = some X.2.2.1) (z : Int32) (I : Nat → Nat → Int32) (J : Nat → Nat → Int64) : KX6_readsPart_8 N d n z (mkh X I J) = if z = nI 0 then some (.int (nI 0), (mkh X I J)) else some (.int (nI 1), (mkh X I J)) := by
  obtain ⟨L, he, sp, t1, t2⟩ := X
  change t1 = some sp at hW; subst hW
  rcases hX with ⟨h1, h2⟩ | ⟨h1, h2⟩ <;> (change he = _ at h1; change sp = _ at h2; subst h1; subst h2) <;> rfl
set_option maxHeartbeats 4000000 in
set_option maxRecDepth 100000 in
theorem kX6_readsPart_9 (N d n : Nat) {X : lt_X} (hX : hsX X) (hW : X.2.2.2.1 = some X.2.2.1) (z : Int32) (I : Nat → Nat → Int32) (J : Nat → Nat → Int64) : KX6_readsPart_9 N d n z (mkh X I J) = if z = nI 0 then some (.int (nI 0), (mkh X I J)) else some (.int (nI 1), (mkh X I J)) := by
  obtain ⟨L, he, sp, t1, t2⟩ := X
  change t1 = some sp at hW; subst hW
  rcases hX with ⟨h1, h2⟩ | ⟨h1, h2⟩ <;> (change he = _ at h1; change sp = _ at h2; subst h1; subst h2) <;> rfl
set_option maxHeartbeats 4000000 in
set_option maxRecDepth 100000 in
theorem kX6_readsPart_10 (N d n : Nat) {X : lt_X} (hX : hsX X) (hW : X.2.2.2.1 = some X.2.2.1) (z : Int32) (I : Nat → Nat → Int32) (J : Nat → Nat → Int64) : KX6_readsPart_10 N d n z (mkh X I J) = if z = nI 0 then some (.int (nI 0), (mkh X I J)) else some (.int (nI 1), (mkh X I J)) := by
  obtain ⟨L, he, sp, t1, t2⟩ := X
  change t1 = some sp at hW; subst hW
  rcases hX with ⟨h1, h2⟩ | ⟨h1, h2⟩ <;> (change he = _ at h1; change sp = _ at h2; subst h1; subst h2) <;> rfl
theorem fX6_readsPart (N d : Nat) {X : lt_X} (I : Nat → Nat → Int32) (J : Nat → Nat → Int64) : am_G am_prog N (d + 1) 96 [.ref 117] (mkh X I J) = am_run (am_G am_prog N d) eX6_readsPart uX6_readsPart N 0 [(0, .ref 117)] [] (mkh X I J) := by
  refine (am_G_at N d 96 mX6_readsPart _ _ rfl).trans ?_
  rfl
theorem gX6_readsPart (N d : Nat) {X : lt_X} (I : Nat → Nat → Int32) (J : Nat → Nat → Int64) : am_G am_prog (N + 30) (d + 1) 96 [.ref 117] (mkh X I J) = RX6_readsPart_0 N d (N + 30) X I J := fX6_readsPart (N + 30) (d + 0) I J
def RX6_readsNew_0 (N d n : Nat) (X : lt_X) (x1 : Int32) (I : Nat → Nat → Int32) (J : Nat → Nat → Int64) : am_O := am_run (am_G am_prog (N + 30) (d + 1)) eX6_readsNew uX6_readsNew n 0 [(0, .ref 117), (1, .int x1)] [] (mkh X I J)
def KX6_readsNew_0 (N d n : Nat) (a0 : Int32) (z : Int32) (h : am_H) : am_O := if z = nI 0 then am_gR h 6 117 0 (fun y1 => am_cV (am_G am_prog (N + 30) (d + 1) 46 [.ref y1] h) (fun h2 => am_gR h2 6 117 0 (fun y3 => am_gR h2 6 117 1 (fun y4 => am_cI (am_G am_prog (N + 30) (d + 1) 55 [.ref y3, .ref y4, .int a0] h2) (fun r6 h5 => am_nb r6 (some (.int r6, h5))))))) else am_gR h 6 117 0 (fun y7 => am_cI (am_G am_prog (N + 30) (d + 1) 49 [.ref y7, .int (nI 6)] h) (fun r9 h8 => am_nb r9 (some (.int r9, h8))))
def KX6_readsNew_1 (N d n : Nat) (a0 : Int32) (h : am_H) : am_O := am_gR h 6 117 0 (fun y1 => am_gR h 6 117 1 (fun y2 => am_cI (am_G am_prog (N + 30) (d + 1) 55 [.ref y1, .ref y2, .int a0] h) (fun r4 h3 => am_nb r4 (some (.int r4, h3)))))
def KX6_readsNew_2 (N d n : Nat) (z : Int32) (h : am_H) : am_O := am_nb z (some (.int z, h))
def KX6_readsNew_3 (N d n : Nat) (z : Int32) (h : am_H) : am_O := am_nb z (some (.int z, h))
set_option maxHeartbeats 4000000 in
set_option maxRecDepth 100000 in
theorem sX6_readsNew_0 (N d n : Nat) {X : lt_X} (hX : hsX X) (hW : X.2.2.2.1 = some X.2.2.1) (x1 : Int32) (I : Nat → Nat → Int32) (J : Nat → Nat → Int64) : RX6_readsNew_0 N d (n + 1) X x1 I J = am_cI (am_G am_prog (N + 30) (d + 1) 61 [.ref X.2.2.1, .int x1] (mkh X I J)) (KX6_readsNew_0 N d n x1) := by
  obtain ⟨L, he, sp, t1, t2⟩ := X
  change t1 = some sp at hW; subst hW
  rcases hX with ⟨h1, h2⟩ | ⟨h1, h2⟩ <;> (change he = _ at h1; change sp = _ at h2; subst h1; subst h2) <;> rfl
set_option maxHeartbeats 4000000 in
set_option maxRecDepth 100000 in
theorem kX6_readsNew_0 (N d n : Nat) {X : lt_X} (hX : hsX X) (hW : X.2.2.2.1 = some X.2.2.1) (a0 : Int32) (z : Int32) (I : Nat → Nat → Int32) (J : Nat → Nat → Int64) : KX6_readsNew_0 N d n a0 z (mkh X I J) = if z = nI 0 then am_cV (am_G am_prog (N + 30) (d + 1) 46 [.ref 115] (mkh X I J)) (KX6_readsNew_1 N d n a0) else am_cI (am_G am_prog (N + 30) (d + 1) 49 [.ref 115, .int (nI 6)] (mkh X I J)) (KX6_readsNew_2 N d n ) := by
  obtain ⟨L, he, sp, t1, t2⟩ := X
  change t1 = some sp at hW; subst hW
  rcases hX with ⟨h1, h2⟩ | ⟨h1, h2⟩ <;> (change he = _ at h1; change sp = _ at h2; subst h1; subst h2) <;> rfl
set_option maxHeartbeats 4000000 in
set_option maxRecDepth 100000 in
theorem kX6_readsNew_1 (N d n : Nat) {X : lt_X} (hX : hsX X) (hW : X.2.2.2.1 = some X.2.2.1) (a0 : Int32) (I : Nat → Nat → Int32) (J : Nat → Nat → Int64) : KX6_readsNew_1 N d n a0 (mkh X I J) = am_cI (am_G am_prog (N + 30) (d + 1) 55 [.ref 115, .ref X.2.2.1, .int a0] (mkh X I J)) (KX6_readsNew_3 N d n ) := by
  obtain ⟨L, he, sp, t1, t2⟩ := X
  change t1 = some sp at hW; subst hW
  rcases hX with ⟨h1, h2⟩ | ⟨h1, h2⟩ <;> (change he = _ at h1; change sp = _ at h2; subst h1; subst h2) <;> rfl
set_option maxHeartbeats 4000000 in
set_option maxRecDepth 100000 in
theorem kX6_readsNew_2 (N d n : Nat) {X : lt_X} (hX : hsX X) (hW : X.2.2.2.1 = some X.2.2.1) (z : Int32) (I : Nat → Nat → Int32) (J : Nat → Nat → Int64) : KX6_readsNew_2 N d n z (mkh X I J) = am_nb z (some (.int z, (mkh X I J))) := by
  obtain ⟨L, he, sp, t1, t2⟩ := X
  change t1 = some sp at hW; subst hW
  rcases hX with ⟨h1, h2⟩ | ⟨h1, h2⟩ <;> (change he = _ at h1; change sp = _ at h2; subst h1; subst h2) <;> rfl
set_option maxHeartbeats 4000000 in
set_option maxRecDepth 100000 in
theorem kX6_readsNew_3 (N d n : Nat) {X : lt_X} (hX : hsX X) (hW : X.2.2.2.1 = some X.2.2.1) (z : Int32) (I : Nat → Nat → Int32) (J : Nat → Nat → Int64) : KX6_readsNew_3 N d n z (mkh X I J) = am_nb z (some (.int z, (mkh X I J))) := by
  obtain ⟨L, he, sp, t1, t2⟩ := X
  change t1 = some sp at hW; subst hW
  rcases hX with ⟨h1, h2⟩ | ⟨h1, h2⟩ <;> (change he = _ at h1; change sp = _ at h2; subst h1; subst h2) <;> rfl
theorem fX6_readsNew (N d : Nat) {X : lt_X} (x1 : Int32) (I : Nat → Nat → Int32) (J : Nat → Nat → Int64) : am_G am_prog N (d + 1) 97 [.ref 117, .int x1] (mkh X I J) = am_run (am_G am_prog N d) eX6_readsNew uX6_readsNew N 0 [(0, .ref 117), (1, .int x1)] [] (mkh X I J) := by
  refine (am_G_at N d 97 mX6_readsNew _ _ rfl).trans ?_
  rfl
theorem gX6_readsNew (N d : Nat) {X : lt_X} (x1 : Int32) (I : Nat → Nat → Int32) (J : Nat → Nat → Int64) : am_G am_prog (N + 30) (d + 2) 97 [.ref 117, .int x1] (mkh X I J) = RX6_readsNew_0 N d (N + 30) X x1 I J := fX6_readsNew (N + 30) (d + 1) x1 I J
def RX6_readsOdds_0 (N d n : Nat) (X : lt_X) (I : Nat → Nat → Int32) (J : Nat → Nat → Int64) : am_O := am_run (am_G am_prog (N + 30) (d + 0)) eX6_readsOdds uX6_readsOdds n 0 [(0, .ref 117)] [] (mkh X I J)
def KX6_readsOdds_0 (N d n : Nat) (h : am_H) : am_O := am_gR h 6 117 0 (fun y1 => am_cI (am_G am_prog (N + 30) (d + 0) 52 [.ref y1, .int (nI 0), .int (nI 16)] h) (fun r3 h2 => if r3 = nI 0 then some (.int (nI 0), h2) else am_gR h2 6 117 1 (fun y4 => am_gR h2 6 117 0 (fun y5 => am_gI h2 4 y5 8 (fun y6 => am_pI h2 5 y4 2 y6 (fun h7 => am_gR h7 6 117 0 (fun y8 => am_cI (am_G am_prog (N + 30) (d + 0) 51 [.ref y8, .int (nI 59)] h7) (fun r10 h9 => am_nb r10 (some (.int r10, h9))))))))))
def KX6_readsOdds_1 (N d n : Nat) (z : Int32) (h : am_H) : am_O := am_nb z (some (.int z, h))
def KX6_readsOdds_2 (N d n : Nat) (z : Int32) (h : am_H) : am_O := if z = nI 0 then some (.int (nI 0), h) else am_gR h 6 117 1 (fun y1 => am_gR h 6 117 0 (fun y2 => am_gI h 4 y2 8 (fun y3 => am_pI h 5 y1 2 y3 (fun h4 => am_gR h4 6 117 0 (fun y5 => am_cI (am_G am_prog (N + 30) (d + 0) 51 [.ref y5, .int (nI 59)] h4) (fun r7 h6 => am_nb r7 (some (.int r7, h6))))))))
def KX6_readsOdds_3 (N d n : Nat) (z : Int32) (h : am_H) : am_O := am_nb z (some (.int z, h))
set_option maxHeartbeats 4000000 in
set_option maxRecDepth 100000 in
theorem sX6_readsOdds_0 (N d n : Nat) {X : lt_X} (hX : hsX X) (hW : X.2.2.2.1 = some X.2.2.1) (I : Nat → Nat → Int32) (J : Nat → Nat → Int64) : RX6_readsOdds_0 N d (n + 1) X I J = if (I 117 2) = nI 0 then am_cV (am_G am_prog (N + 30) (d + 0) 46 [.ref 115] (mkh X (u2 I 117 2 (nI 1)) J)) (KX6_readsOdds_0 N d n ) else am_cI (am_G am_prog (N + 30) (d + 0) 49 [.ref 115, .int (nI 5)] (mkh X I J)) (KX6_readsOdds_1 N d n ) := by
  obtain ⟨L, he, sp, t1, t2⟩ := X
  change t1 = some sp at hW; subst hW
  rcases hX with ⟨h1, h2⟩ | ⟨h1, h2⟩ <;> (change he = _ at h1; change sp = _ at h2; subst h1; subst h2) <;> rfl
set_option maxHeartbeats 4000000 in
set_option maxRecDepth 100000 in
theorem kX6_readsOdds_0 (N d n : Nat) {X : lt_X} (hX : hsX X) (hW : X.2.2.2.1 = some X.2.2.1) (I : Nat → Nat → Int32) (J : Nat → Nat → Int64) : KX6_readsOdds_0 N d n (mkh X I J) = am_cI (am_G am_prog (N + 30) (d + 0) 52 [.ref 115, .int (nI 0), .int (nI 16)] (mkh X I J)) (KX6_readsOdds_2 N d n ) := by
  obtain ⟨L, he, sp, t1, t2⟩ := X
  change t1 = some sp at hW; subst hW
  rcases hX with ⟨h1, h2⟩ | ⟨h1, h2⟩ <;> (change he = _ at h1; change sp = _ at h2; subst h1; subst h2) <;> rfl
set_option maxHeartbeats 4000000 in
set_option maxRecDepth 100000 in
theorem kX6_readsOdds_1 (N d n : Nat) {X : lt_X} (hX : hsX X) (hW : X.2.2.2.1 = some X.2.2.1) (z : Int32) (I : Nat → Nat → Int32) (J : Nat → Nat → Int64) : KX6_readsOdds_1 N d n z (mkh X I J) = am_nb z (some (.int z, (mkh X I J))) := by
  obtain ⟨L, he, sp, t1, t2⟩ := X
  change t1 = some sp at hW; subst hW
  rcases hX with ⟨h1, h2⟩ | ⟨h1, h2⟩ <;> (change he = _ at h1; change sp = _ at h2; subst h1; subst h2) <;> rfl
set_option maxHeartbeats 4000000 in
set_option maxRecDepth 100000 in
theorem kX6_readsOdds_2 (N d n : Nat) {X : lt_X} (hX : hsX X) (hW : X.2.2.2.1 = some X.2.2.1) (z : Int32) (I : Nat → Nat → Int32) (J : Nat → Nat → Int64) : KX6_readsOdds_2 N d n z (mkh X I J) = if z = nI 0 then some (.int (nI 0), (mkh X I J)) else am_cI (am_G am_prog (N + 30) (d + 0) 51 [.ref 115, .int (nI 59)] (mkh X (u2 I X.2.2.1 2 (I 115 8)) J)) (KX6_readsOdds_3 N d n ) := by
  obtain ⟨L, he, sp, t1, t2⟩ := X
  change t1 = some sp at hW; subst hW
  rcases hX with ⟨h1, h2⟩ | ⟨h1, h2⟩ <;> (change he = _ at h1; change sp = _ at h2; subst h1; subst h2) <;> rfl
set_option maxHeartbeats 4000000 in
set_option maxRecDepth 100000 in
theorem kX6_readsOdds_3 (N d n : Nat) {X : lt_X} (hX : hsX X) (hW : X.2.2.2.1 = some X.2.2.1) (z : Int32) (I : Nat → Nat → Int32) (J : Nat → Nat → Int64) : KX6_readsOdds_3 N d n z (mkh X I J) = am_nb z (some (.int z, (mkh X I J))) := by
  obtain ⟨L, he, sp, t1, t2⟩ := X
  change t1 = some sp at hW; subst hW
  rcases hX with ⟨h1, h2⟩ | ⟨h1, h2⟩ <;> (change he = _ at h1; change sp = _ at h2; subst h1; subst h2) <;> rfl
theorem fX6_readsOdds (N d : Nat) {X : lt_X} (I : Nat → Nat → Int32) (J : Nat → Nat → Int64) : am_G am_prog N (d + 1) 98 [.ref 117] (mkh X I J) = am_run (am_G am_prog N d) eX6_readsOdds uX6_readsOdds N 0 [(0, .ref 117)] [] (mkh X I J) := by
  refine (am_G_at N d 98 mX6_readsOdds _ _ rfl).trans ?_
  rfl
theorem gX6_readsOdds (N d : Nat) {X : lt_X} (I : Nat → Nat → Int32) (J : Nat → Nat → Int64) : am_G am_prog (N + 30) (d + 1) 98 [.ref 117] (mkh X I J) = RX6_readsOdds_0 N d (N + 30) X I J := fX6_readsOdds (N + 30) (d + 0) I J
def RX6_readsVoice_0 (N d n : Nat) (X : lt_X) (x1 : Int32) (I : Nat → Nat → Int32) (J : Nat → Nat → Int64) : am_O := am_run (am_G am_prog (N + 30) (d + 0)) eX6_readsVoice uX6_readsVoice n 0 [(0, .ref 117), (1, .int x1)] [] (mkh X I J)
def KX6_readsVoice_0 (N d n : Nat) (a0 : Int32) (z : Int32) (h : am_H) : am_O := if z = nI 0 then some (.int (nI 0), h) else am_gR h 6 117 0 (fun y1 => am_cI (am_G am_prog (N + 30) (d + 0) 52 [.ref y1, .int (nI 0), .int (nI 119)] h) (fun r3 h2 => if r3 = nI 0 then some (.int (nI 0), h2) else am_gR h2 6 117 1 (fun y4 => am_gR h2 5 y4 7 (fun y5 => am_gR h2 6 117 0 (fun y6 => am_gI h2 4 y6 8 (fun y7 => am_tI h2 y5 a0 y7 (fun h8 => am_gR h8 6 117 0 (fun y9 => am_cI (am_G am_prog (N + 30) (d + 0) 51 [.ref y9, .int (nI 104)] h8) (fun r11 h10 => if r11 = nI 0 then some (.int (nI 0), h10) else am_gR h10 6 117 0 (fun y12 => am_cI (am_G am_prog (N + 30) (d + 0) 52 [.ref y12, .int (nI 1), .int (nI 120)] h10) (fun r14 h13 => if r14 = nI 0 then some (.int (nI 0), h13) else am_gR h13 6 117 1 (fun y15 => am_gR h13 5 y15 8 (fun y16 => am_gR h13 6 117 0 (fun y17 => am_gI h13 4 y17 8 (fun y18 => am_tI h13 y16 a0 y18 (fun h19 => am_gR h19 6 117 0 (fun y20 => am_cI (am_G am_prog (N + 30) (d + 0) 51 [.ref y20, .int (nI 105)] h19) (fun r22 h21 => if r22 = nI 0 then some (.int (nI 0), h21) else am_cI (am_G am_prog (N + 30) (d + 0) 100 [.ref 117, .int a0] h21) (fun r24 h23 => if r24 = nI 0 then some (.int (nI 0), h23) else am_gR h23 6 117 0 (fun y25 => am_cI (am_G am_prog (N + 30) (d + 0) 51 [.ref y25, .int (nI 59)] h23) (fun r27 h26 => if r27 = nI 0 then some (.int (nI 0), h26) else some (.int (nI 1), h26))))))))))))))))))))))
def KX6_readsVoice_1 (N d n : Nat) (a0 : Int32) (z : Int32) (h : am_H) : am_O := if z = nI 0 then some (.int (nI 0), h) else am_gR h 6 117 1 (fun y1 => am_gR h 5 y1 7 (fun y2 => am_gR h 6 117 0 (fun y3 => am_gI h 4 y3 8 (fun y4 => am_tI h y2 a0 y4 (fun h5 => am_gR h5 6 117 0 (fun y6 => am_cI (am_G am_prog (N + 30) (d + 0) 51 [.ref y6, .int (nI 104)] h5) (fun r8 h7 => if r8 = nI 0 then some (.int (nI 0), h7) else am_gR h7 6 117 0 (fun y9 => am_cI (am_G am_prog (N + 30) (d + 0) 52 [.ref y9, .int (nI 1), .int (nI 120)] h7) (fun r11 h10 => if r11 = nI 0 then some (.int (nI 0), h10) else am_gR h10 6 117 1 (fun y12 => am_gR h10 5 y12 8 (fun y13 => am_gR h10 6 117 0 (fun y14 => am_gI h10 4 y14 8 (fun y15 => am_tI h10 y13 a0 y15 (fun h16 => am_gR h16 6 117 0 (fun y17 => am_cI (am_G am_prog (N + 30) (d + 0) 51 [.ref y17, .int (nI 105)] h16) (fun r19 h18 => if r19 = nI 0 then some (.int (nI 0), h18) else am_cI (am_G am_prog (N + 30) (d + 0) 100 [.ref 117, .int a0] h18) (fun r21 h20 => if r21 = nI 0 then some (.int (nI 0), h20) else am_gR h20 6 117 0 (fun y22 => am_cI (am_G am_prog (N + 30) (d + 0) 51 [.ref y22, .int (nI 59)] h20) (fun r24 h23 => if r24 = nI 0 then some (.int (nI 0), h23) else some (.int (nI 1), h23))))))))))))))))))))
def KX6_readsVoice_2 (N d n : Nat) (a0 : Int32) (z : Int32) (h : am_H) : am_O := if z = nI 0 then some (.int (nI 0), h) else am_gR h 6 117 0 (fun y1 => am_cI (am_G am_prog (N + 30) (d + 0) 52 [.ref y1, .int (nI 1), .int (nI 120)] h) (fun r3 h2 => if r3 = nI 0 then some (.int (nI 0), h2) else am_gR h2 6 117 1 (fun y4 => am_gR h2 5 y4 8 (fun y5 => am_gR h2 6 117 0 (fun y6 => am_gI h2 4 y6 8 (fun y7 => am_tI h2 y5 a0 y7 (fun h8 => am_gR h8 6 117 0 (fun y9 => am_cI (am_G am_prog (N + 30) (d + 0) 51 [.ref y9, .int (nI 105)] h8) (fun r11 h10 => if r11 = nI 0 then some (.int (nI 0), h10) else am_cI (am_G am_prog (N + 30) (d + 0) 100 [.ref 117, .int a0] h10) (fun r13 h12 => if r13 = nI 0 then some (.int (nI 0), h12) else am_gR h12 6 117 0 (fun y14 => am_cI (am_G am_prog (N + 30) (d + 0) 51 [.ref y14, .int (nI 59)] h12) (fun r16 h15 => if r16 = nI 0 then some (.int (nI 0), h15) else some (.int (nI 1), h15)))))))))))))
def KX6_readsVoice_3 (N d n : Nat) (a0 : Int32) (z : Int32) (h : am_H) : am_O := if z = nI 0 then some (.int (nI 0), h) else am_gR h 6 117 1 (fun y1 => am_gR h 5 y1 8 (fun y2 => am_gR h 6 117 0 (fun y3 => am_gI h 4 y3 8 (fun y4 => am_tI h y2 a0 y4 (fun h5 => am_gR h5 6 117 0 (fun y6 => am_cI (am_G am_prog (N + 30) (d + 0) 51 [.ref y6, .int (nI 105)] h5) (fun r8 h7 => if r8 = nI 0 then some (.int (nI 0), h7) else am_cI (am_G am_prog (N + 30) (d + 0) 100 [.ref 117, .int a0] h7) (fun r10 h9 => if r10 = nI 0 then some (.int (nI 0), h9) else am_gR h9 6 117 0 (fun y11 => am_cI (am_G am_prog (N + 30) (d + 0) 51 [.ref y11, .int (nI 59)] h9) (fun r13 h12 => if r13 = nI 0 then some (.int (nI 0), h12) else some (.int (nI 1), h12)))))))))))
def KX6_readsVoice_4 (N d n : Nat) (a0 : Int32) (z : Int32) (h : am_H) : am_O := if z = nI 0 then some (.int (nI 0), h) else am_cI (am_G am_prog (N + 30) (d + 0) 100 [.ref 117, .int a0] h) (fun r2 h1 => if r2 = nI 0 then some (.int (nI 0), h1) else am_gR h1 6 117 0 (fun y3 => am_cI (am_G am_prog (N + 30) (d + 0) 51 [.ref y3, .int (nI 59)] h1) (fun r5 h4 => if r5 = nI 0 then some (.int (nI 0), h4) else some (.int (nI 1), h4))))
def KX6_readsVoice_5 (N d n : Nat) (z : Int32) (h : am_H) : am_O := if z = nI 0 then some (.int (nI 0), h) else am_gR h 6 117 0 (fun y1 => am_cI (am_G am_prog (N + 30) (d + 0) 51 [.ref y1, .int (nI 59)] h) (fun r3 h2 => if r3 = nI 0 then some (.int (nI 0), h2) else some (.int (nI 1), h2)))
def KX6_readsVoice_6 (N d n : Nat) (z : Int32) (h : am_H) : am_O := if z = nI 0 then some (.int (nI 0), h) else some (.int (nI 1), h)
set_option maxHeartbeats 4000000 in
set_option maxRecDepth 100000 in
theorem sX6_readsVoice_0 (N d n : Nat) {X : lt_X} (hX : hsX X) (hW : X.2.2.2.1 = some X.2.2.1) (x1 : Int32) (I : Nat → Nat → Int32) (J : Nat → Nat → Int64) : RX6_readsVoice_0 N d (n + 1) X x1 I J = am_cI (am_G am_prog (N + 30) (d + 0) 51 [.ref 115, .int (nI 103)] (mkh X I J)) (KX6_readsVoice_0 N d n x1) := by
  obtain ⟨L, he, sp, t1, t2⟩ := X
  change t1 = some sp at hW; subst hW
  rcases hX with ⟨h1, h2⟩ | ⟨h1, h2⟩ <;> (change he = _ at h1; change sp = _ at h2; subst h1; subst h2) <;> rfl
set_option maxHeartbeats 4000000 in
set_option maxRecDepth 100000 in
theorem kX6_readsVoice_0 (N d n : Nat) {X : lt_X} (hX : hsX X) (hW : X.2.2.2.1 = some X.2.2.1) (a0 : Int32) (z : Int32) (I : Nat → Nat → Int32) (J : Nat → Nat → Int64) : KX6_readsVoice_0 N d n a0 z (mkh X I J) = if z = nI 0 then some (.int (nI 0), (mkh X I J)) else am_cI (am_G am_prog (N + 30) (d + 0) 52 [.ref 115, .int (nI 0), .int (nI 119)] (mkh X I J)) (KX6_readsVoice_1 N d n a0) := by
  obtain ⟨L, he, sp, t1, t2⟩ := X
  change t1 = some sp at hW; subst hW
  rcases hX with ⟨h1, h2⟩ | ⟨h1, h2⟩ <;> (change he = _ at h1; change sp = _ at h2; subst h1; subst h2) <;> rfl
set_option maxHeartbeats 4000000 in
set_option maxRecDepth 100000 in
theorem kX6_readsVoice_1 (N d n : Nat) {X : lt_X} (hX : hsX X) (hW : X.2.2.2.1 = some X.2.2.1) (a0 : Int32) (z : Int32) (I : Nat → Nat → Int32) (J : Nat → Nat → Int64) : KX6_readsVoice_1 N d n a0 z (mkh X I J) = if z = nI 0 then some (.int (nI 0), (mkh X I J)) else if am_in a0 6 then am_cI (am_G am_prog (N + 30) (d + 0) 51 [.ref 115, .int (nI 104)] (mkh X (u2 I (X.2.2.1 + 3) a0.toNatClampNeg (I 115 8)) J)) (KX6_readsVoice_2 N d n a0) else none := by
  obtain ⟨L, he, sp, t1, t2⟩ := X
  change t1 = some sp at hW; subst hW
  rcases hX with ⟨h1, h2⟩ | ⟨h1, h2⟩ <;> (change he = _ at h1; change sp = _ at h2; subst h1; subst h2) <;> rfl
set_option maxHeartbeats 4000000 in
set_option maxRecDepth 100000 in
theorem kX6_readsVoice_2 (N d n : Nat) {X : lt_X} (hX : hsX X) (hW : X.2.2.2.1 = some X.2.2.1) (a0 : Int32) (z : Int32) (I : Nat → Nat → Int32) (J : Nat → Nat → Int64) : KX6_readsVoice_2 N d n a0 z (mkh X I J) = if z = nI 0 then some (.int (nI 0), (mkh X I J)) else am_cI (am_G am_prog (N + 30) (d + 0) 52 [.ref 115, .int (nI 1), .int (nI 120)] (mkh X I J)) (KX6_readsVoice_3 N d n a0) := by
  obtain ⟨L, he, sp, t1, t2⟩ := X
  change t1 = some sp at hW; subst hW
  rcases hX with ⟨h1, h2⟩ | ⟨h1, h2⟩ <;> (change he = _ at h1; change sp = _ at h2; subst h1; subst h2) <;> rfl
set_option maxHeartbeats 4000000 in
set_option maxRecDepth 100000 in
theorem kX6_readsVoice_3 (N d n : Nat) {X : lt_X} (hX : hsX X) (hW : X.2.2.2.1 = some X.2.2.1) (a0 : Int32) (z : Int32) (I : Nat → Nat → Int32) (J : Nat → Nat → Int64) : KX6_readsVoice_3 N d n a0 z (mkh X I J) = if z = nI 0 then some (.int (nI 0), (mkh X I J)) else if am_in a0 6 then am_cI (am_G am_prog (N + 30) (d + 0) 51 [.ref 115, .int (nI 105)] (mkh X (u2 I (X.2.2.1 + 4) a0.toNatClampNeg (I 115 8)) J)) (KX6_readsVoice_4 N d n a0) else none := by
  obtain ⟨L, he, sp, t1, t2⟩ := X
  change t1 = some sp at hW; subst hW
  rcases hX with ⟨h1, h2⟩ | ⟨h1, h2⟩ <;> (change he = _ at h1; change sp = _ at h2; subst h1; subst h2) <;> rfl
set_option maxHeartbeats 4000000 in
set_option maxRecDepth 100000 in
theorem kX6_readsVoice_4 (N d n : Nat) {X : lt_X} (hX : hsX X) (hW : X.2.2.2.1 = some X.2.2.1) (a0 : Int32) (z : Int32) (I : Nat → Nat → Int32) (J : Nat → Nat → Int64) : KX6_readsVoice_4 N d n a0 z (mkh X I J) = if z = nI 0 then some (.int (nI 0), (mkh X I J)) else am_cI (am_G am_prog (N + 30) (d + 0) 100 [.ref 117, .int a0] (mkh X I J)) (KX6_readsVoice_5 N d n ) := by
  obtain ⟨L, he, sp, t1, t2⟩ := X
  change t1 = some sp at hW; subst hW
  rcases hX with ⟨h1, h2⟩ | ⟨h1, h2⟩ <;> (change he = _ at h1; change sp = _ at h2; subst h1; subst h2) <;> rfl
set_option maxHeartbeats 4000000 in
set_option maxRecDepth 100000 in
theorem kX6_readsVoice_5 (N d n : Nat) {X : lt_X} (hX : hsX X) (hW : X.2.2.2.1 = some X.2.2.1) (z : Int32) (I : Nat → Nat → Int32) (J : Nat → Nat → Int64) : KX6_readsVoice_5 N d n z (mkh X I J) = if z = nI 0 then some (.int (nI 0), (mkh X I J)) else am_cI (am_G am_prog (N + 30) (d + 0) 51 [.ref 115, .int (nI 59)] (mkh X I J)) (KX6_readsVoice_6 N d n ) := by
  obtain ⟨L, he, sp, t1, t2⟩ := X
  change t1 = some sp at hW; subst hW
  rcases hX with ⟨h1, h2⟩ | ⟨h1, h2⟩ <;> (change he = _ at h1; change sp = _ at h2; subst h1; subst h2) <;> rfl
set_option maxHeartbeats 4000000 in
set_option maxRecDepth 100000 in
theorem kX6_readsVoice_6 (N d n : Nat) {X : lt_X} (hX : hsX X) (hW : X.2.2.2.1 = some X.2.2.1) (z : Int32) (I : Nat → Nat → Int32) (J : Nat → Nat → Int64) : KX6_readsVoice_6 N d n z (mkh X I J) = if z = nI 0 then some (.int (nI 0), (mkh X I J)) else some (.int (nI 1), (mkh X I J)) := by
  obtain ⟨L, he, sp, t1, t2⟩ := X
  change t1 = some sp at hW; subst hW
  rcases hX with ⟨h1, h2⟩ | ⟨h1, h2⟩ <;> (change he = _ at h1; change sp = _ at h2; subst h1; subst h2) <;> rfl
theorem fX6_readsVoice (N d : Nat) {X : lt_X} (x1 : Int32) (I : Nat → Nat → Int32) (J : Nat → Nat → Int64) : am_G am_prog N (d + 1) 99 [.ref 117, .int x1] (mkh X I J) = am_run (am_G am_prog N d) eX6_readsVoice uX6_readsVoice N 0 [(0, .ref 117), (1, .int x1)] [] (mkh X I J) := by
  refine (am_G_at N d 99 mX6_readsVoice _ _ rfl).trans ?_
  rfl
theorem gX6_readsVoice (N d : Nat) {X : lt_X} (x1 : Int32) (I : Nat → Nat → Int32) (J : Nat → Nat → Int64) : am_G am_prog (N + 30) (d + 1) 99 [.ref 117, .int x1] (mkh X I J) = RX6_readsVoice_0 N d (N + 30) X x1 I J := fX6_readsVoice (N + 30) (d + 0) x1 I J
def RX6_readsRow_0 (N d n : Nat) (X : lt_X) (x1 : Int32) (I : Nat → Nat → Int32) (J : Nat → Nat → Int64) : am_O := am_run (am_G am_prog (N + 30) (d + 0)) eX6_readsRow uX6_readsRow n 0 [(0, .ref 117), (1, .int x1)] [] (mkh X I J)
def RX6_readsRow_2 (N d n : Nat) (X : lt_X) (x1 : Int32) (x2 : Int32) (I : Nat → Nat → Int32) (J : Nat → Nat → Int64) : am_O := am_run (am_G am_prog (N + 30) (d + 0)) eX6_readsRow uX6_readsRow n 2 [(0, .ref 117), (1, .int x1), (2, .int x2)] [] (mkh X I J)
def RX6_readsRow_26 (N d n : Nat) (X : lt_X) (x1 : Int32) (x2 : Int32) (I : Nat → Nat → Int32) (J : Nat → Nat → Int64) : am_O := am_run (am_G am_prog (N + 30) (d + 0)) eX6_readsRow uX6_readsRow n 26 [(0, .ref 117), (1, .int x1), (2, .int x2)] [] (mkh X I J)
def KX6_readsRow_0 (N d n : Nat) (a0 : Int32) (a1 : Int32) (z : Int32) (h : am_H) : am_O := if z = nI 0 then some (.int (nI 0), h) else if a1 = (nI 8) then am_gR h 6 117 0 (fun y1 => am_cI (am_G am_prog (N + 30) (d + 0) 49 [.ref y1, .int (nI 6)] h) (fun r3 h2 => am_nb r3 (some (.int r3, h2)))) else am_gR h 6 117 1 (fun y4 => am_gR h 6 117 0 (fun y5 => am_gI h 4 y5 9 (fun y6 => am_cV (am_G am_prog (N + 30) (d + 0) 63 [.ref y4, .int a0, .int y6] h) (fun h7 => am_gR h7 6 117 0 (fun y8 => am_cV (am_G am_prog (N + 30) (d + 0) 46 [.ref y8] h7) (fun h9 => am_run (am_G am_prog (N + 30) (d + 0)) eX6_readsRow uX6_readsRow n 2 [(0, .ref 117), (1, .int a0), (2, .int (a1 + (nI 1)))] [] h9))))))
def KX6_readsRow_1 (N d n : Nat) (z : Int32) (h : am_H) : am_O := am_nb z (some (.int z, h))
def KX6_readsRow_2 (N d n : Nat) (a0 : Int32) (a1 : Int32) (h : am_H) : am_O := am_gR h 6 117 0 (fun y1 => am_cV (am_G am_prog (N + 30) (d + 0) 46 [.ref y1] h) (fun h2 => am_run (am_G am_prog (N + 30) (d + 0)) eX6_readsRow uX6_readsRow n 2 [(0, .ref 117), (1, .int a0), (2, .int (a1 + (nI 1)))] [] h2))
def KX6_readsRow_3 (N d n : Nat) (a0 : Int32) (a1 : Int32) (h : am_H) : am_O := am_run (am_G am_prog (N + 30) (d + 0)) eX6_readsRow uX6_readsRow n 2 [(0, .ref 117), (1, .int a0), (2, .int (a1 + (nI 1)))] [] h
set_option maxHeartbeats 4000000 in
set_option maxRecDepth 100000 in
theorem sX6_readsRow_0 (N d n : Nat) {X : lt_X} (hX : hsX X) (hW : X.2.2.2.1 = some X.2.2.1) (x1 : Int32) (I : Nat → Nat → Int32) (J : Nat → Nat → Int64) : RX6_readsRow_0 N d (n + 1) X x1 I J = RX6_readsRow_2 N d n X x1 (nI 0) I J := by
  obtain ⟨L, he, sp, t1, t2⟩ := X
  change t1 = some sp at hW; subst hW
  rcases hX with ⟨h1, h2⟩ | ⟨h1, h2⟩ <;> (change he = _ at h1; change sp = _ at h2; subst h1; subst h2) <;> rfl
set_option maxHeartbeats 4000000 in
set_option maxRecDepth 100000 in
theorem sX6_readsRow_2 (N d n : Nat) {X : lt_X} (hX : hsX X) (hW : X.2.2.2.1 = some X.2.2.1) (x1 : Int32) (x2 : Int32) (I : Nat → Nat → Int32) (J : Nat → Nat → Int64) : RX6_readsRow_2 N d (n + 1) X x1 x2 I J = if (nI 8) < x2 then some (.int (nI 1), (mkh X I J)) else if nI 0 < x2 then if (I 115 4) = (nI 59) then some (.int (nI 1), (mkh X I J)) else RX6_readsRow_26 N d n X x1 x2 I J else RX6_readsRow_26 N d n X x1 x2 I J := by
  obtain ⟨L, he, sp, t1, t2⟩ := X
  change t1 = some sp at hW; subst hW
  rcases hX with ⟨h1, h2⟩ | ⟨h1, h2⟩ <;> (change he = _ at h1; change sp = _ at h2; subst h1; subst h2) <;> rfl
set_option maxHeartbeats 4000000 in
set_option maxRecDepth 100000 in
theorem sX6_readsRow_26 (N d n : Nat) {X : lt_X} (hX : hsX X) (hW : X.2.2.2.1 = some X.2.2.1) (x1 : Int32) (x2 : Int32) (I : Nat → Nat → Int32) (J : Nat → Nat → Int64) : RX6_readsRow_26 N d (n + 1) X x1 x2 I J = am_cI (am_G am_prog (N + 30) (d + 0) 53 [.ref 115, .ref X.2.2.1, .int (nI 0)] (mkh X I J)) (KX6_readsRow_0 N d n x1 x2) := by
  obtain ⟨L, he, sp, t1, t2⟩ := X
  change t1 = some sp at hW; subst hW
  rcases hX with ⟨h1, h2⟩ | ⟨h1, h2⟩ <;> (change he = _ at h1; change sp = _ at h2; subst h1; subst h2) <;> rfl
set_option maxHeartbeats 4000000 in
set_option maxRecDepth 100000 in
theorem kX6_readsRow_0 (N d n : Nat) {X : lt_X} (hX : hsX X) (hW : X.2.2.2.1 = some X.2.2.1) (a0 : Int32) (a1 : Int32) (z : Int32) (I : Nat → Nat → Int32) (J : Nat → Nat → Int64) : KX6_readsRow_0 N d n a0 a1 z (mkh X I J) = if z = nI 0 then some (.int (nI 0), (mkh X I J)) else if a1 = (nI 8) then am_cI (am_G am_prog (N + 30) (d + 0) 49 [.ref 115, .int (nI 6)] (mkh X I J)) (KX6_readsRow_1 N d n ) else am_cV (am_G am_prog (N + 30) (d + 0) 63 [.ref X.2.2.1, .int a0, .int (I 115 9)] (mkh X I J)) (KX6_readsRow_2 N d n a0 a1) := by
  obtain ⟨L, he, sp, t1, t2⟩ := X
  change t1 = some sp at hW; subst hW
  rcases hX with ⟨h1, h2⟩ | ⟨h1, h2⟩ <;> (change he = _ at h1; change sp = _ at h2; subst h1; subst h2) <;> rfl
set_option maxHeartbeats 4000000 in
set_option maxRecDepth 100000 in
theorem kX6_readsRow_1 (N d n : Nat) {X : lt_X} (hX : hsX X) (hW : X.2.2.2.1 = some X.2.2.1) (z : Int32) (I : Nat → Nat → Int32) (J : Nat → Nat → Int64) : KX6_readsRow_1 N d n z (mkh X I J) = am_nb z (some (.int z, (mkh X I J))) := by
  obtain ⟨L, he, sp, t1, t2⟩ := X
  change t1 = some sp at hW; subst hW
  rcases hX with ⟨h1, h2⟩ | ⟨h1, h2⟩ <;> (change he = _ at h1; change sp = _ at h2; subst h1; subst h2) <;> rfl
set_option maxHeartbeats 4000000 in
set_option maxRecDepth 100000 in
theorem kX6_readsRow_2 (N d n : Nat) {X : lt_X} (hX : hsX X) (hW : X.2.2.2.1 = some X.2.2.1) (a0 : Int32) (a1 : Int32) (I : Nat → Nat → Int32) (J : Nat → Nat → Int64) : KX6_readsRow_2 N d n a0 a1 (mkh X I J) = am_cV (am_G am_prog (N + 30) (d + 0) 46 [.ref 115] (mkh X I J)) (KX6_readsRow_3 N d n a0 a1) := by
  obtain ⟨L, he, sp, t1, t2⟩ := X
  change t1 = some sp at hW; subst hW
  rcases hX with ⟨h1, h2⟩ | ⟨h1, h2⟩ <;> (change he = _ at h1; change sp = _ at h2; subst h1; subst h2) <;> rfl
set_option maxHeartbeats 4000000 in
set_option maxRecDepth 100000 in
theorem kX6_readsRow_3 (N d n : Nat) {X : lt_X} (hX : hsX X) (hW : X.2.2.2.1 = some X.2.2.1) (a0 : Int32) (a1 : Int32) (I : Nat → Nat → Int32) (J : Nat → Nat → Int64) : KX6_readsRow_3 N d n a0 a1 (mkh X I J) = RX6_readsRow_2 N d n X a0 (a1 + (nI 1)) I J := by
  obtain ⟨L, he, sp, t1, t2⟩ := X
  change t1 = some sp at hW; subst hW
  rcases hX with ⟨h1, h2⟩ | ⟨h1, h2⟩ <;> (change he = _ at h1; change sp = _ at h2; subst h1; subst h2) <;> rfl
theorem fX6_readsRow (N d : Nat) {X : lt_X} (x1 : Int32) (I : Nat → Nat → Int32) (J : Nat → Nat → Int64) : am_G am_prog N (d + 1) 100 [.ref 117, .int x1] (mkh X I J) = am_run (am_G am_prog N d) eX6_readsRow uX6_readsRow N 0 [(0, .ref 117), (1, .int x1)] [] (mkh X I J) := by
  refine (am_G_at N d 100 mX6_readsRow _ _ rfl).trans ?_
  rfl
theorem gX6_readsRow (N d : Nat) {X : lt_X} (x1 : Int32) (I : Nat → Nat → Int32) (J : Nat → Nat → Int64) : am_G am_prog (N + 30) (d + 1) 100 [.ref 117, .int x1] (mkh X I J) = RX6_readsRow_0 N d (N + 30) X x1 I J := fX6_readsRow (N + 30) (d + 0) x1 I J
def RX6_readsPerson_0 (N d n : Nat) (X : lt_X) (x1 : Int32) (I : Nat → Nat → Int32) (J : Nat → Nat → Int64) : am_O := am_run (am_G am_prog (N + 30) (d + 0)) eX6_readsPerson uX6_readsPerson n 0 [(0, .ref 117), (1, .int x1)] [] (mkh X I J)
def KX6_readsPerson_0 (N d n : Nat) (a0 : Int32) (h : am_H) : am_O := am_gR h 6 117 0 (fun y1 => am_cI (am_G am_prog (N + 30) (d + 0) 52 [.ref y1, .int (nI 0), .int (nI 999)] h) (fun r3 h2 => if r3 = nI 0 then some (.int (nI 0), h2) else am_gR h2 6 117 1 (fun y4 => am_gR h2 5 y4 11 (fun y5 => am_gR h2 6 117 0 (fun y6 => am_gI h2 4 y6 8 (fun y7 => am_tI h2 y5 a0 y7 (fun h8 => am_gR h8 6 117 0 (fun y9 => am_cI (am_G am_prog (N + 30) (d + 0) 51 [.ref y9, .int (nI 59)] h8) (fun r11 h10 => am_nb r11 (some (.int r11, h10)))))))))))
def KX6_readsPerson_1 (N d n : Nat) (z : Int32) (h : am_H) : am_O := am_nb z (some (.int z, h))
def KX6_readsPerson_2 (N d n : Nat) (a0 : Int32) (z : Int32) (h : am_H) : am_O := if z = nI 0 then some (.int (nI 0), h) else am_gR h 6 117 1 (fun y1 => am_gR h 5 y1 11 (fun y2 => am_gR h 6 117 0 (fun y3 => am_gI h 4 y3 8 (fun y4 => am_tI h y2 a0 y4 (fun h5 => am_gR h5 6 117 0 (fun y6 => am_cI (am_G am_prog (N + 30) (d + 0) 51 [.ref y6, .int (nI 59)] h5) (fun r8 h7 => am_nb r8 (some (.int r8, h7)))))))))
set_option maxHeartbeats 4000000 in
set_option maxRecDepth 100000 in
theorem sX6_readsPerson_0 (N d n : Nat) {X : lt_X} (hX : hsX X) (hW : X.2.2.2.1 = some X.2.2.1) (x1 : Int32) (I : Nat → Nat → Int32) (J : Nat → Nat → Int64) : RX6_readsPerson_0 N d (n + 1) X x1 I J = if (I 115 4) = (nI 107) then am_cV (am_G am_prog (N + 30) (d + 0) 46 [.ref 115] (mkh X I J)) (KX6_readsPerson_0 N d n x1) else am_cI (am_G am_prog (N + 30) (d + 0) 51 [.ref 115, .int (nI 59)] (mkh X I J)) (KX6_readsPerson_1 N d n ) := by
  obtain ⟨L, he, sp, t1, t2⟩ := X
  change t1 = some sp at hW; subst hW
  rcases hX with ⟨h1, h2⟩ | ⟨h1, h2⟩ <;> (change he = _ at h1; change sp = _ at h2; subst h1; subst h2) <;> rfl
set_option maxHeartbeats 4000000 in
set_option maxRecDepth 100000 in
theorem kX6_readsPerson_0 (N d n : Nat) {X : lt_X} (hX : hsX X) (hW : X.2.2.2.1 = some X.2.2.1) (a0 : Int32) (I : Nat → Nat → Int32) (J : Nat → Nat → Int64) : KX6_readsPerson_0 N d n a0 (mkh X I J) = am_cI (am_G am_prog (N + 30) (d + 0) 52 [.ref 115, .int (nI 0), .int (nI 999)] (mkh X I J)) (KX6_readsPerson_2 N d n a0) := by
  obtain ⟨L, he, sp, t1, t2⟩ := X
  change t1 = some sp at hW; subst hW
  rcases hX with ⟨h1, h2⟩ | ⟨h1, h2⟩ <;> (change he = _ at h1; change sp = _ at h2; subst h1; subst h2) <;> rfl
set_option maxHeartbeats 4000000 in
set_option maxRecDepth 100000 in
theorem kX6_readsPerson_1 (N d n : Nat) {X : lt_X} (hX : hsX X) (hW : X.2.2.2.1 = some X.2.2.1) (z : Int32) (I : Nat → Nat → Int32) (J : Nat → Nat → Int64) : KX6_readsPerson_1 N d n z (mkh X I J) = am_nb z (some (.int z, (mkh X I J))) := by
  obtain ⟨L, he, sp, t1, t2⟩ := X
  change t1 = some sp at hW; subst hW
  rcases hX with ⟨h1, h2⟩ | ⟨h1, h2⟩ <;> (change he = _ at h1; change sp = _ at h2; subst h1; subst h2) <;> rfl
set_option maxHeartbeats 4000000 in
set_option maxRecDepth 100000 in
theorem kX6_readsPerson_2 (N d n : Nat) {X : lt_X} (hX : hsX X) (hW : X.2.2.2.1 = some X.2.2.1) (a0 : Int32) (z : Int32) (I : Nat → Nat → Int32) (J : Nat → Nat → Int64) : KX6_readsPerson_2 N d n a0 z (mkh X I J) = if z = nI 0 then some (.int (nI 0), (mkh X I J)) else if am_in a0 6 then am_cI (am_G am_prog (N + 30) (d + 0) 51 [.ref 115, .int (nI 59)] (mkh X (u2 I (X.2.2.1 + 7) a0.toNatClampNeg (I 115 8)) J)) (KX6_readsPerson_1 N d n ) else none := by
  obtain ⟨L, he, sp, t1, t2⟩ := X
  change t1 = some sp at hW; subst hW
  rcases hX with ⟨h1, h2⟩ | ⟨h1, h2⟩ <;> (change he = _ at h1; change sp = _ at h2; subst h1; subst h2) <;> rfl
theorem fX6_readsPerson (N d : Nat) {X : lt_X} (x1 : Int32) (I : Nat → Nat → Int32) (J : Nat → Nat → Int64) : am_G am_prog N (d + 1) 101 [.ref 117, .int x1] (mkh X I J) = am_run (am_G am_prog N d) eX6_readsPerson uX6_readsPerson N 0 [(0, .ref 117), (1, .int x1)] [] (mkh X I J) := by
  refine (am_G_at N d 101 mX6_readsPerson _ _ rfl).trans ?_
  rfl
theorem gX6_readsPerson (N d : Nat) {X : lt_X} (x1 : Int32) (I : Nat → Nat → Int32) (J : Nat → Nat → Int64) : am_G am_prog (N + 30) (d + 1) 101 [.ref 117, .int x1] (mkh X I J) = RX6_readsPerson_0 N d (N + 30) X x1 I J := fX6_readsPerson (N + 30) (d + 0) x1 I J
def RX6_readsLikes_0 (N d n : Nat) (X : lt_X) (I : Nat → Nat → Int32) (J : Nat → Nat → Int64) : am_O := am_run (am_G am_prog (N + 30) (d + 0)) eX6_readsLikes uX6_readsLikes n 0 [(0, .ref 117)] [] (mkh X I J)
def KX6_readsLikes_0 (N d n : Nat) (h : am_H) : am_O := am_gR h 6 117 0 (fun y1 => am_gR h 6 117 1 (fun y2 => am_cI (am_G am_prog (N + 30) (d + 0) 54 [.ref y1, .ref y2, .int (nI 2)] h) (fun r4 h3 => if r4 = nI 0 then some (.int (nI 0), h3) else am_gR h3 6 117 0 (fun y5 => am_gI h3 4 y5 9 (fun y6 => am_gR h3 6 117 0 (fun y7 => am_gR h3 6 117 1 (fun y8 => am_cI (am_G am_prog (N + 30) (d + 0) 54 [.ref y7, .ref y8, .int (nI 0)] h3) (fun r10 h9 => if r10 = nI 0 then some (.int (nI 0), h9) else am_gR h9 6 117 0 (fun y11 => am_gI h9 4 y11 9 (fun y12 => am_gR h9 6 117 0 (fun y13 => am_cI (am_G am_prog (N + 30) (d + 0) 52 [.ref y13, .int (nI 0), .int (nI 9)] h9) (fun r15 h14 => if r15 = nI 0 then some (.int (nI 0), h14) else am_gR h14 6 117 1 (fun y16 => am_gR h14 5 y16 14 (fun y17 => am_gR h14 6 117 0 (fun y18 => am_gI h14 4 y18 8 (fun y19 => am_tI h14 y17 ((y6 * (nI 6)) + y12) y19 (fun h20 => am_gR h20 6 117 0 (fun y21 => am_cI (am_G am_prog (N + 30) (d + 0) 51 [.ref y21, .int (nI 59)] h20) (fun r23 h22 => am_nb r23 (some (.int r23, h22)))))))))))))))))))))
def KX6_readsLikes_1 (N d n : Nat) (z : Int32) (h : am_H) : am_O := if z = nI 0 then some (.int (nI 0), h) else am_gR h 6 117 0 (fun y1 => am_gI h 4 y1 9 (fun y2 => am_gR h 6 117 0 (fun y3 => am_gR h 6 117 1 (fun y4 => am_cI (am_G am_prog (N + 30) (d + 0) 54 [.ref y3, .ref y4, .int (nI 0)] h) (fun r6 h5 => if r6 = nI 0 then some (.int (nI 0), h5) else am_gR h5 6 117 0 (fun y7 => am_gI h5 4 y7 9 (fun y8 => am_gR h5 6 117 0 (fun y9 => am_cI (am_G am_prog (N + 30) (d + 0) 52 [.ref y9, .int (nI 0), .int (nI 9)] h5) (fun r11 h10 => if r11 = nI 0 then some (.int (nI 0), h10) else am_gR h10 6 117 1 (fun y12 => am_gR h10 5 y12 14 (fun y13 => am_gR h10 6 117 0 (fun y14 => am_gI h10 4 y14 8 (fun y15 => am_tI h10 y13 ((y2 * (nI 6)) + y8) y15 (fun h16 => am_gR h16 6 117 0 (fun y17 => am_cI (am_G am_prog (N + 30) (d + 0) 51 [.ref y17, .int (nI 59)] h16) (fun r19 h18 => am_nb r19 (some (.int r19, h18))))))))))))))))))
def KX6_readsLikes_2 (N d n : Nat) (a0 : Int32) (z : Int32) (h : am_H) : am_O := if z = nI 0 then some (.int (nI 0), h) else am_gR h 6 117 0 (fun y1 => am_gI h 4 y1 9 (fun y2 => am_gR h 6 117 0 (fun y3 => am_cI (am_G am_prog (N + 30) (d + 0) 52 [.ref y3, .int (nI 0), .int (nI 9)] h) (fun r5 h4 => if r5 = nI 0 then some (.int (nI 0), h4) else am_gR h4 6 117 1 (fun y6 => am_gR h4 5 y6 14 (fun y7 => am_gR h4 6 117 0 (fun y8 => am_gI h4 4 y8 8 (fun y9 => am_tI h4 y7 ((a0 * (nI 6)) + y2) y9 (fun h10 => am_gR h10 6 117 0 (fun y11 => am_cI (am_G am_prog (N + 30) (d + 0) 51 [.ref y11, .int (nI 59)] h10) (fun r13 h12 => am_nb r13 (some (.int r13, h12)))))))))))))
def KX6_readsLikes_3 (N d n : Nat) (a0 : Int32) (a1 : Int32) (z : Int32) (h : am_H) : am_O := if z = nI 0 then some (.int (nI 0), h) else am_gR h 6 117 1 (fun y1 => am_gR h 5 y1 14 (fun y2 => am_gR h 6 117 0 (fun y3 => am_gI h 4 y3 8 (fun y4 => am_tI h y2 ((a1 * (nI 6)) + a0) y4 (fun h5 => am_gR h5 6 117 0 (fun y6 => am_cI (am_G am_prog (N + 30) (d + 0) 51 [.ref y6, .int (nI 59)] h5) (fun r8 h7 => am_nb r8 (some (.int r8, h7)))))))))
def KX6_readsLikes_4 (N d n : Nat) (z : Int32) (h : am_H) : am_O := am_nb z (some (.int z, h))
set_option maxHeartbeats 4000000 in
set_option maxRecDepth 100000 in
theorem sX6_readsLikes_0 (N d n : Nat) {X : lt_X} (hX : hsX X) (hW : X.2.2.2.1 = some X.2.2.1) (I : Nat → Nat → Int32) (J : Nat → Nat → Int64) : RX6_readsLikes_0 N d (n + 1) X I J = am_cV (am_G am_prog (N + 30) (d + 0) 46 [.ref 115] (mkh X I J)) (KX6_readsLikes_0 N d n ) := by
  obtain ⟨L, he, sp, t1, t2⟩ := X
  change t1 = some sp at hW; subst hW
  rcases hX with ⟨h1, h2⟩ | ⟨h1, h2⟩ <;> (change he = _ at h1; change sp = _ at h2; subst h1; subst h2) <;> rfl
set_option maxHeartbeats 4000000 in
set_option maxRecDepth 100000 in
theorem kX6_readsLikes_0 (N d n : Nat) {X : lt_X} (hX : hsX X) (hW : X.2.2.2.1 = some X.2.2.1) (I : Nat → Nat → Int32) (J : Nat → Nat → Int64) : KX6_readsLikes_0 N d n (mkh X I J) = am_cI (am_G am_prog (N + 30) (d + 0) 54 [.ref 115, .ref X.2.2.1, .int (nI 2)] (mkh X I J)) (KX6_readsLikes_1 N d n ) := by
  obtain ⟨L, he, sp, t1, t2⟩ := X
  change t1 = some sp at hW; subst hW
  rcases hX with ⟨h1, h2⟩ | ⟨h1, h2⟩ <;> (change he = _ at h1; change sp = _ at h2; subst h1; subst h2) <;> rfl
set_option maxHeartbeats 4000000 in
set_option maxRecDepth 100000 in
theorem kX6_readsLikes_1 (N d n : Nat) {X : lt_X} (hX : hsX X) (hW : X.2.2.2.1 = some X.2.2.1) (z : Int32) (I : Nat → Nat → Int32) (J : Nat → Nat → Int64) : KX6_readsLikes_1 N d n z (mkh X I J) = if z = nI 0 then some (.int (nI 0), (mkh X I J)) else am_cI (am_G am_prog (N + 30) (d + 0) 54 [.ref 115, .ref X.2.2.1, .int (nI 0)] (mkh X I J)) (KX6_readsLikes_2 N d n (I 115 9)) := by
  obtain ⟨L, he, sp, t1, t2⟩ := X
  change t1 = some sp at hW; subst hW
  rcases hX with ⟨h1, h2⟩ | ⟨h1, h2⟩ <;> (change he = _ at h1; change sp = _ at h2; subst h1; subst h2) <;> rfl
set_option maxHeartbeats 4000000 in
set_option maxRecDepth 100000 in
theorem kX6_readsLikes_2 (N d n : Nat) {X : lt_X} (hX : hsX X) (hW : X.2.2.2.1 = some X.2.2.1) (a0 : Int32) (z : Int32) (I : Nat → Nat → Int32) (J : Nat → Nat → Int64) : KX6_readsLikes_2 N d n a0 z (mkh X I J) = if z = nI 0 then some (.int (nI 0), (mkh X I J)) else am_cI (am_G am_prog (N + 30) (d + 0) 52 [.ref 115, .int (nI 0), .int (nI 9)] (mkh X I J)) (KX6_readsLikes_3 N d n (I 115 9) a0) := by
  obtain ⟨L, he, sp, t1, t2⟩ := X
  change t1 = some sp at hW; subst hW
  rcases hX with ⟨h1, h2⟩ | ⟨h1, h2⟩ <;> (change he = _ at h1; change sp = _ at h2; subst h1; subst h2) <;> rfl
set_option maxHeartbeats 4000000 in
set_option maxRecDepth 100000 in
theorem kX6_readsLikes_3 (N d n : Nat) {X : lt_X} (hX : hsX X) (hW : X.2.2.2.1 = some X.2.2.1) (a0 : Int32) (a1 : Int32) (z : Int32) (I : Nat → Nat → Int32) (J : Nat → Nat → Int64) : KX6_readsLikes_3 N d n a0 a1 z (mkh X I J) = if z = nI 0 then some (.int (nI 0), (mkh X I J)) else if am_in ((a1 * (nI 6)) + a0) 36 then am_cI (am_G am_prog (N + 30) (d + 0) 51 [.ref 115, .int (nI 59)] (mkh X (u2 I (X.2.2.1 + 10) (((a1 * (nI 6)) + a0).toNatClampNeg) (I 115 8)) J)) (KX6_readsLikes_4 N d n ) else none := by
  obtain ⟨L, he, sp, t1, t2⟩ := X
  change t1 = some sp at hW; subst hW
  rcases hX with ⟨h1, h2⟩ | ⟨h1, h2⟩ <;> (change he = _ at h1; change sp = _ at h2; subst h1; subst h2) <;> rfl
set_option maxHeartbeats 4000000 in
set_option maxRecDepth 100000 in
theorem kX6_readsLikes_4 (N d n : Nat) {X : lt_X} (hX : hsX X) (hW : X.2.2.2.1 = some X.2.2.1) (z : Int32) (I : Nat → Nat → Int32) (J : Nat → Nat → Int64) : KX6_readsLikes_4 N d n z (mkh X I J) = am_nb z (some (.int z, (mkh X I J))) := by
  obtain ⟨L, he, sp, t1, t2⟩ := X
  change t1 = some sp at hW; subst hW
  rcases hX with ⟨h1, h2⟩ | ⟨h1, h2⟩ <;> (change he = _ at h1; change sp = _ at h2; subst h1; subst h2) <;> rfl
theorem fX6_readsLikes (N d : Nat) {X : lt_X} (I : Nat → Nat → Int32) (J : Nat → Nat → Int64) : am_G am_prog N (d + 1) 102 [.ref 117] (mkh X I J) = am_run (am_G am_prog N d) eX6_readsLikes uX6_readsLikes N 0 [(0, .ref 117)] [] (mkh X I J) := by
  refine (am_G_at N d 102 mX6_readsLikes _ _ rfl).trans ?_
  rfl
theorem gX6_readsLikes (N d : Nat) {X : lt_X} (I : Nat → Nat → Int32) (J : Nat → Nat → Int64) : am_G am_prog (N + 30) (d + 1) 102 [.ref 117] (mkh X I J) = RX6_readsLikes_0 N d (N + 30) X I J := fX6_readsLikes (N + 30) (d + 0) I J
def RX6_readsSet_0 (N d n : Nat) (X : lt_X) (x1 : Int32) (I : Nat → Nat → Int32) (J : Nat → Nat → Int64) : am_O := am_run (am_G am_prog (N + 30) (d + 0)) eX6_readsSet uX6_readsSet n 0 [(0, .ref 117), (1, .int x1)] [] (mkh X I J)
def RX6_readsSet_67 (N d n : Nat) (X : lt_X) (x1 : Int32) (I : Nat → Nat → Int32) (J : Nat → Nat → Int64) : am_O := am_run (am_G am_prog (N + 30) (d + 0)) eX6_readsSet uX6_readsSet n 67 [(0, .ref 117), (1, .int x1)] [] (mkh X I J)
def KX6_readsSet_0 (N d n : Nat) (a0 : Int32) (z : Int32) (h : am_H) : am_O := if z = nI 0 then some (.int (nI 0), h) else am_gR h 6 117 0 (fun y1 => am_gR h 6 117 1 (fun y2 => am_cI (am_G am_prog (N + 30) (d + 0) 54 [.ref y1, .ref y2, .int (nI 1)] h) (fun r4 h3 => if r4 = nI 0 then some (.int (nI 0), h3) else am_gR h3 6 117 1 (fun y5 => am_gR h3 5 y5 15 (fun y6 => am_gR h3 6 117 0 (fun y7 => am_gI h3 4 y7 9 (fun y8 => am_tI h3 y6 a0 y8 (fun h9 => am_gR h9 6 117 0 (fun y10 => am_gI h9 4 y10 4 (fun y11 => if y11 = (nI 111) then am_cI (am_G am_prog (N + 30) (d + 0) 104 [.ref 117, .int a0] h9) (fun r13 h12 => if r13 = nI 0 then some (.int (nI 0), h12) else am_run (am_G am_prog (N + 30) (d + 0)) eX6_readsSet uX6_readsSet n 67 [(0, .ref 117), (1, .int a0)] [] h12) else am_run (am_G am_prog (N + 30) (d + 0)) eX6_readsSet uX6_readsSet n 67 [(0, .ref 117), (1, .int a0)] [] h9))))))))))
def KX6_readsSet_1 (N d n : Nat) (a0 : Int32) (h : am_H) : am_O := am_gR h 6 117 0 (fun y1 => am_gR h 6 117 1 (fun y2 => am_cI (am_G am_prog (N + 30) (d + 0) 54 [.ref y1, .ref y2, .int (nI 2)] h) (fun r4 h3 => if r4 = nI 0 then some (.int (nI 0), h3) else am_gR h3 6 117 1 (fun y5 => am_gR h3 5 y5 17 (fun y6 => am_gR h3 6 117 0 (fun y7 => am_gI h3 4 y7 9 (fun y8 => am_tI h3 y6 a0 y8 (fun h9 => am_gR h9 6 117 0 (fun y10 => am_cI (am_G am_prog (N + 30) (d + 0) 51 [.ref y10, .int (nI 59)] h9) (fun r12 h11 => am_nb r12 (some (.int r12, h11))))))))))))
def KX6_readsSet_2 (N d n : Nat) (z : Int32) (h : am_H) : am_O := am_nb z (some (.int z, h))
def KX6_readsSet_3 (N d n : Nat) (a0 : Int32) (z : Int32) (h : am_H) : am_O := if z = nI 0 then some (.int (nI 0), h) else am_gR h 6 117 1 (fun y1 => am_gR h 5 y1 15 (fun y2 => am_gR h 6 117 0 (fun y3 => am_gI h 4 y3 9 (fun y4 => am_tI h y2 a0 y4 (fun h5 => am_gR h5 6 117 0 (fun y6 => am_gI h5 4 y6 4 (fun y7 => if y7 = (nI 111) then am_cI (am_G am_prog (N + 30) (d + 0) 104 [.ref 117, .int a0] h5) (fun r9 h8 => if r9 = nI 0 then some (.int (nI 0), h8) else am_run (am_G am_prog (N + 30) (d + 0)) eX6_readsSet uX6_readsSet n 67 [(0, .ref 117), (1, .int a0)] [] h8) else am_run (am_G am_prog (N + 30) (d + 0)) eX6_readsSet uX6_readsSet n 67 [(0, .ref 117), (1, .int a0)] [] h5)))))))
def KX6_readsSet_4 (N d n : Nat) (a0 : Int32) (z : Int32) (h : am_H) : am_O := if z = nI 0 then some (.int (nI 0), h) else am_gR h 6 117 1 (fun y1 => am_gR h 5 y1 17 (fun y2 => am_gR h 6 117 0 (fun y3 => am_gI h 4 y3 9 (fun y4 => am_tI h y2 a0 y4 (fun h5 => am_gR h5 6 117 0 (fun y6 => am_cI (am_G am_prog (N + 30) (d + 0) 51 [.ref y6, .int (nI 59)] h5) (fun r8 h7 => am_nb r8 (some (.int r8, h7)))))))))
def KX6_readsSet_5 (N d n : Nat) (a0 : Int32) (z : Int32) (h : am_H) : am_O := if z = nI 0 then some (.int (nI 0), h) else am_run (am_G am_prog (N + 30) (d + 0)) eX6_readsSet uX6_readsSet n 67 [(0, .ref 117), (1, .int a0)] [] h
set_option maxHeartbeats 4000000 in
set_option maxRecDepth 100000 in
theorem sX6_readsSet_0 (N d n : Nat) {X : lt_X} (hX : hsX X) (hW : X.2.2.2.1 = some X.2.2.1) (x1 : Int32) (I : Nat → Nat → Int32) (J : Nat → Nat → Int64) : RX6_readsSet_0 N d (n + 1) X x1 I J = am_cI (am_G am_prog (N + 30) (d + 0) 51 [.ref 115, .int (nI 110)] (mkh X I J)) (KX6_readsSet_0 N d n x1) := by
  obtain ⟨L, he, sp, t1, t2⟩ := X
  change t1 = some sp at hW; subst hW
  rcases hX with ⟨h1, h2⟩ | ⟨h1, h2⟩ <;> (change he = _ at h1; change sp = _ at h2; subst h1; subst h2) <;> rfl
set_option maxHeartbeats 4000000 in
set_option maxRecDepth 100000 in
theorem sX6_readsSet_67 (N d n : Nat) {X : lt_X} (hX : hsX X) (hW : X.2.2.2.1 = some X.2.2.1) (x1 : Int32) (I : Nat → Nat → Int32) (J : Nat → Nat → Int64) : RX6_readsSet_67 N d (n + 1) X x1 I J = if (I 115 4) = (nI 112) then am_cV (am_G am_prog (N + 30) (d + 0) 46 [.ref 115] (mkh X I J)) (KX6_readsSet_1 N d n x1) else am_cI (am_G am_prog (N + 30) (d + 0) 51 [.ref 115, .int (nI 59)] (mkh X I J)) (KX6_readsSet_2 N d n ) := by
  obtain ⟨L, he, sp, t1, t2⟩ := X
  change t1 = some sp at hW; subst hW
  rcases hX with ⟨h1, h2⟩ | ⟨h1, h2⟩ <;> (change he = _ at h1; change sp = _ at h2; subst h1; subst h2) <;> rfl
set_option maxHeartbeats 4000000 in
set_option maxRecDepth 100000 in
theorem kX6_readsSet_0 (N d n : Nat) {X : lt_X} (hX : hsX X) (hW : X.2.2.2.1 = some X.2.2.1) (a0 : Int32) (z : Int32) (I : Nat → Nat → Int32) (J : Nat → Nat → Int64) : KX6_readsSet_0 N d n a0 z (mkh X I J) = if z = nI 0 then some (.int (nI 0), (mkh X I J)) else am_cI (am_G am_prog (N + 30) (d + 0) 54 [.ref 115, .ref X.2.2.1, .int (nI 1)] (mkh X I J)) (KX6_readsSet_3 N d n a0) := by
  obtain ⟨L, he, sp, t1, t2⟩ := X
  change t1 = some sp at hW; subst hW
  rcases hX with ⟨h1, h2⟩ | ⟨h1, h2⟩ <;> (change he = _ at h1; change sp = _ at h2; subst h1; subst h2) <;> rfl
set_option maxHeartbeats 4000000 in
set_option maxRecDepth 100000 in
theorem kX6_readsSet_1 (N d n : Nat) {X : lt_X} (hX : hsX X) (hW : X.2.2.2.1 = some X.2.2.1) (a0 : Int32) (I : Nat → Nat → Int32) (J : Nat → Nat → Int64) : KX6_readsSet_1 N d n a0 (mkh X I J) = am_cI (am_G am_prog (N + 30) (d + 0) 54 [.ref 115, .ref X.2.2.1, .int (nI 2)] (mkh X I J)) (KX6_readsSet_4 N d n a0) := by
  obtain ⟨L, he, sp, t1, t2⟩ := X
  change t1 = some sp at hW; subst hW
  rcases hX with ⟨h1, h2⟩ | ⟨h1, h2⟩ <;> (change he = _ at h1; change sp = _ at h2; subst h1; subst h2) <;> rfl
set_option maxHeartbeats 4000000 in
set_option maxRecDepth 100000 in
theorem kX6_readsSet_2 (N d n : Nat) {X : lt_X} (hX : hsX X) (hW : X.2.2.2.1 = some X.2.2.1) (z : Int32) (I : Nat → Nat → Int32) (J : Nat → Nat → Int64) : KX6_readsSet_2 N d n z (mkh X I J) = am_nb z (some (.int z, (mkh X I J))) := by
  obtain ⟨L, he, sp, t1, t2⟩ := X
  change t1 = some sp at hW; subst hW
  rcases hX with ⟨h1, h2⟩ | ⟨h1, h2⟩ <;> (change he = _ at h1; change sp = _ at h2; subst h1; subst h2) <;> rfl
set_option maxHeartbeats 4000000 in
set_option maxRecDepth 100000 in
theorem kX6_readsSet_3 (N d n : Nat) {X : lt_X} (hX : hsX X) (hW : X.2.2.2.1 = some X.2.2.1) (a0 : Int32) (z : Int32) (I : Nat → Nat → Int32) (J : Nat → Nat → Int64) : KX6_readsSet_3 N d n a0 z (mkh X I J) = if z = nI 0 then some (.int (nI 0), (mkh X I J)) else if am_in a0 6 then if (I 115 4) = (nI 111) then am_cI (am_G am_prog (N + 30) (d + 0) 104 [.ref 117, .int a0] (mkh X (u2 I (X.2.2.1 + 11) a0.toNatClampNeg (I 115 9)) J)) (KX6_readsSet_5 N d n a0) else RX6_readsSet_67 N d n X a0 (u2 I (X.2.2.1 + 11) a0.toNatClampNeg (I 115 9)) J else none := by
  obtain ⟨L, he, sp, t1, t2⟩ := X
  change t1 = some sp at hW; subst hW
  rcases hX with ⟨h1, h2⟩ | ⟨h1, h2⟩ <;> (change he = _ at h1; change sp = _ at h2; subst h1; subst h2) <;> rfl
set_option maxHeartbeats 4000000 in
set_option maxRecDepth 100000 in
theorem kX6_readsSet_4 (N d n : Nat) {X : lt_X} (hX : hsX X) (hW : X.2.2.2.1 = some X.2.2.1) (a0 : Int32) (z : Int32) (I : Nat → Nat → Int32) (J : Nat → Nat → Int64) : KX6_readsSet_4 N d n a0 z (mkh X I J) = if z = nI 0 then some (.int (nI 0), (mkh X I J)) else if am_in a0 6 then am_cI (am_G am_prog (N + 30) (d + 0) 51 [.ref 115, .int (nI 59)] (mkh X (u2 I (X.2.2.1 + 13) a0.toNatClampNeg (I 115 9)) J)) (KX6_readsSet_2 N d n ) else none := by
  obtain ⟨L, he, sp, t1, t2⟩ := X
  change t1 = some sp at hW; subst hW
  rcases hX with ⟨h1, h2⟩ | ⟨h1, h2⟩ <;> (change he = _ at h1; change sp = _ at h2; subst h1; subst h2) <;> rfl
set_option maxHeartbeats 4000000 in
set_option maxRecDepth 100000 in
theorem kX6_readsSet_5 (N d n : Nat) {X : lt_X} (hX : hsX X) (hW : X.2.2.2.1 = some X.2.2.1) (a0 : Int32) (z : Int32) (I : Nat → Nat → Int32) (J : Nat → Nat → Int64) : KX6_readsSet_5 N d n a0 z (mkh X I J) = if z = nI 0 then some (.int (nI 0), (mkh X I J)) else RX6_readsSet_67 N d n X a0 I J := by
  obtain ⟨L, he, sp, t1, t2⟩ := X
  change t1 = some sp at hW; subst hW
  rcases hX with ⟨h1, h2⟩ | ⟨h1, h2⟩ <;> (change he = _ at h1; change sp = _ at h2; subst h1; subst h2) <;> rfl
theorem fX6_readsSet (N d : Nat) {X : lt_X} (x1 : Int32) (I : Nat → Nat → Int32) (J : Nat → Nat → Int64) : am_G am_prog N (d + 1) 103 [.ref 117, .int x1] (mkh X I J) = am_run (am_G am_prog N d) eX6_readsSet uX6_readsSet N 0 [(0, .ref 117), (1, .int x1)] [] (mkh X I J) := by
  refine (am_G_at N d 103 mX6_readsSet _ _ rfl).trans ?_
  rfl
theorem gX6_readsSet (N d : Nat) {X : lt_X} (x1 : Int32) (I : Nat → Nat → Int32) (J : Nat → Nat → Int64) : am_G am_prog (N + 30) (d + 1) 103 [.ref 117, .int x1] (mkh X I J) = RX6_readsSet_0 N d (N + 30) X x1 I J := fX6_readsSet (N + 30) (d + 0) x1 I J
def RX6_readsFlaw_0 (N d n : Nat) (X : lt_X) (x1 : Int32) (I : Nat → Nat → Int32) (J : Nat → Nat → Int64) : am_O := am_run (am_G am_prog (N + 30) (d + 0)) eX6_readsFlaw uX6_readsFlaw n 0 [(0, .ref 117), (1, .int x1)] [] (mkh X I J)
def KX6_readsFlaw_0 (N d n : Nat) (a0 : Int32) (h : am_H) : am_O := am_gR h 6 117 0 (fun y1 => am_gR h 6 117 1 (fun y2 => am_cI (am_G am_prog (N + 30) (d + 0) 53 [.ref y1, .ref y2, .int (nI 1)] h) (fun r4 h3 => if r4 = nI 0 then some (.int (nI 0), h3) else am_gR h3 6 117 0 (fun y5 => am_gI h3 4 y5 9 (fun y6 => am_gR h3 6 117 1 (fun y7 => am_gR h3 5 y7 15 (fun y8 => am_lI h3 10 y8 a0 (fun y9 => if y6 = y9 then am_gR h3 6 117 0 (fun y10 => am_cI (am_G am_prog (N + 30) (d + 0) 49 [.ref y10, .int (nI 5)] h3) (fun r12 h11 => am_nb r12 (some (.int r12, h11)))) else am_gR h3 6 117 1 (fun y13 => am_gR h3 5 y13 16 (fun y14 => am_gR h3 6 117 0 (fun y15 => am_gI h3 4 y15 9 (fun y16 => am_tI h3 y14 a0 y16 (fun h17 => am_gR h17 6 117 0 (fun y18 => am_cV (am_G am_prog (N + 30) (d + 0) 46 [.ref y18] h17) (fun h19 => some (.int (nI 1), h19))))))))))))))))
def KX6_readsFlaw_1 (N d n : Nat) (a0 : Int32) (z : Int32) (h : am_H) : am_O := if z = nI 0 then some (.int (nI 0), h) else am_gR h 6 117 0 (fun y1 => am_gI h 4 y1 9 (fun y2 => am_gR h 6 117 1 (fun y3 => am_gR h 5 y3 15 (fun y4 => am_lI h 10 y4 a0 (fun y5 => if y2 = y5 then am_gR h 6 117 0 (fun y6 => am_cI (am_G am_prog (N + 30) (d + 0) 49 [.ref y6, .int (nI 5)] h) (fun r8 h7 => am_nb r8 (some (.int r8, h7)))) else am_gR h 6 117 1 (fun y9 => am_gR h 5 y9 16 (fun y10 => am_gR h 6 117 0 (fun y11 => am_gI h 4 y11 9 (fun y12 => am_tI h y10 a0 y12 (fun h13 => am_gR h13 6 117 0 (fun y14 => am_cV (am_G am_prog (N + 30) (d + 0) 46 [.ref y14] h13) (fun h15 => some (.int (nI 1), h15)))))))))))))
def KX6_readsFlaw_2 (N d n : Nat) (z : Int32) (h : am_H) : am_O := am_nb z (some (.int z, h))
def KX6_readsFlaw_3 (N d n : Nat) (h : am_H) : am_O := some (.int (nI 1), h)
set_option maxHeartbeats 4000000 in
set_option maxRecDepth 100000 in
theorem sX6_readsFlaw_0 (N d n : Nat) {X : lt_X} (hX : hsX X) (hW : X.2.2.2.1 = some X.2.2.1) (x1 : Int32) (I : Nat → Nat → Int32) (J : Nat → Nat → Int64) : RX6_readsFlaw_0 N d (n + 1) X x1 I J = am_cV (am_G am_prog (N + 30) (d + 0) 46 [.ref 115] (mkh X I J)) (KX6_readsFlaw_0 N d n x1) := by
  obtain ⟨L, he, sp, t1, t2⟩ := X
  change t1 = some sp at hW; subst hW
  rcases hX with ⟨h1, h2⟩ | ⟨h1, h2⟩ <;> (change he = _ at h1; change sp = _ at h2; subst h1; subst h2) <;> rfl
set_option maxHeartbeats 4000000 in
set_option maxRecDepth 100000 in
theorem kX6_readsFlaw_0 (N d n : Nat) {X : lt_X} (hX : hsX X) (hW : X.2.2.2.1 = some X.2.2.1) (a0 : Int32) (I : Nat → Nat → Int32) (J : Nat → Nat → Int64) : KX6_readsFlaw_0 N d n a0 (mkh X I J) = am_cI (am_G am_prog (N + 30) (d + 0) 53 [.ref 115, .ref X.2.2.1, .int (nI 1)] (mkh X I J)) (KX6_readsFlaw_1 N d n a0) := by
  obtain ⟨L, he, sp, t1, t2⟩ := X
  change t1 = some sp at hW; subst hW
  rcases hX with ⟨h1, h2⟩ | ⟨h1, h2⟩ <;> (change he = _ at h1; change sp = _ at h2; subst h1; subst h2) <;> rfl
set_option maxHeartbeats 4000000 in
set_option maxRecDepth 100000 in
theorem kX6_readsFlaw_1 (N d n : Nat) {X : lt_X} (hX : hsX X) (hW : X.2.2.2.1 = some X.2.2.1) (a0 : Int32) (z : Int32) (I : Nat → Nat → Int32) (J : Nat → Nat → Int64) : KX6_readsFlaw_1 N d n a0 z (mkh X I J) = if z = nI 0 then some (.int (nI 0), (mkh X I J)) else if am_in a0 6 then if (I 115 9) = (I (X.2.2.1 + 11) a0.toNatClampNeg) then am_cI (am_G am_prog (N + 30) (d + 0) 49 [.ref 115, .int (nI 5)] (mkh X I J)) (KX6_readsFlaw_2 N d n ) else if am_in a0 6 then am_cV (am_G am_prog (N + 30) (d + 0) 46 [.ref 115] (mkh X (u2 I (X.2.2.1 + 12) a0.toNatClampNeg (I 115 9)) J)) (KX6_readsFlaw_3 N d n ) else none else none := by
  obtain ⟨L, he, sp, t1, t2⟩ := X
  change t1 = some sp at hW; subst hW
  rcases hX with ⟨h1, h2⟩ | ⟨h1, h2⟩ <;> (change he = _ at h1; change sp = _ at h2; subst h1; subst h2) <;> rfl
set_option maxHeartbeats 4000000 in
set_option maxRecDepth 100000 in
theorem kX6_readsFlaw_2 (N d n : Nat) {X : lt_X} (hX : hsX X) (hW : X.2.2.2.1 = some X.2.2.1) (z : Int32) (I : Nat → Nat → Int32) (J : Nat → Nat → Int64) : KX6_readsFlaw_2 N d n z (mkh X I J) = am_nb z (some (.int z, (mkh X I J))) := by
  obtain ⟨L, he, sp, t1, t2⟩ := X
  change t1 = some sp at hW; subst hW
  rcases hX with ⟨h1, h2⟩ | ⟨h1, h2⟩ <;> (change he = _ at h1; change sp = _ at h2; subst h1; subst h2) <;> rfl
set_option maxHeartbeats 4000000 in
set_option maxRecDepth 100000 in
theorem kX6_readsFlaw_3 (N d n : Nat) {X : lt_X} (hX : hsX X) (hW : X.2.2.2.1 = some X.2.2.1) (I : Nat → Nat → Int32) (J : Nat → Nat → Int64) : KX6_readsFlaw_3 N d n (mkh X I J) = some (.int (nI 1), (mkh X I J)) := by
  obtain ⟨L, he, sp, t1, t2⟩ := X
  change t1 = some sp at hW; subst hW
  rcases hX with ⟨h1, h2⟩ | ⟨h1, h2⟩ <;> (change he = _ at h1; change sp = _ at h2; subst h1; subst h2) <;> rfl
theorem fX6_readsFlaw (N d : Nat) {X : lt_X} (x1 : Int32) (I : Nat → Nat → Int32) (J : Nat → Nat → Int64) : am_G am_prog N (d + 1) 104 [.ref 117, .int x1] (mkh X I J) = am_run (am_G am_prog N d) eX6_readsFlaw uX6_readsFlaw N 0 [(0, .ref 117), (1, .int x1)] [] (mkh X I J) := by
  refine (am_G_at N d 104 mX6_readsFlaw _ _ rfl).trans ?_
  rfl
theorem gX6_readsFlaw (N d : Nat) {X : lt_X} (x1 : Int32) (I : Nat → Nat → Int32) (J : Nat → Nat → Int64) : am_G am_prog (N + 30) (d + 1) 104 [.ref 117, .int x1] (mkh X I J) = RX6_readsFlaw_0 N d (N + 30) X x1 I J := fX6_readsFlaw (N + 30) (d + 0) x1 I J
