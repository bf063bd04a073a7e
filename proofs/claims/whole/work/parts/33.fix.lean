/-! printed by wip/whole/eqs4.py: those that the kernel does not take by rfl -/
theorem q9_gI (X : lt_X) (I : Nat → Nat → Int32) (J : Nat → Nat → Int64) (k : Nat) (f : Int32 → am_O) : am_gI (mkh X I J) 9 135 k f = f (I 135 k) := Eq.trans rfl rfl
theorem q9_gR (X : lt_X) (I : Nat → Nat → Int32) (J : Nat → Nat → Int64) (f : Nat → am_O) : am_gR (mkh X I J) 9 135 20 f = f 140 := Eq.trans rfl rfl
theorem q9_tI (X : lt_X) (I : Nat → Nat → Int32) (J : Nat → Nat → Int64) (x v : Int32) (f : am_H → am_O) : am_tI (mkh X I J) 140 x v f = if am_in x 2145 then f (mkh X (u2 I 140 x.toNatClampNeg v) J) else none := Eq.trans rfl rfl
theorem q9_lI (X : lt_X) (I : Nat → Nat → Int32) (J : Nat → Nat → Int64) (x : Int32) (f : Int32 → am_O) : am_lI (mkh X I J) 10 140 x f = if am_in x 2145 then f (I 140 x.toNatClampNeg) else none := Eq.trans rfl rfl
theorem q9_u (I : Nat → Nat → Int32) (k j : Nat) (v : Int32) : u2 I 140 k v 135 j = I 135 j := Eq.trans rfl rfl
theorem nc_in9 {α : Type} {j n : Nat} {x y : α} (h : j < n) (hn : n < 2 ^ 31) : (if am_in (nI j) n then x else y) = x := if_pos (in_nI h hn)
set_option maxHeartbeats 4000000 in
set_option maxRecDepth 100000 in
theorem kX9_readVoice_2 (N d n : Nat) {X : lt_X} (a0 : Int32) (a1 : Int32) (a2 : Int32) (a3 : Int32) (a4 : Int32) (I : Nat → Nat → Int32) (J : Nat → Nat → Int64) : KX9_readVoice_2 N d n a0 a1 a2 a3 a4 (mkh X I J) = if nI 0 < (I 135 12) then some (.null, (mkh X I J)) else if am_in (((nI 1789) + ((nI 8) * a0)) + a3) 2145 then if (I 135 14) = (nI 1) then RX9_readVoice_41 N d n X a0 a1 a2 (a3 + (nI 1)) (u2 I 140 ((((nI 1789) + ((nI 8) * a0)) + a3).toNatClampNeg) a4) J else if am_in ((nI 1723) + a0) 2145 then if am_in ((nI 1729) + a0) 2145 then if am_in ((nI 1735) + a0) 2145 then if am_in ((nI 1741) + a0) 2145 then some (.null, (mkh X (u2 (u2 (u2 (u2 (u2 (u2 I 140 ((((nI 1789) + ((nI 8) * a0)) + a3).toNatClampNeg) a4) 140 (((nI 1723) + a0).toNatClampNeg) a1) 140 (((nI 1729) + a0).toNatClampNeg) a2) 140 (((nI 1735) + a0).toNatClampNeg) (a3 + (nI 1))) 140 (((nI 1741) + a0).toNatClampNeg) (nI 1)) 140 1717 (((u2 (u2 (u2 (u2 (u2 I 140 ((((nI 1789) + ((nI 8) * a0)) + a3).toNatClampNeg) a4) 140 (((nI 1723) + a0).toNatClampNeg) a1) 140 (((nI 1729) + a0).toNatClampNeg) a2) 140 (((nI 1735) + a0).toNatClampNeg) (a3 + (nI 1))) 140 (((nI 1741) + a0).toNatClampNeg) (nI 1)) 140 1717) + (nI 1))) J)) else none else none else none else none else none := by
  unfold KX9_readVoice_2
  simp only [q9_gI, q9_gR, q9_tI, q9_lI, q9_u]
  simp (disch := omega) only [nc_in9, nI_clamp]
  rfl
set_option maxHeartbeats 4000000 in
set_option maxRecDepth 100000 in
theorem kX9_goesHour_1 (N d n : Nat) {X : lt_X} (a0 : Int32) (a1 : Int32) (a2 : Int32) (a3 : Int32) (a4 : Int32) (z : Int32) (I : Nat → Nat → Int32) (J : Nat → Nat → Int64) : KX9_goesHour_1 N d n a0 a1 a2 a3 a4 z (mkh X I J) = if am_in a4 2145 then if am_in ((nI 49) + a2) 2145 then if a0 = nI 0 then am_run (am_G am_prog (N + 30) (d + 0)) eX9_goesHour uX9_goesHour n 63 [(0, .ref 135), (1, .int a1), (2, .int a2), (3, .int a0)] [.int (nI 1), .int ((u2 I 140 a4.toNatClampNeg (a3 + z)) 140 (((nI 49) + a2).toNatClampNeg)), .int ((nI 49) + a2), .ref 140] (mkh X (u2 I 140 a4.toNatClampNeg (a3 + z)) J) else am_run (am_G am_prog (N + 30) (d + 0)) eX9_goesHour uX9_goesHour n 63 [(0, .ref 135), (1, .int a1), (2, .int a2), (3, .int a0)] [.int (nI 0), .int ((u2 I 140 a4.toNatClampNeg (a3 + z)) 140 (((nI 49) + a2).toNatClampNeg)), .int ((nI 49) + a2), .ref 140] (mkh X (u2 I 140 a4.toNatClampNeg (a3 + z)) J) else none else none := by
  unfold KX9_goesHour_1
  simp only [q9_gI, q9_gR, q9_tI, q9_lI, q9_u]
