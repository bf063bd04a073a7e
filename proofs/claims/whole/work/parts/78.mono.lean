/-! WHOLE METHODS: cells are never given back -/
def am_mon (h : am_H) (res : Value × am_H) : Prop := h.1 ≤ res.2.1 ∧ h.2.1 ≤ res.2.2.1
theorem am_mon_if {P : Prop} {i : Decidable P} {o : am_O} {r : Value × am_H} {X : Prop} (h : (@ite _ P i o none) = some r) (k : o = some r → X) : X := k (am_if_inv h).2
theorem am_mon_if2 {P : Prop} {i : Decidable P} {o o2 : am_O} {r : Value × am_H} {X : Prop} (h : (@ite _ P i o o2) = some r) (k : o = some r → X) (k2 : o2 = some r → X) : X := by
  by_cases q : P
  · rw [if_pos q] at h; exact k h
  · rw [if_neg q] at h; exact k2 h
theorem am_mon_mk {h : am_H} {kd : Nat × Nat} {n : Nat} {r : Value × am_H} (q : am_mon (am_mk h kd n) r) : am_mon h r := by
  obtain ⟨q1, q2⟩ := q
  have q1 : h.1 + 1 ≤ r.2.1 := q1
  have q2 : h.2.1 + n ≤ r.2.2.1 := q2
  exact ⟨by omega, by omega⟩
theorem am_mon_sw {f : Nat → am_O} {res : Value × am_H} {x : Int32} {a : Nat} {X : Prop} (k : ∀ t, f t = some res → X) {ts : List (Int32 × Nat)} (h : am_sw ts a x f = some res) : X := by
  rcases am_sw_inv h with ⟨j, t, h1, h2⟩ | ⟨h1, h2⟩
  · exact k t h2
  · exact k a h2
theorem am_mon_call {G : am_GT} (hG : ∀ y as h r h', G y as h = some (r, h') → h.1 ≤ h'.1 ∧ h.2.1 ≤ h'.2.1) {a b c : Nat} {w : List Int32} {st : List Value} {h : am_H} {k : List Value → am_H → am_O} {res : Value × am_H} (hk : ∀ st h, k st h = some res → am_mon h res) (hs : am_call G a b c w st h k = some res) : am_mon h res := by
  match c, hs with
  | 0, hs =>
    obtain ⟨_, _, hs⟩ := am_ar_inv hs
    obtain ⟨h', hg, hs⟩ := am_cV_inv hs
    have m1 := hG _ _ _ _ _ hg
    have m2 := hk _ _ hs
    exact ⟨Nat.le_trans m1.1 m2.1, Nat.le_trans m1.2 m2.2⟩
  | 1, hs =>
    obtain ⟨_, _, hs⟩ := am_ar_inv hs
    obtain ⟨x, h', hg, hs⟩ := am_cI_inv hs
    have m1 := hG _ _ _ _ _ hg
    have m2 := hk _ _ hs
    exact ⟨Nat.le_trans m1.1 m2.1, Nat.le_trans m1.2 m2.2⟩
  | 2, hs =>
    obtain ⟨_, _, hs⟩ := am_ar_inv hs
    obtain ⟨x, h', hg, hs⟩ := am_cL_inv hs
    have m1 := hG _ _ _ _ _ hg
    have m2 := hk _ _ hs
    exact ⟨Nat.le_trans m1.1 m2.1, Nat.le_trans m1.2 m2.2⟩
  | 3, hs => cases hs
  | 4, hs =>
    obtain ⟨_, _, _, hs⟩ := am_1R_inv hs
    obtain ⟨_, hs⟩ := am_lt8_inv hs
    exact hk _ _ hs
  | 5, hs =>
    obtain ⟨_, _, _, hs⟩ := am_1I_inv hs
    obtain ⟨_, _, _, hs⟩ := am_1I_inv hs
    obtain ⟨_, hs⟩ := am_lt8_inv hs
    exact hk _ _ hs
  | 6, hs =>
    obtain ⟨_, _, _, hs⟩ := am_1I_inv hs
    obtain ⟨_, _, _, hs⟩ := am_1I_inv hs
    obtain ⟨_, hs⟩ := am_lt8_inv hs
    exact hk _ _ hs
  | 7, hs =>
    obtain ⟨_, _, _, hs⟩ := am_1L_inv hs
    obtain ⟨_, hs⟩ := am_lt8_inv hs
    exact hk _ _ hs
  | 8, hs =>
    obtain ⟨_, _, _, hs⟩ := am_1I_inv hs
    obtain ⟨_, _, _, hs⟩ := am_1I_inv hs
    obtain ⟨_, _, _, hs⟩ := am_1R_inv hs
    obtain ⟨_, _, _, hs⟩ := am_1I_inv hs
    obtain ⟨_, _, _, hs⟩ := am_1R_inv hs
    obtain ⟨_, hs⟩ := am_lt8_inv hs
    exact am_mon_if hs (fun hs => am_mon_if hs (fun hs => by have q := hk _ _ hs; exact q))
  | 9, hs =>
    obtain ⟨_, _, _, hs⟩ := am_1I_inv hs
    obtain ⟨_, _, _, hs⟩ := am_1I_inv hs
    obtain ⟨_, _, _, hs⟩ := am_1R_inv hs
    obtain ⟨_, _, _, hs⟩ := am_1I_inv hs
    obtain ⟨_, _, _, hs⟩ := am_1R_inv hs
    obtain ⟨_, hs⟩ := am_lt8_inv hs
    exact am_mon_if hs (fun hs => am_mon_if hs (fun hs => by have q := hk _ _ hs; exact q))
  | 10, hs =>
    obtain ⟨_, _, _, hs⟩ := am_1R_inv hs
    obtain ⟨_, hs⟩ := am_lt8_inv hs
    exact am_mon_if hs (fun hs => by have q := hk _ _ hs; exact q)
  | 11, hs =>
    obtain ⟨_, _, _, hs⟩ := am_1I_inv hs
    obtain ⟨_, _, _, hs⟩ := am_1R_inv hs
    obtain ⟨_, hs⟩ := am_lt8_inv hs
    exact am_mon_if hs (fun hs => am_mon_if hs (fun hs => by have q := hk _ _ hs; exact q))
  | n + 12, hs => cases hs
theorem am_mon_step {G : am_GT} (hG : ∀ y as h r h', G y as h = some (r, h') → h.1 ≤ h'.1 ∧ h.2.1 ≤ h'.2.1) {e : am_E} {lo : am_V} {st : List Value} {h : am_H} {k : am_N} {res : Value × am_H} (hm : ∀ pc lo st h, k pc lo st h = some res → am_mon h res) (hs : am_step G e lo st h k = some res) : am_mon h res := by
  obtain ⟨pc, ins, len, ⟨a, b, c9⟩, v, w, ts⟩ := e
  cases ins with
  | iconst n =>
    exact hm _ _ _ _ hs
  | bipush n =>
    exact hm _ _ _ _ hs
  | sipush n =>
    exact hm _ _ _ _ hs
  | lconst n =>
    exact hm _ _ _ _ hs
  | ldc_w i =>
    exact hm _ _ _ _ hs
  | ldc2_w i =>
    exact hm _ _ _ _ hs
  | goto off =>
    exact hm _ _ _ _ hs
  | ldc i =>
    match c9, hs with
    | 0, hs => exact hm _ _ _ _ hs
    | n + 1, hs => exact hm _ _ _ _ hs
  | iload i =>
    obtain ⟨_, _, hs⟩ := am_oI_inv hs
    exact hm _ _ _ _ hs
  | iload_n i =>
    obtain ⟨_, _, hs⟩ := am_oI_inv hs
    exact hm _ _ _ _ hs
  | istore i =>
    obtain ⟨_, _, _, hs⟩ := am_1I_inv hs
    exact hm _ _ _ _ hs
  | istore_n i =>
    obtain ⟨_, _, _, hs⟩ := am_1I_inv hs
    exact hm _ _ _ _ hs
  | lload i =>
    obtain ⟨_, _, hs⟩ := am_oL_inv hs
    exact hm _ _ _ _ hs
  | lload_n i =>
    obtain ⟨_, _, hs⟩ := am_oL_inv hs
    exact hm _ _ _ _ hs
  | lstore i =>
    obtain ⟨_, _, _, hs⟩ := am_1L_inv hs
    exact hm _ _ _ _ hs
  | lstore_n i =>
    obtain ⟨_, _, _, hs⟩ := am_1L_inv hs
    exact hm _ _ _ _ hs
  | aload i =>
    obtain ⟨_, _, hs⟩ := am_oA_inv hs
    exact hm _ _ _ _ hs
  | aload_n i =>
    obtain ⟨_, _, hs⟩ := am_oA_inv hs
    exact hm _ _ _ _ hs
  | astore i =>
    obtain ⟨_, _, _, hs⟩ := am_1R_inv hs
    exact hm _ _ _ _ hs
  | astore_n i =>
    obtain ⟨_, _, _, hs⟩ := am_1R_inv hs
    exact hm _ _ _ _ hs
  | iinc i n =>
    obtain ⟨_, _, hs⟩ := am_oI_inv hs
    exact hm _ _ _ _ hs
  | iadd =>
    obtain ⟨_, _, _, hs⟩ := am_1I_inv hs
    obtain ⟨_, _, _, hs⟩ := am_1I_inv hs
    exact hm _ _ _ _ hs
  | isub =>
    obtain ⟨_, _, _, hs⟩ := am_1I_inv hs
    obtain ⟨_, _, _, hs⟩ := am_1I_inv hs
    exact hm _ _ _ _ hs
  | imul =>
    obtain ⟨_, _, _, hs⟩ := am_1I_inv hs
    obtain ⟨_, _, _, hs⟩ := am_1I_inv hs
    exact hm _ _ _ _ hs
  | iand =>
    obtain ⟨_, _, _, hs⟩ := am_1I_inv hs
    obtain ⟨_, _, _, hs⟩ := am_1I_inv hs
    exact hm _ _ _ _ hs
  | ior =>
    obtain ⟨_, _, _, hs⟩ := am_1I_inv hs
    obtain ⟨_, _, _, hs⟩ := am_1I_inv hs
    exact hm _ _ _ _ hs
  | ixor =>
    obtain ⟨_, _, _, hs⟩ := am_1I_inv hs
    obtain ⟨_, _, _, hs⟩ := am_1I_inv hs
    exact hm _ _ _ _ hs
  | ishl =>
    obtain ⟨_, _, _, hs⟩ := am_1I_inv hs
    obtain ⟨_, _, _, hs⟩ := am_1I_inv hs
    exact hm _ _ _ _ hs
  | ishr =>
    obtain ⟨_, _, _, hs⟩ := am_1I_inv hs
    obtain ⟨_, _, _, hs⟩ := am_1I_inv hs
    exact hm _ _ _ _ hs
  | iushr =>
    obtain ⟨_, _, _, hs⟩ := am_1I_inv hs
    obtain ⟨_, _, _, hs⟩ := am_1I_inv hs
    exact hm _ _ _ _ hs
  | idiv =>
    obtain ⟨_, _, _, hs⟩ := am_1I_inv hs
    obtain ⟨_, _, _, hs⟩ := am_1I_inv hs
    obtain ⟨_, hs⟩ := am_nz_inv hs
    exact hm _ _ _ _ hs
  | irem =>
    obtain ⟨_, _, _, hs⟩ := am_1I_inv hs
    obtain ⟨_, _, _, hs⟩ := am_1I_inv hs
    obtain ⟨_, hs⟩ := am_nz_inv hs
    exact hm _ _ _ _ hs
  | ineg =>
    obtain ⟨_, _, _, hs⟩ := am_1I_inv hs
    exact hm _ _ _ _ hs
  | ladd =>
    obtain ⟨_, _, _, hs⟩ := am_1L_inv hs
    obtain ⟨_, _, _, hs⟩ := am_1L_inv hs
    exact hm _ _ _ _ hs
  | lsub =>
    obtain ⟨_, _, _, hs⟩ := am_1L_inv hs
    obtain ⟨_, _, _, hs⟩ := am_1L_inv hs
    exact hm _ _ _ _ hs
  | lmul =>
    obtain ⟨_, _, _, hs⟩ := am_1L_inv hs
    obtain ⟨_, _, _, hs⟩ := am_1L_inv hs
    exact hm _ _ _ _ hs
  | land =>
    obtain ⟨_, _, _, hs⟩ := am_1L_inv hs
    obtain ⟨_, _, _, hs⟩ := am_1L_inv hs
    exact hm _ _ _ _ hs
  | lor =>
    obtain ⟨_, _, _, hs⟩ := am_1L_inv hs
    obtain ⟨_, _, _, hs⟩ := am_1L_inv hs
    exact hm _ _ _ _ hs
  | lcmp =>
    obtain ⟨_, _, _, hs⟩ := am_1L_inv hs
    obtain ⟨_, _, _, hs⟩ := am_1L_inv hs
    exact hm _ _ _ _ hs
  | ldiv =>
    obtain ⟨_, _, _, hs⟩ := am_1L_inv hs
    obtain ⟨_, _, _, hs⟩ := am_1L_inv hs
    obtain ⟨_, hs⟩ := am_nzL_inv hs
    exact hm _ _ _ _ hs
  | lrem =>
    obtain ⟨_, _, _, hs⟩ := am_1L_inv hs
    obtain ⟨_, _, _, hs⟩ := am_1L_inv hs
    obtain ⟨_, hs⟩ := am_nzL_inv hs
    exact hm _ _ _ _ hs
  | lneg =>
    obtain ⟨_, _, _, hs⟩ := am_1L_inv hs
    exact hm _ _ _ _ hs
  | lshl =>
    obtain ⟨_, _, _, hs⟩ := am_1I_inv hs
    obtain ⟨_, _, _, hs⟩ := am_1L_inv hs
    exact hm _ _ _ _ hs
  | i2l =>
    obtain ⟨_, _, _, hs⟩ := am_1I_inv hs
    exact hm _ _ _ _ hs
  | l2i =>
    obtain ⟨_, _, _, hs⟩ := am_1L_inv hs
    exact hm _ _ _ _ hs
  | i2b =>
    obtain ⟨_, _, _, hs⟩ := am_1I_inv hs
    exact hm _ _ _ _ hs
  | i2s =>
    obtain ⟨_, _, _, hs⟩ := am_1I_inv hs
    exact hm _ _ _ _ hs
  | dup =>
    obtain ⟨_, _, _, _, hs⟩ := am_1V_inv hs
    exact hm _ _ _ _ hs
  | pop =>
    obtain ⟨_, _, _, _, hs⟩ := am_1V_inv hs
    exact hm _ _ _ _ hs
  | dup2 =>
    obtain ⟨_, _, _, _, hs⟩ := am_1V_inv hs
    obtain ⟨_, _, _, _, hs⟩ := am_1V_inv hs
    exact hm _ _ _ _ hs
  | ifCond q off =>
    cases q with
    | eq => obtain ⟨_, _, _, hs⟩ := am_1I_inv hs; exact am_mon_if2 hs (fun hs => by have q := hm _ _ _ _ hs; exact q) (fun hs => by have q := hm _ _ _ _ hs; exact q)
    | ne => obtain ⟨_, _, _, hs⟩ := am_1I_inv hs; exact am_mon_if2 hs (fun hs => by have q := hm _ _ _ _ hs; exact q) (fun hs => by have q := hm _ _ _ _ hs; exact q)
    | lt => obtain ⟨_, _, _, hs⟩ := am_1I_inv hs; exact am_mon_if2 hs (fun hs => by have q := hm _ _ _ _ hs; exact q) (fun hs => by have q := hm _ _ _ _ hs; exact q)
    | ge => obtain ⟨_, _, _, hs⟩ := am_1I_inv hs; exact am_mon_if2 hs (fun hs => by have q := hm _ _ _ _ hs; exact q) (fun hs => by have q := hm _ _ _ _ hs; exact q)
    | gt => obtain ⟨_, _, _, hs⟩ := am_1I_inv hs; exact am_mon_if2 hs (fun hs => by have q := hm _ _ _ _ hs; exact q) (fun hs => by have q := hm _ _ _ _ hs; exact q)
    | le => obtain ⟨_, _, _, hs⟩ := am_1I_inv hs; exact am_mon_if2 hs (fun hs => by have q := hm _ _ _ _ hs; exact q) (fun hs => by have q := hm _ _ _ _ hs; exact q)
  | if_icmp q off =>
    cases q with
    | eq => obtain ⟨_, _, _, hs⟩ := am_1I_inv hs; obtain ⟨_, _, _, hs⟩ := am_1I_inv hs; exact am_mon_if2 hs (fun hs => by have q := hm _ _ _ _ hs; exact q) (fun hs => by have q := hm _ _ _ _ hs; exact q)
    | ne => obtain ⟨_, _, _, hs⟩ := am_1I_inv hs; obtain ⟨_, _, _, hs⟩ := am_1I_inv hs; exact am_mon_if2 hs (fun hs => by have q := hm _ _ _ _ hs; exact q) (fun hs => by have q := hm _ _ _ _ hs; exact q)
    | lt => obtain ⟨_, _, _, hs⟩ := am_1I_inv hs; obtain ⟨_, _, _, hs⟩ := am_1I_inv hs; exact am_mon_if2 hs (fun hs => by have q := hm _ _ _ _ hs; exact q) (fun hs => by have q := hm _ _ _ _ hs; exact q)
    | ge => obtain ⟨_, _, _, hs⟩ := am_1I_inv hs; obtain ⟨_, _, _, hs⟩ := am_1I_inv hs; exact am_mon_if2 hs (fun hs => by have q := hm _ _ _ _ hs; exact q) (fun hs => by have q := hm _ _ _ _ hs; exact q)
    | gt => obtain ⟨_, _, _, hs⟩ := am_1I_inv hs; obtain ⟨_, _, _, hs⟩ := am_1I_inv hs; exact am_mon_if2 hs (fun hs => by have q := hm _ _ _ _ hs; exact q) (fun hs => by have q := hm _ _ _ _ hs; exact q)
    | le => obtain ⟨_, _, _, hs⟩ := am_1I_inv hs; obtain ⟨_, _, _, hs⟩ := am_1I_inv hs; exact am_mon_if2 hs (fun hs => by have q := hm _ _ _ _ hs; exact q) (fun hs => by have q := hm _ _ _ _ hs; exact q)
  | tableswitch d lo hi offs =>
    obtain ⟨_, _, _, hs⟩ := am_1I_inv hs
    exact am_mon_sw (fun t hs => hm _ _ _ _ hs) hs
  | getfield i =>
    obtain ⟨_, _, _, hs⟩ := am_1R_inv hs
    match c9, hs with
    | 0, hs => exact am_mon_if hs (fun hs => by have q := hm _ _ _ _ hs; exact q)
    | 1, hs => exact am_mon_if hs (fun hs => by have q := hm _ _ _ _ hs; exact q)
    | n + 2, hs => exact am_mon_if hs (fun hs => by obtain ⟨_, _, hs⟩ := am_oR_inv hs; exact hm _ _ _ _ hs)
  | putfield i =>
    match c9, hs with
    | 0, hs => obtain ⟨_, _, _, hs⟩ := am_1I_inv hs; obtain ⟨_, _, _, hs⟩ := am_1R_inv hs; exact am_mon_if hs (fun hs => by have q := hm _ _ _ _ hs; exact q)
    | 1, hs => obtain ⟨_, _, _, hs⟩ := am_1L_inv hs; obtain ⟨_, _, _, hs⟩ := am_1R_inv hs; exact am_mon_if hs (fun hs => by have q := hm _ _ _ _ hs; exact q)
    | 2, hs => obtain ⟨_, _, _, hs⟩ := am_1R_inv hs; obtain ⟨_, _, _, hs⟩ := am_1R_inv hs; exact am_mon_if hs (fun hs => by have q := hm _ _ _ _ hs; exact q)
    | n + 3, hs => obtain ⟨_, _, _, hs⟩ := am_1I_inv hs; obtain ⟨_, _, _, hs⟩ := am_1R_inv hs; exact am_mon_if hs (fun hs => am_mon_if hs (fun hs => by have q := hm _ _ _ _ hs; exact q))
  | iaload =>
    obtain ⟨_, _, _, hs⟩ := am_1I_inv hs
    obtain ⟨_, _, _, hs⟩ := am_1R_inv hs
    exact am_mon_if hs (fun hs => am_mon_if hs (fun hs => by have q := hm _ _ _ _ hs; exact q))
  | baload =>
    obtain ⟨_, _, _, hs⟩ := am_1I_inv hs
    obtain ⟨_, _, _, hs⟩ := am_1R_inv hs
    exact am_mon_if hs (fun hs => am_mon_if hs (fun hs => by have q := hm _ _ _ _ hs; exact q))
  | laload =>
    obtain ⟨_, _, _, hs⟩ := am_1I_inv hs
    obtain ⟨_, _, _, hs⟩ := am_1R_inv hs
    exact am_mon_if hs (fun hs => am_mon_if hs (fun hs => by have q := hm _ _ _ _ hs; exact q))
  | aaload =>
    obtain ⟨_, _, _, hs⟩ := am_1I_inv hs
    obtain ⟨_, _, _, hs⟩ := am_1R_inv hs
    exact am_mon_if hs (fun hs => am_mon_if hs (fun hs => by obtain ⟨_, _, hs⟩ := am_oR_inv hs; exact hm _ _ _ _ hs))
  | iastore =>
    obtain ⟨_, _, _, hs⟩ := am_1I_inv hs
    obtain ⟨_, _, _, hs⟩ := am_1I_inv hs
    obtain ⟨_, _, _, hs⟩ := am_1R_inv hs
    exact am_mon_if hs (fun hs => am_mon_if hs (fun hs => by have q := hm _ _ _ _ hs; exact q))
  | bastore =>
    obtain ⟨_, _, _, hs⟩ := am_1I_inv hs
    obtain ⟨_, _, _, hs⟩ := am_1I_inv hs
    obtain ⟨_, _, _, hs⟩ := am_1R_inv hs
    exact am_mon_if hs (fun hs => am_mon_if hs (fun hs => by have q := hm _ _ _ _ hs; exact q))
  | lastore =>
    obtain ⟨_, _, _, hs⟩ := am_1L_inv hs
    obtain ⟨_, _, _, hs⟩ := am_1I_inv hs
    obtain ⟨_, _, _, hs⟩ := am_1R_inv hs
    exact am_mon_if hs (fun hs => am_mon_if hs (fun hs => by have q := hm _ _ _ _ hs; exact q))
  | aastore =>
    obtain ⟨_, _, _, hs⟩ := am_1R_inv hs
    obtain ⟨_, _, _, hs⟩ := am_1I_inv hs
    obtain ⟨_, _, _, hs⟩ := am_1R_inv hs
    exact am_mon_if hs (fun hs => am_mon_if hs (fun hs => am_mon_if hs (fun hs => by have q := hm _ _ _ _ hs; exact q)))
  | arraylength =>
    obtain ⟨_, _, _, hs⟩ := am_1R_inv hs
    exact am_mon_if hs (fun hs => by have q := hm _ _ _ _ hs; exact q)
  | new i =>
    exact am_mon_mk (hm _ _ _ _ hs)
  | newarray t =>
    obtain ⟨_, _, _, hs⟩ := am_1I_inv hs
    exact am_mon_if hs (fun hs => am_mon_mk (hm _ _ _ _ hs))
  | anewarray i =>
    obtain ⟨_, _, _, hs⟩ := am_1I_inv hs
    exact am_mon_if hs (fun hs => am_mon_mk (hm _ _ _ _ hs))
  | invokevirtual i =>
    exact am_mon_call (w := []) hG (fun st h hs => by have q := hm _ _ _ _ hs; exact q) hs
  | invokespecial i =>
    exact am_mon_call (w := []) hG (fun st h hs => by have q := hm _ _ _ _ hs; exact q) hs
  | invokestatic i =>
    exact am_mon_call (w := []) hG (fun st h hs => by have q := hm _ _ _ _ hs; exact q) hs
  | ireturn =>
    obtain ⟨_, _, _, hs⟩ := am_1I_inv hs
    obtain ⟨_, hs⟩ := am_0V_inv hs
    match c9, hs with
    | 0, hs => cases hs; exact ⟨Nat.le_refl _, Nat.le_refl _⟩
    | n + 1, hs => exact am_mon_if hs (fun hs => by cases hs; exact ⟨Nat.le_refl _, Nat.le_refl _⟩)
  | lreturn =>
    obtain ⟨_, _, _, hs⟩ := am_1L_inv hs
    obtain ⟨_, hs⟩ := am_0V_inv hs
    cases hs
    exact ⟨Nat.le_refl _, Nat.le_refl _⟩
  | return_ =>
    obtain ⟨_, hs⟩ := am_0V_inv hs
    cases hs
    exact ⟨Nat.le_refl _, Nat.le_refl _⟩
  | _ => cases hs
theorem am_mon_seg {G : am_GT} (hG : ∀ y as h r h', G y as h = some (r, h') → h.1 ≤ h'.1 ∧ h.2.1 ≤ h'.2.1) {code : List am_E} {cuts : List (Nat × List Nat)} {k : am_N} {res : Value × am_H} (hm : ∀ pc lo st h, k pc lo st h = some res → am_mon h res) : ∀ (f : Nat) (sfx : List am_E) (lo : am_V) (st : List Value) (h : am_H), am_seg G code cuts f sfx lo st h k = some res → am_mon h res := by
  intro f
  induction f with
  | zero => intro sfx lo st h hs; cases hs
  | succ f ih =>
    intro sfx lo st h hs
    match sfx, hs with
    | [], hs => cases hs
    | e :: tail, hs =>
      refine am_mon_step hG (k := fun pc l st h => match am_cut cuts pc with
        | some ks => k pc (am_keep l ks) st h
        | none => am_seg G code cuts f (am_go code tail pc) l st h k) ?_ hs
      intro pc lo st h hq
      cases hc : am_cut cuts pc with
      | some ks => rw [hc] at hq; exact hm _ _ _ _ hq
      | none => rw [hc] at hq; exact ih _ _ _ _ hq
set_option maxRecDepth 100000 in
theorem am_run_succ (G : am_GT) (code : List am_E) (cuts : List (Nat × List Nat)) (n pc : Nat) (l : am_V) (st : List Value) (h : am_H) : am_run G code cuts (n + 1) pc l st h = am_seg G code cuts 3000 (am_from code pc) l st h (am_run G code cuts n) := rfl
theorem am_mon_run {G : am_GT} (hG : ∀ y as h r h', G y as h = some (r, h') → h.1 ≤ h'.1 ∧ h.2.1 ≤ h'.2.1) {code : List am_E} {cuts : List (Nat × List Nat)} {res : Value × am_H} : ∀ (n pc : Nat) (lo : am_V) (st : List Value) (h : am_H), am_run G code cuts n pc lo st h = some res → am_mon h res := by
  intro n
  induction n with
  | zero => intro pc lo st h hs; cases hs
  | succ n ih =>
    intro pc lo st h hs
    rw [am_run_succ] at hs
    generalize 3000 = f at hs
    exact am_mon_seg hG (fun pc lo st h hq => ih pc lo st h hq) f _ _ _ _ hs
theorem am_rc_inv {ci : Nat} {as : List Value} {h : am_H} {o : am_O} {r : Value × am_H} (hs : am_rc ci as h o = some r) : o = some r ∧ (ci ≠ 99 → ∃ (a : Nat) (t : List Value), as = .ref a :: t ∧ am_K h a = (ci, 0)) := by
  unfold am_rc at hs
  cases hc : Nat.beq ci 99 with
  | true =>
    rw [hc] at hs
    exact ⟨hs, fun q => absurd (Nat.eq_of_beq_eq_true hc) q⟩
  | false =>
    rw [hc] at hs
    match as, hs with
    | .ref a :: t, hs =>
      obtain ⟨q1, q2⟩ := am_if_inv (show (if am_K h a = (ci, 0) then o else none) = some r from hs)
      exact ⟨q2, fun _ => ⟨a, t, rfl, q1⟩⟩
theorem am_G_inv {prog : Nat → Option am_M} {N d y : Nat} {as : List Value} {h : am_H} {r : Value × am_H} (hs : am_G prog N (d + 1) y as h = some r) : ∃ M, prog y = some M ∧ (M.2.2.2.2.1 ≠ 99 → ∃ (a : Nat) (t : List Value), as = .ref a :: t ∧ am_K h a = (M.2.2.2.2.1, 0)) ∧ (lg_sl as).length ≤ M.2.2.1 ∧ am_run (am_G prog N d) M.2.2.2.2.2.1 M.2.2.2.2.2.2 N 0 (lv_args 0 as) [] h = some r := by
  have hs : (match prog y with
      | some M => am_rc M.2.2.2.2.1 as h (bif Nat.ble (lg_sl as).length M.2.2.1 then am_run (am_G prog N d) M.2.2.2.2.2.1 M.2.2.2.2.2.2 N 0 (lv_args 0 as) [] h else none)
      | none => none) = some r := hs
  cases hp : prog y with
  | none => rw [hp] at hs; cases hs
  | some M =>
    rw [hp] at hs
    obtain ⟨h1, h2⟩ := am_rc_inv hs
    cases hc : Nat.ble (lg_sl as).length M.2.2.1 with
    | true => rw [hc] at h1; exact ⟨M, rfl, h2, Nat.le_of_ble_eq_true hc, h1⟩
    | false => rw [hc] at h1; cases h1
theorem am_mon_G {prog : Nat → Option am_M} {N : Nat} : ∀ (d y : Nat) (as : List Value) (h : am_H) (r : Value) (h' : am_H), am_G prog N d y as h = some (r, h') → h.1 ≤ h'.1 ∧ h.2.1 ≤ h'.2.1 := by
  intro d
  induction d with
  | zero => intro y as h r h' hs; cases hs
  | succ d ih =>
    intro y as h r h' hs
    obtain ⟨M, -, -, -, hr⟩ := am_G_inv hs
    exact am_mon_run (fun y as h r h' q => ih y as h r h' q) N 0 _ _ _ hr
