/-! WHAT A METHOD ANSWERS: an int (0), a long (1) -/
def am_vk (b : Nat) (v : Value) : Prop := (b = 0 ∧ ∃ x, v = .int x) ∨ (b = 1 ∧ ∃ x, v = .long x)
def am_rk (b : Nat) (e : am_E) : Bool := match e.2.1 with
  | .ireturn => Nat.beq b 0
  | .lreturn => Nat.beq b 1
  | .return_ => false
  | _ => true
theorem am_vk_if {P : Prop} {i : Decidable P} {o : am_O} {r : Value × am_H} {X : Prop} (h : (@ite _ P i o none) = some r) (k : o = some r → X) : X := k (am_if_inv h).2
theorem am_vk_if2 {P : Prop} {i : Decidable P} {o o2 : am_O} {r : Value × am_H} {X : Prop} (h : (@ite _ P i o o2) = some r) (k : o = some r → X) (k2 : o2 = some r → X) : X := by
  by_cases q : P
  · rw [if_pos q] at h; exact k h
  · rw [if_neg q] at h; exact k2 h
theorem am_vk_sw {f : Nat → am_O} {res : Value × am_H} {x : Int32} {a : Nat} {X : Prop} (k : ∀ t, f t = some res → X) {ts : List (Int32 × Nat)} (h : am_sw ts a x f = some res) : X := by
  rcases am_sw_inv h with ⟨j, t, h1, h2⟩ | ⟨h1, h2⟩
  · exact k t h2
  · exact k a h2
theorem am_vk_call {q0 : Nat} {G : am_GT} {a b c : Nat} {w : List Int32} {st : List Value} {h : am_H} {k : List Value → am_H → am_O} {res : Value × am_H} (hk : ∀ st h, k st h = some res → am_vk q0 res.1) (hs : am_call G a b c w st h k = some res) : am_vk q0 res.1 := by
  match c, hs with
  | 0, hs =>
    obtain ⟨_, _, hs⟩ := am_ar_inv hs
    obtain ⟨h', hg, hs⟩ := am_cV_inv hs
    exact hk _ _ hs
  | 1, hs =>
    obtain ⟨_, _, hs⟩ := am_ar_inv hs
    obtain ⟨x, h', hg, hs⟩ := am_cI_inv hs
    exact hk _ _ hs
  | 2, hs =>
    obtain ⟨_, _, hs⟩ := am_ar_inv hs
    obtain ⟨x, h', hg, hs⟩ := am_cL_inv hs
    exact hk _ _ hs
  | 3, hs => cases hs
  | 4, hs =>
    obtain ⟨_, _, _, hs⟩ := am_1R_inv hs
    obtain ⟨_, hs⟩ := am_lt8_inv hs
    exact hk _ _ hs
  | 5, hs =>
    obtain ⟨_, _, _, hs⟩ := am_1I_inv hs
    obtain ⟨_, _, _, hs⟩ := am_1I_inv hs
    obtain ⟨_, hs⟩ := am_lt8_inv hs
    exact hk _ _ hs
  | 6, hs =>
    obtain ⟨_, _, _, hs⟩ := am_1I_inv hs
    obtain ⟨_, _, _, hs⟩ := am_1I_inv hs
    obtain ⟨_, hs⟩ := am_lt8_inv hs
    exact hk _ _ hs
  | 7, hs =>
    obtain ⟨_, _, _, hs⟩ := am_1L_inv hs
    obtain ⟨_, hs⟩ := am_lt8_inv hs
    exact hk _ _ hs
  | 8, hs =>
    obtain ⟨_, _, _, hs⟩ := am_1I_inv hs
    obtain ⟨_, _, _, hs⟩ := am_1I_inv hs
    obtain ⟨_, _, _, hs⟩ := am_1R_inv hs
    obtain ⟨_, _, _, hs⟩ := am_1I_inv hs
    obtain ⟨_, _, _, hs⟩ := am_1R_inv hs
    obtain ⟨_, hs⟩ := am_lt8_inv hs
    exact am_vk_if hs (fun hs => am_vk_if hs (fun hs => by have q := hk _ _ hs; exact q))
  | 9, hs =>
    obtain ⟨_, _, _, hs⟩ := am_1I_inv hs
    obtain ⟨_, _, _, hs⟩ := am_1I_inv hs
    obtain ⟨_, _, _, hs⟩ := am_1R_inv hs
    obtain ⟨_, _, _, hs⟩ := am_1I_inv hs
    obtain ⟨_, _, _, hs⟩ := am_1R_inv hs
    obtain ⟨_, hs⟩ := am_lt8_inv hs
    exact am_vk_if hs (fun hs => am_vk_if hs (fun hs => by have q := hk _ _ hs; exact q))
  | 10, hs =>
    obtain ⟨_, _, _, hs⟩ := am_1R_inv hs
    obtain ⟨_, hs⟩ := am_lt8_inv hs
    exact am_vk_if hs (fun hs => by have q := hk _ _ hs; exact q)
  | 11, hs =>
    obtain ⟨_, _, _, hs⟩ := am_1I_inv hs
    obtain ⟨_, _, _, hs⟩ := am_1R_inv hs
    obtain ⟨_, hs⟩ := am_lt8_inv hs
    exact am_vk_if hs (fun hs => am_vk_if hs (fun hs => by have q := hk _ _ hs; exact q))
  | n + 12, hs => cases hs
theorem am_vk_step {q0 : Nat} {G : am_GT} {e : am_E} (he : am_rk q0 e = true) {lo : am_V} {st : List Value} {h : am_H} {k : am_N} {res : Value × am_H} (hm : ∀ pc lo st h, k pc lo st h = some res → am_vk q0 res.1) (hs : am_step G e lo st h k = some res) : am_vk q0 res.1 := by
  obtain ⟨pc, ins, len, ⟨a, b, c9⟩, v, w, ts⟩ := e
  cases ins with
  | iconst n =>
    exact hm _ _ _ _ hs
  | bipush n =>
    exact hm _ _ _ _ hs
  | sipush n =>
    exact hm _ _ _ _ hs
  | lconst n =>
    exact hm _ _ _ _ hs
  | ldc_w i =>
    exact hm _ _ _ _ hs
  | ldc2_w i =>
    exact hm _ _ _ _ hs
  | goto off =>
    exact hm _ _ _ _ hs
  | ldc i =>
    match c9, hs with
    | 0, hs => exact hm _ _ _ _ hs
    | n + 1, hs => exact hm _ _ _ _ hs
  | iload i =>
    obtain ⟨_, _, hs⟩ := am_oI_inv hs
    exact hm _ _ _ _ hs
  | iload_n i =>
    obtain ⟨_, _, hs⟩ := am_oI_inv hs
    exact hm _ _ _ _ hs
  | istore i =>
    obtain ⟨_, _, _, hs⟩ := am_1I_inv hs
    exact hm _ _ _ _ hs
  | istore_n i =>
    obtain ⟨_, _, _, hs⟩ := am_1I_inv hs
    exact hm _ _ _ _ hs
  | lload i =>
    obtain ⟨_, _, hs⟩ := am_oL_inv hs
    exact hm _ _ _ _ hs
  | lload_n i =>
    obtain ⟨_, _, hs⟩ := am_oL_inv hs
    exact hm _ _ _ _ hs
  | lstore i =>
    obtain ⟨_, _, _, hs⟩ := am_1L_inv hs
    exact hm _ _ _ _ hs
  | lstore_n i =>
    obtain ⟨_, _, _, hs⟩ := am_1L_inv hs
    exact hm _ _ _ _ hs
  | aload i =>
    obtain ⟨_, _, hs⟩ := am_oA_inv hs
    exact hm _ _ _ _ hs
  | aload_n i =>
    obtain ⟨_, _, hs⟩ := am_oA_inv hs
    exact hm _ _ _ _ hs
  | astore i =>
    obtain ⟨_, _, _, hs⟩ := am_1R_inv hs
    exact hm _ _ _ _ hs
  | astore_n i =>
    obtain ⟨_, _, _, hs⟩ := am_1R_inv hs
    exact hm _ _ _ _ hs
  | iinc i n =>
    obtain ⟨_, _, hs⟩ := am_oI_inv hs
    exact hm _ _ _ _ hs
  | iadd =>
    obtain ⟨_, _, _, hs⟩ := am_1I_inv hs
    obtain ⟨_, _, _, hs⟩ := am_1I_inv hs
    exact hm _ _ _ _ hs
  | isub =>
    obtain ⟨_, _, _, hs⟩ := am_1I_inv hs
    obtain ⟨_, _, _, hs⟩ := am_1I_inv hs
    exact hm _ _ _ _ hs
  | imul =>
    obtain ⟨_, _, _, hs⟩ := am_1I_inv hs
    obtain ⟨_, _, _, hs⟩ := am_1I_inv hs
    exact hm _ _ _ _ hs
  | iand =>
    obtain ⟨_, _, _, hs⟩ := am_1I_inv hs
    obtain ⟨_, _, _, hs⟩ := am_1I_inv hs
    exact hm _ _ _ _ hs
  | ior =>
    obtain ⟨_, _, _, hs⟩ := am_1I_inv hs
    obtain ⟨_, _, _, hs⟩ := am_1I_inv hs
    exact hm _ _ _ _ hs
  | ixor =>
    obtain ⟨_, _, _, hs⟩ := am_1I_inv hs
    obtain ⟨_, _, _, hs⟩ := am_1I_inv hs
    exact hm _ _ _ _ hs
  | ishl =>
    obtain ⟨_, _, _, hs⟩ := am_1I_inv hs
    obtain ⟨_, _, _, hs⟩ := am_1I_inv hs
    exact hm _ _ _ _ hs
  | ishr =>
    obtain ⟨_, _, _, hs⟩ := am_1I_inv hs
    obtain ⟨_, _, _, hs⟩ := am_1I_inv hs
    exact hm _ _ _ _ hs
  | iushr =>
    obtain ⟨_, _, _, hs⟩ := am_1I_inv hs
    obtain ⟨_, _, _, hs⟩ := am_1I_inv hs
    exact hm _ _ _ _ hs
  | idiv =>
    obtain ⟨_, _, _, hs⟩ := am_1I_inv hs
    obtain ⟨_, _, _, hs⟩ := am_1I_inv hs
    obtain ⟨_, hs⟩ := am_nz_inv hs
    exact hm _ _ _ _ hs
  | irem =>
    obtain ⟨_, _, _, hs⟩ := am_1I_inv hs
    obtain ⟨_, _, _, hs⟩ := am_1I_inv hs
    obtain ⟨_, hs⟩ := am_nz_inv hs
    exact hm _ _ _ _ hs
  | ineg =>
    obtain ⟨_, _, _, hs⟩ := am_1I_inv hs
    exact hm _ _ _ _ hs
  | ladd =>
    obtain ⟨_, _, _, hs⟩ := am_1L_inv hs
    obtain ⟨_, _, _, hs⟩ := am_1L_inv hs
    exact hm _ _ _ _ hs
  | lsub =>
    obtain ⟨_, _, _, hs⟩ := am_1L_inv hs
    obtain ⟨_, _, _, hs⟩ := am_1L_inv hs
    exact hm _ _ _ _ hs
  | lmul =>
    obtain ⟨_, _, _, hs⟩ := am_1L_inv hs
    obtain ⟨_, _, _, hs⟩ := am_1L_inv hs
    exact hm _ _ _ _ hs
  | land =>
    obtain ⟨_, _, _, hs⟩ := am_1L_inv hs
    obtain ⟨_, _, _, hs⟩ := am_1L_inv hs
    exact hm _ _ _ _ hs
  | lor =>
    obtain ⟨_, _, _, hs⟩ := am_1L_inv hs
    obtain ⟨_, _, _, hs⟩ := am_1L_inv hs
    exact hm _ _ _ _ hs
  | lcmp =>
    obtain ⟨_, _, _, hs⟩ := am_1L_inv hs
    obtain ⟨_, _, _, hs⟩ := am_1L_inv hs
    exact hm _ _ _ _ hs
  | ldiv =>
    obtain ⟨_, _, _, hs⟩ := am_1L_inv hs
    obtain ⟨_, _, _, hs⟩ := am_1L_inv hs
    obtain ⟨_, hs⟩ := am_nzL_inv hs
    exact hm _ _ _ _ hs
  | lrem =>
    obtain ⟨_, _, _, hs⟩ := am_1L_inv hs
    obtain ⟨_, _, _, hs⟩ := am_1L_inv hs
    obtain ⟨_, hs⟩ := am_nzL_inv hs
    exact hm _ _ _ _ hs
  | lneg =>
    obtain ⟨_, _, _, hs⟩ := am_1L_inv hs
    exact hm _ _ _ _ hs
  | lshl =>
    obtain ⟨_, _, _, hs⟩ := am_1I_inv hs
    obtain ⟨_, _, _, hs⟩ := am_1L_inv hs
    exact hm _ _ _ _ hs
  | i2l =>
    obtain ⟨_, _, _, hs⟩ := am_1I_inv hs
    exact hm _ _ _ _ hs
  | l2i =>
    obtain ⟨_, _, _, hs⟩ := am_1L_inv hs
    exact hm _ _ _ _ hs
  | i2b =>
    obtain ⟨_, _, _, hs⟩ := am_1I_inv hs
    exact hm _ _ _ _ hs
  | i2s =>
    obtain ⟨_, _, _, hs⟩ := am_1I_inv hs
    exact hm _ _ _ _ hs
  | dup =>
    obtain ⟨_, _, _, _, hs⟩ := am_1V_inv hs
    exact hm _ _ _ _ hs
  | pop =>
    obtain ⟨_, _, _, _, hs⟩ := am_1V_inv hs
    exact hm _ _ _ _ hs
  | dup2 =>
    obtain ⟨_, _, _, _, hs⟩ := am_1V_inv hs
    obtain ⟨_, _, _, _, hs⟩ := am_1V_inv hs
    exact hm _ _ _ _ hs
  | ifCond q off =>
    cases q with
    | eq => obtain ⟨_, _, _, hs⟩ := am_1I_inv hs; exact am_vk_if2 hs (fun hs => by have q := hm _ _ _ _ hs; exact q) (fun hs => by have q := hm _ _ _ _ hs; exact q)
    | ne => obtain ⟨_, _, _, hs⟩ := am_1I_inv hs; exact am_vk_if2 hs (fun hs => by have q := hm _ _ _ _ hs; exact q) (fun hs => by have q := hm _ _ _ _ hs; exact q)
    | lt => obtain ⟨_, _, _, hs⟩ := am_1I_inv hs; exact am_vk_if2 hs (fun hs => by have q := hm _ _ _ _ hs; exact q) (fun hs => by have q := hm _ _ _ _ hs; exact q)
    | ge => obtain ⟨_, _, _, hs⟩ := am_1I_inv hs; exact am_vk_if2 hs (fun hs => by have q := hm _ _ _ _ hs; exact q) (fun hs => by have q := hm _ _ _ _ hs; exact q)
    | gt => obtain ⟨_, _, _, hs⟩ := am_1I_inv hs; exact am_vk_if2 hs (fun hs => by have q := hm _ _ _ _ hs; exact q) (fun hs => by have q := hm _ _ _ _ hs; exact q)
    | le => obtain ⟨_, _, _, hs⟩ := am_1I_inv hs; exact am_vk_if2 hs (fun hs => by have q := hm _ _ _ _ hs; exact q) (fun hs => by have q := hm _ _ _ _ hs; exact q)
  | if_icmp q off =>
    cases q with
    | eq => obtain ⟨_, _, _, hs⟩ := am_1I_inv hs; obtain ⟨_, _, _, hs⟩ := am_1I_inv hs; exact am_vk_if2 hs (fun hs => by have q := hm _ _ _ _ hs; exact q) (fun hs => by have q := hm _ _ _ _ hs; exact q)
    | ne => obtain ⟨_, _, _, hs⟩ := am_1I_inv hs; obtain ⟨_, _, _, hs⟩ := am_1I_inv hs; exact am_vk_if2 hs (fun hs => by have q := hm _ _ _ _ hs; exact q) (fun hs => by have q := hm _ _ _ _ hs; exact q)
    | lt => obtain ⟨_, _, _, hs⟩ := am_1I_inv hs; obtain ⟨_, _, _, hs⟩ := am_1I_inv hs; exact am_vk_if2 hs (fun hs => by have q := hm _ _ _ _ hs; exact q) (fun hs => by have q := hm _ _ _ _ hs; exact q)
    | ge => obtain ⟨_, _, _, hs⟩ := am_1I_inv hs; obtain ⟨_, _, _, hs⟩ := am_1I_inv hs; exact am_vk_if2 hs (fun hs => by have q := hm _ _ _ _ hs; exact q) (fun hs => by have q := hm _ _ _ _ hs; exact q)
    | gt => obtain ⟨_, _, _, hs⟩ := am_1I_inv hs; obtain ⟨_, _, _, hs⟩ := am_1I_inv hs; exact am_vk_if2 hs (fun hs => by have q := hm _ _ _ _ hs; exact q) (fun hs => by have q := hm _ _ _ _ hs; exact q)
    | le => obtain ⟨_, _, _, hs⟩ := am_1I_inv hs; obtain ⟨_, _, _, hs⟩ := am_1I_inv hs; exact am_vk_if2 hs (fun hs => by have q := hm _ _ _ _ hs; exact q) (fun hs => by have q := hm _ _ _ _ hs; exact q)
  | tableswitch d lo hi offs =>
    obtain ⟨_, _, _, hs⟩ := am_1I_inv hs
    exact am_vk_sw (fun t hs => hm _ _ _ _ hs) hs
  | getfield i =>
    obtain ⟨_, _, _, hs⟩ := am_1R_inv hs
    match c9, hs with
    | 0, hs => exact am_vk_if hs (fun hs => by have q := hm _ _ _ _ hs; exact q)
    | 1, hs => exact am_vk_if hs (fun hs => by have q := hm _ _ _ _ hs; exact q)
    | n + 2, hs => exact am_vk_if hs (fun hs => by obtain ⟨_, _, hs⟩ := am_oR_inv hs; exact hm _ _ _ _ hs)
  | putfield i =>
    match c9, hs with
    | 0, hs => obtain ⟨_, _, _, hs⟩ := am_1I_inv hs; obtain ⟨_, _, _, hs⟩ := am_1R_inv hs; exact am_vk_if hs (fun hs => by have q := hm _ _ _ _ hs; exact q)
    | 1, hs => obtain ⟨_, _, _, hs⟩ := am_1L_inv hs; obtain ⟨_, _, _, hs⟩ := am_1R_inv hs; exact am_vk_if hs (fun hs => by have q := hm _ _ _ _ hs; exact q)
    | 2, hs => obtain ⟨_, _, _, hs⟩ := am_1R_inv hs; obtain ⟨_, _, _, hs⟩ := am_1R_inv hs; exact am_vk_if hs (fun hs => by have q := hm _ _ _ _ hs; exact q)
    | n + 3, hs => obtain ⟨_, _, _, hs⟩ := am_1I_inv hs; obtain ⟨_, _, _, hs⟩ := am_1R_inv hs; exact am_vk_if hs (fun hs => am_vk_if hs (fun hs => by have q := hm _ _ _ _ hs; exact q))
  | iaload =>
    obtain ⟨_, _, _, hs⟩ := am_1I_inv hs
    obtain ⟨_, _, _, hs⟩ := am_1R_inv hs
    exact am_vk_if hs (fun hs => am_vk_if hs (fun hs => by have q := hm _ _ _ _ hs; exact q))
  | baload =>
    obtain ⟨_, _, _, hs⟩ := am_1I_inv hs
    obtain ⟨_, _, _, hs⟩ := am_1R_inv hs
    exact am_vk_if hs (fun hs => am_vk_if hs (fun hs => by have q := hm _ _ _ _ hs; exact q))
  | laload =>
    obtain ⟨_, _, _, hs⟩ := am_1I_inv hs
    obtain ⟨_, _, _, hs⟩ := am_1R_inv hs
    exact am_vk_if hs (fun hs => am_vk_if hs (fun hs => by have q := hm _ _ _ _ hs; exact q))
  | aaload =>
    obtain ⟨_, _, _, hs⟩ := am_1I_inv hs
    obtain ⟨_, _, _, hs⟩ := am_1R_inv hs
    exact am_vk_if hs (fun hs => am_vk_if hs (fun hs => by obtain ⟨_, _, hs⟩ := am_oR_inv hs; exact hm _ _ _ _ hs))
  | iastore =>
    obtain ⟨_, _, _, hs⟩ := am_1I_inv hs
    obtain ⟨_, _, _, hs⟩ := am_1I_inv hs
    obtain ⟨_, _, _, hs⟩ := am_1R_inv hs
    exact am_vk_if hs (fun hs => am_vk_if hs (fun hs => by have q := hm _ _ _ _ hs; exact q))
  | bastore =>
    obtain ⟨_, _, _, hs⟩ := am_1I_inv hs
    obtain ⟨_, _, _, hs⟩ := am_1I_inv hs
    obtain ⟨_, _, _, hs⟩ := am_1R_inv hs
    exact am_vk_if hs (fun hs => am_vk_if hs (fun hs => by have q := hm _ _ _ _ hs; exact q))
  | lastore =>
    obtain ⟨_, _, _, hs⟩ := am_1L_inv hs
    obtain ⟨_, _, _, hs⟩ := am_1I_inv hs
    obtain ⟨_, _, _, hs⟩ := am_1R_inv hs
    exact am_vk_if hs (fun hs => am_vk_if hs (fun hs => by have q := hm _ _ _ _ hs; exact q))
  | aastore =>
    obtain ⟨_, _, _, hs⟩ := am_1R_inv hs
    obtain ⟨_, _, _, hs⟩ := am_1I_inv hs
    obtain ⟨_, _, _, hs⟩ := am_1R_inv hs
    exact am_vk_if hs (fun hs => am_vk_if hs (fun hs => am_vk_if hs (fun hs => by have q := hm _ _ _ _ hs; exact q)))
  | arraylength =>
    obtain ⟨_, _, _, hs⟩ := am_1R_inv hs
    exact am_vk_if hs (fun hs => by have q := hm _ _ _ _ hs; exact q)
  | new i =>
    exact hm _ _ _ _ hs
  | newarray t =>
    obtain ⟨_, _, _, hs⟩ := am_1I_inv hs
    exact am_vk_if hs (fun hs => hm _ _ _ _ hs)
  | anewarray i =>
    obtain ⟨_, _, _, hs⟩ := am_1I_inv hs
    exact am_vk_if hs (fun hs => hm _ _ _ _ hs)
  | invokevirtual i =>
    exact am_vk_call (w := []) (fun st h hs => by have q := hm _ _ _ _ hs; exact q) hs
  | invokespecial i =>
    exact am_vk_call (w := []) (fun st h hs => by have q := hm _ _ _ _ hs; exact q) hs
  | invokestatic i =>
    exact am_vk_call (w := []) (fun st h hs => by have q := hm _ _ _ _ hs; exact q) hs
  | ireturn =>
    obtain ⟨_, _, _, hs⟩ := am_1I_inv hs
    obtain ⟨_, hs⟩ := am_0V_inv hs
    match c9, hs with
    | 0, hs => cases hs; exact Or.inl ⟨Nat.eq_of_beq_eq_true he, _, rfl⟩
    | n + 1, hs => exact am_vk_if hs (fun hs => by cases hs; exact Or.inl ⟨Nat.eq_of_beq_eq_true he, _, rfl⟩)
  | lreturn =>
    obtain ⟨_, _, _, hs⟩ := am_1L_inv hs
    obtain ⟨_, hs⟩ := am_0V_inv hs
    cases hs
    exact Or.inr ⟨Nat.eq_of_beq_eq_true he, _, rfl⟩
  | return_ => exact absurd (show false = true from he) (by decide)
  | _ => cases hs
theorem am_vk_seg {q0 : Nat} {G : am_GT} {code : List am_E} {cuts : List (Nat × List Nat)} {k : am_N} {res : Value × am_H} (hc : ∀ x ∈ code, am_rk q0 x = true) (hm : ∀ pc lo st h, k pc lo st h = some res → am_vk q0 res.1) : ∀ (f : Nat) (sfx : List am_E) (lo : am_V) (st : List Value) (h : am_H), (∀ x ∈ sfx, x ∈ code) → am_seg G code cuts f sfx lo st h k = some res → am_vk q0 res.1 := by
  intro f
  induction f with
  | zero => intro sfx lo st h _ hs; cases hs
  | succ f ih =>
    intro sfx lo st h hx hs
    match sfx, hx, hs with
    | [], _, hs => cases hs
    | e :: tail, hx, hs =>
      refine am_vk_step (k := fun pc l st h => match am_cut cuts pc with
        | some ks => k pc (am_keep l ks) st h
        | none => am_seg G code cuts f (am_go code tail pc) l st h k) (hc e (hx e List.mem_cons_self)) ?_ hs
      intro pc lo st h hq
      cases hu : am_cut cuts pc with
      | some ks => rw [hu] at hq; exact hm _ _ _ _ hq
      | none =>
        rw [hu] at hq
        refine ih _ _ _ _ ?_ hq
        intro x hxx
        match hg : am_go code tail pc with
        | [] => rw [hg] at hxx; cases hxx
        | e' :: t' =>
          rw [hg] at hxx
          exact (am_go_inv (fun x h => hx x (List.mem_cons_of_mem _ h)) hg).2 x hxx
theorem am_vk_run {q0 : Nat} {G : am_GT} {code : List am_E} {cuts : List (Nat × List Nat)} {res : Value × am_H} (hc : ∀ x ∈ code, am_rk q0 x = true) : ∀ (n pc : Nat) (lo : am_V) (st : List Value) (h : am_H), am_run G code cuts n pc lo st h = some res → am_vk q0 res.1 := by
  intro n
  induction n with
  | zero => intro pc lo st h hs; cases hs
  | succ n ih =>
    intro pc lo st h hs
    rw [am_run_succ] at hs
    generalize 3000 = f at hs
    refine am_vk_seg hc (fun pc lo st h hq => ih pc lo st h hq) f _ _ _ _ ?_ hs
    intro x hx
    match hg : am_from code pc with
    | [] => rw [hg] at hx; cases hx
    | e' :: t' =>
      rw [hg] at hx
      exact (am_from_inv hg).2 x hx
theorem am_vk_G {prog : Nat → Option am_M} {N d y q0 : Nat} {M : am_M} {as : List Value} {h : am_H} {v : Value} {h' : am_H} (hp : prog y = some M) (hc : M.2.2.2.2.2.1.all (am_rk q0) = true) (hs : am_G prog N d y as h = some (v, h')) : am_vk q0 v := by
  cases d with
  | zero => cases hs
  | succ d =>
    obtain ⟨M', hp', -, -, hr⟩ := am_G_inv hs
    rw [hp] at hp'
    injection hp' with hp'
    subst hp'
    exact am_vk_run (fun x hx => List.all_eq_true.mp hc x hx) N 0 _ _ _ hr
theorem am_v0 {prog : Nat → Option am_M} {N d y : Nat} {as : List Value} {h : am_H} {v : Value} {h' : am_H} (M : am_M) (hp : prog y = some M) (hc : M.2.2.2.2.2.1.all (am_rk 0) = true) (hs : am_G prog N d y as h = some (v, h')) : ∃ x, v = .int x := by
  rcases am_vk_G hp hc hs with ⟨_, h⟩ | ⟨h, _⟩
  · exact h
  · cases h
theorem am_v1 {prog : Nat → Option am_M} {N d y : Nat} {as : List Value} {h : am_H} {v : Value} {h' : am_H} (M : am_M) (hp : prog y = some M) (hc : M.2.2.2.2.2.1.all (am_rk 1) = true) (hs : am_G prog N d y as h = some (v, h')) : ∃ x, v = .long x := by
  rcases am_vk_G hp hc hs with ⟨h, _⟩ | ⟨_, h⟩
  · cases h
  · exact h
