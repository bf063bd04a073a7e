/-! THE SCRIPT STAYS: no instruction writes into the script's cell -/
def am_sc (L : Nat) (xs : Nat → Int32) (h : am_H) : Prop := 1 < h.1 ∧ am_K h 1 = (21, L) ∧ am_I h 1 = xs
def am_scr (h : am_H) (res : Value × am_H) : Prop := ∀ L xs, L ≠ 0 → am_sc L xs h → am_sc L xs res.2
theorem am_scr_0 (h : am_H) (v : Value) : am_scr h (v, h) := fun _ _ _ q => q
theorem am_scr_if {P : Prop} {i : Decidable P} {o : am_O} {r : Value × am_H} {X : Prop} (h : (@ite _ P i o none) = some r) (k : o = some r → X) : X := k (am_if_inv h).2
theorem am_scr_ip {P : Prop} {i : Decidable P} {o : am_O} {r : Value × am_H} {X : Prop} (h : (@ite _ P i o none) = some r) (k : P → o = some r → X) : X := k (am_if_inv h).1 (am_if_inv h).2
theorem am_scr_if2 {P : Prop} {i : Decidable P} {o o2 : am_O} {r : Value × am_H} {X : Prop} (h : (@ite _ P i o o2) = some r) (k : o = some r → X) (k2 : o2 = some r → X) : X := by
  by_cases q : P
  · rw [if_pos q] at h; exact k h
  · rw [if_neg q] at h; exact k2 h
theorem am_scr_mk {h : am_H} {kd : Nat × Nat} {n : Nat} {r : Value × am_H} (q : am_scr (am_mk h kd n) r) : am_scr h r := by
  intro L xs hL ⟨h1, h2, h3⟩
  refine q L xs hL ⟨by show 1 < h.1 + 1; omega, ?_, ?_⟩
  · show (if 1 = h.1 then kd else am_K h 1) = _
    rw [if_neg (by omega)]; exact h2
  · show (if 1 = h.1 then fun _ => 0 else am_I h 1) = _
    rw [if_neg (by omega)]; exact h3
theorem am_scr_sI {h : am_H} {a k : Nat} {v : Int32} {r : Value × am_H} (hk : ∀ L, L ≠ 0 → am_K h a ≠ (21, L)) (q : am_scr (am_sI h a k v) r) : am_scr h r := by
  intro L xs hL ⟨h1, h2, h3⟩
  refine q L xs hL ⟨h1, h2, ?_⟩
  show (if 1 = a then upd (am_I h 1) k v else am_I h 1) = _
  rw [if_neg (fun e => hk L hL (by rw [← e]; exact h2))]; exact h3
theorem am_scr_wI {h : am_H} {a : Nat} {f : Nat → Int32} {r : Value × am_H} (hk : ∀ L, L ≠ 0 → am_K h a ≠ (21, L)) (q : am_scr (am_wI h a f) r) : am_scr h r := by
  intro L xs hL ⟨h1, h2, h3⟩
  refine q L xs hL ⟨h1, h2, ?_⟩
  show (if 1 = a then f else am_I h 1) = _
  rw [if_neg (fun e => hk L hL (by rw [← e]; exact h2))]; exact h3
theorem am_scr_k0 {x : Nat × Nat} {ci : Nat} (h : x = (ci, 0)) : ∀ L, L ≠ 0 → x ≠ (21, L) := fun L hL e => by
  rw [h] at e
  injection e with _ e
  exact hL e.symm
theorem am_scr_k1 {x : Nat × Nat} {c : Nat} (h : x.1 = c) (hc : c ≠ 21) : ∀ L, L ≠ 0 → x ≠ (21, L) := fun L hL e => by
  rw [e] at h
  exact hc h.symm
theorem am_scr_sw {f : Nat → am_O} {res : Value × am_H} {x : Int32} {a : Nat} {X : Prop} (k : ∀ t, f t = some res → X) {ts : List (Int32 × Nat)} (h : am_sw ts a x f = some res) : X := by
  rcases am_sw_inv h with ⟨j, t, h1, h2⟩ | ⟨h1, h2⟩
  · exact k t h2
  · exact k a h2
theorem am_scr_call {G : am_GT} (hG : ∀ y as h r h', G y as h = some (r, h') → am_scr h (r, h')) {a b c : Nat} {w : List Int32} {st : List Value} {h : am_H} {k : List Value → am_H → am_O} {res : Value × am_H} (hk : ∀ st h, k st h = some res → am_scr h res) (hs : am_call G a b c w st h k = some res) : am_scr h res := by
  match c, hs with
  | 0, hs =>
    obtain ⟨_, _, hs⟩ := am_ar_inv hs
    obtain ⟨h', hg, hs⟩ := am_cV_inv hs
    have m1 := hG _ _ _ _ _ hg
    have m2 := hk _ _ hs
    exact fun L xs hL q => m2 L xs hL (m1 L xs hL q)
  | 1, hs =>
    obtain ⟨_, _, hs⟩ := am_ar_inv hs
    obtain ⟨x, h', hg, hs⟩ := am_cI_inv hs
    have m1 := hG _ _ _ _ _ hg
    have m2 := hk _ _ hs
    exact fun L xs hL q => m2 L xs hL (m1 L xs hL q)
  | 2, hs =>
    obtain ⟨_, _, hs⟩ := am_ar_inv hs
    obtain ⟨x, h', hg, hs⟩ := am_cL_inv hs
    have m1 := hG _ _ _ _ _ hg
    have m2 := hk _ _ hs
    exact fun L xs hL q => m2 L xs hL (m1 L xs hL q)
  | 3, hs => cases hs
  | 4, hs =>
    obtain ⟨_, _, _, hs⟩ := am_1R_inv hs
    obtain ⟨_, hs⟩ := am_lt8_inv hs
    exact hk _ _ hs
  | 5, hs =>
    obtain ⟨_, _, _, hs⟩ := am_1I_inv hs
    obtain ⟨_, _, _, hs⟩ := am_1I_inv hs
    obtain ⟨_, hs⟩ := am_lt8_inv hs
    exact hk _ _ hs
  | 6, hs =>
    obtain ⟨_, _, _, hs⟩ := am_1I_inv hs
    obtain ⟨_, _, _, hs⟩ := am_1I_inv hs
    obtain ⟨_, hs⟩ := am_lt8_inv hs
    exact hk _ _ hs
  | 7, hs =>
    obtain ⟨_, _, _, hs⟩ := am_1L_inv hs
    obtain ⟨_, hs⟩ := am_lt8_inv hs
    exact hk _ _ hs
  | 8, hs =>
    obtain ⟨_, _, _, hs⟩ := am_1I_inv hs
    obtain ⟨_, _, _, hs⟩ := am_1I_inv hs
    obtain ⟨_, _, _, hs⟩ := am_1R_inv hs
    obtain ⟨_, _, _, hs⟩ := am_1I_inv hs
    obtain ⟨_, _, _, hs⟩ := am_1R_inv hs
    obtain ⟨_, hs⟩ := am_lt8_inv hs
    exact am_scr_ip hs (fun p hs => am_scr_if hs (fun hs => am_scr_wI (am_scr_k1 p.2 (by decide)) (hk _ _ hs)))
  | 9, hs =>
    obtain ⟨_, _, _, hs⟩ := am_1I_inv hs
    obtain ⟨_, _, _, hs⟩ := am_1I_inv hs
    obtain ⟨_, _, _, hs⟩ := am_1R_inv hs
    obtain ⟨_, _, _, hs⟩ := am_1I_inv hs
    obtain ⟨_, _, _, hs⟩ := am_1R_inv hs
    obtain ⟨_, hs⟩ := am_lt8_inv hs
    exact am_scr_if hs (fun hs => am_scr_if hs (fun hs => by have q := hk _ _ hs; exact q))
  | 10, hs =>
    obtain ⟨_, _, _, hs⟩ := am_1R_inv hs
    obtain ⟨_, hs⟩ := am_lt8_inv hs
    exact am_scr_if hs (fun hs => by have q := hk _ _ hs; exact q)
  | 11, hs =>
    obtain ⟨_, _, _, hs⟩ := am_1I_inv hs
    obtain ⟨_, _, _, hs⟩ := am_1R_inv hs
    obtain ⟨_, hs⟩ := am_lt8_inv hs
    exact am_scr_if hs (fun hs => am_scr_if hs (fun hs => by have q := hk _ _ hs; exact q))
  | n + 12, hs => cases hs
theorem am_scr_step {G : am_GT} (hG : ∀ y as h r h', G y as h = some (r, h') → am_scr h (r, h')) {e : am_E} {lo : am_V} {st : List Value} {h : am_H} {k : am_N} {res : Value × am_H} (hm : ∀ pc lo st h, k pc lo st h = some res → am_scr h res) (hs : am_step G e lo st h k = some res) : am_scr h res := by
  obtain ⟨pc, ins, len, ⟨a, b, c9⟩, v, w, ts⟩ := e
  cases ins with
  | iconst n =>
    exact hm _ _ _ _ hs
  | bipush n =>
    exact hm _ _ _ _ hs
  | sipush n =>
    exact hm _ _ _ _ hs
  | lconst n =>
    exact hm _ _ _ _ hs
  | ldc_w i =>
    exact hm _ _ _ _ hs
  | ldc2_w i =>
    exact hm _ _ _ _ hs
  | goto off =>
    exact hm _ _ _ _ hs
  | ldc i =>
    match c9, hs with
    | 0, hs => exact hm _ _ _ _ hs
    | n + 1, hs => exact hm _ _ _ _ hs
  | iload i =>
    obtain ⟨_, _, hs⟩ := am_oI_inv hs
    exact hm _ _ _ _ hs
  | iload_n i =>
    obtain ⟨_, _, hs⟩ := am_oI_inv hs
    exact hm _ _ _ _ hs
  | istore i =>
    obtain ⟨_, _, _, hs⟩ := am_1I_inv hs
    exact hm _ _ _ _ hs
  | istore_n i =>
    obtain ⟨_, _, _, hs⟩ := am_1I_inv hs
    exact hm _ _ _ _ hs
  | lload i =>
    obtain ⟨_, _, hs⟩ := am_oL_inv hs
    exact hm _ _ _ _ hs
  | lload_n i =>
    obtain ⟨_, _, hs⟩ := am_oL_inv hs
    exact hm _ _ _ _ hs
  | lstore i =>
    obtain ⟨_, _, _, hs⟩ := am_1L_inv hs
    exact hm _ _ _ _ hs
  | lstore_n i =>
    obtain ⟨_, _, _, hs⟩ := am_1L_inv hs
    exact hm _ _ _ _ hs
  | aload i =>
    obtain ⟨_, _, hs⟩ := am_oA_inv hs
    exact hm _ _ _ _ hs
  | aload_n i =>
    obtain ⟨_, _, hs⟩ := am_oA_inv hs
    exact hm _ _ _ _ hs
  | astore i =>
    obtain ⟨_, _, _, hs⟩ := am_1R_inv hs
    exact hm _ _ _ _ hs
  | astore_n i =>
    obtain ⟨_, _, _, hs⟩ := am_1R_inv hs
    exact hm _ _ _ _ hs
  | iinc i n =>
    obtain ⟨_, _, hs⟩ := am_oI_inv hs
    exact hm _ _ _ _ hs
  | iadd =>
    obtain ⟨_, _, _, hs⟩ := am_1I_inv hs
    obtain ⟨_, _, _, hs⟩ := am_1I_inv hs
    exact hm _ _ _ _ hs
  | isub =>
    obtain ⟨_, _, _, hs⟩ := am_1I_inv hs
    obtain ⟨_, _, _, hs⟩ := am_1I_inv hs
    exact hm _ _ _ _ hs
  | imul =>
    obtain ⟨_, _, _, hs⟩ := am_1I_inv hs
    obtain ⟨_, _, _, hs⟩ := am_1I_inv hs
    exact hm _ _ _ _ hs
  | iand =>
    obtain ⟨_, _, _, hs⟩ := am_1I_inv hs
    obtain ⟨_, _, _, hs⟩ := am_1I_inv hs
    exact hm _ _ _ _ hs
  | ior =>
    obtain ⟨_, _, _, hs⟩ := am_1I_inv hs
    obtain ⟨_, _, _, hs⟩ := am_1I_inv hs
    exact hm _ _ _ _ hs
  | ixor =>
    obtain ⟨_, _, _, hs⟩ := am_1I_inv hs
    obtain ⟨_, _, _, hs⟩ := am_1I_inv hs
    exact hm _ _ _ _ hs
  | ishl =>
    obtain ⟨_, _, _, hs⟩ := am_1I_inv hs
    obtain ⟨_, _, _, hs⟩ := am_1I_inv hs
    exact hm _ _ _ _ hs
  | ishr =>
    obtain ⟨_, _, _, hs⟩ := am_1I_inv hs
    obtain ⟨_, _, _, hs⟩ := am_1I_inv hs
    exact hm _ _ _ _ hs
  | iushr =>
    obtain ⟨_, _, _, hs⟩ := am_1I_inv hs
    obtain ⟨_, _, _, hs⟩ := am_1I_inv hs
    exact hm _ _ _ _ hs
  | idiv =>
    obtain ⟨_, _, _, hs⟩ := am_1I_inv hs
    obtain ⟨_, _, _, hs⟩ := am_1I_inv hs
    obtain ⟨_, hs⟩ := am_nz_inv hs
    exact hm _ _ _ _ hs
  | irem =>
    obtain ⟨_, _, _, hs⟩ := am_1I_inv hs
    obtain ⟨_, _, _, hs⟩ := am_1I_inv hs
    obtain ⟨_, hs⟩ := am_nz_inv hs
    exact hm _ _ _ _ hs
  | ineg =>
    obtain ⟨_, _, _, hs⟩ := am_1I_inv hs
    exact hm _ _ _ _ hs
  | ladd =>
    obtain ⟨_, _, _, hs⟩ := am_1L_inv hs
    obtain ⟨_, _, _, hs⟩ := am_1L_inv hs
    exact hm _ _ _ _ hs
  | lsub =>
    obtain ⟨_, _, _, hs⟩ := am_1L_inv hs
    obtain ⟨_, _, _, hs⟩ := am_1L_inv hs
    exact hm _ _ _ _ hs
  | lmul =>
    obtain ⟨_, _, _, hs⟩ := am_1L_inv hs
    obtain ⟨_, _, _, hs⟩ := am_1L_inv hs
    exact hm _ _ _ _ hs
  | land =>
    obtain ⟨_, _, _, hs⟩ := am_1L_inv hs
    obtain ⟨_, _, _, hs⟩ := am_1L_inv hs
    exact hm _ _ _ _ hs
  | lor =>
    obtain ⟨_, _, _, hs⟩ := am_1L_inv hs
    obtain ⟨_, _, _, hs⟩ := am_1L_inv hs
    exact hm _ _ _ _ hs
  | lcmp =>
    obtain ⟨_, _, _, hs⟩ := am_1L_inv hs
    obtain ⟨_, _, _, hs⟩ := am_1L_inv hs
    exact hm _ _ _ _ hs
  | ldiv =>
    obtain ⟨_, _, _, hs⟩ := am_1L_inv hs
    obtain ⟨_, _, _, hs⟩ := am_1L_inv hs
    obtain ⟨_, hs⟩ := am_nzL_inv hs
    exact hm _ _ _ _ hs
  | lrem =>
    obtain ⟨_, _, _, hs⟩ := am_1L_inv hs
    obtain ⟨_, _, _, hs⟩ := am_1L_inv hs
    obtain ⟨_, hs⟩ := am_nzL_inv hs
    exact hm _ _ _ _ hs
  | lneg =>
    obtain ⟨_, _, _, hs⟩ := am_1L_inv hs
    exact hm _ _ _ _ hs
  | lshl =>
    obtain ⟨_, _, _, hs⟩ := am_1I_inv hs
    obtain ⟨_, _, _, hs⟩ := am_1L_inv hs
    exact hm _ _ _ _ hs
  | i2l =>
    obtain ⟨_, _, _, hs⟩ := am_1I_inv hs
    exact hm _ _ _ _ hs
  | l2i =>
    obtain ⟨_, _, _, hs⟩ := am_1L_inv hs
    exact hm _ _ _ _ hs
  | i2b =>
    obtain ⟨_, _, _, hs⟩ := am_1I_inv hs
    exact hm _ _ _ _ hs
  | i2s =>
    obtain ⟨_, _, _, hs⟩ := am_1I_inv hs
    exact hm _ _ _ _ hs
  | dup =>
    obtain ⟨_, _, _, _, hs⟩ := am_1V_inv hs
    exact hm _ _ _ _ hs
  | pop =>
    obtain ⟨_, _, _, _, hs⟩ := am_1V_inv hs
    exact hm _ _ _ _ hs
  | dup2 =>
    obtain ⟨_, _, _, _, hs⟩ := am_1V_inv hs
    obtain ⟨_, _, _, _, hs⟩ := am_1V_inv hs
    exact hm _ _ _ _ hs
  | ifCond q off =>
    cases q with
    | eq => obtain ⟨_, _, _, hs⟩ := am_1I_inv hs; exact am_scr_if2 hs (fun hs => by have q := hm _ _ _ _ hs; exact q) (fun hs => by have q := hm _ _ _ _ hs; exact q)
    | ne => obtain ⟨_, _, _, hs⟩ := am_1I_inv hs; exact am_scr_if2 hs (fun hs => by have q := hm _ _ _ _ hs; exact q) (fun hs => by have q := hm _ _ _ _ hs; exact q)
    | lt => obtain ⟨_, _, _, hs⟩ := am_1I_inv hs; exact am_scr_if2 hs (fun hs => by have q := hm _ _ _ _ hs; exact q) (fun hs => by have q := hm _ _ _ _ hs; exact q)
    | ge => obtain ⟨_, _, _, hs⟩ := am_1I_inv hs; exact am_scr_if2 hs (fun hs => by have q := hm _ _ _ _ hs; exact q) (fun hs => by have q := hm _ _ _ _ hs; exact q)
    | gt => obtain ⟨_, _, _, hs⟩ := am_1I_inv hs; exact am_scr_if2 hs (fun hs => by have q := hm _ _ _ _ hs; exact q) (fun hs => by have q := hm _ _ _ _ hs; exact q)
    | le => obtain ⟨_, _, _, hs⟩ := am_1I_inv hs; exact am_scr_if2 hs (fun hs => by have q := hm _ _ _ _ hs; exact q) (fun hs => by have q := hm _ _ _ _ hs; exact q)
  | if_icmp q off =>
    cases q with
    | eq => obtain ⟨_, _, _, hs⟩ := am_1I_inv hs; obtain ⟨_, _, _, hs⟩ := am_1I_inv hs; exact am_scr_if2 hs (fun hs => by have q := hm _ _ _ _ hs; exact q) (fun hs => by have q := hm _ _ _ _ hs; exact q)
    | ne => obtain ⟨_, _, _, hs⟩ := am_1I_inv hs; obtain ⟨_, _, _, hs⟩ := am_1I_inv hs; exact am_scr_if2 hs (fun hs => by have q := hm _ _ _ _ hs; exact q) (fun hs => by have q := hm _ _ _ _ hs; exact q)
    | lt => obtain ⟨_, _, _, hs⟩ := am_1I_inv hs; obtain ⟨_, _, _, hs⟩ := am_1I_inv hs; exact am_scr_if2 hs (fun hs => by have q := hm _ _ _ _ hs; exact q) (fun hs => by have q := hm _ _ _ _ hs; exact q)
    | ge => obtain ⟨_, _, _, hs⟩ := am_1I_inv hs; obtain ⟨_, _, _, hs⟩ := am_1I_inv hs; exact am_scr_if2 hs (fun hs => by have q := hm _ _ _ _ hs; exact q) (fun hs => by have q := hm _ _ _ _ hs; exact q)
    | gt => obtain ⟨_, _, _, hs⟩ := am_1I_inv hs; obtain ⟨_, _, _, hs⟩ := am_1I_inv hs; exact am_scr_if2 hs (fun hs => by have q := hm _ _ _ _ hs; exact q) (fun hs => by have q := hm _ _ _ _ hs; exact q)
    | le => obtain ⟨_, _, _, hs⟩ := am_1I_inv hs; obtain ⟨_, _, _, hs⟩ := am_1I_inv hs; exact am_scr_if2 hs (fun hs => by have q := hm _ _ _ _ hs; exact q) (fun hs => by have q := hm _ _ _ _ hs; exact q)
  | tableswitch d lo hi offs =>
    obtain ⟨_, _, _, hs⟩ := am_1I_inv hs
    exact am_scr_sw (fun t hs => hm _ _ _ _ hs) hs
  | getfield i =>
    obtain ⟨_, _, _, hs⟩ := am_1R_inv hs
    match c9, hs with
    | 0, hs => exact am_scr_if hs (fun hs => by have q := hm _ _ _ _ hs; exact q)
    | 1, hs => exact am_scr_if hs (fun hs => by have q := hm _ _ _ _ hs; exact q)
    | n + 2, hs => exact am_scr_if hs (fun hs => by obtain ⟨_, _, hs⟩ := am_oR_inv hs; exact hm _ _ _ _ hs)
  | putfield i =>
    match c9, hs with
    | 0, hs => obtain ⟨_, _, _, hs⟩ := am_1I_inv hs; obtain ⟨_, _, _, hs⟩ := am_1R_inv hs; exact am_scr_ip hs (fun p hs => am_scr_sI (am_scr_k0 p) (hm _ _ _ _ hs))
    | 1, hs => obtain ⟨_, _, _, hs⟩ := am_1L_inv hs; obtain ⟨_, _, _, hs⟩ := am_1R_inv hs; exact am_scr_if hs (fun hs => by have q := hm _ _ _ _ hs; exact q)
    | 2, hs => obtain ⟨_, _, _, hs⟩ := am_1R_inv hs; obtain ⟨_, _, _, hs⟩ := am_1R_inv hs; exact am_scr_if hs (fun hs => by have q := hm _ _ _ _ hs; exact q)
    | n + 3, hs => obtain ⟨_, _, _, hs⟩ := am_1I_inv hs; obtain ⟨_, _, _, hs⟩ := am_1R_inv hs; exact am_scr_ip hs (fun p hs => am_scr_if hs (fun hs => am_scr_sI (am_scr_k0 p) (hm _ _ _ _ hs)))
  | iaload =>
    obtain ⟨_, _, _, hs⟩ := am_1I_inv hs
    obtain ⟨_, _, _, hs⟩ := am_1R_inv hs
    exact am_scr_if hs (fun hs => am_scr_if hs (fun hs => by have q := hm _ _ _ _ hs; exact q))
  | baload =>
    obtain ⟨_, _, _, hs⟩ := am_1I_inv hs
    obtain ⟨_, _, _, hs⟩ := am_1R_inv hs
    exact am_scr_if hs (fun hs => am_scr_if hs (fun hs => by have q := hm _ _ _ _ hs; exact q))
  | laload =>
    obtain ⟨_, _, _, hs⟩ := am_1I_inv hs
    obtain ⟨_, _, _, hs⟩ := am_1R_inv hs
    exact am_scr_if hs (fun hs => am_scr_if hs (fun hs => by have q := hm _ _ _ _ hs; exact q))
  | aaload =>
    obtain ⟨_, _, _, hs⟩ := am_1I_inv hs
    obtain ⟨_, _, _, hs⟩ := am_1R_inv hs
    exact am_scr_if hs (fun hs => am_scr_if hs (fun hs => by obtain ⟨_, _, hs⟩ := am_oR_inv hs; exact hm _ _ _ _ hs))
  | iastore =>
    obtain ⟨_, _, _, hs⟩ := am_1I_inv hs
    obtain ⟨_, _, _, hs⟩ := am_1I_inv hs
    obtain ⟨_, _, _, hs⟩ := am_1R_inv hs
    exact am_scr_ip hs (fun p hs => am_scr_if hs (fun hs => am_scr_sI (am_scr_k1 p (by decide)) (hm _ _ _ _ hs)))
  | bastore =>
    obtain ⟨_, _, _, hs⟩ := am_1I_inv hs
    obtain ⟨_, _, _, hs⟩ := am_1I_inv hs
    obtain ⟨_, _, _, hs⟩ := am_1R_inv hs
    exact am_scr_ip hs (fun p hs => am_scr_if hs (fun hs => am_scr_sI (am_scr_k1 p (by decide)) (hm _ _ _ _ hs)))
  | lastore =>
    obtain ⟨_, _, _, hs⟩ := am_1L_inv hs
    obtain ⟨_, _, _, hs⟩ := am_1I_inv hs
    obtain ⟨_, _, _, hs⟩ := am_1R_inv hs
    exact am_scr_if hs (fun hs => am_scr_if hs (fun hs => by have q := hm _ _ _ _ hs; exact q))
  | aastore =>
    obtain ⟨_, _, _, hs⟩ := am_1R_inv hs
    obtain ⟨_, _, _, hs⟩ := am_1I_inv hs
    obtain ⟨_, _, _, hs⟩ := am_1R_inv hs
    exact am_scr_if hs (fun hs => am_scr_if hs (fun hs => am_scr_if hs (fun hs => by have q := hm _ _ _ _ hs; exact q)))
  | arraylength =>
    obtain ⟨_, _, _, hs⟩ := am_1R_inv hs
    exact am_scr_if hs (fun hs => by have q := hm _ _ _ _ hs; exact q)
  | new i =>
    exact am_scr_mk (hm _ _ _ _ hs)
  | newarray t =>
    obtain ⟨_, _, _, hs⟩ := am_1I_inv hs
    exact am_scr_if hs (fun hs => am_scr_mk (hm _ _ _ _ hs))
  | anewarray i =>
    obtain ⟨_, _, _, hs⟩ := am_1I_inv hs
    exact am_scr_if hs (fun hs => am_scr_mk (hm _ _ _ _ hs))
  | invokevirtual i =>
    exact am_scr_call (w := []) hG (fun st h hs => by have q := hm _ _ _ _ hs; exact q) hs
  | invokespecial i =>
    exact am_scr_call (w := []) hG (fun st h hs => by have q := hm _ _ _ _ hs; exact q) hs
  | invokestatic i =>
    exact am_scr_call (w := []) hG (fun st h hs => by have q := hm _ _ _ _ hs; exact q) hs
  | ireturn =>
    obtain ⟨_, _, _, hs⟩ := am_1I_inv hs
    obtain ⟨_, hs⟩ := am_0V_inv hs
    match c9, hs with
    | 0, hs => cases hs; exact am_scr_0 _ _
    | n + 1, hs => exact am_scr_if hs (fun hs => by cases hs; exact am_scr_0 _ _)
  | lreturn =>
    obtain ⟨_, _, _, hs⟩ := am_1L_inv hs
    obtain ⟨_, hs⟩ := am_0V_inv hs
    cases hs
    exact am_scr_0 _ _
  | return_ =>
    obtain ⟨_, hs⟩ := am_0V_inv hs
    cases hs
    exact am_scr_0 _ _
  | _ => cases hs
theorem am_scr_seg {G : am_GT} (hG : ∀ y as h r h', G y as h = some (r, h') → am_scr h (r, h')) {code : List am_E} {cuts : List (Nat × List Nat)} {k : am_N} {res : Value × am_H} (hm : ∀ pc lo st h, k pc lo st h = some res → am_scr h res) : ∀ (f : Nat) (sfx : List am_E) (lo : am_V) (st : List Value) (h : am_H), am_seg G code cuts f sfx lo st h k = some res → am_scr h res := by
  intro f
  induction f with
  | zero => intro sfx lo st h hs; cases hs
  | succ f ih =>
    intro sfx lo st h hs
    match sfx, hs with
    | [], hs => cases hs
    | e :: tail, hs =>
      refine am_scr_step hG (k := fun pc l st h => match am_cut cuts pc with
        | some ks => k pc (am_keep l ks) st h
        | none => am_seg G code cuts f (am_go code tail pc) l st h k) ?_ hs
      intro pc lo st h hq
      cases hc : am_cut cuts pc with
      | some ks => rw [hc] at hq; exact hm _ _ _ _ hq
      | none => rw [hc] at hq; exact ih _ _ _ _ hq
theorem am_scr_run {G : am_GT} (hG : ∀ y as h r h', G y as h = some (r, h') → am_scr h (r, h')) {code : List am_E} {cuts : List (Nat × List Nat)} {res : Value × am_H} : ∀ (n pc : Nat) (lo : am_V) (st : List Value) (h : am_H), am_run G code cuts n pc lo st h = some res → am_scr h res := by
  intro n
  induction n with
  | zero => intro pc lo st h hs; cases hs
  | succ n ih =>
    intro pc lo st h hs
    rw [am_run_succ] at hs
    generalize 3000 = f at hs
    exact am_scr_seg hG (fun pc lo st h hq => ih pc lo st h hq) f _ _ _ _ hs
theorem am_scr_G {prog : Nat → Option am_M} {N : Nat} : ∀ (d y : Nat) (as : List Value) (h : am_H) (r : Value) (h' : am_H), am_G prog N d y as h = some (r, h') → am_scr h (r, h') := by
  intro d
  induction d with
  | zero => intro y as h r h' hs; cases hs
  | succ d ih =>
    intro y as h r h' hs
    obtain ⟨M, -, -, -, hr⟩ := am_G_inv hs
    exact am_scr_run (fun y as h r h' q => ih y as h r h' q) N 0 _ _ _ hr
/-- a call on the lay-out leaves the script -/
theorem am_scr_mkh {N d y : Nat} {as : List Value} {X X1 : lt_X} {I I1 : Nat → Nat → Int32} {J J1 : Nat → Nat → Int64} {v : Value} (h0 : X.1 ≠ 0) (h : am_G am_prog N d y as (mkh X I J) = some (v, mkh X1 I1 J1)) : X1.1 = X.1 ∧ I1 1 = I 1 := by
  obtain ⟨-, q2, q3⟩ := am_scr_G d y as _ v _ h X.1 (I 1) h0 ⟨(by decide : 1 < 147), rfl, rfl⟩
  have q2 : (21, X1.1) = (21, X.1) := q2
  injection q2 with _ q2
  exact ⟨q2, q3⟩
