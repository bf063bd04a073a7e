/-! THE CHECK OF AN ENTRY, AND ONE STEP OF ANY METHOD -/
def am_cn : Nat → String := fun t => match t with
  | 0 => RX0 | 1 => RX1 | 2 => RX2 | 3 => RX3 | 4 => RX4 | 5 => RX5 | 6 => RX6 | 7 => RX7 | 8 => RX8 | 9 => RX9 | 10 => RL | _ => RJ6
/-- a class file's links: fields (index, class, slot, type, final), methods (index, method, kind, arguments), the library's (index, place), classes (index, kind), ints, longs -/
abbrev am_LK : Type := List (Nat × Nat × Nat × Nat × Nat) × List (Nat × Nat × Nat × Nat) × List (Nat × Nat) × List (Nat × Nat) × List (Nat × Int32) × List (Nat × Int64)
def am_FLP (o : Nat) (q : Nat × Nat × Nat × Nat × Nat) : Prop := ∃ (C : String) (T : u_T) (N : Nat) (ty0 : Nat → FieldType), am_CL q.2.1 C T N ty0 ∧ q.2.2.1 < N ∧ Cond.fieldLink (am_cn o) q.1 (T q.2.2.1).1 (T q.2.2.1).2.1 (T q.2.2.1).2.2.1 ∈ am_good ∧ am_ft q.2.1 q.2.2.1 = q.2.2.2.1 ∧ ((q.2.2.2.2 = 0 ∧ (T q.2.2.1).2.2.2 = false) ∨ (q.2.2.2.2 = 1 ∧ (T q.2.2.1).2.2.2 = true ∧ (T q.2.2.1).1 = am_cn o) ∨ q.2.2.2.2 = 2)
def am_MLP (prog : Nat → Option am_M) (o : Nat) (q : Nat × Nat × Nat × Nat) : Prop := ∃ (M : am_M) (n : Nat), prog q.2.1 = some M ∧ am_MK M n ∧
  ((q.2.2.1 = 0 ∧ n + 1 = q.2.2.2 ∧ Cond.methodLink (am_cn o) q.1 M.1 ∈ am_good ∧ Cond.instanceMethod M.1 ∈ am_good ∧ Cond.selects M.1.cls M.1 M.1 ∈ am_good ∧ M.2.2.2.2.1 < 10 ∧ ∃ (T : u_T) (N : Nat), vwCl[M.2.2.2.2.1]? = some (M.1.cls, T, N)) ∨
   (q.2.2.1 = 1 ∧ n = q.2.2.2 ∧ Cond.methodLink (am_cn o) q.1 M.1 ∈ am_good ∧ Cond.static M.1 ∈ am_good) ∨
   (q.2.2.1 = 2 ∧ n + 1 = q.2.2.2 ∧ Cond.methodLink (am_cn o) q.1 M.1 ∈ am_good ∧ Cond.instanceMethod M.1 ∈ am_good ∧ M.1.name = "<init>" ∧ M.2.2.2.1 = none ∧ M.2.2.2.2.1 < 10) ∨
   (q.2.2.1 = 3 ∧ n + 1 = q.2.2.2 ∧ (∃ host : String, Cond.methodLinkNest (am_cn o) q.1 M.1 host ∈ am_nest) ∧ Cond.instanceMethod M.1 ∈ am_good ∧ M.1.name = "<init>" ∧ M.2.2.2.1 = none ∧ M.2.2.2.2.1 < 10))
def am_XLP (o : Nat) (q : Nat × Nat) : Prop := (q.2 = 4 ∧ Cond.methodLink (am_cn o) q.1 Lib.objectInit ∈ am_good) ∨ (q.2 = 5 ∧ Cond.methodLink (am_cn o) q.1 Lib.Math.max.name ∈ am_good) ∨ (q.2 = 6 ∧ Cond.methodLink (am_cn o) q.1 Lib.Math.min.name ∈ am_good) ∨ (q.2 = 7 ∧ Cond.methodLink (am_cn o) q.1 Lib.MathLoose.abs_long.x ∈ am_good) ∨ (q.2 = 8 ∧ Cond.methodLink (am_cn o) q.1 arraycopyName ∈ am_good)
def am_NLP (o : Nat) (q : Nat × Nat) : Prop := (∃ (C : String) (T : u_T) (N : Nat) (ty0 : Nat → FieldType), am_CL q.2 C T N ty0 ∧ Cond.classLink (am_cn o) q.1 C ∈ am_good) ∨ (q.2 = 13 ∧ Cond.classLink (am_cn o) q.1 "LicensedVoice$Tray" ∈ am_good) ∨ (q.2 = 14 ∧ Cond.classLink (am_cn o) q.1 "LicensedVoice$Town" ∈ am_good)
def am_LKP (prog : Nat → Option am_M) (o : Nat) (k : am_LK) : Prop := (∀ q ∈ k.1, am_FLP o q) ∧ (∀ q ∈ k.2.1, am_MLP prog o q) ∧ (∀ q ∈ k.2.2.1, am_XLP o q) ∧ (∀ q ∈ k.2.2.2.1, am_NLP o q) ∧ (∀ q ∈ k.2.2.2.2.1, Cond.constant (am_cn o) q.1 q.2 ∈ am_good) ∧ (∀ q ∈ k.2.2.2.2.2, Cond.constantLong (am_cn o) q.1 q.2 ∈ am_good)
/-- the library's words -/
def am_lib : Prop := (Cond.instanceMethod Lib.objectInit ∈ am_good ∧ Cond.code Lib.objectInit ⟨#[0xb1]⟩ 1 none ∈ am_good) ∧ (Cond.initialized "java/lang/Math" ∈ am_good ∧ Cond.initialized "java/lang/System" ∈ am_good) ∧ (Cond.static Lib.Math.max.name ∈ am_good ∧ Cond.code Lib.Math.max.name Lib.Math.max.code 2 (some .int) ∈ am_good) ∧ (Cond.static Lib.Math.min.name ∈ am_good ∧ Cond.code Lib.Math.min.name Lib.Math.min.code 2 (some .int) ∈ am_good) ∧ (Cond.static Lib.MathLoose.abs_long.x ∈ am_good ∧ Cond.code Lib.MathLoose.abs_long.x Lib.MathLoose.abs_long.code 2 (some .long) ∈ am_good) ∧ (Cond.native arraycopyName ∈ am_good ∧ Cond.static arraycopyName ∈ am_good) ∧ Cond.arrayClass .int ∈ am_good ∧ Cond.arrayClass .byte ∈ am_good ∧ Cond.arrayClass .long ∈ am_good
def am_tck (pc : Nat) (lo : Int) (offs : Array Int) : Nat → List (Int32 × Nat) → Bool
  | _, [] => true
  | j, (c, t) :: r => (decide (c.toInt = lo + j) && (match offs[j]? with
    | some off => decide ((pc : Int) + off = (t : Int))
    | none => false)) && am_tck pc lo offs (j + 1) r
theorem am_tck_ok {pc : Nat} {lo : Int} {offs : Array Int} : ∀ {ts : List (Int32 × Nat)} {j0 : Nat}, am_tck pc lo offs j0 ts = true → ∀ (j : Nat) (c : Int32) (t : Nat), ts[j]? = some (c, t) → c.toInt = lo + ((j0 + j : Nat) : Int) ∧ ∃ off : Int, offs[j0 + j]? = some off ∧ (pc : Int) + off = (t : Int)
  | [], j0, _, j, c, t, h => by simp at h
  | (c0, t0) :: r, j0, hk, j, c, t, h => by
    unfold am_tck at hk
    rw [Bool.and_eq_true, Bool.and_eq_true] at hk
    obtain ⟨⟨h1, h2⟩, h3⟩ := hk
    cases j with
    | zero =>
      rw [List.getElem?_cons_zero] at h
      cases h
      refine ⟨by simpa using of_decide_eq_true h1, ?_⟩
      cases hq : offs[j0]? with
      | none => rw [hq] at h2; cases h2
      | some off =>
        rw [hq] at h2
        exact ⟨off, rfl, of_decide_eq_true h2⟩
    | succ j =>
      rw [List.getElem?_cons_succ] at h
      have := am_tck_ok h3 j c t h
      rw [show j0 + 1 + j = j0 + (j + 1) by omega] at this
      exact this
def am_ck (o : Nat) (K : am_LK) (init : Bool) (rt nL : Nat) (e : am_E) : Bool := match e with
  | (pc, ins, len, (a, b, c), v, w, ts) => match ins with
    | .iconst n => Nat.beq len 1 && decide (Int32.ofInt n = v)
    | .bipush n => Nat.beq len 2 && decide ((Int8.ofInt n).toInt32 = v)
    | .sipush n => Nat.beq len 3 && decide ((Int16.ofInt n).toInt32 = v)
    | .lconst n => Nat.beq len 1 && decide (Int64.ofNat (n : Nat) = w)
    | .ldc i => Nat.beq len 2 && (match c with
      | 0 => K.2.2.2.2.1.any (fun q => Nat.beq q.1 i && decide (q.2 = v))
      | _ => Nat.beq o 4 && Nat.beq i 23)
    | .ldc_w i => Nat.beq len 3 && K.2.2.2.2.1.any (fun q => Nat.beq q.1 i && decide (q.2 = v))
    | .ldc2_w i => Nat.beq len 3 && K.2.2.2.2.2.any (fun q => Nat.beq q.1 i && decide (q.2 = w))
    | .iload _ => Nat.beq len 2
    | .lload _ => Nat.beq len 2
    | .aload _ => Nat.beq len 2
    | .iload_n _ => Nat.beq len 1
    | .lload_n _ => Nat.beq len 1
    | .aload_n _ => Nat.beq len 1
    | .istore i => Nat.beq len 2 && Nat.blt i nL
    | .lstore i => Nat.beq len 2 && Nat.blt (i + 1) nL
    | .astore i => Nat.beq len 2 && Nat.blt i nL
    | .istore_n n => Nat.beq len 1 && Nat.blt n.val nL
    | .lstore_n n => Nat.beq len 1 && Nat.blt (n.val + 1) nL
    | .astore_n n => Nat.beq len 1 && Nat.blt n.val nL
    | .iinc i n => Nat.beq len 3 && (decide (Int32.ofInt n = v) && Nat.blt i nL)
    | .ifCond _ off => Nat.beq len 3 && decide ((pc : Int) + off = (a : Int))
    | .if_icmp _ off => Nat.beq len 3 && decide ((pc : Int) + off = (a : Int))
    | .goto off => Nat.beq len 3 && decide ((pc : Int) + off = (a : Int))
    | .tableswitch d lo hi offs => decide ((ts.length : Int) = hi - lo + 1) && (am_tck pc lo offs 0 ts && decide ((pc : Int) + d = (a : Int)))
    | .getfield i => Nat.beq len 3 && K.1.any (fun q => (Nat.beq q.1 i && Nat.beq q.2.1 a) && (Nat.beq q.2.2.1 b && Nat.beq c (bif Nat.beq q.2.2.2.1 3 then 0 else q.2.2.2.1)))
    | .putfield i => Nat.beq len 3 && K.1.any (fun q => (Nat.beq q.1 i && Nat.beq q.2.1 a) && ((Nat.beq q.2.2.1 b && Nat.beq c q.2.2.2.1) && (Nat.beq q.2.2.2.2 0 || (Nat.beq q.2.2.2.2 1 && init))))
    | .iaload => Nat.beq len 1 && (Nat.beq a 10 || (Nat.beq a 21 && Nat.beq o 10))
    | .aaload => Nat.beq len 1 && (Nat.beq a 13 || Nat.beq a 14)
    | .aastore => Nat.beq len 1 && ((Nat.beq a 13 && Nat.beq b 7) || (Nat.beq a 14 && Nat.beq b 5))
    | .arraylength => Nat.beq len 1 && (Nat.beq a 11 || (Nat.beq a 21 && Nat.beq o 10))
    | .new i => Nat.beq len 3 && (Nat.blt a 10 && (Nat.beq b (am_sz a) && K.2.2.2.1.any (fun q => Nat.beq q.1 i && Nat.beq q.2 a)))
    | .newarray t => Nat.beq len 2 && (match t with
      | .int => Nat.beq a 10
      | .byte => Nat.beq a 11
      | .long => Nat.beq a 12
      | _ => false)
    | .anewarray i => Nat.beq len 3 && ((Nat.beq a 13 || Nat.beq a 14) && K.2.2.2.1.any (fun q => Nat.beq q.1 i && Nat.beq q.2 a))
    | .invokevirtual i => Nat.beq len 3 && (bif Nat.blt c 3 then K.2.1.any (fun q => (Nat.beq q.1 i && Nat.beq q.2.1 a) && (Nat.beq q.2.2.1 0 && Nat.beq q.2.2.2 b)) else (Nat.beq o 4 && ((Nat.beq c 10 && Nat.beq i 25) || (Nat.beq c 11 && Nat.beq i 31))))
    | .invokespecial i => Nat.beq len 3 && (bif Nat.blt c 3 then K.2.1.any (fun q => (Nat.beq q.1 i && Nat.beq q.2.1 a) && ((Nat.beq q.2.2.1 2 || Nat.beq q.2.2.1 3) && Nat.beq q.2.2.2 b)) else (Nat.beq c 4 && K.2.2.1.any (fun q => Nat.beq q.1 i && Nat.beq q.2 4)))
    | .invokestatic i => Nat.beq len 3 && (bif Nat.blt c 3 then K.2.1.any (fun q => (Nat.beq q.1 i && Nat.beq q.2.1 a) && (Nat.beq q.2.2.1 1 && Nat.beq q.2.2.2 b)) else (bif Nat.blt c 5 then false else bif Nat.blt c 10 then K.2.2.1.any (fun q => Nat.beq q.1 i && Nat.beq q.2 (bif Nat.beq c 9 then 8 else c)) else false))
    | .ireturn => Nat.beq len 1 && ((Nat.beq rt 1 && Nat.beq c 0) || (Nat.beq rt 3 && Nat.beq c 1))
    | .lreturn => Nat.beq len 1 && Nat.beq rt 2
    | .return_ => Nat.beq len 1 && Nat.beq rt 0
    | .iadd => Nat.beq len 1
    | .isub => Nat.beq len 1
    | .imul => Nat.beq len 1
    | .iand => Nat.beq len 1
    | .ior => Nat.beq len 1
    | .ixor => Nat.beq len 1
    | .ishl => Nat.beq len 1
    | .ishr => Nat.beq len 1
    | .iushr => Nat.beq len 1
    | .idiv => Nat.beq len 1
    | .irem => Nat.beq len 1
    | .ineg => Nat.beq len 1
    | .ladd => Nat.beq len 1
    | .lsub => Nat.beq len 1
    | .lmul => Nat.beq len 1
    | .land => Nat.beq len 1
    | .lor => Nat.beq len 1
    | .ldiv => Nat.beq len 1
    | .lrem => Nat.beq len 1
    | .lneg => Nat.beq len 1
    | .lshl => Nat.beq len 1
    | .lcmp => Nat.beq len 1
    | .i2l => Nat.beq len 1
    | .l2i => Nat.beq len 1
    | .i2b => Nat.beq len 1
    | .i2s => Nat.beq len 1
    | .dup => Nat.beq len 1
    | .dup2 => Nat.beq len 1
    | .pop => Nat.beq len 1
    | .baload => Nat.beq len 1
    | .laload => Nat.beq len 1
    | .iastore => Nat.beq len 1
    | .bastore => Nat.beq len 1
    | .lastore => Nat.beq len 1
    | _ => false
set_option maxHeartbeats 4000000 in
theorem am_sim_step {p : Program} {l : Launch} {e : Env} {R : Room} {s : State} {m : MethodId} {args : Array Value} {below : List Frame} {meth : Method} {c : Code} {Q : State → Prop} {nL base LL : Nat} {xs : Nat → Int32} {ad : Nat → Nat} {dC : Nat → ClassId} {dI : Nat → Nat → Nat} {dA : Nat → ClassId} {n0 s0 : Nat} {cc : ByteArray} {lo : am_V} {st : List Value} {h : am_H} {k : am_N} {res : Value × am_H} {o rt d : Nat} {K : am_LK} {init : Bool} {SF : State → Prop} {prog : Nat → Option am_M} {G : am_GT} (hx : p.tables.exec = Jvm.exec) (hb : c.code = cc) (hml : c.maxLocals = nL) (hown : s.vm.findClass (am_cn o) = some m.cls) (hts : ∀ w ∈ am_good, w.before args s = true) (hF : am_Fx dC dI dA SF s) (hSF : am_SFok base SF) (had : am_ad base ad) (hlib : am_lib) (hLK : am_LKP prog o K) (hin : init = true → meth.name = "<init>")
    (hG : am_MS l base LL xs ad dC dI dA SF prog d G) (hfr : d + 8 + 1 ≤ R.frames) (hlo : 64 * (d + 1) + 512 ≤ R.locals) (hRc : res.2.1 ≤ n0 + R.cells) (hRs : res.2.2.1 ≤ s0 + R.slots)
    (hsc : o = 10 → va_X (ad 1) LL xs s s.heap ∧ ad 1 < s.heap.size ∧ ad 1 < base)
    (hret : ∀ (pc : Nat) (H : Heap) (locs : List Loc) (ls : Array Slot) (cells slots : Nat), (((rt = 1 ∧ ∃ x, res.1 = .int x) ∨ (rt = 3 ∧ ∃ x : Int32, res.1 = .int x ∧ (x = 0 ∨ x = 1))) ∧ decode cc pc = .ok (.ireturn, 1)) ∨ (rt = 2 ∧ (∃ x, res.1 = .long x) ∧ decode cc pc = .ok (.lreturn, 1)) ∨ (rt = 0 ∧ res.1 = .null ∧ decode cc pc = .ok (.return_, 1)) → am_Rel base LL xs ad dC dI dA res.2 H → va_S (am_A base) s.heap H locs → res.2.1 = n0 + cells → res.2.2.1 = s0 + slots → W p l e R s m args below meth c H locs cells slots Q (F0 m pc ls (am_ov ad res.1).toList))
    (e0 : am_E) (hd : decode cc e0.1 = .ok (e0.2.1, e0.2.2.1)) (hck : am_ck o K init rt nL e0 = true)
    (hk : ∀ pc lo st h, k pc lo st h = some res → am_Go p l e R s m args below meth c Q nL base LL xs ad dC dI dA n0 s0 pc lo st h) (hm : ∀ pc lo st h, k pc lo st h = some res → h.1 ≤ res.2.1 ∧ h.2.1 ≤ res.2.2.1)
    (hStr : ∀ (pc : Nat), o = 4 → (decode cc pc = .ok (.ldc 23, 2) ∧ k (pc + 2) lo (.ref 2 :: st) h = some res) ∨ (decode cc pc = .ok (.invokevirtual 25, 3) ∧ am_call G 0 0 10 [] st h (fun st h => k (pc + 3) lo st h) = some res) ∨ (decode cc pc = .ok (.invokevirtual 31, 3) ∧ am_call G 0 0 11 [] st h (fun st h => k (pc + 3) lo st h) = some res) → am_Go p l e R s m args below meth c Q nL base LL xs ad dC dI dA n0 s0 pc lo st h)
    (hs : am_step G e0 lo st h k = some res) : am_Go p l e R s m args below meth c Q nL base LL xs ad dC dI dA n0 s0 e0.1 lo st h := by
  obtain ⟨pc, ins, len, ⟨a, b, c9⟩, v, w, ts⟩ := e0
  obtain ⟨hFL, hML, hXL, hNL, hKI, hKL⟩ := hLK
  have hK := hF.1
  have hd : decode cc pc = .ok (ins, len) := hd
  show am_Go p l e R s m args below meth c Q nL base LL xs ad dC dI dA n0 s0 pc lo st h
  cases ins with
  | iconst n =>
    rw [show am_ck o K init rt nL _ = (_ && _) from rfl, Bool.and_eq_true] at hck
    obtain ⟨hl1, hck⟩ := hck
    have hl1 : len = 1 := Nat.eq_of_beq_eq_true hl1
    subst hl1
    exact sm_iconst hx hb hk hd (of_decide_eq_true hck) hs
  | bipush n =>
    rw [show am_ck o K init rt nL _ = (_ && _) from rfl, Bool.and_eq_true] at hck
    obtain ⟨hl1, hck⟩ := hck
    have hl1 : len = 2 := Nat.eq_of_beq_eq_true hl1
    subst hl1
    exact sm_bipush hx hb hk hd (of_decide_eq_true hck) hs
  | sipush n =>
    rw [show am_ck o K init rt nL _ = (_ && _) from rfl, Bool.and_eq_true] at hck
    obtain ⟨hl1, hck⟩ := hck
    have hl1 : len = 3 := Nat.eq_of_beq_eq_true hl1
    subst hl1
    exact sm_sipush hx hb hk hd (of_decide_eq_true hck) hs
  | lconst n =>
    rw [show am_ck o K init rt nL _ = (_ && _) from rfl, Bool.and_eq_true] at hck
    obtain ⟨hl1, hck⟩ := hck
    have hl1 : len = 1 := Nat.eq_of_beq_eq_true hl1
    subst hl1
    exact sm_lconst hx hb hk hd (of_decide_eq_true hck) hs
  | ldc i =>
    rw [show am_ck o K init rt nL _ = (_ && _) from rfl, Bool.and_eq_true] at hck
    obtain ⟨hl1, hck⟩ := hck
    have hl1 : len = 2 := Nat.eq_of_beq_eq_true hl1
    subst hl1
    match c9, hck, hs with
    | 0, hck, hs =>
      obtain ⟨q, hq, hqq⟩ := List.any_eq_true.mp (show List.any _ _ = true from hck)
      rw [Bool.and_eq_true] at hqq
      have e1 := Nat.eq_of_beq_eq_true hqq.1
      have e2 := of_decide_eq_true hqq.2
      have hw := hKI q hq
      rw [e1, e2] at hw
      exact sm_ldc hx hb hk hown hts hd hw hs
    | n + 1, hck, hs =>
      rw [show (match (n + 1) with | 0 => _ | _ => (Nat.beq o 4 && Nat.beq i 23)) = (Nat.beq o 4 && Nat.beq i 23) from rfl, Bool.and_eq_true] at hck
      have e1 := Nat.eq_of_beq_eq_true hck.1
      have e2 := Nat.eq_of_beq_eq_true hck.2
      subst e2
      exact hStr pc e1 (Or.inl ⟨hd, hs⟩)
  | ldc_w i =>
    rw [show am_ck o K init rt nL _ = (_ && _) from rfl, Bool.and_eq_true] at hck
    obtain ⟨hl1, hck⟩ := hck
    have hl1 : len = 3 := Nat.eq_of_beq_eq_true hl1
    subst hl1
    obtain ⟨q, hq, hqq⟩ := List.any_eq_true.mp hck
    rw [Bool.and_eq_true] at hqq
    have e1 := Nat.eq_of_beq_eq_true hqq.1
    have e2 := of_decide_eq_true hqq.2
    have hw := hKI q hq
    rw [e1, e2] at hw
    exact sm_ldc_w hx hb hk hown hts hd hw hs
  | ldc2_w i =>
    rw [show am_ck o K init rt nL _ = (_ && _) from rfl, Bool.and_eq_true] at hck
    obtain ⟨hl1, hck⟩ := hck
    have hl1 : len = 3 := Nat.eq_of_beq_eq_true hl1
    subst hl1
    obtain ⟨q, hq, hqq⟩ := List.any_eq_true.mp hck
    rw [Bool.and_eq_true] at hqq
    have e1 := Nat.eq_of_beq_eq_true hqq.1
    have e2 := of_decide_eq_true hqq.2
    have hw := hKL q hq
    rw [e1, e2] at hw
    exact sm_ldc2 hx hb hk hown hts hd hw hs
  | iload i =>
    have hl1 : len = 2 := Nat.eq_of_beq_eq_true hck
    subst hl1
    exact sm_iload hx hb hk hd hs
  | iload_n n =>
    have hl1 : len = 1 := Nat.eq_of_beq_eq_true hck
    subst hl1
    exact sm_iload_n hx hb hk hd hs
  | istore i =>
    rw [show am_ck o K init rt nL _ = (_ && _) from rfl, Bool.and_eq_true] at hck
    obtain ⟨hl1, hck⟩ := hck
    have hl1 : len = 2 := Nat.eq_of_beq_eq_true hl1
    subst hl1
    exact sm_istore hx hb hk hd (Nat.le_of_ble_eq_true hck) hs
  | istore_n n =>
    rw [show am_ck o K init rt nL _ = (_ && _) from rfl, Bool.and_eq_true] at hck
    obtain ⟨hl1, hck⟩ := hck
    have hl1 : len = 1 := Nat.eq_of_beq_eq_true hl1
    subst hl1
    exact sm_istore_n hx hb hk hd (Nat.le_of_ble_eq_true hck) hs
  | lload i =>
    have hl1 : len = 2 := Nat.eq_of_beq_eq_true hck
    subst hl1
    exact sm_lload hx hb hk hd hs
  | lload_n n =>
    have hl1 : len = 1 := Nat.eq_of_beq_eq_true hck
    subst hl1
    exact sm_lload_n hx hb hk hd hs
  | lstore i =>
    rw [show am_ck o K init rt nL _ = (_ && _) from rfl, Bool.and_eq_true] at hck
    obtain ⟨hl1, hck⟩ := hck
    have hl1 : len = 2 := Nat.eq_of_beq_eq_true hl1
    subst hl1
    exact sm_lstore hx hb hk hd (Nat.le_of_ble_eq_true hck) hs
  | lstore_n n =>
    rw [show am_ck o K init rt nL _ = (_ && _) from rfl, Bool.and_eq_true] at hck
    obtain ⟨hl1, hck⟩ := hck
    have hl1 : len = 1 := Nat.eq_of_beq_eq_true hl1
    subst hl1
    exact sm_lstore_n hx hb hk hd (Nat.le_of_ble_eq_true hck) hs
  | aload i =>
    have hl1 : len = 2 := Nat.eq_of_beq_eq_true hck
    subst hl1
    exact sm_aload hx hb hk hd hs
  | aload_n n =>
    have hl1 : len = 1 := Nat.eq_of_beq_eq_true hck
    subst hl1
    exact sm_aload_n hx hb hk hd hs
  | astore i =>
    rw [show am_ck o K init rt nL _ = (_ && _) from rfl, Bool.and_eq_true] at hck
    obtain ⟨hl1, hck⟩ := hck
    have hl1 : len = 2 := Nat.eq_of_beq_eq_true hl1
    subst hl1
    exact sm_astore hx hb hk hd (Nat.le_of_ble_eq_true hck) hs
  | astore_n n =>
    rw [show am_ck o K init rt nL _ = (_ && _) from rfl, Bool.and_eq_true] at hck
    obtain ⟨hl1, hck⟩ := hck
    have hl1 : len = 1 := Nat.eq_of_beq_eq_true hl1
    subst hl1
    exact sm_astore_n hx hb hk hd (Nat.le_of_ble_eq_true hck) hs
  | iinc i n =>
    rw [show am_ck o K init rt nL _ = (_ && _) from rfl, Bool.and_eq_true] at hck
    obtain ⟨hl1, hck⟩ := hck
    have hl1 : len = 3 := Nat.eq_of_beq_eq_true hl1
    subst hl1
    rw [Bool.and_eq_true] at hck
    exact sm_iinc hx hb hk hd (of_decide_eq_true hck.1) (Nat.le_of_ble_eq_true hck.2) hs
  | iadd =>
    have hl1 : len = 1 := Nat.eq_of_beq_eq_true hck
    subst hl1
    exact sm_iadd hx hb hk hd hs
  | isub =>
    have hl1 : len = 1 := Nat.eq_of_beq_eq_true hck
    subst hl1
    exact sm_isub hx hb hk hd hs
  | imul =>
    have hl1 : len = 1 := Nat.eq_of_beq_eq_true hck
    subst hl1
    exact sm_imul hx hb hk hd hs
  | iand =>
    have hl1 : len = 1 := Nat.eq_of_beq_eq_true hck
    subst hl1
    exact sm_iand hx hb hk hd hs
  | ior =>
    have hl1 : len = 1 := Nat.eq_of_beq_eq_true hck
    subst hl1
    exact sm_ior hx hb hk hd hs
  | ixor =>
    have hl1 : len = 1 := Nat.eq_of_beq_eq_true hck
    subst hl1
    exact sm_ixor hx hb hk hd hs
  | ishl =>
    have hl1 : len = 1 := Nat.eq_of_beq_eq_true hck
    subst hl1
    exact sm_ishl hx hb hk hd hs
  | ishr =>
    have hl1 : len = 1 := Nat.eq_of_beq_eq_true hck
    subst hl1
    exact sm_ishr hx hb hk hd hs
  | iushr =>
    have hl1 : len = 1 := Nat.eq_of_beq_eq_true hck
    subst hl1
    exact sm_iushr hx hb hk hd hs
  | idiv =>
    have hl1 : len = 1 := Nat.eq_of_beq_eq_true hck
    subst hl1
    exact sm_idiv hx hb hk hd hs
  | irem =>
    have hl1 : len = 1 := Nat.eq_of_beq_eq_true hck
    subst hl1
    exact sm_irem hx hb hk hd hs
  | ineg =>
    have hl1 : len = 1 := Nat.eq_of_beq_eq_true hck
    subst hl1
    exact sm_ineg hx hb hk hd hs
  | ladd =>
    have hl1 : len = 1 := Nat.eq_of_beq_eq_true hck
    subst hl1
    exact sm_ladd hx hb hk hd hs
  | lsub =>
    have hl1 : len = 1 := Nat.eq_of_beq_eq_true hck
    subst hl1
    exact sm_lsub hx hb hk hd hs
  | lmul =>
    have hl1 : len = 1 := Nat.eq_of_beq_eq_true hck
    subst hl1
    exact sm_lmul hx hb hk hd hs
  | land =>
    have hl1 : len = 1 := Nat.eq_of_beq_eq_true hck
    subst hl1
    exact sm_land hx hb hk hd hs
  | lor =>
    have hl1 : len = 1 := Nat.eq_of_beq_eq_true hck
    subst hl1
    exact sm_lor hx hb hk hd hs
  | ldiv =>
    have hl1 : len = 1 := Nat.eq_of_beq_eq_true hck
    subst hl1
    exact sm_ldiv hx hb hk hd hs
  | lrem =>
    have hl1 : len = 1 := Nat.eq_of_beq_eq_true hck
    subst hl1
    exact sm_lrem hx hb hk hd hs
  | lneg =>
    have hl1 : len = 1 := Nat.eq_of_beq_eq_true hck
    subst hl1
    exact sm_lneg hx hb hk hd hs
  | lshl =>
    have hl1 : len = 1 := Nat.eq_of_beq_eq_true hck
    subst hl1
    exact sm_lshl hx hb hk hd hs
  | lcmp =>
    have hl1 : len = 1 := Nat.eq_of_beq_eq_true hck
    subst hl1
    exact sm_lcmp hx hb hk hd hs
  | i2l =>
    have hl1 : len = 1 := Nat.eq_of_beq_eq_true hck
    subst hl1
    exact sm_i2l hx hb hk hd hs
  | l2i =>
    have hl1 : len = 1 := Nat.eq_of_beq_eq_true hck
    subst hl1
    exact sm_l2i hx hb hk hd hs
  | i2b =>
    have hl1 : len = 1 := Nat.eq_of_beq_eq_true hck
    subst hl1
    exact sm_i2b hx hb hk hd hs
  | i2s =>
    have hl1 : len = 1 := Nat.eq_of_beq_eq_true hck
    subst hl1
    exact sm_i2s hx hb hk hd hs
  | dup =>
    have hl1 : len = 1 := Nat.eq_of_beq_eq_true hck
    subst hl1
    exact sm_dup hx hb hk hd hs
  | dup2 =>
    have hl1 : len = 1 := Nat.eq_of_beq_eq_true hck
    subst hl1
    exact sm_dup2 hx hb hk hd hs
  | pop =>
    have hl1 : len = 1 := Nat.eq_of_beq_eq_true hck
    subst hl1
    exact sm_pop hx hb hk hd hs
  | baload =>
    have hl1 : len = 1 := Nat.eq_of_beq_eq_true hck
    subst hl1
    exact sm_baload hx hb hk hK had hd hs
  | laload =>
    have hl1 : len = 1 := Nat.eq_of_beq_eq_true hck
    subst hl1
    exact sm_laload hx hb hk hK had hd hs
  | iastore =>
    have hl1 : len = 1 := Nat.eq_of_beq_eq_true hck
    subst hl1
    exact sm_iastore hx hb hk hK had hd hs
  | bastore =>
    have hl1 : len = 1 := Nat.eq_of_beq_eq_true hck
    subst hl1
    exact sm_bastore hx hb hk hK had hd hs
  | lastore =>
    have hl1 : len = 1 := Nat.eq_of_beq_eq_true hck
    subst hl1
    exact sm_lastore hx hb hk hK had hd hs
  | ifCond q off =>
    rw [show am_ck o K init rt nL _ = (_ && _) from rfl, Bool.and_eq_true] at hck
    obtain ⟨hl1, hck⟩ := hck
    have hl1 : len = 3 := Nat.eq_of_beq_eq_true hl1
    subst hl1
    have ht := of_decide_eq_true hck
    cases q with
    | eq => exact sm_if_eq hx hb hk hd ht hs
    | ne => exact sm_if_ne hx hb hk hd ht hs
    | lt => exact sm_if_lt hx hb hk hd ht hs
    | ge => exact sm_if_ge hx hb hk hd ht hs
    | gt => exact sm_if_gt hx hb hk hd ht hs
    | le => exact sm_if_le hx hb hk hd ht hs
  | if_icmp q off =>
    rw [show am_ck o K init rt nL _ = (_ && _) from rfl, Bool.and_eq_true] at hck
    obtain ⟨hl1, hck⟩ := hck
    have hl1 : len = 3 := Nat.eq_of_beq_eq_true hl1
    subst hl1
    have ht := of_decide_eq_true hck
    cases q with
    | eq => exact sm_icmp_eq hx hb hk hd ht hs
    | ne => exact sm_icmp_ne hx hb hk hd ht hs
    | lt => exact sm_icmp_lt hx hb hk hd ht hs
    | ge => exact sm_icmp_ge hx hb hk hd ht hs
    | gt => exact sm_icmp_gt hx hb hk hd ht hs
    | le => exact sm_icmp_le hx hb hk hd ht hs
  | goto off =>
    rw [show am_ck o K init rt nL _ = (_ && _) from rfl, Bool.and_eq_true] at hck
    obtain ⟨hl1, hck⟩ := hck
    have hl1 : len = 3 := Nat.eq_of_beq_eq_true hl1
    subst hl1
    exact sm_goto hx hb hk hd (of_decide_eq_true hck) hs
  | tableswitch dflt lo0 hi offs =>
    rw [show am_ck o K init rt nL _ = (_ && (_ && _)) from rfl, Bool.and_eq_true, Bool.and_eq_true] at hck
    refine sm_tsw hx hb hk hd (of_decide_eq_true hck.1) (fun j c t hj => ?_) (of_decide_eq_true hck.2.2) hs
    have := am_tck_ok hck.2.1 j c t hj
    rw [Nat.zero_add] at this
    exact this
  | getfield i =>
    rw [show am_ck o K init rt nL _ = (_ && _) from rfl, Bool.and_eq_true] at hck
    obtain ⟨hl1, hck⟩ := hck
    have hl1 : len = 3 := Nat.eq_of_beq_eq_true hl1
    subst hl1
    obtain ⟨q, hq, hqq⟩ := List.any_eq_true.mp hck
    rw [Bool.and_eq_true, Bool.and_eq_true] at hqq
    have e1 := Nat.eq_of_beq_eq_true hqq.1.1
    have e2 := Nat.eq_of_beq_eq_true hqq.1.2
    obtain ⟨q1, q2, q3, q4, q5⟩ := q
    obtain ⟨C, T, N, ty0, hC, hbN, hw, hft, hfn⟩ := hFL _ hq
    dsimp only at e1 e2 hC hbN hw hft hfn hqq
    subst e1
    subst e2
    rw [Bool.and_eq_true] at hqq
    have e3 := Nat.eq_of_beq_eq_true hqq.2.1
    have e4 := Nat.eq_of_beq_eq_true hqq.2.2
    subst e3
    match q4, hft, e4 with
    | 0, hft, e4 => subst e4; exact sm_getI hx hb hk hown hts hK had hC hbN hw (Or.inl hft) hd hs
    | 1, hft, e4 => subst e4; exact sm_getL hx hb hk hown hts hK had hC hbN hw hft hd hs
    | 2, hft, e4 => subst e4; exact sm_getR hx hb hk hown hts hK had hC hbN hw hft hd hs
    | 3, hft, e4 => subst e4; exact sm_getI hx hb hk hown hts hK had hC hbN hw (Or.inr hft) hd hs
    | n + 4, hft, e4 =>
      exfalso
      obtain ⟨c10, hcl, hN, h4, h5, h6, htk, -, -⟩ := hC
      rcases htk _ hbN with ⟨q, _⟩ | ⟨q, _⟩ | ⟨q, _⟩ | ⟨q, _⟩ <;> omega
  | putfield i =>
    rw [show am_ck o K init rt nL _ = (_ && _) from rfl, Bool.and_eq_true] at hck
    obtain ⟨hl1, hck⟩ := hck
    have hl1 : len = 3 := Nat.eq_of_beq_eq_true hl1
    subst hl1
    obtain ⟨q, hq, hqq⟩ := List.any_eq_true.mp hck
    rw [Bool.and_eq_true, Bool.and_eq_true] at hqq
    have e1 := Nat.eq_of_beq_eq_true hqq.1.1
    have e2 := Nat.eq_of_beq_eq_true hqq.1.2
    obtain ⟨q1, q2, q3, q4, q5⟩ := q
    obtain ⟨C, T, N, ty0, hC, hbN, hw, hft, hfn⟩ := hFL _ hq
    dsimp only at e1 e2 hC hbN hw hft hfn hqq
    subst e1
    subst e2
    rw [Bool.and_eq_true, Bool.and_eq_true] at hqq
    have e3 := Nat.eq_of_beq_eq_true hqq.2.1.1
    have e4 := Nat.eq_of_beq_eq_true hqq.2.1.2
    have e5 := hqq.2.2
    subst e3
    have hfin : (T q3).2.2.2 = false ∨ ((T q3).2.2.2 = true ∧ meth.name = "<init>" ∧ (T q3).1 = am_cn o) := by
      rcases hfn with ⟨_, q⟩ | ⟨z, q, r⟩ | z
      · exact Or.inl q
      · rw [z] at e5
        exact Or.inr ⟨q, hin (by simpa using e5), r⟩
      · rw [z] at e5
        exact absurd e5 (by simp)
    match q4, hft, e4 with
    | 0, hft, e4 => subst e4; exact sm_putI hx hb hk hown hts hK had hC hbN hw hft hfin hd hs
    | 1, hft, e4 => subst e4; exact sm_putL hx hb hk hown hts hK had hC hbN hw hft hfin hd hs
    | 2, hft, e4 => subst e4; exact sm_putR hx hb hk hown hts hK had hC hbN hw hft hfin hd hs
    | 3, hft, e4 => subst e4; exact sm_putZ hx hb hk hown hts hK had hC hbN hw hft hfin hd hs
    | n + 4, hft, e4 =>
      exfalso
      obtain ⟨c10, hcl, hN, h4, h5, h6, htk, -, -⟩ := hC
      rcases htk _ hbN with ⟨q, _⟩ | ⟨q, _⟩ | ⟨q, _⟩ | ⟨q, _⟩ <;> omega
  | iaload =>
    rw [show am_ck o K init rt nL _ = (_ && _) from rfl, Bool.and_eq_true] at hck
    obtain ⟨hl1, hck⟩ := hck
    have hl1 : len = 1 := Nat.eq_of_beq_eq_true hl1
    subst hl1
    rcases (Bool.or_eq_true _ _).mp hck with hck | hck
    · have e1 := Nat.eq_of_beq_eq_true hck; subst e1; exact sm_iaload hx hb hk hK had hd hs
    · rw [Bool.and_eq_true] at hck
      have e1 := Nat.eq_of_beq_eq_true hck.1
      have e2 := Nat.eq_of_beq_eq_true hck.2
      subst e1
      obtain ⟨z1, z2, z3⟩ := hsc e2
      exact sm_scload hx hb hk z1 z2 z3 hd hs
  | arraylength =>
    rw [show am_ck o K init rt nL _ = (_ && _) from rfl, Bool.and_eq_true] at hck
    obtain ⟨hl1, hck⟩ := hck
    have hl1 : len = 1 := Nat.eq_of_beq_eq_true hl1
    subst hl1
    rcases (Bool.or_eq_true _ _).mp hck with hck | hck
    · have e1 := Nat.eq_of_beq_eq_true hck; subst e1; exact sm_balen hx hb hk hK had hd hs
    · rw [Bool.and_eq_true] at hck
      have e1 := Nat.eq_of_beq_eq_true hck.1
      have e2 := Nat.eq_of_beq_eq_true hck.2
      subst e1
      obtain ⟨z1, z2, z3⟩ := hsc e2
      exact sm_sclen hx hb hk z1 z2 z3 hd hs
  | aaload =>
    rw [show am_ck o K init rt nL _ = (_ && _) from rfl, Bool.and_eq_true] at hck
    obtain ⟨hl1, hck⟩ := hck
    have hl1 : len = 1 := Nat.eq_of_beq_eq_true hl1
    subst hl1
    rcases (Bool.or_eq_true _ _).mp hck with hck | hck
    · have e1 := Nat.eq_of_beq_eq_true hck; subst e1; exact sm_aaload13 hx hb hk hK had hd hs
    · have e1 := Nat.eq_of_beq_eq_true hck; subst e1; exact sm_aaload14 hx hb hk hK had hd hs
  | aastore =>
    rw [show am_ck o K init rt nL _ = (_ && _) from rfl, Bool.and_eq_true] at hck
    obtain ⟨hl1, hck⟩ := hck
    have hl1 : len = 1 := Nat.eq_of_beq_eq_true hl1
    subst hl1
    rcases (Bool.or_eq_true _ _).mp hck with hck | hck <;> rw [Bool.and_eq_true] at hck
    · have e1 := Nat.eq_of_beq_eq_true hck.1; have e2 := Nat.eq_of_beq_eq_true hck.2; subst e1; subst e2; exact sm_aastore13 hx hb hk hK had hd hs
    · have e1 := Nat.eq_of_beq_eq_true hck.1; have e2 := Nat.eq_of_beq_eq_true hck.2; subst e1; subst e2; exact sm_aastore14 hx hb hk hK had hd hs
  | new i =>
    rw [show am_ck o K init rt nL _ = (_ && _) from rfl, Bool.and_eq_true] at hck
    obtain ⟨hl1, hck⟩ := hck
    have hl1 : len = 3 := Nat.eq_of_beq_eq_true hl1
    subst hl1
    rw [Bool.and_eq_true, Bool.and_eq_true] at hck
    obtain ⟨g1, g2, g3⟩ := hck
    have g1 : a < 10 := Nat.le_of_ble_eq_true g1
    have g2 := Nat.eq_of_beq_eq_true g2
    obtain ⟨q, hq, hqq⟩ := List.any_eq_true.mp g3
    rw [Bool.and_eq_true] at hqq
    have e1 := Nat.eq_of_beq_eq_true hqq.1
    have e2 := Nat.eq_of_beq_eq_true hqq.2
    have hn := hNL q hq
    rcases hn with ⟨C, T, N, ty0, hC, hw⟩ | ⟨z, _⟩ | ⟨z, _⟩
    · rw [e2] at hC
      rw [e1] at hw
      have hN := hC.2.2.1
      have hbn : b = N := by rw [g2, hN]
      subst hbn
      exact sm_new hx hb hk hown hts hK had hC hw hm hRc hRs hd hs
    · omega
    · omega
  | newarray t =>
    rw [show am_ck o K init rt nL _ = (_ && _) from rfl, Bool.and_eq_true] at hck
    obtain ⟨hl1, hck⟩ := hck
    have hl1 : len = 2 := Nat.eq_of_beq_eq_true hl1
    subst hl1
    cases t with
    | int => have e1 := Nat.eq_of_beq_eq_true (show Nat.beq a 10 = true from hck); subst e1; exact sm_newI hx hb hk hown hts hK had hlib.2.2.2.2.2.2.1 hm hRc hRs hd hs
    | byte => have e1 := Nat.eq_of_beq_eq_true (show Nat.beq a 11 = true from hck); subst e1; exact sm_newB hx hb hk hown hts hK had hlib.2.2.2.2.2.2.2.1 hm hRc hRs hd hs
    | long => have e1 := Nat.eq_of_beq_eq_true (show Nat.beq a 12 = true from hck); subst e1; exact sm_newL hx hb hk hown hts hK had hlib.2.2.2.2.2.2.2.2 hm hRc hRs hd hs
    | _ => exact absurd (show false = true from hck) (by decide)
  | anewarray i =>
    rw [show am_ck o K init rt nL _ = (_ && _) from rfl, Bool.and_eq_true] at hck
    obtain ⟨hl1, hck⟩ := hck
    have hl1 : len = 3 := Nat.eq_of_beq_eq_true hl1
    subst hl1
    rw [Bool.and_eq_true] at hck
    obtain ⟨g1, g3⟩ := hck
    obtain ⟨q, hq, hqq⟩ := List.any_eq_true.mp g3
    rw [Bool.and_eq_true] at hqq
    have e1 := Nat.eq_of_beq_eq_true hqq.1
    have e2 := Nat.eq_of_beq_eq_true hqq.2
    have hn := hNL q hq
    have g1 : a = 13 ∨ a = 14 := ((Bool.or_eq_true _ _).mp g1).imp Nat.eq_of_beq_eq_true Nat.eq_of_beq_eq_true
    rcases hn with ⟨C, T, N, ty0, hC, hw⟩ | ⟨z, hw⟩ | ⟨z, hw⟩
    · have := hC.1
      omega
    · have e3 : a = 13 := by omega
      subst e3
      rw [e1] at hw
      exact sm_newR13 hx hb hk hown hts hK had hw hF.2.1.1 hm hRc hRs hd hs
    · have e3 : a = 14 := by omega
      subst e3
      rw [e1] at hw
      exact sm_newR14 hx hb hk hown hts hK had hw hF.2.1.2 hm hRc hRs hd hs
  | invokevirtual i =>
    rw [show am_ck o K init rt nL _ = (_ && _) from rfl, Bool.and_eq_true] at hck
    obtain ⟨hl1, hck⟩ := hck
    have hl1 : len = 3 := Nat.eq_of_beq_eq_true hl1
    subst hl1
    cases hc3 : Nat.blt c9 3 with
    | true =>
      rw [hc3] at hck
      have hck := (show List.any _ _ = true from hck)
      have hc3 : c9 < 3 := Nat.le_of_ble_eq_true hc3
      obtain ⟨q, hq, hqq⟩ := List.any_eq_true.mp hck
      rw [Bool.and_eq_true, Bool.and_eq_true, Bool.and_eq_true] at hqq
      have e1 := Nat.eq_of_beq_eq_true hqq.1.1
      have e2 := Nat.eq_of_beq_eq_true hqq.1.2
      have e4 := Nat.eq_of_beq_eq_true hqq.2.2
      have e3 := hqq.2.1
      obtain ⟨q1, q2, q3, q4⟩ := q
      obtain ⟨M, n, hM, hMK, hkind⟩ := hML _ hq
      dsimp only at e1 e2 e3 e4 hM hkind
      subst e1
      subst e2
      subst e4
      have e3 := Nat.eq_of_beq_eq_true e3
      subst e3
      rcases hkind with ⟨_, hn, hlk, hin2, hsel, hr10, T, N, hci⟩ | ⟨z, _⟩ | ⟨z, _⟩ | ⟨z, _⟩
      · match c9, hc3, hs with
        | 0, _, hs =>
          obtain ⟨hlen, h8, hs⟩ := am_ar_inv hs
          obtain ⟨h', hg, hs⟩ := am_cV_inv hs
          obtain ⟨m1, m2⟩ := hm _ _ _ _ hs
          obtain ⟨m3, m4⟩ := (hG _ _ _ _ _ _ hg hM).1
          intro H locs ls cells slots hl hR hS e1 e2
          exact sc_V hx hb hml hown hts hF hSF hG hM hMK hfr hlo hg hlen h8 ⟨by omega, by omega⟩ hl hR hS hlk hin2 hsel hr10 hci hn hd (fun H1 locs1 hR1 hS1 => hk _ _ _ _ hs H1 locs1 ls _ _ hl hR1 hS1 (by omega) (by omega))
        | 1, _, hs =>
          obtain ⟨hlen, h8, hs⟩ := am_ar_inv hs
          obtain ⟨x, h', hg, hs⟩ := am_cI_inv hs
          obtain ⟨m1, m2⟩ := hm _ _ _ _ hs
          obtain ⟨m3, m4⟩ := (hG _ _ _ _ _ _ hg hM).1
          intro H locs ls cells slots hl hR hS e1 e2
          exact sc_V hx hb hml hown hts hF hSF hG hM hMK hfr hlo hg hlen h8 ⟨by omega, by omega⟩ hl hR hS hlk hin2 hsel hr10 hci hn hd (fun H1 locs1 hR1 hS1 => hk _ _ _ _ hs H1 locs1 ls _ _ hl hR1 hS1 (by omega) (by omega))
        | 2, _, hs =>
          obtain ⟨hlen, h8, hs⟩ := am_ar_inv hs
          obtain ⟨x, h', hg, hs⟩ := am_cL_inv hs
          obtain ⟨m1, m2⟩ := hm _ _ _ _ hs
          obtain ⟨m3, m4⟩ := (hG _ _ _ _ _ _ hg hM).1
          intro H locs ls cells slots hl hR hS e1 e2
          exact sc_V hx hb hml hown hts hF hSF hG hM hMK hfr hlo hg hlen h8 ⟨by omega, by omega⟩ hl hR hS hlk hin2 hsel hr10 hci hn hd (fun H1 locs1 hR1 hS1 => hk _ _ _ _ hs H1 locs1 ls _ _ hl hR1 hS1 (by omega) (by omega))
        | n + 3, hc3, _ => exact absurd hc3 (by omega)
      · omega
      · omega
      · omega
    | false =>
      rw [hc3] at hck
      have hck : (Nat.beq o 4 && ((Nat.beq c9 10 && Nat.beq i 25) || (Nat.beq c9 11 && Nat.beq i 31))) = true := hck
      rw [Bool.and_eq_true] at hck
      have e1 := Nat.eq_of_beq_eq_true hck.1
      rcases (Bool.or_eq_true _ _).mp hck.2 with q | q <;> rw [Bool.and_eq_true] at q
      · have e2 := Nat.eq_of_beq_eq_true q.1; have e3 := Nat.eq_of_beq_eq_true q.2; subst e2; subst e3
        exact hStr pc e1 (Or.inr (Or.inl ⟨hd, hs⟩))
      · have e2 := Nat.eq_of_beq_eq_true q.1; have e3 := Nat.eq_of_beq_eq_true q.2; subst e2; subst e3
        exact hStr pc e1 (Or.inr (Or.inr ⟨hd, hs⟩))
  | invokespecial i =>
    rw [show am_ck o K init rt nL _ = (_ && _) from rfl, Bool.and_eq_true] at hck
    obtain ⟨hl1, hck⟩ := hck
    have hl1 : len = 3 := Nat.eq_of_beq_eq_true hl1
    subst hl1
    cases hc3 : Nat.blt c9 3 with
    | true =>
      rw [hc3] at hck
      have hck := (show List.any _ _ = true from hck)
      have hc3 : c9 < 3 := Nat.le_of_ble_eq_true hc3
      obtain ⟨q, hq, hqq⟩ := List.any_eq_true.mp hck
      rw [Bool.and_eq_true, Bool.and_eq_true, Bool.and_eq_true] at hqq
      have e1 := Nat.eq_of_beq_eq_true hqq.1.1
      have e2 := Nat.eq_of_beq_eq_true hqq.1.2
      have e4 := Nat.eq_of_beq_eq_true hqq.2.2
      have e3 := hqq.2.1
      obtain ⟨q1, q2, q3, q4⟩ := q
      obtain ⟨M, n, hM, hMK, hkind⟩ := hML _ hq
      dsimp only at e1 e2 e3 e4 hM hkind
      subst e1
      subst e2
      subst e4
      rcases hkind with ⟨z, _⟩ | ⟨z, _⟩ | ⟨z, hn, hlk, hin2, hnm, hrt, hr10⟩ | ⟨z, hn, ⟨host, hlk⟩, hin2, hnm, hrt, hr10⟩
      · rw [z] at e3; exact absurd e3 (by decide)
      · rw [z] at e3; exact absurd e3 (by decide)
      · match c9, hc3, hs with
        | 0, _, hs =>
          obtain ⟨hlen, h8, hs⟩ := am_ar_inv hs
          obtain ⟨h', hg, hs⟩ := am_cV_inv hs
          obtain ⟨m1, m2⟩ := hm _ _ _ _ hs
          obtain ⟨m3, m4⟩ := (hG _ _ _ _ _ _ hg hM).1
          intro H locs ls cells slots hl hR hS e1 e2
          exact sc_I hx hb hml hown hts hF hSF hG hM hMK hfr hlo hg hlen h8 ⟨by omega, by omega⟩ hl hR hS hlk hin2 hnm hrt hr10 hn hd (fun H1 locs1 hR1 hS1 => hk _ _ _ _ hs H1 locs1 ls _ _ hl hR1 hS1 (by omega) (by omega))
        | 1, _, hs =>
          obtain ⟨hlen, h8, hs⟩ := am_ar_inv hs
          obtain ⟨x, h', hg, hs⟩ := am_cI_inv hs
          obtain ⟨m1, m2⟩ := hm _ _ _ _ hs
          obtain ⟨m3, m4⟩ := (hG _ _ _ _ _ _ hg hM).1
          intro H locs ls cells slots hl hR hS e1 e2
          exact sc_I hx hb hml hown hts hF hSF hG hM hMK hfr hlo hg hlen h8 ⟨by omega, by omega⟩ hl hR hS hlk hin2 hnm hrt hr10 hn hd (fun H1 locs1 hR1 hS1 => hk _ _ _ _ hs H1 locs1 ls _ _ hl hR1 hS1 (by omega) (by omega))
        | 2, _, hs =>
          obtain ⟨hlen, h8, hs⟩ := am_ar_inv hs
          obtain ⟨x, h', hg, hs⟩ := am_cL_inv hs
          obtain ⟨m1, m2⟩ := hm _ _ _ _ hs
          obtain ⟨m3, m4⟩ := (hG _ _ _ _ _ _ hg hM).1
          intro H locs ls cells slots hl hR hS e1 e2
          exact sc_I hx hb hml hown hts hF hSF hG hM hMK hfr hlo hg hlen h8 ⟨by omega, by omega⟩ hl hR hS hlk hin2 hnm hrt hr10 hn hd (fun H1 locs1 hR1 hS1 => hk _ _ _ _ hs H1 locs1 ls _ _ hl hR1 hS1 (by omega) (by omega))
        | n + 3, hc3, _ => exact absurd hc3 (by omega)
      · match c9, hc3, hs with
        | 0, _, hs =>
          obtain ⟨hlen, h8, hs⟩ := am_ar_inv hs
          obtain ⟨h', hg, hs⟩ := am_cV_inv hs
          obtain ⟨m1, m2⟩ := hm _ _ _ _ hs
          obtain ⟨m3, m4⟩ := (hG _ _ _ _ _ _ hg hM).1
          intro H locs ls cells slots hl hR hS e1 e2
          exact sc_N hx hb hml hown hts hF hSF hG hM hMK hfr hlo hg hlen h8 ⟨by omega, by omega⟩ hl hR hS (hF.2.2.1 _ hlk) hin2 hnm hrt hr10 hn hd (fun H1 locs1 hR1 hS1 => hk _ _ _ _ hs H1 locs1 ls _ _ hl hR1 hS1 (by omega) (by omega))
        | 1, _, hs =>
          obtain ⟨hlen, h8, hs⟩ := am_ar_inv hs
          obtain ⟨x, h', hg, hs⟩ := am_cI_inv hs
          obtain ⟨m1, m2⟩ := hm _ _ _ _ hs
          obtain ⟨m3, m4⟩ := (hG _ _ _ _ _ _ hg hM).1
          intro H locs ls cells slots hl hR hS e1 e2
          exact sc_N hx hb hml hown hts hF hSF hG hM hMK hfr hlo hg hlen h8 ⟨by omega, by omega⟩ hl hR hS (hF.2.2.1 _ hlk) hin2 hnm hrt hr10 hn hd (fun H1 locs1 hR1 hS1 => hk _ _ _ _ hs H1 locs1 ls _ _ hl hR1 hS1 (by omega) (by omega))
        | 2, _, hs =>
          obtain ⟨hlen, h8, hs⟩ := am_ar_inv hs
          obtain ⟨x, h', hg, hs⟩ := am_cL_inv hs
          obtain ⟨m1, m2⟩ := hm _ _ _ _ hs
          obtain ⟨m3, m4⟩ := (hG _ _ _ _ _ _ hg hM).1
          intro H locs ls cells slots hl hR hS e1 e2
          exact sc_N hx hb hml hown hts hF hSF hG hM hMK hfr hlo hg hlen h8 ⟨by omega, by omega⟩ hl hR hS (hF.2.2.1 _ hlk) hin2 hnm hrt hr10 hn hd (fun H1 locs1 hR1 hS1 => hk _ _ _ _ hs H1 locs1 ls _ _ hl hR1 hS1 (by omega) (by omega))
        | n + 3, hc3, _ => exact absurd hc3 (by omega)
    | false =>
      rw [hc3] at hck
      have hck : (Nat.beq c9 4 && K.2.2.1.any (fun q => Nat.beq q.1 i && Nat.beq q.2 4)) = true := hck
      rw [Bool.and_eq_true] at hck
      have e0 := Nat.eq_of_beq_eq_true hck.1
      subst e0
      obtain ⟨q, hq, hqq⟩ := List.any_eq_true.mp hck.2
      rw [Bool.and_eq_true] at hqq
      have e1 := Nat.eq_of_beq_eq_true hqq.1
      have e2 := Nat.eq_of_beq_eq_true hqq.2
      rcases hXL q hq with ⟨_, hw⟩ | ⟨z, _⟩ | ⟨z, _⟩ | ⟨z, _⟩ | ⟨z, _⟩
      · rw [e1] at hw
        exact sm_oinit hx hb hk hown hts (by omega) (by omega) hml hw hlib.1.1 hlib.1.2 hd hs
      · omega
      · omega
      · omega
      · omega
  | invokestatic i =>
    rw [show am_ck o K init rt nL _ = (_ && _) from rfl, Bool.and_eq_true] at hck
    obtain ⟨hl1, hck⟩ := hck
    have hl1 : len = 3 := Nat.eq_of_beq_eq_true hl1
    subst hl1
    cases hc3 : Nat.blt c9 3 with
    | true =>
      rw [hc3] at hck
      have hck := (show List.any _ _ = true from hck)
      have hc3 : c9 < 3 := Nat.le_of_ble_eq_true hc3
      obtain ⟨q, hq, hqq⟩ := List.any_eq_true.mp hck
      rw [Bool.and_eq_true, Bool.and_eq_true, Bool.and_eq_true] at hqq
      have e1 := Nat.eq_of_beq_eq_true hqq.1.1
      have e2 := Nat.eq_of_beq_eq_true hqq.1.2
      have e4 := Nat.eq_of_beq_eq_true hqq.2.2
      have e3 := hqq.2.1
      obtain ⟨q1, q2, q3, q4⟩ := q
      obtain ⟨M, n, hM, hMK, hkind⟩ := hML _ hq
      dsimp only at e1 e2 e3 e4 hM hkind
      subst e1
      subst e2
      subst e4
      have e3 := Nat.eq_of_beq_eq_true e3
      subst e3
      rcases hkind with ⟨z, _⟩ | ⟨_, hn, hlk, hin2⟩ | ⟨z, _⟩ | ⟨z, _⟩
      · omega
      · match c9, hc3, hs with
        | 0, _, hs =>
          obtain ⟨hlen, h8, hs⟩ := am_ar_inv hs
          obtain ⟨h', hg, hs⟩ := am_cV_inv hs
          obtain ⟨m1, m2⟩ := hm _ _ _ _ hs
          obtain ⟨m3, m4⟩ := (hG _ _ _ _ _ _ hg hM).1
          intro H locs ls cells slots hl hR hS e1 e2
          exact sc_S hx hb hml hown hts hF hSF hG hM hMK hfr hlo hg hlen h8 ⟨by omega, by omega⟩ hl hR hS hlk hin2 hn hd (fun H1 locs1 hR1 hS1 => hk _ _ _ _ hs H1 locs1 ls _ _ hl hR1 hS1 (by omega) (by omega))
        | 1, _, hs =>
          obtain ⟨hlen, h8, hs⟩ := am_ar_inv hs
          obtain ⟨x, h', hg, hs⟩ := am_cI_inv hs
          obtain ⟨m1, m2⟩ := hm _ _ _ _ hs
          obtain ⟨m3, m4⟩ := (hG _ _ _ _ _ _ hg hM).1
          intro H locs ls cells slots hl hR hS e1 e2
          exact sc_S hx hb hml hown hts hF hSF hG hM hMK hfr hlo hg hlen h8 ⟨by omega, by omega⟩ hl hR hS hlk hin2 hn hd (fun H1 locs1 hR1 hS1 => hk _ _ _ _ hs H1 locs1 ls _ _ hl hR1 hS1 (by omega) (by omega))
        | 2, _, hs =>
          obtain ⟨hlen, h8, hs⟩ := am_ar_inv hs
          obtain ⟨x, h', hg, hs⟩ := am_cL_inv hs
          obtain ⟨m1, m2⟩ := hm _ _ _ _ hs
          obtain ⟨m3, m4⟩ := (hG _ _ _ _ _ _ hg hM).1
          intro H locs ls cells slots hl hR hS e1 e2
          exact sc_S hx hb hml hown hts hF hSF hG hM hMK hfr hlo hg hlen h8 ⟨by omega, by omega⟩ hl hR hS hlk hin2 hn hd (fun H1 locs1 hR1 hS1 => hk _ _ _ _ hs H1 locs1 ls _ _ hl hR1 hS1 (by omega) (by omega))
        | n + 3, hc3, _ => exact absurd hc3 (by omega)
      · omega
      · omega
    | false =>
      rw [hc3] at hck
      have hc3 : ¬ c9 < 3 := fun q => by rw [show Nat.blt c9 3 = true from Nat.ble_eq_true_of_le q] at hc3; cases hc3
      match c9, hc3, hck, hs with
      | 0, z, _, _ => exact absurd (by omega) z
      | 1, z, _, _ => exact absurd (by omega) z
      | 2, z, _, _ => exact absurd (by omega) z
      | 3, _, hck, _ => exact absurd (show false = true from hck) (by decide)
      | 4, _, hck, _ => exact absurd (show false = true from hck) (by decide)
      | 5, _, hck, hs =>
        obtain ⟨q, hq, hqq⟩ := List.any_eq_true.mp (show List.any _ _ = true from hck)
        rw [Bool.and_eq_true] at hqq
        have e1 := Nat.eq_of_beq_eq_true hqq.1
        have e2 : q.2 = 5 := Nat.eq_of_beq_eq_true hqq.2
        rcases hXL q hq with ⟨z, hw⟩ | ⟨z, hw⟩ | ⟨z, hw⟩ | ⟨z, hw⟩ | ⟨z, hw⟩
        · omega
        · rw [e1] at hw
          exact sm_mmax hx hb hk hown hts (by omega) (by omega) hml hw hlib.2.2.1.1 hlib.2.1.1 hlib.2.2.1.2 hm hRc hRs hd hs
        · omega
        · omega
        · omega
      | 6, _, hck, hs =>
        obtain ⟨q, hq, hqq⟩ := List.any_eq_true.mp (show List.any _ _ = true from hck)
        rw [Bool.and_eq_true] at hqq
        have e1 := Nat.eq_of_beq_eq_true hqq.1
        have e2 : q.2 = 6 := Nat.eq_of_beq_eq_true hqq.2
        rcases hXL q hq with ⟨z, hw⟩ | ⟨z, hw⟩ | ⟨z, hw⟩ | ⟨z, hw⟩ | ⟨z, hw⟩
        · omega
        · omega
        · rw [e1] at hw
          exact sm_mmin hx hb hk hown hts (by omega) (by omega) hml hw hlib.2.2.2.1.1 hlib.2.1.1 hlib.2.2.2.1.2 hm hRc hRs hd hs
        · omega
        · omega
      | 7, _, hck, hs =>
        obtain ⟨q, hq, hqq⟩ := List.any_eq_true.mp (show List.any _ _ = true from hck)
        rw [Bool.and_eq_true] at hqq
        have e1 := Nat.eq_of_beq_eq_true hqq.1
        have e2 : q.2 = 7 := Nat.eq_of_beq_eq_true hqq.2
        rcases hXL q hq with ⟨z, hw⟩ | ⟨z, hw⟩ | ⟨z, hw⟩ | ⟨z, hw⟩ | ⟨z, hw⟩
        · omega
        · omega
        · omega
        · rw [e1] at hw
          exact sm_mabs hx hb hk hown hts (by omega) (by omega) hml hw hlib.2.2.2.2.1.1 hlib.2.1.1 hlib.2.2.2.2.1.2 hm hRc hRs hd hs
        · omega
      | 8, _, hck, hs =>
        obtain ⟨q, hq, hqq⟩ := List.any_eq_true.mp (show List.any _ _ = true from hck)
        rw [Bool.and_eq_true] at hqq
        have e1 := Nat.eq_of_beq_eq_true hqq.1
        have e2 : q.2 = 8 := Nat.eq_of_beq_eq_true hqq.2
        rcases hXL q hq with ⟨z, hw⟩ | ⟨z, hw⟩ | ⟨z, hw⟩ | ⟨z, hw⟩ | ⟨z, hw⟩
        · omega
        · omega
        · omega
        · omega
        · rw [e1] at hw
          exact sm_cpI hx hb hk hown hts hK had (by omega) (by omega) hml hw hlib.2.2.2.2.2.1.1 hlib.2.2.2.2.2.1.2 hlib.2.1.2 hd hs
      | 9, _, hck, hs =>
        obtain ⟨q, hq, hqq⟩ := List.any_eq_true.mp (show List.any _ _ = true from hck)
        rw [Bool.and_eq_true] at hqq
        have e1 := Nat.eq_of_beq_eq_true hqq.1
        have e2 : q.2 = 8 := Nat.eq_of_beq_eq_true hqq.2
        rcases hXL q hq with ⟨z, hw⟩ | ⟨z, hw⟩ | ⟨z, hw⟩ | ⟨z, hw⟩ | ⟨z, hw⟩
        · omega
        · omega
        · omega
        · omega
        · rw [e1] at hw
          exact sm_cpL hx hb hk hown hts hK had (by omega) (by omega) hml hw hlib.2.2.2.2.2.1.1 hlib.2.2.2.2.2.1.2 hlib.2.1.2 hd hs
      | n + 10, _, hck, _ => exact absurd (show false = true from hck) (by decide)
  | ireturn =>
    rw [show am_ck o K init rt nL _ = (_ && _) from rfl, Bool.and_eq_true] at hck
    obtain ⟨hl1, hck⟩ := hck
    have hl1 : len = 1 := Nat.eq_of_beq_eq_true hl1
    subst hl1
    obtain ⟨x, st, rfl, hs⟩ := am_1I_inv hs
    obtain ⟨rfl, hs⟩ := am_0V_inv hs
    rcases (Bool.or_eq_true _ _).mp hck with hck | hck <;> rw [Bool.and_eq_true] at hck
    · have e1 := Nat.eq_of_beq_eq_true hck.1
      have e2 := Nat.eq_of_beq_eq_true hck.2
      subst e2
      have hs : some (Value.int x, h) = some res := hs
      cases hs
      intro H locs ls cells slots hl hR hS e3 e4
      exact hret pc H locs ls cells slots (Or.inl ⟨Or.inl ⟨e1, x, rfl⟩, hd⟩) hR hS e3 e4
    · have e1 := Nat.eq_of_beq_eq_true hck.1
      have e2 := Nat.eq_of_beq_eq_true hck.2
      subst e2
      have hs : (if x = 0 ∨ x = 1 then some (Value.int x, h) else none) = some res := hs
      obtain ⟨hz, hs⟩ := am_if_inv hs
      cases hs
      intro H locs ls cells slots hl hR hS e3 e4
      exact hret pc H locs ls cells slots (Or.inl ⟨Or.inr ⟨e1, x, rfl, hz⟩, hd⟩) hR hS e3 e4
  | lreturn =>
    rw [show am_ck o K init rt nL _ = (_ && _) from rfl, Bool.and_eq_true] at hck
    obtain ⟨hl1, hck⟩ := hck
    have hl1 : len = 1 := Nat.eq_of_beq_eq_true hl1
    subst hl1
    obtain ⟨x, st, rfl, hs⟩ := am_1L_inv hs
    obtain ⟨rfl, hs⟩ := am_0V_inv hs
    have e1 := Nat.eq_of_beq_eq_true hck
    cases hs
    intro H locs ls cells slots hl hR hS e3 e4
    exact hret pc H locs ls cells slots (Or.inr (Or.inl ⟨e1, ⟨x, rfl⟩, hd⟩)) hR hS e3 e4
  | return_ =>
    rw [show am_ck o K init rt nL _ = (_ && _) from rfl, Bool.and_eq_true] at hck
    obtain ⟨hl1, hck⟩ := hck
    have hl1 : len = 1 := Nat.eq_of_beq_eq_true hl1
    subst hl1
    obtain ⟨rfl, hs⟩ := am_0V_inv hs
    have e1 := Nat.eq_of_beq_eq_true hck
    cases hs
    intro H locs ls cells slots hl hR hS e3 e4
    exact hret pc H locs ls cells slots (Or.inr (Or.inr ⟨e1, rfl, hd⟩)) hR hS e3 e4
  | _ => exact absurd (show false = true from hck) (by decide)
