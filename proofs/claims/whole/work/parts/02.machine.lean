/-! THE PURE MACHINE. A heap of numbered cells (am_H), frames of listed locals, an instruction at a time (am_step), a stretch up to the next cut (am_seg), a method (am_run), the program by depth (am_G). -/
/-- next cell's number, slots made, kinds (class or array kind, length), ints, longs, references -/
abbrev am_H : Type := Nat × Nat × (Nat → Nat × Nat) × (Nat → Nat → Int32) × (Nat → Nat → Int64) × (Nat → Nat → Option Nat)
abbrev am_V : Type := List (Nat × Value)
abbrev am_O : Type := Option (Value × am_H)
abbrev am_N : Type := Nat → am_V → List Value → am_H → am_O
abbrev am_GT : Type := Nat → List Value → am_H → am_O
/-- an entry of a method's code: pc, instruction, length, three numbers, an int, a long, a switch's rows -/
abbrev am_E : Type := Nat × Instr × Nat × (Nat × Nat × Nat) × Int32 × Int64 × List (Int32 × Nat)
abbrev am_K (h : am_H) : Nat → Nat × Nat := h.2.2.1
abbrev am_I (h : am_H) : Nat → Nat → Int32 := h.2.2.2.1
abbrev am_L (h : am_H) : Nat → Nat → Int64 := h.2.2.2.2.1
abbrev am_R (h : am_H) : Nat → Nat → Option Nat := h.2.2.2.2.2
def am_sI (h : am_H) (a k : Nat) (v : Int32) : am_H := (h.1, h.2.1, am_K h, fun b => if b = a then upd (am_I h b) k v else am_I h b, am_L h, am_R h)
def am_sL (h : am_H) (a k : Nat) (v : Int64) : am_H := (h.1, h.2.1, am_K h, am_I h, fun b => if b = a then vp_updL (am_L h b) k v else am_L h b, am_R h)
def am_sR (h : am_H) (a k : Nat) (v : Option Nat) : am_H := (h.1, h.2.1, am_K h, am_I h, am_L h, fun b => if b = a then va_up (am_R h b) k v else am_R h b)
/-- a row of ints, of longs laid anew -/
def am_wI (h : am_H) (a : Nat) (f : Nat → Int32) : am_H := (h.1, h.2.1, am_K h, fun b => if b = a then f else am_I h b, am_L h, am_R h)
def am_wL (h : am_H) (a : Nat) (f : Nat → Int64) : am_H := (h.1, h.2.1, am_K h, am_I h, fun b => if b = a then f else am_L h b, am_R h)
/-- a new cell -/
def am_mk (h : am_H) (kd : Nat × Nat) (n : Nat) : am_H := (h.1 + 1, h.2.1 + n, fun b => if b = h.1 then kd else am_K h b, fun b => if b = h.1 then fun _ => 0 else am_I h b, fun b => if b = h.1 then fun _ => 0 else am_L h b, fun b => if b = h.1 then fun _ => none else am_R h b)
abbrev am_in (i : Int32) (n : Nat) : Prop := ¬ (i < 0 ∨ n ≤ i.toNatClampNeg)
def am_gI (h : am_H) (ci a k : Nat) (f : Int32 → am_O) : am_O := if am_K h a = (ci, 0) then f (am_I h a k) else none
def am_gL (h : am_H) (ci a k : Nat) (f : Int64 → am_O) : am_O := if am_K h a = (ci, 0) then f (am_L h a k) else none
def am_oR (r : Option Nat) (f : Nat → am_O) : am_O := match r with
  | some b => f b
  | none => none
def am_gR (h : am_H) (ci a k : Nat) (f : Nat → am_O) : am_O := if am_K h a = (ci, 0) then am_oR (am_R h a k) f else none
def am_pI (h : am_H) (ci a k : Nat) (v : Int32) (f : am_H → am_O) : am_O := if am_K h a = (ci, 0) then f (am_sI h a k v) else none
def am_pZ (h : am_H) (ci a k : Nat) (v : Int32) (f : am_H → am_O) : am_O := if am_K h a = (ci, 0) then if v = 0 ∨ v = 1 then f (am_sI h a k v) else none else none
def am_pL (h : am_H) (ci a k : Nat) (v : Int64) (f : am_H → am_O) : am_O := if am_K h a = (ci, 0) then f (am_sL h a k v) else none
def am_pR (h : am_H) (ci a k : Nat) (v : Nat) (f : am_H → am_O) : am_O := if am_K h a = (ci, 0) then f (am_sR h a k (some v)) else none
def am_lI (h : am_H) (t a : Nat) (i : Int32) (f : Int32 → am_O) : am_O := if (am_K h a).1 = t then if am_in i (am_K h a).2 then f (am_I h a i.toNatClampNeg) else none else none
def am_lL (h : am_H) (a : Nat) (i : Int32) (f : Int64 → am_O) : am_O := if (am_K h a).1 = 12 then if am_in i (am_K h a).2 then f (am_L h a i.toNatClampNeg) else none else none
def am_lR (h : am_H) (t a : Nat) (i : Int32) (f : Nat → am_O) : am_O := if (am_K h a).1 = t then if am_in i (am_K h a).2 then am_oR (am_R h a i.toNatClampNeg) f else none else none
def am_tI (h : am_H) (a : Nat) (i v : Int32) (f : am_H → am_O) : am_O := if (am_K h a).1 = 10 then if am_in i (am_K h a).2 then f (am_sI h a i.toNatClampNeg v) else none else none
def am_tB (h : am_H) (a : Nat) (i v : Int32) (f : am_H → am_O) : am_O := if (am_K h a).1 = 11 then if am_in i (am_K h a).2 then f (am_sI h a i.toNatClampNeg v.toInt8.toInt32) else none else none
def am_tL (h : am_H) (a : Nat) (i : Int32) (v : Int64) (f : am_H → am_O) : am_O := if (am_K h a).1 = 12 then if am_in i (am_K h a).2 then f (am_sL h a i.toNatClampNeg v) else none else none
/-- into a row of objects: the row's kind t, the object's class ci -/
def am_tR (h : am_H) (t ci a : Nat) (i : Int32) (v : Nat) (f : am_H → am_O) : am_O := if (am_K h a).1 = t then if am_in i (am_K h a).2 then if am_K h v = (ci, 0) then f (am_sR h a i.toNatClampNeg (some v)) else none else none else none
def am_al (h : am_H) (t a : Nat) (f : Int32 → am_O) : am_O := if (am_K h a).1 = t then f (Int32.ofNat (am_K h a).2) else none
def am_nw (h : am_H) (ci N : Nat) (f : Nat → am_H → am_O) : am_O := f h.1 (am_mk h (ci, 0) N)
def am_na (h : am_H) (t : Nat) (n : Int32) (f : Nat → am_H → am_O) : am_O := if ¬ n < 0 ∧ n.toNatClampNeg ≤ 100000 then f h.1 (am_mk h (t, n.toNatClampNeg) n.toNatClampNeg) else none
def am_cpI (h : am_H) (a : Nat) (sp : Int32) (b : Nat) (dp n : Int32) (f : am_H → am_O) : am_O := if (am_K h a).1 = 10 ∧ (am_K h b).1 = 10 then if (¬ sp < 0 ∧ ¬ dp < 0 ∧ ¬ n < 0) ∧ sp.toNatClampNeg + n.toNatClampNeg ≤ (am_K h a).2 ∧ dp.toNatClampNeg + n.toNatClampNeg ≤ (am_K h b).2 then f (am_wI h b (va_cpy (am_I h a) (am_I h b) sp.toNatClampNeg dp.toNatClampNeg n.toNatClampNeg)) else none else none
def am_cpL (h : am_H) (a : Nat) (sp : Int32) (b : Nat) (dp n : Int32) (f : am_H → am_O) : am_O := if (am_K h a).1 = 12 ∧ (am_K h b).1 = 12 then if (¬ sp < 0 ∧ ¬ dp < 0 ∧ ¬ n < 0) ∧ sp.toNatClampNeg + n.toNatClampNeg ≤ (am_K h a).2 ∧ dp.toNatClampNeg + n.toNatClampNeg ≤ (am_K h b).2 then f (am_wL h b (va_cpy (am_L h a) (am_L h b) sp.toNatClampNeg dp.toNatClampNeg n.toNatClampNeg)) else none else none
def am_cI (o : am_O) (f : Int32 → am_H → am_O) : am_O := match o with
  | some (.int x, h) => f x h
  | _ => none
def am_cL (o : am_O) (f : Int64 → am_H → am_O) : am_O := match o with
  | some (.long x, h) => f x h
  | _ => none
def am_cV (o : am_O) (f : am_H → am_O) : am_O := match o with
  | some (.null, h) => f h
  | _ => none
def am_nz (y : Int32) (o : am_O) : am_O := if y = 0 then none else o
def am_nzL (y : Int64) (o : am_O) : am_O := if y = 0 then none else o
def am_nb (x : Int32) (o : am_O) : am_O := if x = 0 ∨ x = 1 then o else none
def am_sw : List (Int32 × Nat) → Nat → Int32 → (Nat → am_O) → am_O
  | [], d, _, f => f d
  | (c, t) :: r, d, x, f => if x = c then f t else am_sw r d x f
-- stack and locals, by their shapes
def am_1I (st : List Value) (f : Int32 → List Value → am_O) : am_O := match st with
  | .int x :: r => f x r
  | _ => none
def am_1L (st : List Value) (f : Int64 → List Value → am_O) : am_O := match st with
  | .long x :: r => f x r
  | _ => none
def am_1R (st : List Value) (f : Nat → List Value → am_O) : am_O := match st with
  | .ref x :: r => f x r
  | _ => none
def am_1V (st : List Value) (f : Value → List Value → am_O) : am_O := match st with
  | x :: r => bif Nat.beq x.category 1 then f x r else none
  | _ => none
def am_0V (st : List Value) (o : am_O) : am_O := match st with
  | [] => o
  | _ => none
def am_lk : am_V → Nat → Option Value
  | [], _ => none
  | (j, v) :: t, i => bif Nat.beq j i then some v else am_lk t i
def am_oI (v : Option Value) (f : Int32 → am_O) : am_O := match v with
  | some (.int x) => f x
  | _ => none
def am_oL (v : Option Value) (f : Int64 → am_O) : am_O := match v with
  | some (.long x) => f x
  | _ => none
def am_oA (v : Option Value) (f : Nat → am_O) : am_O := match v with
  | some (.ref x) => f x
  | _ => none
def am_s1 (l : am_V) (i : Nat) (v : Value) : am_V := (i, v) :: l.filter (fun q => !(q.1 == i) && !(q.1 + 1 == i && q.2.category == 2))
def am_s2 (l : am_V) (i : Nat) (v : Value) : am_V := (i, v) :: l.filter (fun q => !(q.1 == i) && (!(q.1 == i + 1) && !(q.1 + 1 == i && q.2.category == 2)))
def am_ar (b : Nat) (st : List Value) (o : am_O) : am_O := bif Nat.beq (st.take b).length b && Nat.ble ((st.drop b).map fun v => v.category).sum 8 then o else none
def am_lt8 (st : List Value) (o : am_O) : am_O := bif Nat.ble (st.map fun v => v.category).sum 8 then o else none
/-- a call by its place c: 0, 1, 2: a method's, that gives nothing, an int, a long; 4: Object's start; 5, 6: max, min; 7: abs of a long; 8, 9: a copy of ints, of longs; 10, 11: a constant's length, a char of it -/
def am_call (G : am_GT) (a b c : Nat) (w : List Int32) (st : List Value) (h : am_H) (k : List Value → am_H → am_O) : am_O := match c with
  | 0 => am_ar b st (am_cV (G a (st.take b).reverse h) (fun h => k (st.drop b) h))
  | 1 => am_ar b st (am_cI (G a (st.take b).reverse h) (fun x h => k (.int x :: st.drop b) h))
  | 2 => am_ar b st (am_cL (G a (st.take b).reverse h) (fun x h => k (.long x :: st.drop b) h))
  | 4 => am_1R st (fun _ st => am_lt8 st (k st h))
  | 5 => am_1I st (fun y st => am_1I st (fun x st => am_lt8 st (k (.int (if x < y then y else x) :: st) h)))
  | 6 => am_1I st (fun y st => am_1I st (fun x st => am_lt8 st (k (.int (if y < x then y else x) :: st) h)))
  | 7 => am_1L st (fun x st => am_lt8 st (k (.long (if 0 < x then x else -x) :: st) h))
  | 8 => am_1I st (fun n st => am_1I st (fun dp st => am_1R st (fun d st => am_1I st (fun sp st => am_1R st (fun s st => am_lt8 st (am_cpI h s sp d dp n (fun h => k st h)))))))
  | 9 => am_1I st (fun n st => am_1I st (fun dp st => am_1R st (fun d st => am_1I st (fun sp st => am_1R st (fun s st => am_lt8 st (am_cpL h s sp d dp n (fun h => k st h)))))))
  | 10 => am_1R st (fun s st => am_lt8 st (am_al h 20 s (fun n => k (.int n :: st) h)))
  | 11 => am_1I st (fun i st => am_1R st (fun s st => am_lt8 st (am_lI h 20 s i (fun x => k (.int x :: st) h))))
  | _ => none
def am_step (G : am_GT) (e : am_E) (l : am_V) (st : List Value) (h : am_H) (k : am_N) : am_O := match e with
  | (pc, ins, _, (a, b, c), v, w, ts) => match ins with
    | .iconst _ => k (pc + 1) l (.int v :: st) h
    | .bipush _ => k (pc + 2) l (.int v :: st) h
    | .sipush _ => k (pc + 3) l (.int v :: st) h
    | .lconst _ => k (pc + 1) l (.long w :: st) h
    | .ldc _ => match c with
      | 0 => k (pc + 2) l (.int v :: st) h
      | _ => k (pc + 2) l (.ref 2 :: st) h
    | .ldc_w _ => k (pc + 3) l (.int v :: st) h
    | .ldc2_w _ => k (pc + 3) l (.long w :: st) h
    | .iload i => am_oI (am_lk l i) (fun x => k (pc + 2) l (.int x :: st) h)
    | .iload_n n => am_oI (am_lk l n.val) (fun x => k (pc + 1) l (.int x :: st) h)
    | .lload i => am_oL (am_lk l i) (fun x => k (pc + 2) l (.long x :: st) h)
    | .lload_n n => am_oL (am_lk l n.val) (fun x => k (pc + 1) l (.long x :: st) h)
    | .aload i => am_oA (am_lk l i) (fun x => k (pc + 2) l (.ref x :: st) h)
    | .aload_n n => am_oA (am_lk l n.val) (fun x => k (pc + 1) l (.ref x :: st) h)
    | .istore i => am_1I st (fun x st => k (pc + 2) (am_s1 l i (.int x)) st h)
    | .istore_n n => am_1I st (fun x st => k (pc + 1) (am_s1 l n.val (.int x)) st h)
    | .lstore i => am_1L st (fun x st => k (pc + 2) (am_s2 l i (.long x)) st h)
    | .lstore_n n => am_1L st (fun x st => k (pc + 1) (am_s2 l n.val (.long x)) st h)
    | .astore i => am_1R st (fun x st => k (pc + 2) (am_s1 l i (.ref x)) st h)
    | .astore_n n => am_1R st (fun x st => k (pc + 1) (am_s1 l n.val (.ref x)) st h)
    | .iinc i _ => am_oI (am_lk l i) (fun x => k (pc + 3) (am_s1 l i (.int (x + v))) st h)
    | .iadd => am_1I st (fun y st => am_1I st (fun x st => k (pc + 1) l (.int (x + y) :: st) h))
    | .isub => am_1I st (fun y st => am_1I st (fun x st => k (pc + 1) l (.int (x - y) :: st) h))
    | .imul => am_1I st (fun y st => am_1I st (fun x st => k (pc + 1) l (.int (x * y) :: st) h))
    | .iand => am_1I st (fun y st => am_1I st (fun x st => k (pc + 1) l (.int (x &&& y) :: st) h))
    | .ior => am_1I st (fun y st => am_1I st (fun x st => k (pc + 1) l (.int (x ||| y) :: st) h))
    | .ixor => am_1I st (fun y st => am_1I st (fun x st => k (pc + 1) l (.int (x ^^^ y) :: st) h))
    | .ishl => am_1I st (fun y st => am_1I st (fun x st => k (pc + 1) l (.int (x <<< (y &&& 31)) :: st) h))
    | .ishr => am_1I st (fun y st => am_1I st (fun x st => k (pc + 1) l (.int (x >>> (y &&& 31)) :: st) h))
    | .iushr => am_1I st (fun y st => am_1I st (fun x st => k (pc + 1) l (.int (x.toUInt32 >>> (y.toUInt32 &&& Int32.toUInt32 31)).toInt32 :: st) h))
    | .idiv => am_1I st (fun y st => am_1I st (fun x st => am_nz y (k (pc + 1) l (.int (x / y) :: st) h)))
    | .irem => am_1I st (fun y st => am_1I st (fun x st => am_nz y (k (pc + 1) l (.int (x - x / y * y) :: st) h)))
    | .ineg => am_1I st (fun x st => k (pc + 1) l (.int (-x) :: st) h)
    | .ladd => am_1L st (fun y st => am_1L st (fun x st => k (pc + 1) l (.long (x + y) :: st) h))
    | .lsub => am_1L st (fun y st => am_1L st (fun x st => k (pc + 1) l (.long (x - y) :: st) h))
    | .lmul => am_1L st (fun y st => am_1L st (fun x st => k (pc + 1) l (.long (x * y) :: st) h))
    | .land => am_1L st (fun y st => am_1L st (fun x st => k (pc + 1) l (.long (x &&& y) :: st) h))
    | .lor => am_1L st (fun y st => am_1L st (fun x st => k (pc + 1) l (.long (x ||| y) :: st) h))
    | .ldiv => am_1L st (fun y st => am_1L st (fun x st => am_nzL y (k (pc + 1) l (.long (x / y) :: st) h)))
    | .lrem => am_1L st (fun y st => am_1L st (fun x st => am_nzL y (k (pc + 1) l (.long (x - x / y * y) :: st) h)))
    | .lneg => am_1L st (fun x st => k (pc + 1) l (.long (-x) :: st) h)
    | .lshl => am_1I st (fun y st => am_1L st (fun x st => k (pc + 1) l (.long (x <<< (y.toInt64 &&& 63)) :: st) h))
    | .lcmp => am_1L st (fun y st => am_1L st (fun x st => k (pc + 1) l (.int (lg_cmp x y) :: st) h))
    | .i2l => am_1I st (fun x st => k (pc + 1) l (.long x.toInt64 :: st) h)
    | .l2i => am_1L st (fun x st => k (pc + 1) l (.int x.toInt32 :: st) h)
    | .i2b => am_1I st (fun x st => k (pc + 1) l (.int x.toInt8.toInt32 :: st) h)
    | .i2s => am_1I st (fun x st => k (pc + 1) l (.int x.toInt16.toInt32 :: st) h)
    | .dup => am_1V st (fun x st => k (pc + 1) l (x :: x :: st) h)
    | .dup2 => am_1V st (fun x st => am_1V st (fun y st => k (pc + 1) l (x :: y :: x :: y :: st) h))
    | .pop => am_1V st (fun _ st => k (pc + 1) l st h)
    | .ifCond q _ => match q with
      | .eq => am_1I st (fun x st => if x = 0 then k a l st h else k (pc + 3) l st h)
      | .ne => am_1I st (fun x st => if x = 0 then k (pc + 3) l st h else k a l st h)
      | .lt => am_1I st (fun x st => if x < 0 then k a l st h else k (pc + 3) l st h)
      | .ge => am_1I st (fun x st => if x < 0 then k (pc + 3) l st h else k a l st h)
      | .gt => am_1I st (fun x st => if 0 < x then k a l st h else k (pc + 3) l st h)
      | .le => am_1I st (fun x st => if 0 < x then k (pc + 3) l st h else k a l st h)
    | .if_icmp q _ => match q with
      | .eq => am_1I st (fun y st => am_1I st (fun x st => if x = y then k a l st h else k (pc + 3) l st h))
      | .ne => am_1I st (fun y st => am_1I st (fun x st => if x = y then k (pc + 3) l st h else k a l st h))
      | .lt => am_1I st (fun y st => am_1I st (fun x st => if x < y then k a l st h else k (pc + 3) l st h))
      | .ge => am_1I st (fun y st => am_1I st (fun x st => if x < y then k (pc + 3) l st h else k a l st h))
      | .gt => am_1I st (fun y st => am_1I st (fun x st => if y < x then k a l st h else k (pc + 3) l st h))
      | .le => am_1I st (fun y st => am_1I st (fun x st => if y < x then k (pc + 3) l st h else k a l st h))
    | .goto _ => k a l st h
    | .tableswitch _ _ _ _ => am_1I st (fun x st => am_sw ts a x (fun t => k t l st h))
    | .getfield _ => am_1R st (fun o st => match c with
      | 0 => am_gI h a o b (fun x => k (pc + 3) l (.int x :: st) h)
      | 1 => am_gL h a o b (fun x => k (pc + 3) l (.long x :: st) h)
      | _ => am_gR h a o b (fun x => k (pc + 3) l (.ref x :: st) h))
    | .putfield _ => match c with
      | 0 => am_1I st (fun x st => am_1R st (fun o st => am_pI h a o b x (fun h => k (pc + 3) l st h)))
      | 1 => am_1L st (fun x st => am_1R st (fun o st => am_pL h a o b x (fun h => k (pc + 3) l st h)))
      | 2 => am_1R st (fun x st => am_1R st (fun o st => am_pR h a o b x (fun h => k (pc + 3) l st h)))
      | _ => am_1I st (fun x st => am_1R st (fun o st => am_pZ h a o b x (fun h => k (pc + 3) l st h)))
    | .iaload => am_1I st (fun i st => am_1R st (fun o st => am_lI h a o i (fun x => k (pc + 1) l (.int x :: st) h)))
    | .baload => am_1I st (fun i st => am_1R st (fun o st => am_lI h 11 o i (fun x => k (pc + 1) l (.int x :: st) h)))
    | .laload => am_1I st (fun i st => am_1R st (fun o st => am_lL h o i (fun x => k (pc + 1) l (.long x :: st) h)))
    | .aaload => am_1I st (fun i st => am_1R st (fun o st => am_lR h a o i (fun x => k (pc + 1) l (.ref x :: st) h)))
    | .iastore => am_1I st (fun x st => am_1I st (fun i st => am_1R st (fun o st => am_tI h o i x (fun h => k (pc + 1) l st h))))
    | .bastore => am_1I st (fun x st => am_1I st (fun i st => am_1R st (fun o st => am_tB h o i x (fun h => k (pc + 1) l st h))))
    | .lastore => am_1L st (fun x st => am_1I st (fun i st => am_1R st (fun o st => am_tL h o i x (fun h => k (pc + 1) l st h))))
    | .aastore => am_1R st (fun x st => am_1I st (fun i st => am_1R st (fun o st => am_tR h a b o i x (fun h => k (pc + 1) l st h))))
    | .arraylength => am_1R st (fun o st => am_al h a o (fun n => k (pc + 1) l (.int n :: st) h))
    | .new _ => am_nw h a b (fun q h => k (pc + 3) l (.ref q :: st) h)
    | .newarray _ => am_1I st (fun n st => am_na h a n (fun q h => k (pc + 2) l (.ref q :: st) h))
    | .anewarray _ => am_1I st (fun n st => am_na h a n (fun q h => k (pc + 3) l (.ref q :: st) h))
    | .invokevirtual _ => am_call G a b c [] st h (fun st h => k (pc + 3) l st h)
    | .invokespecial _ => am_call G a b c [] st h (fun st h => k (pc + 3) l st h)
    | .invokestatic _ => am_call G a b c [] st h (fun st h => k (pc + 3) l st h)
    | .ireturn => am_1I st (fun x st => am_0V st (match c with
      | 0 => some (.int x, h)
      | _ => am_nb x (some (.int x, h))))
    | .lreturn => am_1L st (fun x st => am_0V st (some (.long x, h)))
    | .return_ => am_0V st (some (.null, h))
    | _ => none
/-- the code from a pc on -/
def am_from : List am_E → Nat → List am_E
  | [], _ => []
  | e :: t, pc => bif Nat.beq e.1 pc then e :: t else am_from t pc
def am_go (code tail : List am_E) (pc : Nat) : List am_E := match tail with
  | e :: t => bif Nat.beq e.1 pc then e :: t else am_from code pc
  | [] => am_from code pc
/-- a cut keeps the listed locals, in the list's order -/
def am_cut : List (Nat × List Nat) → Nat → Option (List Nat)
  | [], _ => none
  | (p, ks) :: t, pc => bif Nat.beq p pc then some ks else am_cut t pc
def am_keep (l : am_V) : List Nat → am_V
  | [] => []
  | i :: t => match am_lk l i with
    | some v => (i, v) :: am_keep l t
    | none => am_keep l t
def am_seg (G : am_GT) (code : List am_E) (cuts : List (Nat × List Nat)) (f : Nat) : List am_E → am_V → List Value → am_H → am_N → am_O :=
  Nat.rec (motive := fun _ => List am_E → am_V → List Value → am_H → am_N → am_O) (fun _ _ _ _ _ => none)
    (fun _ seg sfx l st h k => match sfx with
      | [] => none
      | e :: tail => am_step G e l st h (fun pc l st h => match am_cut cuts pc with
        | some ks => k pc (am_keep l ks) st h
        | none => seg (am_go code tail pc) l st h k)) f
def am_run (G : am_GT) (code : List am_E) (cuts : List (Nat × List Nat)) (n : Nat) : am_N :=
  Nat.rec (motive := fun _ => am_N) (fun _ _ _ _ => none) (fun _ run pc l st h => am_seg G code cuts 3000 (am_from code pc) l st h run) n
/-- a method: name, code, locals, return, its object's class (99: none), entries, cuts -/
abbrev am_M : Type := MethodName × ByteArray × Nat × Option FieldType × Nat × List am_E × List (Nat × List Nat)
def am_rc (ci : Nat) (as : List Value) (h : am_H) (o : am_O) : am_O := bif Nat.beq ci 99 then o else match as with
  | .ref a :: _ => if am_K h a = (ci, 0) then o else none
  | _ => none
def am_G (prog : Nat → Option am_M) (N : Nat) (d : Nat) : am_GT :=
  Nat.rec (motive := fun _ => am_GT) (fun _ _ _ => none)
    (fun _ G y as h => match prog y with
      | some M => am_rc M.2.2.2.2.1 as h (bif Nat.ble (lg_sl as).length M.2.2.1 then am_run G M.2.2.2.2.2.1 M.2.2.2.2.2.2 N 0 (lv_args 0 as) [] h else none)
      | none => none) d
