/-! THE SIMULATION, an instruction at a time -/
def am_Go (p : Program) (l : Launch) (e : Env) (R : Room) (s : State) (m : MethodId) (args : Array Value) (below : List Frame) (meth : Method) (c : Code) (Q : State → Prop) (nL base LL : Nat) (xs : Nat → Int32) (ad : Nat → Nat) (dC : Nat → ClassId) (dI : Nat → Nat → Nat) (dA : Nat → ClassId) (n0 s0 : Nat) (pc : Nat) (lo : am_V) (st : List Value) (h : am_H) : Prop :=
  ∀ (H : Heap) (locs : List Loc) (ls : Array Slot) (cells slots : Nat), lv_has ls nL (am_rl ad lo) → am_Rel base LL xs ad dC dI dA h H → va_S (am_A base) s.heap H locs → h.1 = n0 + cells → h.2.1 = s0 + slots → W p l e R s m args below meth c H locs cells slots Q (F0 m pc ls (st.map (am_rv ad)))
theorem am_1I_inv {st : List Value} {f : Int32 → List Value → am_O} {r : Value × am_H} (h : am_1I st f = some r) : ∃ x t, st = .int x :: t ∧ f x t = some r := by
  unfold am_1I at h
  split at h
  · exact ⟨_, _, rfl, h⟩
  · cases h
theorem am_1L_inv {st : List Value} {f : Int64 → List Value → am_O} {r : Value × am_H} (h : am_1L st f = some r) : ∃ x t, st = .long x :: t ∧ f x t = some r := by
  unfold am_1L at h
  split at h
  · exact ⟨_, _, rfl, h⟩
  · cases h
theorem am_1R_inv {st : List Value} {f : Nat → List Value → am_O} {r : Value × am_H} (h : am_1R st f = some r) : ∃ x t, st = .ref x :: t ∧ f x t = some r := by
  unfold am_1R at h
  split at h
  · exact ⟨_, _, rfl, h⟩
  · cases h
theorem am_1V_inv {st : List Value} {f : Value → List Value → am_O} {r : Value × am_H} (h : am_1V st f = some r) : ∃ x t, st = x :: t ∧ x.category = 1 ∧ f x t = some r := by
  unfold am_1V at h
  split at h
  · cases hc : Nat.beq (Value.category _) 1 with
    | true => rw [hc] at h; exact ⟨_, _, rfl, Nat.eq_of_beq_eq_true hc, h⟩
    | false => rw [hc] at h; cases h
  · cases h
theorem am_0V_inv {st : List Value} {o : am_O} {r : Value × am_H} (h : am_0V st o = some r) : st = [] ∧ o = some r := by
  unfold am_0V at h
  split at h
  · exact ⟨rfl, h⟩
  · cases h
theorem am_oI_inv {v : Option Value} {f : Int32 → am_O} {r : Value × am_H} (h : am_oI v f = some r) : ∃ x, v = some (.int x) ∧ f x = some r := by
  unfold am_oI at h
  split at h
  · exact ⟨_, rfl, h⟩
  · cases h
theorem am_oL_inv {v : Option Value} {f : Int64 → am_O} {r : Value × am_H} (h : am_oL v f = some r) : ∃ x, v = some (.long x) ∧ f x = some r := by
  unfold am_oL at h
  split at h
  · exact ⟨_, rfl, h⟩
  · cases h
theorem am_oA_inv {v : Option Value} {f : Nat → am_O} {r : Value × am_H} (h : am_oA v f = some r) : ∃ x, v = some (.ref x) ∧ f x = some r := by
  unfold am_oA at h
  split at h
  · exact ⟨_, rfl, h⟩
  · cases h
theorem am_oR_inv {v : Option Nat} {f : Nat → am_O} {r : Value × am_H} (h : am_oR v f = some r) : ∃ x, v = some x ∧ f x = some r := by
  unfold am_oR at h
  split at h
  · exact ⟨_, rfl, h⟩
  · cases h
theorem am_if_inv {P : Prop} {i : Decidable P} {o : am_O} {r : Value × am_H} (h : (@ite _ P i o none) = some r) : P ∧ o = some r := by
  by_cases q : P
  · rw [if_pos q] at h; exact ⟨q, h⟩
  · rw [if_neg q] at h; cases h
theorem am_nz_inv {y : Int32} {o : am_O} {r : Value × am_H} (h : am_nz y o = some r) : ¬ y = 0 ∧ o = some r := by
  unfold am_nz at h
  by_cases q : y = 0
  · rw [if_pos q] at h; cases h
  · rw [if_neg q] at h; exact ⟨q, h⟩
theorem am_nzL_inv {y : Int64} {o : am_O} {r : Value × am_H} (h : am_nzL y o = some r) : ¬ y = 0 ∧ o = some r := by
  unfold am_nzL at h
  by_cases q : y = 0
  · rw [if_pos q] at h; cases h
  · rw [if_neg q] at h; exact ⟨q, h⟩
theorem am_lt8_inv {st : List Value} {o : am_O} {r : Value × am_H} (h : am_lt8 st o = some r) : (st.map fun v => v.category).sum ≤ 8 ∧ o = some r := by
  unfold am_lt8 at h
  cases hc : Nat.ble (st.map fun v => v.category).sum 8 with
  | true => rw [hc] at h; exact ⟨Nat.le_of_ble_eq_true hc, h⟩
  | false => rw [hc] at h; cases h
theorem am_lk_mem {v : Value} {i : Nat} : ∀ {lo : am_V}, am_lk lo i = some v → (i, v) ∈ lo
  | [], h => by cases h
  | (j, w) :: t, h => by
    unfold am_lk at h
    cases hc : Nat.beq j i with
    | true =>
      rw [hc] at h
      have e := Nat.eq_of_beq_eq_true hc
      cases h
      rw [e]
      exact List.mem_cons_self
    | false =>
      rw [hc] at h
      exact List.mem_cons_of_mem _ (am_lk_mem h)
theorem am_rl_mem {ad : Nat → Nat} {lo : am_V} {i : Nat} {v : Value} (h : am_lk lo i = some v) : (i, am_rv ad v) ∈ am_rl ad lo := List.mem_map.mpr ⟨(i, v), am_lk_mem h, rfl⟩
theorem am_lk_at {ad : Nat → Nat} {lo : am_V} {i nL : Nat} {v : Value} {ls : Array Slot} (hl : lv_has ls nL (am_rl ad lo)) (h : am_lk lo i = some v) : ls[i]? = some (.val (am_rv ad v)) := hl.2.2 _ (am_rl_mem h)
theorem am_rl_s1 {ad : Nat → Nat} {lo : am_V} {i : Nat} {v : Value} : (i, am_rv ad v) :: (am_rl ad lo).filter (fun q => !(q.1 == i) && !(q.1 + 1 == i && q.2.category == 2)) = am_rl ad (am_s1 lo i v) := by
  unfold am_rl am_s1
  rw [List.filter_map, List.map_cons]
  congr 2
  apply List.filter_congr
  intro q _
  simp only [Function.comp, am_rv_cat]
theorem am_rl_s2 {ad : Nat → Nat} {lo : am_V} {i : Nat} {v : Value} : (i, am_rv ad v) :: (am_rl ad lo).filter (fun q => !(q.1 == i) && (!(q.1 == i + 1) && !(q.1 + 1 == i && q.2.category == 2))) = am_rl ad (am_s2 lo i v) := by
  unfold am_rl am_s2
  rw [List.filter_map, List.map_cons]
  congr 2
  apply List.filter_congr
  intro q _
  simp only [Function.comp, am_rv_cat]
theorem sm_iconst {p : Program} {l : Launch} {e : Env} {R : Room} {s : State} {m : MethodId} {args : Array Value} {below : List Frame} {meth : Method} {c : Code} {Q : State → Prop} {nL base LL : Nat} {xs : Nat → Int32} {ad : Nat → Nat} {dC : Nat → ClassId} {dI : Nat → Nat → Nat} {dA : Nat → ClassId} {n0 s0 : Nat} {cc : ByteArray} {pc : Nat} {lo : am_V} {st : List Value} {h : am_H} {k : am_N} {res : Value × am_H} (hx : p.tables.exec = Jvm.exec) (hb : c.code = cc) (hk : ∀ pc lo st h, k pc lo st h = some res → am_Go p l e R s m args below meth c Q nL base LL xs ad dC dI dA n0 s0 pc lo st h) {n : Int} {v : Int32} (hd : decode cc pc = .ok (.iconst n, 1)) (hv : Int32.ofInt n = v) (hs : k (pc + 1) lo (.int v :: st) h = some res) : am_Go p l e R s m args below meth c Q nL base LL xs ad dC dI dA n0 s0 pc lo st h := by
  intro H locs ls cells slots hl hR hS e1 e2
  exact lv_iconst hx hb hd hv (hk _ _ _ _ hs H locs ls cells slots hl hR hS e1 e2)
theorem sm_bipush {p : Program} {l : Launch} {e : Env} {R : Room} {s : State} {m : MethodId} {args : Array Value} {below : List Frame} {meth : Method} {c : Code} {Q : State → Prop} {nL base LL : Nat} {xs : Nat → Int32} {ad : Nat → Nat} {dC : Nat → ClassId} {dI : Nat → Nat → Nat} {dA : Nat → ClassId} {n0 s0 : Nat} {cc : ByteArray} {pc : Nat} {lo : am_V} {st : List Value} {h : am_H} {k : am_N} {res : Value × am_H} (hx : p.tables.exec = Jvm.exec) (hb : c.code = cc) (hk : ∀ pc lo st h, k pc lo st h = some res → am_Go p l e R s m args below meth c Q nL base LL xs ad dC dI dA n0 s0 pc lo st h) {n : Int} {v : Int32} (hd : decode cc pc = .ok (.bipush n, 2)) (hv : (Int8.ofInt n).toInt32 = v) (hs : k (pc + 2) lo (.int v :: st) h = some res) : am_Go p l e R s m args below meth c Q nL base LL xs ad dC dI dA n0 s0 pc lo st h := by
  intro H locs ls cells slots hl hR hS e1 e2
  exact lv_bipush hx hb hd hv (hk _ _ _ _ hs H locs ls cells slots hl hR hS e1 e2)
theorem sm_sipush {p : Program} {l : Launch} {e : Env} {R : Room} {s : State} {m : MethodId} {args : Array Value} {below : List Frame} {meth : Method} {c : Code} {Q : State → Prop} {nL base LL : Nat} {xs : Nat → Int32} {ad : Nat → Nat} {dC : Nat → ClassId} {dI : Nat → Nat → Nat} {dA : Nat → ClassId} {n0 s0 : Nat} {cc : ByteArray} {pc : Nat} {lo : am_V} {st : List Value} {h : am_H} {k : am_N} {res : Value × am_H} (hx : p.tables.exec = Jvm.exec) (hb : c.code = cc) (hk : ∀ pc lo st h, k pc lo st h = some res → am_Go p l e R s m args below meth c Q nL base LL xs ad dC dI dA n0 s0 pc lo st h) {n : Int} {v : Int32} (hd : decode cc pc = .ok (.sipush n, 3)) (hv : (Int16.ofInt n).toInt32 = v) (hs : k (pc + 3) lo (.int v :: st) h = some res) : am_Go p l e R s m args below meth c Q nL base LL xs ad dC dI dA n0 s0 pc lo st h := by
  intro H locs ls cells slots hl hR hS e1 e2
  exact lv_sipush hx hb hd hv (hk _ _ _ _ hs H locs ls cells slots hl hR hS e1 e2)
theorem sm_lconst {p : Program} {l : Launch} {e : Env} {R : Room} {s : State} {m : MethodId} {args : Array Value} {below : List Frame} {meth : Method} {c : Code} {Q : State → Prop} {nL base LL : Nat} {xs : Nat → Int32} {ad : Nat → Nat} {dC : Nat → ClassId} {dI : Nat → Nat → Nat} {dA : Nat → ClassId} {n0 s0 : Nat} {cc : ByteArray} {pc : Nat} {lo : am_V} {st : List Value} {h : am_H} {k : am_N} {res : Value × am_H} (hx : p.tables.exec = Jvm.exec) (hb : c.code = cc) (hk : ∀ pc lo st h, k pc lo st h = some res → am_Go p l e R s m args below meth c Q nL base LL xs ad dC dI dA n0 s0 pc lo st h) {n : Fin 2} {v : Int64} (hd : decode cc pc = .ok (.lconst n, 1)) (hv : Int64.ofNat (n : Nat) = v) (hs : k (pc + 1) lo (.long v :: st) h = some res) : am_Go p l e R s m args below meth c Q nL base LL xs ad dC dI dA n0 s0 pc lo st h := by
  intro H locs ls cells slots hl hR hS e1 e2
  exact lv_lconst hx hb hd hv (hk _ _ _ _ hs H locs ls cells slots hl hR hS e1 e2)
theorem sm_ldc {p : Program} {l : Launch} {e : Env} {R : Room} {s : State} {m : MethodId} {args : Array Value} {below : List Frame} {meth : Method} {c : Code} {Q : State → Prop} {nL base LL : Nat} {xs : Nat → Int32} {ad : Nat → Nat} {dC : Nat → ClassId} {dI : Nat → Nat → Nat} {dA : Nat → ClassId} {n0 s0 : Nat} {cc : ByteArray} {pc : Nat} {lo : am_V} {st : List Value} {h : am_H} {k : am_N} {res : Value × am_H} (hx : p.tables.exec = Jvm.exec) (hb : c.code = cc) (hk : ∀ pc lo st h, k pc lo st h = some res → am_Go p l e R s m args below meth c Q nL base LL xs ad dC dI dA n0 s0 pc lo st h) {own : String} (hown : s.vm.findClass own = some m.cls) (hts : ∀ w ∈ am_good, w.before args s = true) {i : Nat} {v : Int32} (hd : decode cc pc = .ok (.ldc i, 2)) (hw : Cond.constant own i v ∈ am_good) (hs : k (pc + 2) lo (.int v :: st) h = some res) : am_Go p l e R s m args below meth c Q nL base LL xs ad dC dI dA n0 s0 pc lo st h := by
  intro H locs ls cells slots hl hR hS e1 e2
  exact lv_ldc hx hb hown (hts _ hw) hd (hk _ _ _ _ hs H locs ls cells slots hl hR hS e1 e2)
theorem sm_ldc_w {p : Program} {l : Launch} {e : Env} {R : Room} {s : State} {m : MethodId} {args : Array Value} {below : List Frame} {meth : Method} {c : Code} {Q : State → Prop} {nL base LL : Nat} {xs : Nat → Int32} {ad : Nat → Nat} {dC : Nat → ClassId} {dI : Nat → Nat → Nat} {dA : Nat → ClassId} {n0 s0 : Nat} {cc : ByteArray} {pc : Nat} {lo : am_V} {st : List Value} {h : am_H} {k : am_N} {res : Value × am_H} (hx : p.tables.exec = Jvm.exec) (hb : c.code = cc) (hk : ∀ pc lo st h, k pc lo st h = some res → am_Go p l e R s m args below meth c Q nL base LL xs ad dC dI dA n0 s0 pc lo st h) {own : String} (hown : s.vm.findClass own = some m.cls) (hts : ∀ w ∈ am_good, w.before args s = true) {i : Nat} {v : Int32} (hd : decode cc pc = .ok (.ldc_w i, 3)) (hw : Cond.constant own i v ∈ am_good) (hs : k (pc + 3) lo (.int v :: st) h = some res) : am_Go p l e R s m args below meth c Q nL base LL xs ad dC dI dA n0 s0 pc lo st h := by
  intro H locs ls cells slots hl hR hS e1 e2
  exact lv_ldcw hx hb hown (hts _ hw) hd (hk _ _ _ _ hs H locs ls cells slots hl hR hS e1 e2)
theorem sm_ldc2 {p : Program} {l : Launch} {e : Env} {R : Room} {s : State} {m : MethodId} {args : Array Value} {below : List Frame} {meth : Method} {c : Code} {Q : State → Prop} {nL base LL : Nat} {xs : Nat → Int32} {ad : Nat → Nat} {dC : Nat → ClassId} {dI : Nat → Nat → Nat} {dA : Nat → ClassId} {n0 s0 : Nat} {cc : ByteArray} {pc : Nat} {lo : am_V} {st : List Value} {h : am_H} {k : am_N} {res : Value × am_H} (hx : p.tables.exec = Jvm.exec) (hb : c.code = cc) (hk : ∀ pc lo st h, k pc lo st h = some res → am_Go p l e R s m args below meth c Q nL base LL xs ad dC dI dA n0 s0 pc lo st h) {own : String} (hown : s.vm.findClass own = some m.cls) (hts : ∀ w ∈ am_good, w.before args s = true) {i : Nat} {v : Int64} (hd : decode cc pc = .ok (.ldc2_w i, 3)) (hw : Cond.constantLong own i v ∈ am_good) (hs : k (pc + 3) lo (.long v :: st) h = some res) : am_Go p l e R s m args below meth c Q nL base LL xs ad dC dI dA n0 s0 pc lo st h := by
  intro H locs ls cells slots hl hR hS e1 e2
  exact lv_ldc2 hx hb hown (hts _ hw) hd (hk _ _ _ _ hs H locs ls cells slots hl hR hS e1 e2)
theorem sm_iload {p : Program} {l : Launch} {e : Env} {R : Room} {s : State} {m : MethodId} {args : Array Value} {below : List Frame} {meth : Method} {c : Code} {Q : State → Prop} {nL base LL : Nat} {xs : Nat → Int32} {ad : Nat → Nat} {dC : Nat → ClassId} {dI : Nat → Nat → Nat} {dA : Nat → ClassId} {n0 s0 : Nat} {cc : ByteArray} {pc : Nat} {lo : am_V} {st : List Value} {h : am_H} {k : am_N} {res : Value × am_H} (hx : p.tables.exec = Jvm.exec) (hb : c.code = cc) (hk : ∀ pc lo st h, k pc lo st h = some res → am_Go p l e R s m args below meth c Q nL base LL xs ad dC dI dA n0 s0 pc lo st h) {i : Nat} (hd : decode cc pc = .ok (.iload i, 2)) (hs : am_oI (am_lk lo i) (fun x => k (pc + 2) lo (.int x :: st) h) = some res) : am_Go p l e R s m args below meth c Q nL base LL xs ad dC dI dA n0 s0 pc lo st h := by
  obtain ⟨x, hv, hs1⟩ := am_oI_inv hs
  intro H locs ls cells slots hl hR hS e1 e2
  exact lv_iload hx hb hd (am_lk_at hl hv) (hk _ _ _ _ hs1 H locs ls cells slots hl hR hS e1 e2)
theorem sm_iload_n {p : Program} {l : Launch} {e : Env} {R : Room} {s : State} {m : MethodId} {args : Array Value} {below : List Frame} {meth : Method} {c : Code} {Q : State → Prop} {nL base LL : Nat} {xs : Nat → Int32} {ad : Nat → Nat} {dC : Nat → ClassId} {dI : Nat → Nat → Nat} {dA : Nat → ClassId} {n0 s0 : Nat} {cc : ByteArray} {pc : Nat} {lo : am_V} {st : List Value} {h : am_H} {k : am_N} {res : Value × am_H} (hx : p.tables.exec = Jvm.exec) (hb : c.code = cc) (hk : ∀ pc lo st h, k pc lo st h = some res → am_Go p l e R s m args below meth c Q nL base LL xs ad dC dI dA n0 s0 pc lo st h) {n : Fin 4} (hd : decode cc pc = .ok (.iload_n n, 1)) (hs : am_oI (am_lk lo n.val) (fun x => k (pc + 1) lo (.int x :: st) h) = some res) : am_Go p l e R s m args below meth c Q nL base LL xs ad dC dI dA n0 s0 pc lo st h := by
  obtain ⟨x, hv, hs1⟩ := am_oI_inv hs
  intro H locs ls cells slots hl hR hS e1 e2
  exact lv_iload_n hx hb hd rfl (am_lk_at hl hv) (hk _ _ _ _ hs1 H locs ls cells slots hl hR hS e1 e2)
theorem sm_istore {p : Program} {l : Launch} {e : Env} {R : Room} {s : State} {m : MethodId} {args : Array Value} {below : List Frame} {meth : Method} {c : Code} {Q : State → Prop} {nL base LL : Nat} {xs : Nat → Int32} {ad : Nat → Nat} {dC : Nat → ClassId} {dI : Nat → Nat → Nat} {dA : Nat → ClassId} {n0 s0 : Nat} {cc : ByteArray} {pc : Nat} {lo : am_V} {st : List Value} {h : am_H} {k : am_N} {res : Value × am_H} (hx : p.tables.exec = Jvm.exec) (hb : c.code = cc) (hk : ∀ pc lo st h, k pc lo st h = some res → am_Go p l e R s m args below meth c Q nL base LL xs ad dC dI dA n0 s0 pc lo st h) {i : Nat} (hd : decode cc pc = .ok (.istore i, 2)) (hn : i < nL) (hs : am_1I st (fun x st => k (pc + 2) (am_s1 lo i (.int x)) st h) = some res) : am_Go p l e R s m args below meth c Q nL base LL xs ad dC dI dA n0 s0 pc lo st h := by
  obtain ⟨x, st, rfl, hs1⟩ := am_1I_inv hs
  intro H locs ls cells slots hl hR hS e1 e2
  exact lv_istore hx hb hd hl hn (am_rl_s1 (v := .int x)) (fun ls hl => hk _ _ _ _ hs1 H locs ls cells slots hl hR hS e1 e2)
theorem sm_istore_n {p : Program} {l : Launch} {e : Env} {R : Room} {s : State} {m : MethodId} {args : Array Value} {below : List Frame} {meth : Method} {c : Code} {Q : State → Prop} {nL base LL : Nat} {xs : Nat → Int32} {ad : Nat → Nat} {dC : Nat → ClassId} {dI : Nat → Nat → Nat} {dA : Nat → ClassId} {n0 s0 : Nat} {cc : ByteArray} {pc : Nat} {lo : am_V} {st : List Value} {h : am_H} {k : am_N} {res : Value × am_H} (hx : p.tables.exec = Jvm.exec) (hb : c.code = cc) (hk : ∀ pc lo st h, k pc lo st h = some res → am_Go p l e R s m args below meth c Q nL base LL xs ad dC dI dA n0 s0 pc lo st h) {n : Fin 4} (hd : decode cc pc = .ok (.istore_n n, 1)) (hn : n.val < nL) (hs : am_1I st (fun x st => k (pc + 1) (am_s1 lo n.val (.int x)) st h) = some res) : am_Go p l e R s m args below meth c Q nL base LL xs ad dC dI dA n0 s0 pc lo st h := by
  obtain ⟨x, st, rfl, hs1⟩ := am_1I_inv hs
  intro H locs ls cells slots hl hR hS e1 e2
  exact lv_istore_n hx hb hd rfl hl hn (am_rl_s1 (v := .int x)) (fun ls hl => hk _ _ _ _ hs1 H locs ls cells slots hl hR hS e1 e2)
theorem sm_lload {p : Program} {l : Launch} {e : Env} {R : Room} {s : State} {m : MethodId} {args : Array Value} {below : List Frame} {meth : Method} {c : Code} {Q : State → Prop} {nL base LL : Nat} {xs : Nat → Int32} {ad : Nat → Nat} {dC : Nat → ClassId} {dI : Nat → Nat → Nat} {dA : Nat → ClassId} {n0 s0 : Nat} {cc : ByteArray} {pc : Nat} {lo : am_V} {st : List Value} {h : am_H} {k : am_N} {res : Value × am_H} (hx : p.tables.exec = Jvm.exec) (hb : c.code = cc) (hk : ∀ pc lo st h, k pc lo st h = some res → am_Go p l e R s m args below meth c Q nL base LL xs ad dC dI dA n0 s0 pc lo st h) {i : Nat} (hd : decode cc pc = .ok (.lload i, 2)) (hs : am_oL (am_lk lo i) (fun x => k (pc + 2) lo (.long x :: st) h) = some res) : am_Go p l e R s m args below meth c Q nL base LL xs ad dC dI dA n0 s0 pc lo st h := by
  obtain ⟨x, hv, hs1⟩ := am_oL_inv hs
  intro H locs ls cells slots hl hR hS e1 e2
  exact lv_lload hx hb hd (am_lk_at hl hv) (hk _ _ _ _ hs1 H locs ls cells slots hl hR hS e1 e2)
theorem sm_lload_n {p : Program} {l : Launch} {e : Env} {R : Room} {s : State} {m : MethodId} {args : Array Value} {below : List Frame} {meth : Method} {c : Code} {Q : State → Prop} {nL base LL : Nat} {xs : Nat → Int32} {ad : Nat → Nat} {dC : Nat → ClassId} {dI : Nat → Nat → Nat} {dA : Nat → ClassId} {n0 s0 : Nat} {cc : ByteArray} {pc : Nat} {lo : am_V} {st : List Value} {h : am_H} {k : am_N} {res : Value × am_H} (hx : p.tables.exec = Jvm.exec) (hb : c.code = cc) (hk : ∀ pc lo st h, k pc lo st h = some res → am_Go p l e R s m args below meth c Q nL base LL xs ad dC dI dA n0 s0 pc lo st h) {n : Fin 4} (hd : decode cc pc = .ok (.lload_n n, 1)) (hs : am_oL (am_lk lo n.val) (fun x => k (pc + 1) lo (.long x :: st) h) = some res) : am_Go p l e R s m args below meth c Q nL base LL xs ad dC dI dA n0 s0 pc lo st h := by
  obtain ⟨x, hv, hs1⟩ := am_oL_inv hs
  intro H locs ls cells slots hl hR hS e1 e2
  exact lv_lload_n hx hb hd rfl (am_lk_at hl hv) (hk _ _ _ _ hs1 H locs ls cells slots hl hR hS e1 e2)
theorem sm_lstore {p : Program} {l : Launch} {e : Env} {R : Room} {s : State} {m : MethodId} {args : Array Value} {below : List Frame} {meth : Method} {c : Code} {Q : State → Prop} {nL base LL : Nat} {xs : Nat → Int32} {ad : Nat → Nat} {dC : Nat → ClassId} {dI : Nat → Nat → Nat} {dA : Nat → ClassId} {n0 s0 : Nat} {cc : ByteArray} {pc : Nat} {lo : am_V} {st : List Value} {h : am_H} {k : am_N} {res : Value × am_H} (hx : p.tables.exec = Jvm.exec) (hb : c.code = cc) (hk : ∀ pc lo st h, k pc lo st h = some res → am_Go p l e R s m args below meth c Q nL base LL xs ad dC dI dA n0 s0 pc lo st h) {i : Nat} (hd : decode cc pc = .ok (.lstore i, 2)) (hn : i + 1 < nL) (hs : am_1L st (fun x st => k (pc + 2) (am_s2 lo i (.long x)) st h) = some res) : am_Go p l e R s m args below meth c Q nL base LL xs ad dC dI dA n0 s0 pc lo st h := by
  obtain ⟨x, st, rfl, hs1⟩ := am_1L_inv hs
  intro H locs ls cells slots hl hR hS e1 e2
  exact lv_lstore hx hb hd hl hn (am_rl_s2 (v := .long x)) (fun ls hl => hk _ _ _ _ hs1 H locs ls cells slots hl hR hS e1 e2)
theorem sm_lstore_n {p : Program} {l : Launch} {e : Env} {R : Room} {s : State} {m : MethodId} {args : Array Value} {below : List Frame} {meth : Method} {c : Code} {Q : State → Prop} {nL base LL : Nat} {xs : Nat → Int32} {ad : Nat → Nat} {dC : Nat → ClassId} {dI : Nat → Nat → Nat} {dA : Nat → ClassId} {n0 s0 : Nat} {cc : ByteArray} {pc : Nat} {lo : am_V} {st : List Value} {h : am_H} {k : am_N} {res : Value × am_H} (hx : p.tables.exec = Jvm.exec) (hb : c.code = cc) (hk : ∀ pc lo st h, k pc lo st h = some res → am_Go p l e R s m args below meth c Q nL base LL xs ad dC dI dA n0 s0 pc lo st h) {n : Fin 4} (hd : decode cc pc = .ok (.lstore_n n, 1)) (hn : n.val + 1 < nL) (hs : am_1L st (fun x st => k (pc + 1) (am_s2 lo n.val (.long x)) st h) = some res) : am_Go p l e R s m args below meth c Q nL base LL xs ad dC dI dA n0 s0 pc lo st h := by
  obtain ⟨x, st, rfl, hs1⟩ := am_1L_inv hs
  intro H locs ls cells slots hl hR hS e1 e2
  exact lv_lstore_n hx hb hd rfl hl hn (am_rl_s2 (v := .long x)) (fun ls hl => hk _ _ _ _ hs1 H locs ls cells slots hl hR hS e1 e2)
theorem sm_aload {p : Program} {l : Launch} {e : Env} {R : Room} {s : State} {m : MethodId} {args : Array Value} {below : List Frame} {meth : Method} {c : Code} {Q : State → Prop} {nL base LL : Nat} {xs : Nat → Int32} {ad : Nat → Nat} {dC : Nat → ClassId} {dI : Nat → Nat → Nat} {dA : Nat → ClassId} {n0 s0 : Nat} {cc : ByteArray} {pc : Nat} {lo : am_V} {st : List Value} {h : am_H} {k : am_N} {res : Value × am_H} (hx : p.tables.exec = Jvm.exec) (hb : c.code = cc) (hk : ∀ pc lo st h, k pc lo st h = some res → am_Go p l e R s m args below meth c Q nL base LL xs ad dC dI dA n0 s0 pc lo st h) {i : Nat} (hd : decode cc pc = .ok (.aload i, 2)) (hs : am_oA (am_lk lo i) (fun x => k (pc + 2) lo (.ref x :: st) h) = some res) : am_Go p l e R s m args below meth c Q nL base LL xs ad dC dI dA n0 s0 pc lo st h := by
  obtain ⟨x, hv, hs1⟩ := am_oA_inv hs
  intro H locs ls cells slots hl hR hS e1 e2
  exact lv_aload hx hb hd (am_lk_at hl hv) (hk _ _ _ _ hs1 H locs ls cells slots hl hR hS e1 e2)
theorem sm_aload_n {p : Program} {l : Launch} {e : Env} {R : Room} {s : State} {m : MethodId} {args : Array Value} {below : List Frame} {meth : Method} {c : Code} {Q : State → Prop} {nL base LL : Nat} {xs : Nat → Int32} {ad : Nat → Nat} {dC : Nat → ClassId} {dI : Nat → Nat → Nat} {dA : Nat → ClassId} {n0 s0 : Nat} {cc : ByteArray} {pc : Nat} {lo : am_V} {st : List Value} {h : am_H} {k : am_N} {res : Value × am_H} (hx : p.tables.exec = Jvm.exec) (hb : c.code = cc) (hk : ∀ pc lo st h, k pc lo st h = some res → am_Go p l e R s m args below meth c Q nL base LL xs ad dC dI dA n0 s0 pc lo st h) {n : Fin 4} (hd : decode cc pc = .ok (.aload_n n, 1)) (hs : am_oA (am_lk lo n.val) (fun x => k (pc + 1) lo (.ref x :: st) h) = some res) : am_Go p l e R s m args below meth c Q nL base LL xs ad dC dI dA n0 s0 pc lo st h := by
  obtain ⟨x, hv, hs1⟩ := am_oA_inv hs
  intro H locs ls cells slots hl hR hS e1 e2
  exact lv_aload_n hx hb hd rfl (am_lk_at hl hv) (hk _ _ _ _ hs1 H locs ls cells slots hl hR hS e1 e2)
theorem sm_astore {p : Program} {l : Launch} {e : Env} {R : Room} {s : State} {m : MethodId} {args : Array Value} {below : List Frame} {meth : Method} {c : Code} {Q : State → Prop} {nL base LL : Nat} {xs : Nat → Int32} {ad : Nat → Nat} {dC : Nat → ClassId} {dI : Nat → Nat → Nat} {dA : Nat → ClassId} {n0 s0 : Nat} {cc : ByteArray} {pc : Nat} {lo : am_V} {st : List Value} {h : am_H} {k : am_N} {res : Value × am_H} (hx : p.tables.exec = Jvm.exec) (hb : c.code = cc) (hk : ∀ pc lo st h, k pc lo st h = some res → am_Go p l e R s m args below meth c Q nL base LL xs ad dC dI dA n0 s0 pc lo st h) {i : Nat} (hd : decode cc pc = .ok (.astore i, 2)) (hn : i < nL) (hs : am_1R st (fun x st => k (pc + 2) (am_s1 lo i (.ref x)) st h) = some res) : am_Go p l e R s m args below meth c Q nL base LL xs ad dC dI dA n0 s0 pc lo st h := by
  obtain ⟨x, st, rfl, hs1⟩ := am_1R_inv hs
  intro H locs ls cells slots hl hR hS e1 e2
  exact lv_astore hx hb hd hl hn (am_rl_s1 (v := .ref x)) (fun ls hl => hk _ _ _ _ hs1 H locs ls cells slots hl hR hS e1 e2)
theorem sm_astore_n {p : Program} {l : Launch} {e : Env} {R : Room} {s : State} {m : MethodId} {args : Array Value} {below : List Frame} {meth : Method} {c : Code} {Q : State → Prop} {nL base LL : Nat} {xs : Nat → Int32} {ad : Nat → Nat} {dC : Nat → ClassId} {dI : Nat → Nat → Nat} {dA : Nat → ClassId} {n0 s0 : Nat} {cc : ByteArray} {pc : Nat} {lo : am_V} {st : List Value} {h : am_H} {k : am_N} {res : Value × am_H} (hx : p.tables.exec = Jvm.exec) (hb : c.code = cc) (hk : ∀ pc lo st h, k pc lo st h = some res → am_Go p l e R s m args below meth c Q nL base LL xs ad dC dI dA n0 s0 pc lo st h) {n : Fin 4} (hd : decode cc pc = .ok (.astore_n n, 1)) (hn : n.val < nL) (hs : am_1R st (fun x st => k (pc + 1) (am_s1 lo n.val (.ref x)) st h) = some res) : am_Go p l e R s m args below meth c Q nL base LL xs ad dC dI dA n0 s0 pc lo st h := by
  obtain ⟨x, st, rfl, hs1⟩ := am_1R_inv hs
  intro H locs ls cells slots hl hR hS e1 e2
  exact lv_astore_n hx hb hd rfl hl hn (am_rl_s1 (v := .ref x)) (fun ls hl => hk _ _ _ _ hs1 H locs ls cells slots hl hR hS e1 e2)
theorem sm_iinc {p : Program} {l : Launch} {e : Env} {R : Room} {s : State} {m : MethodId} {args : Array Value} {below : List Frame} {meth : Method} {c : Code} {Q : State → Prop} {nL base LL : Nat} {xs : Nat → Int32} {ad : Nat → Nat} {dC : Nat → ClassId} {dI : Nat → Nat → Nat} {dA : Nat → ClassId} {n0 s0 : Nat} {cc : ByteArray} {pc : Nat} {lo : am_V} {st : List Value} {h : am_H} {k : am_N} {res : Value × am_H} (hx : p.tables.exec = Jvm.exec) (hb : c.code = cc) (hk : ∀ pc lo st h, k pc lo st h = some res → am_Go p l e R s m args below meth c Q nL base LL xs ad dC dI dA n0 s0 pc lo st h) {i : Nat} {n : Int} {v : Int32} (hd : decode cc pc = .ok (.iinc i n, 3)) (hv : Int32.ofInt n = v) (hn : i < nL) (hs : am_oI (am_lk lo i) (fun x => k (pc + 3) (am_s1 lo i (.int (x + v))) st h) = some res) : am_Go p l e R s m args below meth c Q nL base LL xs ad dC dI dA n0 s0 pc lo st h := by
  obtain ⟨x, hx0, hs1⟩ := am_oI_inv hs
  intro H locs ls cells slots hl hR hS e1 e2
  obtain ⟨j, hj⟩ := List.getElem?_of_mem (am_rl_mem (ad := ad) hx0)
  exact lv_iinc hx hb hd hl hj (by rw [hv]) hn (am_rl_s1 (v := .int (x + v))) (fun ls hl => hk _ _ _ _ hs1 H locs ls cells slots hl hR hS e1 e2)
theorem sm_iadd {p : Program} {l : Launch} {e : Env} {R : Room} {s : State} {m : MethodId} {args : Array Value} {below : List Frame} {meth : Method} {c : Code} {Q : State → Prop} {nL base LL : Nat} {xs : Nat → Int32} {ad : Nat → Nat} {dC : Nat → ClassId} {dI : Nat → Nat → Nat} {dA : Nat → ClassId} {n0 s0 : Nat} {cc : ByteArray} {pc : Nat} {lo : am_V} {st : List Value} {h : am_H} {k : am_N} {res : Value × am_H} (hx : p.tables.exec = Jvm.exec) (hb : c.code = cc) (hk : ∀ pc lo st h, k pc lo st h = some res → am_Go p l e R s m args below meth c Q nL base LL xs ad dC dI dA n0 s0 pc lo st h) (hd : decode cc pc = .ok (.iadd, 1)) (hs : am_1I st (fun y st => am_1I st (fun x st => k (pc + 1) lo (.int (x + y) :: st) h)) = some res) : am_Go p l e R s m args below meth c Q nL base LL xs ad dC dI dA n0 s0 pc lo st h := by
  obtain ⟨y, st, rfl, hs1⟩ := am_1I_inv hs
  obtain ⟨x, st, rfl, hs2⟩ := am_1I_inv hs1
  intro H locs ls cells slots hl hR hS e1 e2
  exact lv_iadd hx hb hd (hk _ _ _ _ hs2 H locs ls cells slots hl hR hS e1 e2)
theorem sm_isub {p : Program} {l : Launch} {e : Env} {R : Room} {s : State} {m : MethodId} {args : Array Value} {below : List Frame} {meth : Method} {c : Code} {Q : State → Prop} {nL base LL : Nat} {xs : Nat → Int32} {ad : Nat → Nat} {dC : Nat → ClassId} {dI : Nat → Nat → Nat} {dA : Nat → ClassId} {n0 s0 : Nat} {cc : ByteArray} {pc : Nat} {lo : am_V} {st : List Value} {h : am_H} {k : am_N} {res : Value × am_H} (hx : p.tables.exec = Jvm.exec) (hb : c.code = cc) (hk : ∀ pc lo st h, k pc lo st h = some res → am_Go p l e R s m args below meth c Q nL base LL xs ad dC dI dA n0 s0 pc lo st h) (hd : decode cc pc = .ok (.isub, 1)) (hs : am_1I st (fun y st => am_1I st (fun x st => k (pc + 1) lo (.int (x - y) :: st) h)) = some res) : am_Go p l e R s m args below meth c Q nL base LL xs ad dC dI dA n0 s0 pc lo st h := by
  obtain ⟨y, st, rfl, hs1⟩ := am_1I_inv hs
  obtain ⟨x, st, rfl, hs2⟩ := am_1I_inv hs1
  intro H locs ls cells slots hl hR hS e1 e2
  exact lv_isub hx hb hd (hk _ _ _ _ hs2 H locs ls cells slots hl hR hS e1 e2)
theorem sm_imul {p : Program} {l : Launch} {e : Env} {R : Room} {s : State} {m : MethodId} {args : Array Value} {below : List Frame} {meth : Method} {c : Code} {Q : State → Prop} {nL base LL : Nat} {xs : Nat → Int32} {ad : Nat → Nat} {dC : Nat → ClassId} {dI : Nat → Nat → Nat} {dA : Nat → ClassId} {n0 s0 : Nat} {cc : ByteArray} {pc : Nat} {lo : am_V} {st : List Value} {h : am_H} {k : am_N} {res : Value × am_H} (hx : p.tables.exec = Jvm.exec) (hb : c.code = cc) (hk : ∀ pc lo st h, k pc lo st h = some res → am_Go p l e R s m args below meth c Q nL base LL xs ad dC dI dA n0 s0 pc lo st h) (hd : decode cc pc = .ok (.imul, 1)) (hs : am_1I st (fun y st => am_1I st (fun x st => k (pc + 1) lo (.int (x * y) :: st) h)) = some res) : am_Go p l e R s m args below meth c Q nL base LL xs ad dC dI dA n0 s0 pc lo st h := by
  obtain ⟨y, st, rfl, hs1⟩ := am_1I_inv hs
  obtain ⟨x, st, rfl, hs2⟩ := am_1I_inv hs1
  intro H locs ls cells slots hl hR hS e1 e2
  exact lv_imul hx hb hd (hk _ _ _ _ hs2 H locs ls cells slots hl hR hS e1 e2)
theorem sm_iand {p : Program} {l : Launch} {e : Env} {R : Room} {s : State} {m : MethodId} {args : Array Value} {below : List Frame} {meth : Method} {c : Code} {Q : State → Prop} {nL base LL : Nat} {xs : Nat → Int32} {ad : Nat → Nat} {dC : Nat → ClassId} {dI : Nat → Nat → Nat} {dA : Nat → ClassId} {n0 s0 : Nat} {cc : ByteArray} {pc : Nat} {lo : am_V} {st : List Value} {h : am_H} {k : am_N} {res : Value × am_H} (hx : p.tables.exec = Jvm.exec) (hb : c.code = cc) (hk : ∀ pc lo st h, k pc lo st h = some res → am_Go p l e R s m args below meth c Q nL base LL xs ad dC dI dA n0 s0 pc lo st h) (hd : decode cc pc = .ok (.iand, 1)) (hs : am_1I st (fun y st => am_1I st (fun x st => k (pc + 1) lo (.int (x &&& y) :: st) h)) = some res) : am_Go p l e R s m args below meth c Q nL base LL xs ad dC dI dA n0 s0 pc lo st h := by
  obtain ⟨y, st, rfl, hs1⟩ := am_1I_inv hs
  obtain ⟨x, st, rfl, hs2⟩ := am_1I_inv hs1
  intro H locs ls cells slots hl hR hS e1 e2
  exact lv_iand hx hb hd (hk _ _ _ _ hs2 H locs ls cells slots hl hR hS e1 e2)
theorem sm_ior {p : Program} {l : Launch} {e : Env} {R : Room} {s : State} {m : MethodId} {args : Array Value} {below : List Frame} {meth : Method} {c : Code} {Q : State → Prop} {nL base LL : Nat} {xs : Nat → Int32} {ad : Nat → Nat} {dC : Nat → ClassId} {dI : Nat → Nat → Nat} {dA : Nat → ClassId} {n0 s0 : Nat} {cc : ByteArray} {pc : Nat} {lo : am_V} {st : List Value} {h : am_H} {k : am_N} {res : Value × am_H} (hx : p.tables.exec = Jvm.exec) (hb : c.code = cc) (hk : ∀ pc lo st h, k pc lo st h = some res → am_Go p l e R s m args below meth c Q nL base LL xs ad dC dI dA n0 s0 pc lo st h) (hd : decode cc pc = .ok (.ior, 1)) (hs : am_1I st (fun y st => am_1I st (fun x st => k (pc + 1) lo (.int (x ||| y) :: st) h)) = some res) : am_Go p l e R s m args below meth c Q nL base LL xs ad dC dI dA n0 s0 pc lo st h := by
  obtain ⟨y, st, rfl, hs1⟩ := am_1I_inv hs
  obtain ⟨x, st, rfl, hs2⟩ := am_1I_inv hs1
  intro H locs ls cells slots hl hR hS e1 e2
  exact lv_ior hx hb hd (hk _ _ _ _ hs2 H locs ls cells slots hl hR hS e1 e2)
theorem sm_ixor {p : Program} {l : Launch} {e : Env} {R : Room} {s : State} {m : MethodId} {args : Array Value} {below : List Frame} {meth : Method} {c : Code} {Q : State → Prop} {nL base LL : Nat} {xs : Nat → Int32} {ad : Nat → Nat} {dC : Nat → ClassId} {dI : Nat → Nat → Nat} {dA : Nat → ClassId} {n0 s0 : Nat} {cc : ByteArray} {pc : Nat} {lo : am_V} {st : List Value} {h : am_H} {k : am_N} {res : Value × am_H} (hx : p.tables.exec = Jvm.exec) (hb : c.code = cc) (hk : ∀ pc lo st h, k pc lo st h = some res → am_Go p l e R s m args below meth c Q nL base LL xs ad dC dI dA n0 s0 pc lo st h) (hd : decode cc pc = .ok (.ixor, 1)) (hs : am_1I st (fun y st => am_1I st (fun x st => k (pc + 1) lo (.int (x ^^^ y) :: st) h)) = some res) : am_Go p l e R s m args below meth c Q nL base LL xs ad dC dI dA n0 s0 pc lo st h := by
  obtain ⟨y, st, rfl, hs1⟩ := am_1I_inv hs
  obtain ⟨x, st, rfl, hs2⟩ := am_1I_inv hs1
  intro H locs ls cells slots hl hR hS e1 e2
  exact lv_ixor hx hb hd (hk _ _ _ _ hs2 H locs ls cells slots hl hR hS e1 e2)
theorem sm_ishl {p : Program} {l : Launch} {e : Env} {R : Room} {s : State} {m : MethodId} {args : Array Value} {below : List Frame} {meth : Method} {c : Code} {Q : State → Prop} {nL base LL : Nat} {xs : Nat → Int32} {ad : Nat → Nat} {dC : Nat → ClassId} {dI : Nat → Nat → Nat} {dA : Nat → ClassId} {n0 s0 : Nat} {cc : ByteArray} {pc : Nat} {lo : am_V} {st : List Value} {h : am_H} {k : am_N} {res : Value × am_H} (hx : p.tables.exec = Jvm.exec) (hb : c.code = cc) (hk : ∀ pc lo st h, k pc lo st h = some res → am_Go p l e R s m args below meth c Q nL base LL xs ad dC dI dA n0 s0 pc lo st h) (hd : decode cc pc = .ok (.ishl, 1)) (hs : am_1I st (fun y st => am_1I st (fun x st => k (pc + 1) lo (.int (x <<< (y &&& 31)) :: st) h)) = some res) : am_Go p l e R s m args below meth c Q nL base LL xs ad dC dI dA n0 s0 pc lo st h := by
  obtain ⟨y, st, rfl, hs1⟩ := am_1I_inv hs
  obtain ⟨x, st, rfl, hs2⟩ := am_1I_inv hs1
  intro H locs ls cells slots hl hR hS e1 e2
  exact lv_ishl hx hb hd (hk _ _ _ _ hs2 H locs ls cells slots hl hR hS e1 e2)
theorem sm_ishr {p : Program} {l : Launch} {e : Env} {R : Room} {s : State} {m : MethodId} {args : Array Value} {below : List Frame} {meth : Method} {c : Code} {Q : State → Prop} {nL base LL : Nat} {xs : Nat → Int32} {ad : Nat → Nat} {dC : Nat → ClassId} {dI : Nat → Nat → Nat} {dA : Nat → ClassId} {n0 s0 : Nat} {cc : ByteArray} {pc : Nat} {lo : am_V} {st : List Value} {h : am_H} {k : am_N} {res : Value × am_H} (hx : p.tables.exec = Jvm.exec) (hb : c.code = cc) (hk : ∀ pc lo st h, k pc lo st h = some res → am_Go p l e R s m args below meth c Q nL base LL xs ad dC dI dA n0 s0 pc lo st h) (hd : decode cc pc = .ok (.ishr, 1)) (hs : am_1I st (fun y st => am_1I st (fun x st => k (pc + 1) lo (.int (x >>> (y &&& 31)) :: st) h)) = some res) : am_Go p l e R s m args below meth c Q nL base LL xs ad dC dI dA n0 s0 pc lo st h := by
  obtain ⟨y, st, rfl, hs1⟩ := am_1I_inv hs
  obtain ⟨x, st, rfl, hs2⟩ := am_1I_inv hs1
  intro H locs ls cells slots hl hR hS e1 e2
  exact lv_ishr hx hb hd (hk _ _ _ _ hs2 H locs ls cells slots hl hR hS e1 e2)
theorem sm_iushr {p : Program} {l : Launch} {e : Env} {R : Room} {s : State} {m : MethodId} {args : Array Value} {below : List Frame} {meth : Method} {c : Code} {Q : State → Prop} {nL base LL : Nat} {xs : Nat → Int32} {ad : Nat → Nat} {dC : Nat → ClassId} {dI : Nat → Nat → Nat} {dA : Nat → ClassId} {n0 s0 : Nat} {cc : ByteArray} {pc : Nat} {lo : am_V} {st : List Value} {h : am_H} {k : am_N} {res : Value × am_H} (hx : p.tables.exec = Jvm.exec) (hb : c.code = cc) (hk : ∀ pc lo st h, k pc lo st h = some res → am_Go p l e R s m args below meth c Q nL base LL xs ad dC dI dA n0 s0 pc lo st h) (hd : decode cc pc = .ok (.iushr, 1)) (hs : am_1I st (fun y st => am_1I st (fun x st => k (pc + 1) lo (.int (x.toUInt32 >>> (y.toUInt32 &&& Int32.toUInt32 31)).toInt32 :: st) h)) = some res) : am_Go p l e R s m args below meth c Q nL base LL xs ad dC dI dA n0 s0 pc lo st h := by
  obtain ⟨y, st, rfl, hs1⟩ := am_1I_inv hs
  obtain ⟨x, st, rfl, hs2⟩ := am_1I_inv hs1
  intro H locs ls cells slots hl hR hS e1 e2
  exact lv_iushr hx hb hd rfl (hk _ _ _ _ hs2 H locs ls cells slots hl hR hS e1 e2)
theorem sm_idiv {p : Program} {l : Launch} {e : Env} {R : Room} {s : State} {m : MethodId} {args : Array Value} {below : List Frame} {meth : Method} {c : Code} {Q : State → Prop} {nL base LL : Nat} {xs : Nat → Int32} {ad : Nat → Nat} {dC : Nat → ClassId} {dI : Nat → Nat → Nat} {dA : Nat → ClassId} {n0 s0 : Nat} {cc : ByteArray} {pc : Nat} {lo : am_V} {st : List Value} {h : am_H} {k : am_N} {res : Value × am_H} (hx : p.tables.exec = Jvm.exec) (hb : c.code = cc) (hk : ∀ pc lo st h, k pc lo st h = some res → am_Go p l e R s m args below meth c Q nL base LL xs ad dC dI dA n0 s0 pc lo st h) (hd : decode cc pc = .ok (.idiv, 1)) (hs : am_1I st (fun y st => am_1I st (fun x st => am_nz y (k (pc + 1) lo (.int (x / y) :: st) h))) = some res) : am_Go p l e R s m args below meth c Q nL base LL xs ad dC dI dA n0 s0 pc lo st h := by
  obtain ⟨y, st, rfl, hs1⟩ := am_1I_inv hs
  obtain ⟨x, st, rfl, hs2⟩ := am_1I_inv hs1
  obtain ⟨hne, hs3⟩ := am_nz_inv hs2
  intro H locs ls cells slots hl hR hS e1 e2
  exact lv_idiv hx hb hd hne (hk _ _ _ _ hs3 H locs ls cells slots hl hR hS e1 e2)
theorem sm_irem {p : Program} {l : Launch} {e : Env} {R : Room} {s : State} {m : MethodId} {args : Array Value} {below : List Frame} {meth : Method} {c : Code} {Q : State → Prop} {nL base LL : Nat} {xs : Nat → Int32} {ad : Nat → Nat} {dC : Nat → ClassId} {dI : Nat → Nat → Nat} {dA : Nat → ClassId} {n0 s0 : Nat} {cc : ByteArray} {pc : Nat} {lo : am_V} {st : List Value} {h : am_H} {k : am_N} {res : Value × am_H} (hx : p.tables.exec = Jvm.exec) (hb : c.code = cc) (hk : ∀ pc lo st h, k pc lo st h = some res → am_Go p l e R s m args below meth c Q nL base LL xs ad dC dI dA n0 s0 pc lo st h) (hd : decode cc pc = .ok (.irem, 1)) (hs : am_1I st (fun y st => am_1I st (fun x st => am_nz y (k (pc + 1) lo (.int (x - x / y * y) :: st) h))) = some res) : am_Go p l e R s m args below meth c Q nL base LL xs ad dC dI dA n0 s0 pc lo st h := by
  obtain ⟨y, st, rfl, hs1⟩ := am_1I_inv hs
  obtain ⟨x, st, rfl, hs2⟩ := am_1I_inv hs1
  obtain ⟨hne, hs3⟩ := am_nz_inv hs2
  intro H locs ls cells slots hl hR hS e1 e2
  exact lv_irem hx hb hd hne (hk _ _ _ _ hs3 H locs ls cells slots hl hR hS e1 e2)
theorem sm_ineg {p : Program} {l : Launch} {e : Env} {R : Room} {s : State} {m : MethodId} {args : Array Value} {below : List Frame} {meth : Method} {c : Code} {Q : State → Prop} {nL base LL : Nat} {xs : Nat → Int32} {ad : Nat → Nat} {dC : Nat → ClassId} {dI : Nat → Nat → Nat} {dA : Nat → ClassId} {n0 s0 : Nat} {cc : ByteArray} {pc : Nat} {lo : am_V} {st : List Value} {h : am_H} {k : am_N} {res : Value × am_H} (hx : p.tables.exec = Jvm.exec) (hb : c.code = cc) (hk : ∀ pc lo st h, k pc lo st h = some res → am_Go p l e R s m args below meth c Q nL base LL xs ad dC dI dA n0 s0 pc lo st h) (hd : decode cc pc = .ok (.ineg, 1)) (hs : am_1I st (fun x st => k (pc + 1) lo (.int (-x) :: st) h) = some res) : am_Go p l e R s m args below meth c Q nL base LL xs ad dC dI dA n0 s0 pc lo st h := by
  obtain ⟨x, st, rfl, hs1⟩ := am_1I_inv hs
  intro H locs ls cells slots hl hR hS e1 e2
  exact lv_ineg hx hb hd (hk _ _ _ _ hs1 H locs ls cells slots hl hR hS e1 e2)
theorem sm_ladd {p : Program} {l : Launch} {e : Env} {R : Room} {s : State} {m : MethodId} {args : Array Value} {below : List Frame} {meth : Method} {c : Code} {Q : State → Prop} {nL base LL : Nat} {xs : Nat → Int32} {ad : Nat → Nat} {dC : Nat → ClassId} {dI : Nat → Nat → Nat} {dA : Nat → ClassId} {n0 s0 : Nat} {cc : ByteArray} {pc : Nat} {lo : am_V} {st : List Value} {h : am_H} {k : am_N} {res : Value × am_H} (hx : p.tables.exec = Jvm.exec) (hb : c.code = cc) (hk : ∀ pc lo st h, k pc lo st h = some res → am_Go p l e R s m args below meth c Q nL base LL xs ad dC dI dA n0 s0 pc lo st h) (hd : decode cc pc = .ok (.ladd, 1)) (hs : am_1L st (fun y st => am_1L st (fun x st => k (pc + 1) lo (.long (x + y) :: st) h)) = some res) : am_Go p l e R s m args below meth c Q nL base LL xs ad dC dI dA n0 s0 pc lo st h := by
  obtain ⟨y, st, rfl, hs1⟩ := am_1L_inv hs
  obtain ⟨x, st, rfl, hs2⟩ := am_1L_inv hs1
  intro H locs ls cells slots hl hR hS e1 e2
  exact lv_ladd hx hb hd (hk _ _ _ _ hs2 H locs ls cells slots hl hR hS e1 e2)
theorem sm_lsub {p : Program} {l : Launch} {e : Env} {R : Room} {s : State} {m : MethodId} {args : Array Value} {below : List Frame} {meth : Method} {c : Code} {Q : State → Prop} {nL base LL : Nat} {xs : Nat → Int32} {ad : Nat → Nat} {dC : Nat → ClassId} {dI : Nat → Nat → Nat} {dA : Nat → ClassId} {n0 s0 : Nat} {cc : ByteArray} {pc : Nat} {lo : am_V} {st : List Value} {h : am_H} {k : am_N} {res : Value × am_H} (hx : p.tables.exec = Jvm.exec) (hb : c.code = cc) (hk : ∀ pc lo st h, k pc lo st h = some res → am_Go p l e R s m args below meth c Q nL base LL xs ad dC dI dA n0 s0 pc lo st h) (hd : decode cc pc = .ok (.lsub, 1)) (hs : am_1L st (fun y st => am_1L st (fun x st => k (pc + 1) lo (.long (x - y) :: st) h)) = some res) : am_Go p l e R s m args below meth c Q nL base LL xs ad dC dI dA n0 s0 pc lo st h := by
  obtain ⟨y, st, rfl, hs1⟩ := am_1L_inv hs
  obtain ⟨x, st, rfl, hs2⟩ := am_1L_inv hs1
  intro H locs ls cells slots hl hR hS e1 e2
  exact lv_lsub hx hb hd (hk _ _ _ _ hs2 H locs ls cells slots hl hR hS e1 e2)
theorem sm_lmul {p : Program} {l : Launch} {e : Env} {R : Room} {s : State} {m : MethodId} {args : Array Value} {below : List Frame} {meth : Method} {c : Code} {Q : State → Prop} {nL base LL : Nat} {xs : Nat → Int32} {ad : Nat → Nat} {dC : Nat → ClassId} {dI : Nat → Nat → Nat} {dA : Nat → ClassId} {n0 s0 : Nat} {cc : ByteArray} {pc : Nat} {lo : am_V} {st : List Value} {h : am_H} {k : am_N} {res : Value × am_H} (hx : p.tables.exec = Jvm.exec) (hb : c.code = cc) (hk : ∀ pc lo st h, k pc lo st h = some res → am_Go p l e R s m args below meth c Q nL base LL xs ad dC dI dA n0 s0 pc lo st h) (hd : decode cc pc = .ok (.lmul, 1)) (hs : am_1L st (fun y st => am_1L st (fun x st => k (pc + 1) lo (.long (x * y) :: st) h)) = some res) : am_Go p l e R s m args below meth c Q nL base LL xs ad dC dI dA n0 s0 pc lo st h := by
  obtain ⟨y, st, rfl, hs1⟩ := am_1L_inv hs
  obtain ⟨x, st, rfl, hs2⟩ := am_1L_inv hs1
  intro H locs ls cells slots hl hR hS e1 e2
  exact lv_lmul hx hb hd (hk _ _ _ _ hs2 H locs ls cells slots hl hR hS e1 e2)
theorem sm_land {p : Program} {l : Launch} {e : Env} {R : Room} {s : State} {m : MethodId} {args : Array Value} {below : List Frame} {meth : Method} {c : Code} {Q : State → Prop} {nL base LL : Nat} {xs : Nat → Int32} {ad : Nat → Nat} {dC : Nat → ClassId} {dI : Nat → Nat → Nat} {dA : Nat → ClassId} {n0 s0 : Nat} {cc : ByteArray} {pc : Nat} {lo : am_V} {st : List Value} {h : am_H} {k : am_N} {res : Value × am_H} (hx : p.tables.exec = Jvm.exec) (hb : c.code = cc) (hk : ∀ pc lo st h, k pc lo st h = some res → am_Go p l e R s m args below meth c Q nL base LL xs ad dC dI dA n0 s0 pc lo st h) (hd : decode cc pc = .ok (.land, 1)) (hs : am_1L st (fun y st => am_1L st (fun x st => k (pc + 1) lo (.long (x &&& y) :: st) h)) = some res) : am_Go p l e R s m args below meth c Q nL base LL xs ad dC dI dA n0 s0 pc lo st h := by
  obtain ⟨y, st, rfl, hs1⟩ := am_1L_inv hs
  obtain ⟨x, st, rfl, hs2⟩ := am_1L_inv hs1
  intro H locs ls cells slots hl hR hS e1 e2
  exact lv_land hx hb hd (hk _ _ _ _ hs2 H locs ls cells slots hl hR hS e1 e2)
theorem sm_lor {p : Program} {l : Launch} {e : Env} {R : Room} {s : State} {m : MethodId} {args : Array Value} {below : List Frame} {meth : Method} {c : Code} {Q : State → Prop} {nL base LL : Nat} {xs : Nat → Int32} {ad : Nat → Nat} {dC : Nat → ClassId} {dI : Nat → Nat → Nat} {dA : Nat → ClassId} {n0 s0 : Nat} {cc : ByteArray} {pc : Nat} {lo : am_V} {st : List Value} {h : am_H} {k : am_N} {res : Value × am_H} (hx : p.tables.exec = Jvm.exec) (hb : c.code = cc) (hk : ∀ pc lo st h, k pc lo st h = some res → am_Go p l e R s m args below meth c Q nL base LL xs ad dC dI dA n0 s0 pc lo st h) (hd : decode cc pc = .ok (.lor, 1)) (hs : am_1L st (fun y st => am_1L st (fun x st => k (pc + 1) lo (.long (x ||| y) :: st) h)) = some res) : am_Go p l e R s m args below meth c Q nL base LL xs ad dC dI dA n0 s0 pc lo st h := by
  obtain ⟨y, st, rfl, hs1⟩ := am_1L_inv hs
  obtain ⟨x, st, rfl, hs2⟩ := am_1L_inv hs1
  intro H locs ls cells slots hl hR hS e1 e2
  exact lv_lor hx hb hd (hk _ _ _ _ hs2 H locs ls cells slots hl hR hS e1 e2)
theorem sm_ldiv {p : Program} {l : Launch} {e : Env} {R : Room} {s : State} {m : MethodId} {args : Array Value} {below : List Frame} {meth : Method} {c : Code} {Q : State → Prop} {nL base LL : Nat} {xs : Nat → Int32} {ad : Nat → Nat} {dC : Nat → ClassId} {dI : Nat → Nat → Nat} {dA : Nat → ClassId} {n0 s0 : Nat} {cc : ByteArray} {pc : Nat} {lo : am_V} {st : List Value} {h : am_H} {k : am_N} {res : Value × am_H} (hx : p.tables.exec = Jvm.exec) (hb : c.code = cc) (hk : ∀ pc lo st h, k pc lo st h = some res → am_Go p l e R s m args below meth c Q nL base LL xs ad dC dI dA n0 s0 pc lo st h) (hd : decode cc pc = .ok (.ldiv, 1)) (hs : am_1L st (fun y st => am_1L st (fun x st => am_nzL y (k (pc + 1) lo (.long (x / y) :: st) h))) = some res) : am_Go p l e R s m args below meth c Q nL base LL xs ad dC dI dA n0 s0 pc lo st h := by
  obtain ⟨y, st, rfl, hs1⟩ := am_1L_inv hs
  obtain ⟨x, st, rfl, hs2⟩ := am_1L_inv hs1
  obtain ⟨hne, hs3⟩ := am_nzL_inv hs2
  intro H locs ls cells slots hl hR hS e1 e2
  exact lv_ldiv hx hb hd hne (hk _ _ _ _ hs3 H locs ls cells slots hl hR hS e1 e2)
theorem sm_lrem {p : Program} {l : Launch} {e : Env} {R : Room} {s : State} {m : MethodId} {args : Array Value} {below : List Frame} {meth : Method} {c : Code} {Q : State → Prop} {nL base LL : Nat} {xs : Nat → Int32} {ad : Nat → Nat} {dC : Nat → ClassId} {dI : Nat → Nat → Nat} {dA : Nat → ClassId} {n0 s0 : Nat} {cc : ByteArray} {pc : Nat} {lo : am_V} {st : List Value} {h : am_H} {k : am_N} {res : Value × am_H} (hx : p.tables.exec = Jvm.exec) (hb : c.code = cc) (hk : ∀ pc lo st h, k pc lo st h = some res → am_Go p l e R s m args below meth c Q nL base LL xs ad dC dI dA n0 s0 pc lo st h) (hd : decode cc pc = .ok (.lrem, 1)) (hs : am_1L st (fun y st => am_1L st (fun x st => am_nzL y (k (pc + 1) lo (.long (x - x / y * y) :: st) h))) = some res) : am_Go p l e R s m args below meth c Q nL base LL xs ad dC dI dA n0 s0 pc lo st h := by
  obtain ⟨y, st, rfl, hs1⟩ := am_1L_inv hs
  obtain ⟨x, st, rfl, hs2⟩ := am_1L_inv hs1
  obtain ⟨hne, hs3⟩ := am_nzL_inv hs2
  intro H locs ls cells slots hl hR hS e1 e2
  exact lv_lrem hx hb hd hne (hk _ _ _ _ hs3 H locs ls cells slots hl hR hS e1 e2)
theorem sm_lneg {p : Program} {l : Launch} {e : Env} {R : Room} {s : State} {m : MethodId} {args : Array Value} {below : List Frame} {meth : Method} {c : Code} {Q : State → Prop} {nL base LL : Nat} {xs : Nat → Int32} {ad : Nat → Nat} {dC : Nat → ClassId} {dI : Nat → Nat → Nat} {dA : Nat → ClassId} {n0 s0 : Nat} {cc : ByteArray} {pc : Nat} {lo : am_V} {st : List Value} {h : am_H} {k : am_N} {res : Value × am_H} (hx : p.tables.exec = Jvm.exec) (hb : c.code = cc) (hk : ∀ pc lo st h, k pc lo st h = some res → am_Go p l e R s m args below meth c Q nL base LL xs ad dC dI dA n0 s0 pc lo st h) (hd : decode cc pc = .ok (.lneg, 1)) (hs : am_1L st (fun x st => k (pc + 1) lo (.long (-x) :: st) h) = some res) : am_Go p l e R s m args below meth c Q nL base LL xs ad dC dI dA n0 s0 pc lo st h := by
  obtain ⟨x, st, rfl, hs1⟩ := am_1L_inv hs
  intro H locs ls cells slots hl hR hS e1 e2
  exact lv_lneg hx hb hd (hk _ _ _ _ hs1 H locs ls cells slots hl hR hS e1 e2)
theorem sm_lshl {p : Program} {l : Launch} {e : Env} {R : Room} {s : State} {m : MethodId} {args : Array Value} {below : List Frame} {meth : Method} {c : Code} {Q : State → Prop} {nL base LL : Nat} {xs : Nat → Int32} {ad : Nat → Nat} {dC : Nat → ClassId} {dI : Nat → Nat → Nat} {dA : Nat → ClassId} {n0 s0 : Nat} {cc : ByteArray} {pc : Nat} {lo : am_V} {st : List Value} {h : am_H} {k : am_N} {res : Value × am_H} (hx : p.tables.exec = Jvm.exec) (hb : c.code = cc) (hk : ∀ pc lo st h, k pc lo st h = some res → am_Go p l e R s m args below meth c Q nL base LL xs ad dC dI dA n0 s0 pc lo st h) (hd : decode cc pc = .ok (.lshl, 1)) (hs : am_1I st (fun y st => am_1L st (fun x st => k (pc + 1) lo (.long (x <<< (y.toInt64 &&& 63)) :: st) h)) = some res) : am_Go p l e R s m args below meth c Q nL base LL xs ad dC dI dA n0 s0 pc lo st h := by
  obtain ⟨y, st, rfl, hs1⟩ := am_1I_inv hs
  obtain ⟨x, st, rfl, hs2⟩ := am_1L_inv hs1
  intro H locs ls cells slots hl hR hS e1 e2
  exact lv_lshl hx hb hd rfl (hk _ _ _ _ hs2 H locs ls cells slots hl hR hS e1 e2)
theorem sm_lcmp {p : Program} {l : Launch} {e : Env} {R : Room} {s : State} {m : MethodId} {args : Array Value} {below : List Frame} {meth : Method} {c : Code} {Q : State → Prop} {nL base LL : Nat} {xs : Nat → Int32} {ad : Nat → Nat} {dC : Nat → ClassId} {dI : Nat → Nat → Nat} {dA : Nat → ClassId} {n0 s0 : Nat} {cc : ByteArray} {pc : Nat} {lo : am_V} {st : List Value} {h : am_H} {k : am_N} {res : Value × am_H} (hx : p.tables.exec = Jvm.exec) (hb : c.code = cc) (hk : ∀ pc lo st h, k pc lo st h = some res → am_Go p l e R s m args below meth c Q nL base LL xs ad dC dI dA n0 s0 pc lo st h) (hd : decode cc pc = .ok (.lcmp, 1)) (hs : am_1L st (fun y st => am_1L st (fun x st => k (pc + 1) lo (.int (lg_cmp x y) :: st) h)) = some res) : am_Go p l e R s m args below meth c Q nL base LL xs ad dC dI dA n0 s0 pc lo st h := by
  obtain ⟨y, st, rfl, hs1⟩ := am_1L_inv hs
  obtain ⟨x, st, rfl, hs2⟩ := am_1L_inv hs1
  intro H locs ls cells slots hl hR hS e1 e2
  exact W.lcmp hx hb hd (hk _ _ _ _ hs2 H locs ls cells slots hl hR hS e1 e2)
theorem sm_i2l {p : Program} {l : Launch} {e : Env} {R : Room} {s : State} {m : MethodId} {args : Array Value} {below : List Frame} {meth : Method} {c : Code} {Q : State → Prop} {nL base LL : Nat} {xs : Nat → Int32} {ad : Nat → Nat} {dC : Nat → ClassId} {dI : Nat → Nat → Nat} {dA : Nat → ClassId} {n0 s0 : Nat} {cc : ByteArray} {pc : Nat} {lo : am_V} {st : List Value} {h : am_H} {k : am_N} {res : Value × am_H} (hx : p.tables.exec = Jvm.exec) (hb : c.code = cc) (hk : ∀ pc lo st h, k pc lo st h = some res → am_Go p l e R s m args below meth c Q nL base LL xs ad dC dI dA n0 s0 pc lo st h) (hd : decode cc pc = .ok (.i2l, 1)) (hs : am_1I st (fun x st => k (pc + 1) lo (.long x.toInt64 :: st) h) = some res) : am_Go p l e R s m args below meth c Q nL base LL xs ad dC dI dA n0 s0 pc lo st h := by
  obtain ⟨x, st, rfl, hs1⟩ := am_1I_inv hs
  intro H locs ls cells slots hl hR hS e1 e2
  exact lv_i2l hx hb hd rfl (hk _ _ _ _ hs1 H locs ls cells slots hl hR hS e1 e2)
theorem sm_l2i {p : Program} {l : Launch} {e : Env} {R : Room} {s : State} {m : MethodId} {args : Array Value} {below : List Frame} {meth : Method} {c : Code} {Q : State → Prop} {nL base LL : Nat} {xs : Nat → Int32} {ad : Nat → Nat} {dC : Nat → ClassId} {dI : Nat → Nat → Nat} {dA : Nat → ClassId} {n0 s0 : Nat} {cc : ByteArray} {pc : Nat} {lo : am_V} {st : List Value} {h : am_H} {k : am_N} {res : Value × am_H} (hx : p.tables.exec = Jvm.exec) (hb : c.code = cc) (hk : ∀ pc lo st h, k pc lo st h = some res → am_Go p l e R s m args below meth c Q nL base LL xs ad dC dI dA n0 s0 pc lo st h) (hd : decode cc pc = .ok (.l2i, 1)) (hs : am_1L st (fun x st => k (pc + 1) lo (.int x.toInt32 :: st) h) = some res) : am_Go p l e R s m args below meth c Q nL base LL xs ad dC dI dA n0 s0 pc lo st h := by
  obtain ⟨x, st, rfl, hs1⟩ := am_1L_inv hs
  intro H locs ls cells slots hl hR hS e1 e2
  exact lv_l2i hx hb hd rfl (hk _ _ _ _ hs1 H locs ls cells slots hl hR hS e1 e2)
theorem sm_i2b {p : Program} {l : Launch} {e : Env} {R : Room} {s : State} {m : MethodId} {args : Array Value} {below : List Frame} {meth : Method} {c : Code} {Q : State → Prop} {nL base LL : Nat} {xs : Nat → Int32} {ad : Nat → Nat} {dC : Nat → ClassId} {dI : Nat → Nat → Nat} {dA : Nat → ClassId} {n0 s0 : Nat} {cc : ByteArray} {pc : Nat} {lo : am_V} {st : List Value} {h : am_H} {k : am_N} {res : Value × am_H} (hx : p.tables.exec = Jvm.exec) (hb : c.code = cc) (hk : ∀ pc lo st h, k pc lo st h = some res → am_Go p l e R s m args below meth c Q nL base LL xs ad dC dI dA n0 s0 pc lo st h) (hd : decode cc pc = .ok (.i2b, 1)) (hs : am_1I st (fun x st => k (pc + 1) lo (.int x.toInt8.toInt32 :: st) h) = some res) : am_Go p l e R s m args below meth c Q nL base LL xs ad dC dI dA n0 s0 pc lo st h := by
  obtain ⟨x, st, rfl, hs1⟩ := am_1I_inv hs
  intro H locs ls cells slots hl hR hS e1 e2
  exact lv_i2b hx hb hd rfl (hk _ _ _ _ hs1 H locs ls cells slots hl hR hS e1 e2)
theorem sm_i2s {p : Program} {l : Launch} {e : Env} {R : Room} {s : State} {m : MethodId} {args : Array Value} {below : List Frame} {meth : Method} {c : Code} {Q : State → Prop} {nL base LL : Nat} {xs : Nat → Int32} {ad : Nat → Nat} {dC : Nat → ClassId} {dI : Nat → Nat → Nat} {dA : Nat → ClassId} {n0 s0 : Nat} {cc : ByteArray} {pc : Nat} {lo : am_V} {st : List Value} {h : am_H} {k : am_N} {res : Value × am_H} (hx : p.tables.exec = Jvm.exec) (hb : c.code = cc) (hk : ∀ pc lo st h, k pc lo st h = some res → am_Go p l e R s m args below meth c Q nL base LL xs ad dC dI dA n0 s0 pc lo st h) (hd : decode cc pc = .ok (.i2s, 1)) (hs : am_1I st (fun x st => k (pc + 1) lo (.int x.toInt16.toInt32 :: st) h) = some res) : am_Go p l e R s m args below meth c Q nL base LL xs ad dC dI dA n0 s0 pc lo st h := by
  obtain ⟨x, st, rfl, hs1⟩ := am_1I_inv hs
  intro H locs ls cells slots hl hR hS e1 e2
  exact lv_i2s hx hb hd rfl (hk _ _ _ _ hs1 H locs ls cells slots hl hR hS e1 e2)
theorem sm_dup {p : Program} {l : Launch} {e : Env} {R : Room} {s : State} {m : MethodId} {args : Array Value} {below : List Frame} {meth : Method} {c : Code} {Q : State → Prop} {nL base LL : Nat} {xs : Nat → Int32} {ad : Nat → Nat} {dC : Nat → ClassId} {dI : Nat → Nat → Nat} {dA : Nat → ClassId} {n0 s0 : Nat} {cc : ByteArray} {pc : Nat} {lo : am_V} {st : List Value} {h : am_H} {k : am_N} {res : Value × am_H} (hx : p.tables.exec = Jvm.exec) (hb : c.code = cc) (hk : ∀ pc lo st h, k pc lo st h = some res → am_Go p l e R s m args below meth c Q nL base LL xs ad dC dI dA n0 s0 pc lo st h) (hd : decode cc pc = .ok (.dup, 1)) (hs : am_1V st (fun x st => k (pc + 1) lo (x :: x :: st) h) = some res) : am_Go p l e R s m args below meth c Q nL base LL xs ad dC dI dA n0 s0 pc lo st h := by
  obtain ⟨x, st, rfl, hc, hs1⟩ := am_1V_inv hs
  intro H locs ls cells slots hl hR hS e1 e2
  exact lv_dup hx hb hd (by rw [am_rv_cat]; exact hc) (hk _ _ _ _ hs1 H locs ls cells slots hl hR hS e1 e2)
theorem sm_pop {p : Program} {l : Launch} {e : Env} {R : Room} {s : State} {m : MethodId} {args : Array Value} {below : List Frame} {meth : Method} {c : Code} {Q : State → Prop} {nL base LL : Nat} {xs : Nat → Int32} {ad : Nat → Nat} {dC : Nat → ClassId} {dI : Nat → Nat → Nat} {dA : Nat → ClassId} {n0 s0 : Nat} {cc : ByteArray} {pc : Nat} {lo : am_V} {st : List Value} {h : am_H} {k : am_N} {res : Value × am_H} (hx : p.tables.exec = Jvm.exec) (hb : c.code = cc) (hk : ∀ pc lo st h, k pc lo st h = some res → am_Go p l e R s m args below meth c Q nL base LL xs ad dC dI dA n0 s0 pc lo st h) (hd : decode cc pc = .ok (.pop, 1)) (hs : am_1V st (fun _ st => k (pc + 1) lo st h) = some res) : am_Go p l e R s m args below meth c Q nL base LL xs ad dC dI dA n0 s0 pc lo st h := by
  obtain ⟨x, st, rfl, hc, hs1⟩ := am_1V_inv hs
  intro H locs ls cells slots hl hR hS e1 e2
  exact lv_pop hx hb hd (by rw [am_rv_cat]; exact hc) (hk _ _ _ _ hs1 H locs ls cells slots hl hR hS e1 e2)
theorem sm_dup2 {p : Program} {l : Launch} {e : Env} {R : Room} {s : State} {m : MethodId} {args : Array Value} {below : List Frame} {meth : Method} {c : Code} {Q : State → Prop} {nL base LL : Nat} {xs : Nat → Int32} {ad : Nat → Nat} {dC : Nat → ClassId} {dI : Nat → Nat → Nat} {dA : Nat → ClassId} {n0 s0 : Nat} {cc : ByteArray} {pc : Nat} {lo : am_V} {st : List Value} {h : am_H} {k : am_N} {res : Value × am_H} (hx : p.tables.exec = Jvm.exec) (hb : c.code = cc) (hk : ∀ pc lo st h, k pc lo st h = some res → am_Go p l e R s m args below meth c Q nL base LL xs ad dC dI dA n0 s0 pc lo st h) (hd : decode cc pc = .ok (.dup2, 1)) (hs : am_1V st (fun x st => am_1V st (fun y st => k (pc + 1) lo (x :: y :: x :: y :: st) h)) = some res) : am_Go p l e R s m args below meth c Q nL base LL xs ad dC dI dA n0 s0 pc lo st h := by
  obtain ⟨x, st, rfl, hc, hs1⟩ := am_1V_inv hs
  obtain ⟨y, st, rfl, hc2, hs2⟩ := am_1V_inv hs1
  intro H locs ls cells slots hl hR hS e1 e2
  exact lv_dup2_11 hx hb hd (by rw [am_rv_cat]; exact hc) (by rw [am_rv_cat]; exact hc2) (hk _ _ _ _ hs2 H locs ls cells slots hl hR hS e1 e2)
theorem sm_if_eq {p : Program} {l : Launch} {e : Env} {R : Room} {s : State} {m : MethodId} {args : Array Value} {below : List Frame} {meth : Method} {c : Code} {Q : State → Prop} {nL base LL : Nat} {xs : Nat → Int32} {ad : Nat → Nat} {dC : Nat → ClassId} {dI : Nat → Nat → Nat} {dA : Nat → ClassId} {n0 s0 : Nat} {cc : ByteArray} {pc : Nat} {lo : am_V} {st : List Value} {h : am_H} {k : am_N} {res : Value × am_H} (hx : p.tables.exec = Jvm.exec) (hb : c.code = cc) (hk : ∀ pc lo st h, k pc lo st h = some res → am_Go p l e R s m args below meth c Q nL base LL xs ad dC dI dA n0 s0 pc lo st h) {off : Int} {tgt : Nat} (hd : decode cc pc = .ok (.ifCond .eq off, 3)) (ht : (pc : Int) + off = (tgt : Int)) (hs : am_1I st (fun x st => if x = 0 then k tgt lo st h else k (pc + 3) lo st h) = some res) : am_Go p l e R s m args below meth c Q nL base LL xs ad dC dI dA n0 s0 pc lo st h := by
  obtain ⟨x, st, rfl, hs1⟩ := am_1I_inv hs
  intro H locs ls cells slots hl hR hS e1 e2
  refine lv_if_eq hx hb hd ht (fun q => hk _ _ _ _ ?_ H locs ls cells slots hl hR hS e1 e2) (fun q => hk _ _ _ _ ?_ H locs ls cells slots hl hR hS e1 e2)
  · rw [if_pos q] at hs1; exact hs1
  · rw [if_neg q] at hs1; exact hs1
theorem sm_icmp_eq {p : Program} {l : Launch} {e : Env} {R : Room} {s : State} {m : MethodId} {args : Array Value} {below : List Frame} {meth : Method} {c : Code} {Q : State → Prop} {nL base LL : Nat} {xs : Nat → Int32} {ad : Nat → Nat} {dC : Nat → ClassId} {dI : Nat → Nat → Nat} {dA : Nat → ClassId} {n0 s0 : Nat} {cc : ByteArray} {pc : Nat} {lo : am_V} {st : List Value} {h : am_H} {k : am_N} {res : Value × am_H} (hx : p.tables.exec = Jvm.exec) (hb : c.code = cc) (hk : ∀ pc lo st h, k pc lo st h = some res → am_Go p l e R s m args below meth c Q nL base LL xs ad dC dI dA n0 s0 pc lo st h) {off : Int} {tgt : Nat} (hd : decode cc pc = .ok (.if_icmp .eq off, 3)) (ht : (pc : Int) + off = (tgt : Int)) (hs : am_1I st (fun y st => am_1I st (fun x st => if x = y then k tgt lo st h else k (pc + 3) lo st h)) = some res) : am_Go p l e R s m args below meth c Q nL base LL xs ad dC dI dA n0 s0 pc lo st h := by
  obtain ⟨y, st, rfl, hs1⟩ := am_1I_inv hs
  obtain ⟨x, st, rfl, hs2⟩ := am_1I_inv hs1
  intro H locs ls cells slots hl hR hS e1 e2
  refine lv_icmp_eq hx hb hd ht (fun q => hk _ _ _ _ ?_ H locs ls cells slots hl hR hS e1 e2) (fun q => hk _ _ _ _ ?_ H locs ls cells slots hl hR hS e1 e2)
  · rw [if_pos q] at hs2; exact hs2
  · rw [if_neg q] at hs2; exact hs2
theorem sm_if_ne {p : Program} {l : Launch} {e : Env} {R : Room} {s : State} {m : MethodId} {args : Array Value} {below : List Frame} {meth : Method} {c : Code} {Q : State → Prop} {nL base LL : Nat} {xs : Nat → Int32} {ad : Nat → Nat} {dC : Nat → ClassId} {dI : Nat → Nat → Nat} {dA : Nat → ClassId} {n0 s0 : Nat} {cc : ByteArray} {pc : Nat} {lo : am_V} {st : List Value} {h : am_H} {k : am_N} {res : Value × am_H} (hx : p.tables.exec = Jvm.exec) (hb : c.code = cc) (hk : ∀ pc lo st h, k pc lo st h = some res → am_Go p l e R s m args below meth c Q nL base LL xs ad dC dI dA n0 s0 pc lo st h) {off : Int} {tgt : Nat} (hd : decode cc pc = .ok (.ifCond .ne off, 3)) (ht : (pc : Int) + off = (tgt : Int)) (hs : am_1I st (fun x st => if x = 0 then k (pc + 3) lo st h else k tgt lo st h) = some res) : am_Go p l e R s m args below meth c Q nL base LL xs ad dC dI dA n0 s0 pc lo st h := by
  obtain ⟨x, st, rfl, hs1⟩ := am_1I_inv hs
  intro H locs ls cells slots hl hR hS e1 e2
  refine lv_if_ne hx hb hd ht (fun q => hk _ _ _ _ ?_ H locs ls cells slots hl hR hS e1 e2) (fun q => hk _ _ _ _ ?_ H locs ls cells slots hl hR hS e1 e2)
  · rw [if_neg q] at hs1; exact hs1
  · rw [if_pos q] at hs1; exact hs1
theorem sm_icmp_ne {p : Program} {l : Launch} {e : Env} {R : Room} {s : State} {m : MethodId} {args : Array Value} {below : List Frame} {meth : Method} {c : Code} {Q : State → Prop} {nL base LL : Nat} {xs : Nat → Int32} {ad : Nat → Nat} {dC : Nat → ClassId} {dI : Nat → Nat → Nat} {dA : Nat → ClassId} {n0 s0 : Nat} {cc : ByteArray} {pc : Nat} {lo : am_V} {st : List Value} {h : am_H} {k : am_N} {res : Value × am_H} (hx : p.tables.exec = Jvm.exec) (hb : c.code = cc) (hk : ∀ pc lo st h, k pc lo st h = some res → am_Go p l e R s m args below meth c Q nL base LL xs ad dC dI dA n0 s0 pc lo st h) {off : Int} {tgt : Nat} (hd : decode cc pc = .ok (.if_icmp .ne off, 3)) (ht : (pc : Int) + off = (tgt : Int)) (hs : am_1I st (fun y st => am_1I st (fun x st => if x = y then k (pc + 3) lo st h else k tgt lo st h)) = some res) : am_Go p l e R s m args below meth c Q nL base LL xs ad dC dI dA n0 s0 pc lo st h := by
  obtain ⟨y, st, rfl, hs1⟩ := am_1I_inv hs
  obtain ⟨x, st, rfl, hs2⟩ := am_1I_inv hs1
  intro H locs ls cells slots hl hR hS e1 e2
  refine lv_icmp_ne hx hb hd ht (fun q => hk _ _ _ _ ?_ H locs ls cells slots hl hR hS e1 e2) (fun q => hk _ _ _ _ ?_ H locs ls cells slots hl hR hS e1 e2)
  · rw [if_neg q] at hs2; exact hs2
  · rw [if_pos q] at hs2; exact hs2
theorem sm_if_lt {p : Program} {l : Launch} {e : Env} {R : Room} {s : State} {m : MethodId} {args : Array Value} {below : List Frame} {meth : Method} {c : Code} {Q : State → Prop} {nL base LL : Nat} {xs : Nat → Int32} {ad : Nat → Nat} {dC : Nat → ClassId} {dI : Nat → Nat → Nat} {dA : Nat → ClassId} {n0 s0 : Nat} {cc : ByteArray} {pc : Nat} {lo : am_V} {st : List Value} {h : am_H} {k : am_N} {res : Value × am_H} (hx : p.tables.exec = Jvm.exec) (hb : c.code = cc) (hk : ∀ pc lo st h, k pc lo st h = some res → am_Go p l e R s m args below meth c Q nL base LL xs ad dC dI dA n0 s0 pc lo st h) {off : Int} {tgt : Nat} (hd : decode cc pc = .ok (.ifCond .lt off, 3)) (ht : (pc : Int) + off = (tgt : Int)) (hs : am_1I st (fun x st => if x < 0 then k tgt lo st h else k (pc + 3) lo st h) = some res) : am_Go p l e R s m args below meth c Q nL base LL xs ad dC dI dA n0 s0 pc lo st h := by
  obtain ⟨x, st, rfl, hs1⟩ := am_1I_inv hs
  intro H locs ls cells slots hl hR hS e1 e2
  refine lv_if_lt hx hb hd ht (fun q => hk _ _ _ _ ?_ H locs ls cells slots hl hR hS e1 e2) (fun q => hk _ _ _ _ ?_ H locs ls cells slots hl hR hS e1 e2)
  · rw [if_pos q] at hs1; exact hs1
  · rw [if_neg q] at hs1; exact hs1
theorem sm_icmp_lt {p : Program} {l : Launch} {e : Env} {R : Room} {s : State} {m : MethodId} {args : Array Value} {below : List Frame} {meth : Method} {c : Code} {Q : State → Prop} {nL base LL : Nat} {xs : Nat → Int32} {ad : Nat → Nat} {dC : Nat → ClassId} {dI : Nat → Nat → Nat} {dA : Nat → ClassId} {n0 s0 : Nat} {cc : ByteArray} {pc : Nat} {lo : am_V} {st : List Value} {h : am_H} {k : am_N} {res : Value × am_H} (hx : p.tables.exec = Jvm.exec) (hb : c.code = cc) (hk : ∀ pc lo st h, k pc lo st h = some res → am_Go p l e R s m args below meth c Q nL base LL xs ad dC dI dA n0 s0 pc lo st h) {off : Int} {tgt : Nat} (hd : decode cc pc = .ok (.if_icmp .lt off, 3)) (ht : (pc : Int) + off = (tgt : Int)) (hs : am_1I st (fun y st => am_1I st (fun x st => if x < y then k tgt lo st h else k (pc + 3) lo st h)) = some res) : am_Go p l e R s m args below meth c Q nL base LL xs ad dC dI dA n0 s0 pc lo st h := by
  obtain ⟨y, st, rfl, hs1⟩ := am_1I_inv hs
  obtain ⟨x, st, rfl, hs2⟩ := am_1I_inv hs1
  intro H locs ls cells slots hl hR hS e1 e2
  refine lv_icmp_lt hx hb hd ht (fun q => hk _ _ _ _ ?_ H locs ls cells slots hl hR hS e1 e2) (fun q => hk _ _ _ _ ?_ H locs ls cells slots hl hR hS e1 e2)
  · rw [if_pos q] at hs2; exact hs2
  · rw [if_neg q] at hs2; exact hs2
theorem sm_if_ge {p : Program} {l : Launch} {e : Env} {R : Room} {s : State} {m : MethodId} {args : Array Value} {below : List Frame} {meth : Method} {c : Code} {Q : State → Prop} {nL base LL : Nat} {xs : Nat → Int32} {ad : Nat → Nat} {dC : Nat → ClassId} {dI : Nat → Nat → Nat} {dA : Nat → ClassId} {n0 s0 : Nat} {cc : ByteArray} {pc : Nat} {lo : am_V} {st : List Value} {h : am_H} {k : am_N} {res : Value × am_H} (hx : p.tables.exec = Jvm.exec) (hb : c.code = cc) (hk : ∀ pc lo st h, k pc lo st h = some res → am_Go p l e R s m args below meth c Q nL base LL xs ad dC dI dA n0 s0 pc lo st h) {off : Int} {tgt : Nat} (hd : decode cc pc = .ok (.ifCond .ge off, 3)) (ht : (pc : Int) + off = (tgt : Int)) (hs : am_1I st (fun x st => if x < 0 then k (pc + 3) lo st h else k tgt lo st h) = some res) : am_Go p l e R s m args below meth c Q nL base LL xs ad dC dI dA n0 s0 pc lo st h := by
  obtain ⟨x, st, rfl, hs1⟩ := am_1I_inv hs
  intro H locs ls cells slots hl hR hS e1 e2
  refine lv_if_ge hx hb hd ht (fun q => hk _ _ _ _ ?_ H locs ls cells slots hl hR hS e1 e2) (fun q => hk _ _ _ _ ?_ H locs ls cells slots hl hR hS e1 e2)
  · rw [if_neg (Int32.not_lt.mpr q)] at hs1; exact hs1
  · rw [if_pos (Int32.not_le.mp q)] at hs1; exact hs1
theorem sm_icmp_ge {p : Program} {l : Launch} {e : Env} {R : Room} {s : State} {m : MethodId} {args : Array Value} {below : List Frame} {meth : Method} {c : Code} {Q : State → Prop} {nL base LL : Nat} {xs : Nat → Int32} {ad : Nat → Nat} {dC : Nat → ClassId} {dI : Nat → Nat → Nat} {dA : Nat → ClassId} {n0 s0 : Nat} {cc : ByteArray} {pc : Nat} {lo : am_V} {st : List Value} {h : am_H} {k : am_N} {res : Value × am_H} (hx : p.tables.exec = Jvm.exec) (hb : c.code = cc) (hk : ∀ pc lo st h, k pc lo st h = some res → am_Go p l e R s m args below meth c Q nL base LL xs ad dC dI dA n0 s0 pc lo st h) {off : Int} {tgt : Nat} (hd : decode cc pc = .ok (.if_icmp .ge off, 3)) (ht : (pc : Int) + off = (tgt : Int)) (hs : am_1I st (fun y st => am_1I st (fun x st => if x < y then k (pc + 3) lo st h else k tgt lo st h)) = some res) : am_Go p l e R s m args below meth c Q nL base LL xs ad dC dI dA n0 s0 pc lo st h := by
  obtain ⟨y, st, rfl, hs1⟩ := am_1I_inv hs
  obtain ⟨x, st, rfl, hs2⟩ := am_1I_inv hs1
  intro H locs ls cells slots hl hR hS e1 e2
  refine lv_icmp_ge hx hb hd ht (fun q => hk _ _ _ _ ?_ H locs ls cells slots hl hR hS e1 e2) (fun q => hk _ _ _ _ ?_ H locs ls cells slots hl hR hS e1 e2)
  · rw [if_neg (Int32.not_lt.mpr q)] at hs2; exact hs2
  · rw [if_pos (Int32.not_le.mp q)] at hs2; exact hs2
theorem sm_if_gt {p : Program} {l : Launch} {e : Env} {R : Room} {s : State} {m : MethodId} {args : Array Value} {below : List Frame} {meth : Method} {c : Code} {Q : State → Prop} {nL base LL : Nat} {xs : Nat → Int32} {ad : Nat → Nat} {dC : Nat → ClassId} {dI : Nat → Nat → Nat} {dA : Nat → ClassId} {n0 s0 : Nat} {cc : ByteArray} {pc : Nat} {lo : am_V} {st : List Value} {h : am_H} {k : am_N} {res : Value × am_H} (hx : p.tables.exec = Jvm.exec) (hb : c.code = cc) (hk : ∀ pc lo st h, k pc lo st h = some res → am_Go p l e R s m args below meth c Q nL base LL xs ad dC dI dA n0 s0 pc lo st h) {off : Int} {tgt : Nat} (hd : decode cc pc = .ok (.ifCond .gt off, 3)) (ht : (pc : Int) + off = (tgt : Int)) (hs : am_1I st (fun x st => if 0 < x then k tgt lo st h else k (pc + 3) lo st h) = some res) : am_Go p l e R s m args below meth c Q nL base LL xs ad dC dI dA n0 s0 pc lo st h := by
  obtain ⟨x, st, rfl, hs1⟩ := am_1I_inv hs
  intro H locs ls cells slots hl hR hS e1 e2
  refine lv_if_gt hx hb hd ht (fun q => hk _ _ _ _ ?_ H locs ls cells slots hl hR hS e1 e2) (fun q => hk _ _ _ _ ?_ H locs ls cells slots hl hR hS e1 e2)
  · rw [if_pos q] at hs1; exact hs1
  · rw [if_neg q] at hs1; exact hs1
theorem sm_icmp_gt {p : Program} {l : Launch} {e : Env} {R : Room} {s : State} {m : MethodId} {args : Array Value} {below : List Frame} {meth : Method} {c : Code} {Q : State → Prop} {nL base LL : Nat} {xs : Nat → Int32} {ad : Nat → Nat} {dC : Nat → ClassId} {dI : Nat → Nat → Nat} {dA : Nat → ClassId} {n0 s0 : Nat} {cc : ByteArray} {pc : Nat} {lo : am_V} {st : List Value} {h : am_H} {k : am_N} {res : Value × am_H} (hx : p.tables.exec = Jvm.exec) (hb : c.code = cc) (hk : ∀ pc lo st h, k pc lo st h = some res → am_Go p l e R s m args below meth c Q nL base LL xs ad dC dI dA n0 s0 pc lo st h) {off : Int} {tgt : Nat} (hd : decode cc pc = .ok (.if_icmp .gt off, 3)) (ht : (pc : Int) + off = (tgt : Int)) (hs : am_1I st (fun y st => am_1I st (fun x st => if y < x then k tgt lo st h else k (pc + 3) lo st h)) = some res) : am_Go p l e R s m args below meth c Q nL base LL xs ad dC dI dA n0 s0 pc lo st h := by
  obtain ⟨y, st, rfl, hs1⟩ := am_1I_inv hs
  obtain ⟨x, st, rfl, hs2⟩ := am_1I_inv hs1
  intro H locs ls cells slots hl hR hS e1 e2
  refine lv_icmp_gt hx hb hd ht (fun q => hk _ _ _ _ ?_ H locs ls cells slots hl hR hS e1 e2) (fun q => hk _ _ _ _ ?_ H locs ls cells slots hl hR hS e1 e2)
  · rw [if_pos q] at hs2; exact hs2
  · rw [if_neg q] at hs2; exact hs2
theorem sm_if_le {p : Program} {l : Launch} {e : Env} {R : Room} {s : State} {m : MethodId} {args : Array Value} {below : List Frame} {meth : Method} {c : Code} {Q : State → Prop} {nL base LL : Nat} {xs : Nat → Int32} {ad : Nat → Nat} {dC : Nat → ClassId} {dI : Nat → Nat → Nat} {dA : Nat → ClassId} {n0 s0 : Nat} {cc : ByteArray} {pc : Nat} {lo : am_V} {st : List Value} {h : am_H} {k : am_N} {res : Value × am_H} (hx : p.tables.exec = Jvm.exec) (hb : c.code = cc) (hk : ∀ pc lo st h, k pc lo st h = some res → am_Go p l e R s m args below meth c Q nL base LL xs ad dC dI dA n0 s0 pc lo st h) {off : Int} {tgt : Nat} (hd : decode cc pc = .ok (.ifCond .le off, 3)) (ht : (pc : Int) + off = (tgt : Int)) (hs : am_1I st (fun x st => if 0 < x then k (pc + 3) lo st h else k tgt lo st h) = some res) : am_Go p l e R s m args below meth c Q nL base LL xs ad dC dI dA n0 s0 pc lo st h := by
  obtain ⟨x, st, rfl, hs1⟩ := am_1I_inv hs
  intro H locs ls cells slots hl hR hS e1 e2
  refine lv_if_le hx hb hd ht (fun q => hk _ _ _ _ ?_ H locs ls cells slots hl hR hS e1 e2) (fun q => hk _ _ _ _ ?_ H locs ls cells slots hl hR hS e1 e2)
  · rw [if_neg (Int32.not_lt.mpr q)] at hs1; exact hs1
  · rw [if_pos (Int32.not_le.mp q)] at hs1; exact hs1
theorem sm_icmp_le {p : Program} {l : Launch} {e : Env} {R : Room} {s : State} {m : MethodId} {args : Array Value} {below : List Frame} {meth : Method} {c : Code} {Q : State → Prop} {nL base LL : Nat} {xs : Nat → Int32} {ad : Nat → Nat} {dC : Nat → ClassId} {dI : Nat → Nat → Nat} {dA : Nat → ClassId} {n0 s0 : Nat} {cc : ByteArray} {pc : Nat} {lo : am_V} {st : List Value} {h : am_H} {k : am_N} {res : Value × am_H} (hx : p.tables.exec = Jvm.exec) (hb : c.code = cc) (hk : ∀ pc lo st h, k pc lo st h = some res → am_Go p l e R s m args below meth c Q nL base LL xs ad dC dI dA n0 s0 pc lo st h) {off : Int} {tgt : Nat} (hd : decode cc pc = .ok (.if_icmp .le off, 3)) (ht : (pc : Int) + off = (tgt : Int)) (hs : am_1I st (fun y st => am_1I st (fun x st => if y < x then k (pc + 3) lo st h else k tgt lo st h)) = some res) : am_Go p l e R s m args below meth c Q nL base LL xs ad dC dI dA n0 s0 pc lo st h := by
  obtain ⟨y, st, rfl, hs1⟩ := am_1I_inv hs
  obtain ⟨x, st, rfl, hs2⟩ := am_1I_inv hs1
  intro H locs ls cells slots hl hR hS e1 e2
  refine lv_icmp_le hx hb hd ht (fun q => hk _ _ _ _ ?_ H locs ls cells slots hl hR hS e1 e2) (fun q => hk _ _ _ _ ?_ H locs ls cells slots hl hR hS e1 e2)
  · rw [if_neg (Int32.not_lt.mpr q)] at hs2; exact hs2
  · rw [if_pos (Int32.not_le.mp q)] at hs2; exact hs2
theorem sm_goto {p : Program} {l : Launch} {e : Env} {R : Room} {s : State} {m : MethodId} {args : Array Value} {below : List Frame} {meth : Method} {c : Code} {Q : State → Prop} {nL base LL : Nat} {xs : Nat → Int32} {ad : Nat → Nat} {dC : Nat → ClassId} {dI : Nat → Nat → Nat} {dA : Nat → ClassId} {n0 s0 : Nat} {cc : ByteArray} {pc : Nat} {lo : am_V} {st : List Value} {h : am_H} {k : am_N} {res : Value × am_H} (hx : p.tables.exec = Jvm.exec) (hb : c.code = cc) (hk : ∀ pc lo st h, k pc lo st h = some res → am_Go p l e R s m args below meth c Q nL base LL xs ad dC dI dA n0 s0 pc lo st h) {off : Int} {tgt : Nat} (hd : decode cc pc = .ok (.goto off, 3)) (ht : (pc : Int) + off = (tgt : Int)) (hs : k tgt lo st h = some res) : am_Go p l e R s m args below meth c Q nL base LL xs ad dC dI dA n0 s0 pc lo st h := by
  intro H locs ls cells slots hl hR hS e1 e2
  exact lv_goto hx hb hd ht (hk _ _ _ _ hs H locs ls cells slots hl hR hS e1 e2)
