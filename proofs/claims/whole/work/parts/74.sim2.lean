/-! THE SIMULATION: fields, rows, new cells, switches -/
def am_tyok (c : Nat) (t : FieldType) : Prop := (c = 0 ∧ t = .int) ∨ (c = 1 ∧ t = .long) ∨ (c = 2 ∧ ((∃ C, t = .object C) ∨ ∃ u, t = .array u)) ∨ (c = 3 ∧ t = .boolean)
def am_CL (ci : Nat) (C : String) (T : u_T) (N : Nat) (ty0 : Nat → FieldType) : Prop := ci < 10 ∧ vwCl[ci]? = some (C, T, N) ∧ N = am_sz ci ∧ (∀ w ∈ u_ws C T N, w ∈ am_good) ∧ (∀ k, k < N → parseFieldDescriptor (T k).2.2.1 = some (ty0 k)) ∧ (∀ a, a < N → ∀ b, b < N → a ≠ b → (T a).2.1 ≠ (T b).2.1) ∧ (∀ k, k < N → am_tyok (am_ft ci k) (ty0 k)) ∧ Cond.instantiable C N ∈ am_good ∧ Cond.initialized C ∈ am_good
theorem am_fld_i {ad : Nat → Nat} {h : am_H} {a t k : Nat} (hf : am_ft t k = 0 ∨ am_ft t k = 3) : am_fld ad h a t k = .int (am_I h a k) := by
  unfold am_fld
  rcases hf with e | e <;> rw [e] <;> rfl
theorem am_fld_l {ad : Nat → Nat} {h : am_H} {a t k : Nat} (hf : am_ft t k = 1) : am_fld ad h a t k = .long (am_L h a k) := by
  unfold am_fld; rw [hf]; rfl
theorem am_fld_r {ad : Nat → Nat} {h : am_H} {a t k : Nat} (hf : am_ft t k = 2) : am_fld ad h a t k = va_rf ((am_R h a k).map ad) := by
  unfold am_fld; rw [hf]; rfl
theorem am_I_sI {h : am_H} {a k : Nat} {v : Int32} : am_I (am_sI h a k v) a = upd (am_I h a) k v := if_pos rfl
theorem am_L_sL {h : am_H} {a k : Nat} {v : Int64} : am_L (am_sL h a k v) a = vp_updL (am_L h a) k v := if_pos rfl
theorem am_R_sR {h : am_H} {a k : Nat} {v : Option Nat} : am_R (am_sR h a k v) a = va_up (am_R h a) k v := if_pos rfl
theorem am_fs_sI {ad : Nat → Nat} {h : am_H} {a t k : Nat} {v : Int32} (hf : am_ft t k = 0 ∨ am_ft t k = 3) : (am_fs ad h a t).set k (.int v) = am_fs ad (am_sI h a k v) a t := by
  refine am_fs_set ?_ (fun j hj => ?_)
  · rw [am_fld_i hf, am_I_sI, pk_us]
  · unfold am_fld
    rw [am_I_sI, pk_un hj]; rfl
theorem am_fs_sL {ad : Nat → Nat} {h : am_H} {a t k : Nat} {v : Int64} (hf : am_ft t k = 1) : (am_fs ad h a t).set k (.long v) = am_fs ad (am_sL h a k v) a t := by
  refine am_fs_set ?_ (fun j hj => ?_)
  · rw [am_fld_l hf, am_L_sL, pk_uLs]
  · unfold am_fld
    rw [am_L_sL, pk_uLn hj]; rfl
theorem am_fs_sR {ad : Nat → Nat} {h : am_H} {a t k v : Nat} (hf : am_ft t k = 2) : (am_fs ad h a t).set k (.ref (ad v)) = am_fs ad (am_sR h a k (some v)) a t := by
  refine am_fs_set ?_ (fun j hj => ?_)
  · rw [am_fld_r hf, am_R_sR, va_up_self]; rfl
  · unfold am_fld
    rw [am_R_sR, va_up_ne _ _ hj]; rfl
theorem am_Inv.sL {LL : Nat} {xs : Nat → Int32} {h : am_H} (hi : am_Inv LL xs h) {a k : Nat} {v : Int64} : am_Inv LL xs (am_sL h a k v) := hi
theorem am_Inv.sR {LL : Nat} {xs : Nat → Int32} {h : am_H} (hi : am_Inv LL xs h) {a k : Nat} {v : Option Nat} : am_Inv LL xs (am_sR h a k v) := hi
theorem am_Inv.wL {LL : Nat} {xs : Nat → Int32} {h : am_H} (hi : am_Inv LL xs h) {a : Nat} {f : Nat → Int64} : am_Inv LL xs (am_wL h a f) := hi
theorem am_sw_inv {f : Nat → am_O} {res : Value × am_H} {x : Int32} {a : Nat} : ∀ {ts : List (Int32 × Nat)}, am_sw ts a x f = some res → (∃ (j t : Nat), ts[j]? = some (x, t) ∧ f t = some res) ∨ ((∀ (j : Nat) (c : Int32) (t : Nat), ts[j]? = some (c, t) → ¬ x = c) ∧ f a = some res)
  | [], h => Or.inr ⟨fun j c t hj => by simp at hj, h⟩
  | (c, t) :: r, h => by
    unfold am_sw at h
    by_cases q : x = c
    · rw [if_pos q] at h
      exact Or.inl ⟨0, t, by rw [q]; rfl, h⟩
    · rw [if_neg q] at h
      rcases am_sw_inv h with ⟨j, t', h1, h2⟩ | ⟨h1, h2⟩
      · exact Or.inl ⟨j + 1, t', h1, h2⟩
      · refine Or.inr ⟨fun j c' t' hj => ?_, h2⟩
        cases j with
        | zero =>
          rw [List.getElem?_cons_zero] at hj
          cases hj
          exact q
        | succ j => exact h1 j c' t' hj
theorem sm_getI {p : Program} {l : Launch} {e : Env} {R : Room} {s : State} {m : MethodId} {args : Array Value} {below : List Frame} {meth : Method} {c : Code} {Q : State → Prop} {nL base LL : Nat} {xs : Nat → Int32} {ad : Nat → Nat} {dC : Nat → ClassId} {dI : Nat → Nat → Nat} {dA : Nat → ClassId} {n0 s0 : Nat} {cc : ByteArray} {pc : Nat} {lo : am_V} {st : List Value} {h : am_H} {k : am_N} {res : Value × am_H} (hx : p.tables.exec = Jvm.exec) (hb : c.code = cc) (hk : ∀ pc lo st h, k pc lo st h = some res → am_Go p l e R s m args below meth c Q nL base LL xs ad dC dI dA n0 s0 pc lo st h) {own : String} (hown : s.vm.findClass own = some m.cls) (hts : ∀ w ∈ am_good, w.before args s = true) (hK : va_K (dC, dI) vwCl (am_tys dA) s) (had : am_ad base ad) {ci i b N : Nat} {C : String} {T : u_T} {ty0 : Nat → FieldType} (hC : am_CL ci C T N ty0) (hb2 : b < N) (hw : Cond.fieldLink own i (T b).1 (T b).2.1 (T b).2.2.1 ∈ am_good) (hft : am_ft ci b = 0 ∨ am_ft ci b = 3) (hd : decode cc pc = .ok (.getfield i, 3)) (hs : am_1R st (fun o st => am_gI h ci o b (fun x => k (pc + 3) lo (.int x :: st) h)) = some res) : am_Go p l e R s m args below meth c Q nL base LL xs ad dC dI dA n0 s0 pc lo st h := by
  obtain ⟨o, st, rfl, hs1⟩ := am_1R_inv hs
  unfold am_gI at hs1
  obtain ⟨hko, hs2⟩ := am_if_inv hs1
  intro H locs ls cells slots hl hR hS e1 e2
  obtain ⟨hI, hz, hP⟩ := id hR
  obtain ⟨c10, hcl, hN, hin, hty, hnm, htk, -, -⟩ := hC
  obtain ⟨o3, ol⟩ := hI.lo hko (by omega)
  have he := am_W_at (ad := ad) (dA := dA) o3 ol
  rw [am_cell_o hko c10] at he
  exact va_get (D := (dC, dI)) (cl := vwCl) (C := C) (T := T) (N := N) hx hb hts hin hown hK hP (o - 3) he hcl b hb2 (hts _ hw) (fun _ q => q) (v := .int (am_I h o b)) (by rw [am_fs_at (by omega), am_fld_i hft]) hd (hk _ _ _ _ hs2 H locs ls cells slots hl hR hS e1 e2)
theorem sm_getL {p : Program} {l : Launch} {e : Env} {R : Room} {s : State} {m : MethodId} {args : Array Value} {below : List Frame} {meth : Method} {c : Code} {Q : State → Prop} {nL base LL : Nat} {xs : Nat → Int32} {ad : Nat → Nat} {dC : Nat → ClassId} {dI : Nat → Nat → Nat} {dA : Nat → ClassId} {n0 s0 : Nat} {cc : ByteArray} {pc : Nat} {lo : am_V} {st : List Value} {h : am_H} {k : am_N} {res : Value × am_H} (hx : p.tables.exec = Jvm.exec) (hb : c.code = cc) (hk : ∀ pc lo st h, k pc lo st h = some res → am_Go p l e R s m args below meth c Q nL base LL xs ad dC dI dA n0 s0 pc lo st h) {own : String} (hown : s.vm.findClass own = some m.cls) (hts : ∀ w ∈ am_good, w.before args s = true) (hK : va_K (dC, dI) vwCl (am_tys dA) s) (had : am_ad base ad) {ci i b N : Nat} {C : String} {T : u_T} {ty0 : Nat → FieldType} (hC : am_CL ci C T N ty0) (hb2 : b < N) (hw : Cond.fieldLink own i (T b).1 (T b).2.1 (T b).2.2.1 ∈ am_good) (hft : am_ft ci b = 1) (hd : decode cc pc = .ok (.getfield i, 3)) (hs : am_1R st (fun o st => am_gL h ci o b (fun x => k (pc + 3) lo (.long x :: st) h)) = some res) : am_Go p l e R s m args below meth c Q nL base LL xs ad dC dI dA n0 s0 pc lo st h := by
  obtain ⟨o, st, rfl, hs1⟩ := am_1R_inv hs
  unfold am_gL at hs1
  obtain ⟨hko, hs2⟩ := am_if_inv hs1
  intro H locs ls cells slots hl hR hS e1 e2
  obtain ⟨hI, hz, hP⟩ := id hR
  obtain ⟨c10, hcl, hN, hin, hty, hnm, htk, -, -⟩ := hC
  obtain ⟨o3, ol⟩ := hI.lo hko (by omega)
  have he := am_W_at (ad := ad) (dA := dA) o3 ol
  rw [am_cell_o hko c10] at he
  exact va_get (D := (dC, dI)) (cl := vwCl) (C := C) (T := T) (N := N) hx hb hts hin hown hK hP (o - 3) he hcl b hb2 (hts _ hw) (fun _ q => q) (v := .long (am_L h o b)) (by rw [am_fs_at (by omega), am_fld_l hft]) hd (hk _ _ _ _ hs2 H locs ls cells slots hl hR hS e1 e2)
theorem sm_getR {p : Program} {l : Launch} {e : Env} {R : Room} {s : State} {m : MethodId} {args : Array Value} {below : List Frame} {meth : Method} {c : Code} {Q : State → Prop} {nL base LL : Nat} {xs : Nat → Int32} {ad : Nat → Nat} {dC : Nat → ClassId} {dI : Nat → Nat → Nat} {dA : Nat → ClassId} {n0 s0 : Nat} {cc : ByteArray} {pc : Nat} {lo : am_V} {st : List Value} {h : am_H} {k : am_N} {res : Value × am_H} (hx : p.tables.exec = Jvm.exec) (hb : c.code = cc) (hk : ∀ pc lo st h, k pc lo st h = some res → am_Go p l e R s m args below meth c Q nL base LL xs ad dC dI dA n0 s0 pc lo st h) {own : String} (hown : s.vm.findClass own = some m.cls) (hts : ∀ w ∈ am_good, w.before args s = true) (hK : va_K (dC, dI) vwCl (am_tys dA) s) (had : am_ad base ad) {ci i b N : Nat} {C : String} {T : u_T} {ty0 : Nat → FieldType} (hC : am_CL ci C T N ty0) (hb2 : b < N) (hw : Cond.fieldLink own i (T b).1 (T b).2.1 (T b).2.2.1 ∈ am_good) (hft : am_ft ci b = 2) (hd : decode cc pc = .ok (.getfield i, 3)) (hs : am_1R st (fun o st => am_gR h ci o b (fun x => k (pc + 3) lo (.ref x :: st) h)) = some res) : am_Go p l e R s m args below meth c Q nL base LL xs ad dC dI dA n0 s0 pc lo st h := by
  obtain ⟨o, st, rfl, hs1⟩ := am_1R_inv hs
  unfold am_gR at hs1
  obtain ⟨hko, hs2⟩ := am_if_inv hs1
  obtain ⟨x, hx0, hs3⟩ := am_oR_inv hs2
  intro H locs ls cells slots hl hR hS e1 e2
  obtain ⟨hI, hz, hP⟩ := id hR
  obtain ⟨c10, hcl, hN, hin, hty, hnm, htk, -, -⟩ := hC
  obtain ⟨o3, ol⟩ := hI.lo hko (by omega)
  have he := am_W_at (ad := ad) (dA := dA) o3 ol
  rw [am_cell_o hko c10] at he
  exact va_get (D := (dC, dI)) (cl := vwCl) (C := C) (T := T) (N := N) hx hb hts hin hown hK hP (o - 3) he hcl b hb2 (hts _ hw) (fun _ q => q) (v := .ref (ad x)) (by rw [am_fs_at (by omega), am_fld_r hft, hx0]; rfl) hd (hk _ _ _ _ hs3 H locs ls cells slots hl hR hS e1 e2)
theorem sm_putI {p : Program} {l : Launch} {e : Env} {R : Room} {s : State} {m : MethodId} {args : Array Value} {below : List Frame} {meth : Method} {c : Code} {Q : State → Prop} {nL base LL : Nat} {xs : Nat → Int32} {ad : Nat → Nat} {dC : Nat → ClassId} {dI : Nat → Nat → Nat} {dA : Nat → ClassId} {n0 s0 : Nat} {cc : ByteArray} {pc : Nat} {lo : am_V} {st : List Value} {h : am_H} {k : am_N} {res : Value × am_H} (hx : p.tables.exec = Jvm.exec) (hb : c.code = cc) (hk : ∀ pc lo st h, k pc lo st h = some res → am_Go p l e R s m args below meth c Q nL base LL xs ad dC dI dA n0 s0 pc lo st h) {own : String} (hown : s.vm.findClass own = some m.cls) (hts : ∀ w ∈ am_good, w.before args s = true) (hK : va_K (dC, dI) vwCl (am_tys dA) s) (had : am_ad base ad) {ci i b N : Nat} {C : String} {T : u_T} {ty0 : Nat → FieldType} (hC : am_CL ci C T N ty0) (hb2 : b < N) (hw : Cond.fieldLink own i (T b).1 (T b).2.1 (T b).2.2.1 ∈ am_good) (hft0 : am_ft ci b = 0) (hfin : (T b).2.2.2 = false ∨ ((T b).2.2.2 = true ∧ meth.name = "<init>" ∧ (T b).1 = own)) (hd : decode cc pc = .ok (.putfield i, 3)) (hs : am_1I st (fun x st => am_1R st (fun o st => am_pI h ci o b x (fun h => k (pc + 3) lo st h))) = some res) : am_Go p l e R s m args below meth c Q nL base LL xs ad dC dI dA n0 s0 pc lo st h := by
  obtain ⟨x, st, rfl, hs1⟩ := am_1I_inv hs
  obtain ⟨o, st, rfl, hs2⟩ := am_1R_inv hs1
  unfold am_pI at hs2
  obtain ⟨hko, hs3⟩ := am_if_inv hs2
  intro H locs ls cells slots hl hR hS e1 e2
  obtain ⟨hI, hz, hP⟩ := id hR
  obtain ⟨c10, hcl, hN, hin, hty, hnm, htk, -, -⟩ := hC
  obtain ⟨o3, ol⟩ := hI.lo hko (by omega)
  have he := am_W_at (ad := ad) (dA := dA) o3 ol
  rw [am_cell_o hko c10] at he
  have hyt := htk b hb2
  have hft : am_ft ci b = 0 ∨ am_ft ci b = 3 := Or.inl hft0
  have htt : ty0 b = .int := by
    rcases hyt with ⟨_, q⟩ | ⟨q, _⟩ | ⟨q, _⟩ | ⟨q, _⟩
    · exact q
    · omega
    · omega
    · omega
  refine az_put (D := (dC, dI)) (cl := vwCl) (C := C) (T := T) (N := N) hx hb hts hin ty0 hty hnm hown hK hP (am_W_D had) hS (o - 3) he hcl b hb2 (hts _ hw) hfin (v := .int x) (by rw [htt]; rfl) (by rw [htt]; rfl) (by rw [am_fs_len]; omega) hd (fun H1 locs1 hP1 hS1 hz1 => hk _ _ _ _ hs3 H1 locs1 ls cells slots hl ⟨hI.sI o3, by rw [hz1]; exact hz, ?_⟩ hS1 e1 e2)
  rw [am_fs_sI hft, ← am_cell_o (h := am_sI h o b x) (dA := dA) hko c10, am_W_set (h := h) (h' := am_sI h o b x) o3 rfl (fun b hb => am_cell_sI hb)] at hP1
  exact hP1
theorem sm_putZ {p : Program} {l : Launch} {e : Env} {R : Room} {s : State} {m : MethodId} {args : Array Value} {below : List Frame} {meth : Method} {c : Code} {Q : State → Prop} {nL base LL : Nat} {xs : Nat → Int32} {ad : Nat → Nat} {dC : Nat → ClassId} {dI : Nat → Nat → Nat} {dA : Nat → ClassId} {n0 s0 : Nat} {cc : ByteArray} {pc : Nat} {lo : am_V} {st : List Value} {h : am_H} {k : am_N} {res : Value × am_H} (hx : p.tables.exec = Jvm.exec) (hb : c.code = cc) (hk : ∀ pc lo st h, k pc lo st h = some res → am_Go p l e R s m args below meth c Q nL base LL xs ad dC dI dA n0 s0 pc lo st h) {own : String} (hown : s.vm.findClass own = some m.cls) (hts : ∀ w ∈ am_good, w.before args s = true) (hK : va_K (dC, dI) vwCl (am_tys dA) s) (had : am_ad base ad) {ci i b N : Nat} {C : String} {T : u_T} {ty0 : Nat → FieldType} (hC : am_CL ci C T N ty0) (hb2 : b < N) (hw : Cond.fieldLink own i (T b).1 (T b).2.1 (T b).2.2.1 ∈ am_good) (hft0 : am_ft ci b = 3) (hfin : (T b).2.2.2 = false ∨ ((T b).2.2.2 = true ∧ meth.name = "<init>" ∧ (T b).1 = own)) (hd : decode cc pc = .ok (.putfield i, 3)) (hs : am_1I st (fun x st => am_1R st (fun o st => am_pZ h ci o b x (fun h => k (pc + 3) lo st h))) = some res) : am_Go p l e R s m args below meth c Q nL base LL xs ad dC dI dA n0 s0 pc lo st h := by
  obtain ⟨x, st, rfl, hs1⟩ := am_1I_inv hs
  obtain ⟨o, st, rfl, hs2⟩ := am_1R_inv hs1
  unfold am_pZ at hs2
  obtain ⟨hko, hs3⟩ := am_if_inv hs2
  obtain ⟨hz1, hs4⟩ := am_if_inv hs3
  intro H locs ls cells slots hl hR hS e1 e2
  obtain ⟨hI, hz, hP⟩ := id hR
  obtain ⟨c10, hcl, hN, hin, hty, hnm, htk, -, -⟩ := hC
  obtain ⟨o3, ol⟩ := hI.lo hko (by omega)
  have he := am_W_at (ad := ad) (dA := dA) o3 ol
  rw [am_cell_o hko c10] at he
  have hyt := htk b hb2
  have hft : am_ft ci b = 0 ∨ am_ft ci b = 3 := Or.inr hft0
  have htt : ty0 b = .boolean := by
    rcases hyt with ⟨q, _⟩ | ⟨q, _⟩ | ⟨q, _⟩ | ⟨_, q⟩
    · omega
    · omega
    · omega
    · exact q
  refine az_put (D := (dC, dI)) (cl := vwCl) (C := C) (T := T) (N := N) hx hb hts hin ty0 hty hnm hown hK hP (am_W_D had) hS (o - 3) he hcl b hb2 (hts _ hw) hfin (v := .int x) (by rw [htt]; rcases hz1 with q | q <;> rw [q] <;> decide) (by rw [htt]; rcases hz1 with q | q <;> rw [q] <;> decide) (by rw [am_fs_len]; omega) hd (fun H1 locs1 hP1 hS1 hz1 => hk _ _ _ _ hs4 H1 locs1 ls cells slots hl ⟨hI.sI o3, by rw [hz1]; exact hz, ?_⟩ hS1 e1 e2)
  rw [am_fs_sI hft, ← am_cell_o (h := am_sI h o b x) (dA := dA) hko c10, am_W_set (h := h) (h' := am_sI h o b x) o3 rfl (fun b hb => am_cell_sI hb)] at hP1
  exact hP1
theorem sm_putL {p : Program} {l : Launch} {e : Env} {R : Room} {s : State} {m : MethodId} {args : Array Value} {below : List Frame} {meth : Method} {c : Code} {Q : State → Prop} {nL base LL : Nat} {xs : Nat → Int32} {ad : Nat → Nat} {dC : Nat → ClassId} {dI : Nat → Nat → Nat} {dA : Nat → ClassId} {n0 s0 : Nat} {cc : ByteArray} {pc : Nat} {lo : am_V} {st : List Value} {h : am_H} {k : am_N} {res : Value × am_H} (hx : p.tables.exec = Jvm.exec) (hb : c.code = cc) (hk : ∀ pc lo st h, k pc lo st h = some res → am_Go p l e R s m args below meth c Q nL base LL xs ad dC dI dA n0 s0 pc lo st h) {own : String} (hown : s.vm.findClass own = some m.cls) (hts : ∀ w ∈ am_good, w.before args s = true) (hK : va_K (dC, dI) vwCl (am_tys dA) s) (had : am_ad base ad) {ci i b N : Nat} {C : String} {T : u_T} {ty0 : Nat → FieldType} (hC : am_CL ci C T N ty0) (hb2 : b < N) (hw : Cond.fieldLink own i (T b).1 (T b).2.1 (T b).2.2.1 ∈ am_good) (hft : am_ft ci b = 1) (hfin : (T b).2.2.2 = false ∨ ((T b).2.2.2 = true ∧ meth.name = "<init>" ∧ (T b).1 = own)) (hd : decode cc pc = .ok (.putfield i, 3)) (hs : am_1L st (fun x st => am_1R st (fun o st => am_pL h ci o b x (fun h => k (pc + 3) lo st h))) = some res) : am_Go p l e R s m args below meth c Q nL base LL xs ad dC dI dA n0 s0 pc lo st h := by
  obtain ⟨x, st, rfl, hs1⟩ := am_1L_inv hs
  obtain ⟨o, st, rfl, hs2⟩ := am_1R_inv hs1
  unfold am_pL at hs2
  obtain ⟨hko, hs3⟩ := am_if_inv hs2
  intro H locs ls cells slots hl hR hS e1 e2
  obtain ⟨hI, hz, hP⟩ := id hR
  obtain ⟨c10, hcl, hN, hin, hty, hnm, htk, -, -⟩ := hC
  obtain ⟨o3, ol⟩ := hI.lo hko (by omega)
  have he := am_W_at (ad := ad) (dA := dA) o3 ol
  rw [am_cell_o hko c10] at he
  have hyt := htk b hb2
  have htt : ty0 b = .long := by
    rcases hyt with ⟨q, _⟩ | ⟨_, q⟩ | ⟨q, _⟩ | ⟨q, _⟩
    · omega
    · exact q
    · omega
    · omega
  refine az_put (D := (dC, dI)) (cl := vwCl) (C := C) (T := T) (N := N) hx hb hts hin ty0 hty hnm hown hK hP (am_W_D had) hS (o - 3) he hcl b hb2 (hts _ hw) hfin (v := .long x) (by rw [htt]; rfl) (by rw [htt]; rfl) (by rw [am_fs_len]; omega) hd (fun H1 locs1 hP1 hS1 hz1 => hk _ _ _ _ hs3 H1 locs1 ls cells slots hl ⟨hI.sL, by rw [hz1]; exact hz, ?_⟩ hS1 e1 e2)
  rw [am_fs_sL hft, ← am_cell_o (h := am_sL h o b x) (dA := dA) hko c10, am_W_set (h := h) (h' := am_sL h o b x) o3 rfl (fun b hb => am_cell_sL hb)] at hP1
  exact hP1
theorem sm_putR {p : Program} {l : Launch} {e : Env} {R : Room} {s : State} {m : MethodId} {args : Array Value} {below : List Frame} {meth : Method} {c : Code} {Q : State → Prop} {nL base LL : Nat} {xs : Nat → Int32} {ad : Nat → Nat} {dC : Nat → ClassId} {dI : Nat → Nat → Nat} {dA : Nat → ClassId} {n0 s0 : Nat} {cc : ByteArray} {pc : Nat} {lo : am_V} {st : List Value} {h : am_H} {k : am_N} {res : Value × am_H} (hx : p.tables.exec = Jvm.exec) (hb : c.code = cc) (hk : ∀ pc lo st h, k pc lo st h = some res → am_Go p l e R s m args below meth c Q nL base LL xs ad dC dI dA n0 s0 pc lo st h) {own : String} (hown : s.vm.findClass own = some m.cls) (hts : ∀ w ∈ am_good, w.before args s = true) (hK : va_K (dC, dI) vwCl (am_tys dA) s) (had : am_ad base ad) {ci i b N : Nat} {C : String} {T : u_T} {ty0 : Nat → FieldType} (hC : am_CL ci C T N ty0) (hb2 : b < N) (hw : Cond.fieldLink own i (T b).1 (T b).2.1 (T b).2.2.1 ∈ am_good) (hft : am_ft ci b = 2) (hfin : (T b).2.2.2 = false ∨ ((T b).2.2.2 = true ∧ meth.name = "<init>" ∧ (T b).1 = own)) (hd : decode cc pc = .ok (.putfield i, 3)) (hs : am_1R st (fun x st => am_1R st (fun o st => am_pR h ci o b x (fun h => k (pc + 3) lo st h))) = some res) : am_Go p l e R s m args below meth c Q nL base LL xs ad dC dI dA n0 s0 pc lo st h := by
  obtain ⟨x, st, rfl, hs1⟩ := am_1R_inv hs
  obtain ⟨o, st, rfl, hs2⟩ := am_1R_inv hs1
  unfold am_pR at hs2
  obtain ⟨hko, hs3⟩ := am_if_inv hs2
  intro H locs ls cells slots hl hR hS e1 e2
  obtain ⟨hI, hz, hP⟩ := id hR
  obtain ⟨c10, hcl, hN, hin, hty, hnm, htk, -, -⟩ := hC
  obtain ⟨o3, ol⟩ := hI.lo hko (by omega)
  have he := am_W_at (ad := ad) (dA := dA) o3 ol
  rw [am_cell_o hko c10] at he
  have hyt := htk b hb2
  have htt : (∃ C, ty0 b = .object C) ∨ ∃ u, ty0 b = .array u := by
    rcases hyt with ⟨q, _⟩ | ⟨q, _⟩ | ⟨_, q⟩ | ⟨q, _⟩
    · omega
    · omega
    · exact q
    · omega
  refine az_put (D := (dC, dI)) (cl := vwCl) (C := C) (T := T) (N := N) hx hb hts hin ty0 hty hnm hown hK hP (am_W_D had) hS (o - 3) he hcl b hb2 (hts _ hw) hfin (v := .ref (ad x)) (by rcases htt with ⟨C, q⟩ | ⟨u, q⟩ <;> rw [q] <;> rfl) (by rcases htt with ⟨C, q⟩ | ⟨u, q⟩ <;> rw [q] <;> rfl) (by rw [am_fs_len]; omega) hd (fun H1 locs1 hP1 hS1 hz1 => hk _ _ _ _ hs3 H1 locs1 ls cells slots hl ⟨hI.sR, by rw [hz1]; exact hz, ?_⟩ hS1 e1 e2)
  rw [am_fs_sR hft, ← am_cell_o (h := am_sR h o b (some x)) (dA := dA) hko c10, am_W_set (h := h) (h' := am_sR h o b (some x)) o3 rfl (fun b hb => am_cell_sR hb)] at hP1
  exact hP1
theorem sm_iaload {p : Program} {l : Launch} {e : Env} {R : Room} {s : State} {m : MethodId} {args : Array Value} {below : List Frame} {meth : Method} {c : Code} {Q : State → Prop} {nL base LL : Nat} {xs : Nat → Int32} {ad : Nat → Nat} {dC : Nat → ClassId} {dI : Nat → Nat → Nat} {dA : Nat → ClassId} {n0 s0 : Nat} {cc : ByteArray} {pc : Nat} {lo : am_V} {st : List Value} {h : am_H} {k : am_N} {res : Value × am_H} (hx : p.tables.exec = Jvm.exec) (hb : c.code = cc) (hk : ∀ pc lo st h, k pc lo st h = some res → am_Go p l e R s m args below meth c Q nL base LL xs ad dC dI dA n0 s0 pc lo st h) (hK : va_K (dC, dI) vwCl (am_tys dA) s) (had : am_ad base ad) (hd : decode cc pc = .ok (.iaload, 1)) (hs : am_1I st (fun i st => am_1R st (fun o st => am_lI h 10 o i (fun x => k (pc + 1) lo (.int x :: st) h))) = some res) : am_Go p l e R s m args below meth c Q nL base LL xs ad dC dI dA n0 s0 pc lo st h := by
  obtain ⟨i, st, rfl, hs1⟩ := am_1I_inv hs
  obtain ⟨o, st, rfl, hs2⟩ := am_1R_inv hs1
  unfold am_lI at hs2
  obtain ⟨hko, hs3⟩ := am_if_inv hs2
  obtain ⟨hin, hs4⟩ := am_if_inv hs3
  intro H locs ls cells slots hl hR hS e1 e2
  obtain ⟨hI, hz, hP⟩ := id hR
  obtain ⟨o3, ol⟩ := hI.lo (t := (am_K h o).1) (n := (am_K h o).2) rfl (by omega)
  have he := am_W_at (ad := ad) (dA := dA) o3 ol
  rw [am_cell_i hko] at he
  exact va_iald (D := (dC, dI)) (cl := vwCl) hx hb hK hP (o - 3) 0 he rfl hin hd (hk _ _ _ _ hs4 H locs ls cells slots hl hR hS e1 e2)
theorem sm_baload {p : Program} {l : Launch} {e : Env} {R : Room} {s : State} {m : MethodId} {args : Array Value} {below : List Frame} {meth : Method} {c : Code} {Q : State → Prop} {nL base LL : Nat} {xs : Nat → Int32} {ad : Nat → Nat} {dC : Nat → ClassId} {dI : Nat → Nat → Nat} {dA : Nat → ClassId} {n0 s0 : Nat} {cc : ByteArray} {pc : Nat} {lo : am_V} {st : List Value} {h : am_H} {k : am_N} {res : Value × am_H} (hx : p.tables.exec = Jvm.exec) (hb : c.code = cc) (hk : ∀ pc lo st h, k pc lo st h = some res → am_Go p l e R s m args below meth c Q nL base LL xs ad dC dI dA n0 s0 pc lo st h) (hK : va_K (dC, dI) vwCl (am_tys dA) s) (had : am_ad base ad) (hd : decode cc pc = .ok (.baload, 1)) (hs : am_1I st (fun i st => am_1R st (fun o st => am_lI h 11 o i (fun x => k (pc + 1) lo (.int x :: st) h))) = some res) : am_Go p l e R s m args below meth c Q nL base LL xs ad dC dI dA n0 s0 pc lo st h := by
  obtain ⟨i, st, rfl, hs1⟩ := am_1I_inv hs
  obtain ⟨o, st, rfl, hs2⟩ := am_1R_inv hs1
  unfold am_lI at hs2
  obtain ⟨hko, hs3⟩ := am_if_inv hs2
  obtain ⟨hin, hs4⟩ := am_if_inv hs3
  intro H locs ls cells slots hl hR hS e1 e2
  obtain ⟨hI, hz, hP⟩ := id hR
  obtain ⟨o3, ol⟩ := hI.lo (t := (am_K h o).1) (n := (am_K h o).2) rfl (by omega)
  have he := am_W_at (ad := ad) (dA := dA) o3 ol
  rw [am_cell_b hko] at he
  exact va_bald (D := (dC, dI)) (cl := vwCl) hx hb hK hP (o - 3) 1 he rfl hin hd (hk _ _ _ _ hs4 H locs ls cells slots hl hR hS e1 e2)
theorem sm_laload {p : Program} {l : Launch} {e : Env} {R : Room} {s : State} {m : MethodId} {args : Array Value} {below : List Frame} {meth : Method} {c : Code} {Q : State → Prop} {nL base LL : Nat} {xs : Nat → Int32} {ad : Nat → Nat} {dC : Nat → ClassId} {dI : Nat → Nat → Nat} {dA : Nat → ClassId} {n0 s0 : Nat} {cc : ByteArray} {pc : Nat} {lo : am_V} {st : List Value} {h : am_H} {k : am_N} {res : Value × am_H} (hx : p.tables.exec = Jvm.exec) (hb : c.code = cc) (hk : ∀ pc lo st h, k pc lo st h = some res → am_Go p l e R s m args below meth c Q nL base LL xs ad dC dI dA n0 s0 pc lo st h) (hK : va_K (dC, dI) vwCl (am_tys dA) s) (had : am_ad base ad) (hd : decode cc pc = .ok (.laload, 1)) (hs : am_1I st (fun i st => am_1R st (fun o st => am_lL h o i (fun x => k (pc + 1) lo (.long x :: st) h))) = some res) : am_Go p l e R s m args below meth c Q nL base LL xs ad dC dI dA n0 s0 pc lo st h := by
  obtain ⟨i, st, rfl, hs1⟩ := am_1I_inv hs
  obtain ⟨o, st, rfl, hs2⟩ := am_1R_inv hs1
  unfold am_lL at hs2
  obtain ⟨hko, hs3⟩ := am_if_inv hs2
  obtain ⟨hin, hs4⟩ := am_if_inv hs3
  intro H locs ls cells slots hl hR hS e1 e2
  obtain ⟨hI, hz, hP⟩ := id hR
  obtain ⟨o3, ol⟩ := hI.lo (t := (am_K h o).1) (n := (am_K h o).2) rfl (by omega)
  have he := am_W_at (ad := ad) (dA := dA) o3 ol
  rw [am_cell_l hko] at he
  exact va_lald (D := (dC, dI)) (cl := vwCl) hx hb hK hP (o - 3) 2 he rfl hin hd (hk _ _ _ _ hs4 H locs ls cells slots hl hR hS e1 e2)
theorem sm_aaload13 {p : Program} {l : Launch} {e : Env} {R : Room} {s : State} {m : MethodId} {args : Array Value} {below : List Frame} {meth : Method} {c : Code} {Q : State → Prop} {nL base LL : Nat} {xs : Nat → Int32} {ad : Nat → Nat} {dC : Nat → ClassId} {dI : Nat → Nat → Nat} {dA : Nat → ClassId} {n0 s0 : Nat} {cc : ByteArray} {pc : Nat} {lo : am_V} {st : List Value} {h : am_H} {k : am_N} {res : Value × am_H} (hx : p.tables.exec = Jvm.exec) (hb : c.code = cc) (hk : ∀ pc lo st h, k pc lo st h = some res → am_Go p l e R s m args below meth c Q nL base LL xs ad dC dI dA n0 s0 pc lo st h) (hK : va_K (dC, dI) vwCl (am_tys dA) s) (had : am_ad base ad) (hd : decode cc pc = .ok (.aaload, 1)) (hs : am_1I st (fun i st => am_1R st (fun o st => am_lR h 13 o i (fun x => k (pc + 1) lo (.ref x :: st) h))) = some res) : am_Go p l e R s m args below meth c Q nL base LL xs ad dC dI dA n0 s0 pc lo st h := by
  obtain ⟨i, st, rfl, hs1⟩ := am_1I_inv hs
  obtain ⟨o, st, rfl, hs2⟩ := am_1R_inv hs1
  unfold am_lR at hs2
  obtain ⟨hko, hs3⟩ := am_if_inv hs2
  obtain ⟨hin, hs4⟩ := am_if_inv hs3
  obtain ⟨x, hx0, hs5⟩ := am_oR_inv hs4
  intro H locs ls cells slots hl hR hS e1 e2
  obtain ⟨hI, hz, hP⟩ := id hR
  obtain ⟨o3, ol⟩ := hI.lo (t := (am_K h o).1) (n := (am_K h o).2) rfl (by omega)
  have he := am_W_at (ad := ad) (dA := dA) o3 ol
  rw [am_cell_r (by omega) hko] at he
  refine va_aldq (D := (dC, dI)) (cl := vwCl) (C := "LicensedVoice$Tray") hx hb hK hP (o - 3) 3 he rfl hin hd ?_
  rw [hx0]
  exact hk _ _ _ _ hs5 H locs ls cells slots hl hR hS e1 e2
theorem sm_aaload14 {p : Program} {l : Launch} {e : Env} {R : Room} {s : State} {m : MethodId} {args : Array Value} {below : List Frame} {meth : Method} {c : Code} {Q : State → Prop} {nL base LL : Nat} {xs : Nat → Int32} {ad : Nat → Nat} {dC : Nat → ClassId} {dI : Nat → Nat → Nat} {dA : Nat → ClassId} {n0 s0 : Nat} {cc : ByteArray} {pc : Nat} {lo : am_V} {st : List Value} {h : am_H} {k : am_N} {res : Value × am_H} (hx : p.tables.exec = Jvm.exec) (hb : c.code = cc) (hk : ∀ pc lo st h, k pc lo st h = some res → am_Go p l e R s m args below meth c Q nL base LL xs ad dC dI dA n0 s0 pc lo st h) (hK : va_K (dC, dI) vwCl (am_tys dA) s) (had : am_ad base ad) (hd : decode cc pc = .ok (.aaload, 1)) (hs : am_1I st (fun i st => am_1R st (fun o st => am_lR h 14 o i (fun x => k (pc + 1) lo (.ref x :: st) h))) = some res) : am_Go p l e R s m args below meth c Q nL base LL xs ad dC dI dA n0 s0 pc lo st h := by
  obtain ⟨i, st, rfl, hs1⟩ := am_1I_inv hs
  obtain ⟨o, st, rfl, hs2⟩ := am_1R_inv hs1
  unfold am_lR at hs2
  obtain ⟨hko, hs3⟩ := am_if_inv hs2
  obtain ⟨hin, hs4⟩ := am_if_inv hs3
  obtain ⟨x, hx0, hs5⟩ := am_oR_inv hs4
  intro H locs ls cells slots hl hR hS e1 e2
  obtain ⟨hI, hz, hP⟩ := id hR
  obtain ⟨o3, ol⟩ := hI.lo (t := (am_K h o).1) (n := (am_K h o).2) rfl (by omega)
  have he := am_W_at (ad := ad) (dA := dA) o3 ol
  rw [am_cell_r (by omega) hko] at he
  refine va_aldq (D := (dC, dI)) (cl := vwCl) (C := "LicensedVoice$Town") hx hb hK hP (o - 3) 4 he rfl hin hd ?_
  rw [hx0]
  exact hk _ _ _ _ hs5 H locs ls cells slots hl hR hS e1 e2
theorem sm_scload {p : Program} {l : Launch} {e : Env} {R : Room} {s : State} {m : MethodId} {args : Array Value} {below : List Frame} {meth : Method} {c : Code} {Q : State → Prop} {nL base LL : Nat} {xs : Nat → Int32} {ad : Nat → Nat} {dC : Nat → ClassId} {dI : Nat → Nat → Nat} {dA : Nat → ClassId} {n0 s0 : Nat} {cc : ByteArray} {pc : Nat} {lo : am_V} {st : List Value} {h : am_H} {k : am_N} {res : Value × am_H} (hx : p.tables.exec = Jvm.exec) (hb : c.code = cc) (hk : ∀ pc lo st h, k pc lo st h = some res → am_Go p l e R s m args below meth c Q nL base LL xs ad dC dI dA n0 s0 pc lo st h) (hX : va_X (ad 1) LL xs s s.heap) (hbl : ad 1 < s.heap.size) (hba : ad 1 < base) (hd : decode cc pc = .ok (.iaload, 1)) (hs : am_1I st (fun i st => am_1R st (fun o st => am_lI h 21 o i (fun x => k (pc + 1) lo (.int x :: st) h))) = some res) : am_Go p l e R s m args below meth c Q nL base LL xs ad dC dI dA n0 s0 pc lo st h := by
  obtain ⟨i, st, rfl, hs1⟩ := am_1I_inv hs
  obtain ⟨o, st, rfl, hs2⟩ := am_1R_inv hs1
  unfold am_lI at hs2
  obtain ⟨hko, hs3⟩ := am_if_inv hs2
  obtain ⟨hin, hs4⟩ := am_if_inv hs3
  intro H locs ls cells slots hl hR hS e1 e2
  obtain ⟨hI, hz, hP⟩ := id hR
  have ho : o = 1 := by
    rcases hI.sc hko (by omega) (by omega) with q | q
    · exact q.1
    · omega
  subst ho
  have hk1 := hI.2.2.1
  have hi1 := hI.2.2.2.2.2.1
  rw [hk1] at hin
  rw [hi1] at hs4
  exact va_sld (A := am_A base) hx hb hX hbl (Nat.not_le.mpr hba) hS hin hd (hk _ _ _ _ hs4 H locs ls cells slots hl hR hS e1 e2)
theorem sm_iastore {p : Program} {l : Launch} {e : Env} {R : Room} {s : State} {m : MethodId} {args : Array Value} {below : List Frame} {meth : Method} {c : Code} {Q : State → Prop} {nL base LL : Nat} {xs : Nat → Int32} {ad : Nat → Nat} {dC : Nat → ClassId} {dI : Nat → Nat → Nat} {dA : Nat → ClassId} {n0 s0 : Nat} {cc : ByteArray} {pc : Nat} {lo : am_V} {st : List Value} {h : am_H} {k : am_N} {res : Value × am_H} (hx : p.tables.exec = Jvm.exec) (hb : c.code = cc) (hk : ∀ pc lo st h, k pc lo st h = some res → am_Go p l e R s m args below meth c Q nL base LL xs ad dC dI dA n0 s0 pc lo st h) (hK : va_K (dC, dI) vwCl (am_tys dA) s) (had : am_ad base ad) (hd : decode cc pc = .ok (.iastore, 1)) (hs : am_1I st (fun x st => am_1I st (fun i st => am_1R st (fun o st => am_tI h o i x (fun h => k (pc + 1) lo st h)))) = some res) : am_Go p l e R s m args below meth c Q nL base LL xs ad dC dI dA n0 s0 pc lo st h := by
  obtain ⟨x, st, rfl, hs1⟩ := am_1I_inv hs
  obtain ⟨i, st, rfl, hs2⟩ := am_1I_inv hs1
  obtain ⟨o, st, rfl, hs3⟩ := am_1R_inv hs2
  unfold am_tI at hs3
  obtain ⟨hko, hs4⟩ := am_if_inv hs3
  obtain ⟨hin, hs5⟩ := am_if_inv hs4
  intro H locs ls cells slots hl hR hS e1 e2
  obtain ⟨hI, hz, hP⟩ := id hR
  obtain ⟨o3, ol⟩ := hI.lo (t := (am_K h o).1) (n := (am_K h o).2) rfl (by omega)
  have he := am_W_at (ad := ad) (dA := dA) o3 ol
  rw [am_cell_i hko] at he
  refine az_iast (D := (dC, dI)) (cl := vwCl) hx hb hK hP (am_W_D had) hS (o - 3) 0 he rfl hin hd (fun H1 locs1 hP1 hS1 hz1 => hk _ _ _ _ hs5 H1 locs1 ls cells slots hl ⟨hI.sI o3, by rw [hz1]; exact hz, ?_⟩ hS1 e1 e2)
  rw [← am_I_sI] at hP1
  have hcl := am_cell_i (ad := ad) (dA := dA) (h := am_sI h o i.toNatClampNeg x) (a := o) hko
  have hP2 : va_P (dC, dI) vwCl ((am_W ad dA h).set (o - 3) (ad o, am_cell ad dA (am_sI h o i.toNatClampNeg x) o)) H1 := by rw [hcl]; exact hP1
  rw [am_W_set (h := h) (h' := am_sI h o i.toNatClampNeg x) o3 rfl (fun b hb => am_cell_sI hb)] at hP2
  exact hP2
theorem sm_bastore {p : Program} {l : Launch} {e : Env} {R : Room} {s : State} {m : MethodId} {args : Array Value} {below : List Frame} {meth : Method} {c : Code} {Q : State → Prop} {nL base LL : Nat} {xs : Nat → Int32} {ad : Nat → Nat} {dC : Nat → ClassId} {dI : Nat → Nat → Nat} {dA : Nat → ClassId} {n0 s0 : Nat} {cc : ByteArray} {pc : Nat} {lo : am_V} {st : List Value} {h : am_H} {k : am_N} {res : Value × am_H} (hx : p.tables.exec = Jvm.exec) (hb : c.code = cc) (hk : ∀ pc lo st h, k pc lo st h = some res → am_Go p l e R s m args below meth c Q nL base LL xs ad dC dI dA n0 s0 pc lo st h) (hK : va_K (dC, dI) vwCl (am_tys dA) s) (had : am_ad base ad) (hd : decode cc pc = .ok (.bastore, 1)) (hs : am_1I st (fun x st => am_1I st (fun i st => am_1R st (fun o st => am_tB h o i x (fun h => k (pc + 1) lo st h)))) = some res) : am_Go p l e R s m args below meth c Q nL base LL xs ad dC dI dA n0 s0 pc lo st h := by
  obtain ⟨x, st, rfl, hs1⟩ := am_1I_inv hs
  obtain ⟨i, st, rfl, hs2⟩ := am_1I_inv hs1
  obtain ⟨o, st, rfl, hs3⟩ := am_1R_inv hs2
  unfold am_tB at hs3
  obtain ⟨hko, hs4⟩ := am_if_inv hs3
  obtain ⟨hin, hs5⟩ := am_if_inv hs4
  intro H locs ls cells slots hl hR hS e1 e2
  obtain ⟨hI, hz, hP⟩ := id hR
  obtain ⟨o3, ol⟩ := hI.lo (t := (am_K h o).1) (n := (am_K h o).2) rfl (by omega)
  have he := am_W_at (ad := ad) (dA := dA) o3 ol
  rw [am_cell_b hko] at he
  refine az_bast (D := (dC, dI)) (cl := vwCl) hx hb hK hP (am_W_D had) hS (o - 3) 1 he rfl hin hd (fun H1 locs1 hP1 hS1 hz1 => hk _ _ _ _ hs5 H1 locs1 ls cells slots hl ⟨hI.sI o3, by rw [hz1]; exact hz, ?_⟩ hS1 e1 e2)
  rw [← am_I_sI] at hP1
  have hcl := am_cell_b (ad := ad) (dA := dA) (h := am_sI h o i.toNatClampNeg x.toInt8.toInt32) (a := o) hko
  have hP2 : va_P (dC, dI) vwCl ((am_W ad dA h).set (o - 3) (ad o, am_cell ad dA (am_sI h o i.toNatClampNeg x.toInt8.toInt32) o)) H1 := by rw [hcl]; exact hP1
  rw [am_W_set (h := h) (h' := am_sI h o i.toNatClampNeg x.toInt8.toInt32) o3 rfl (fun b hb => am_cell_sI hb)] at hP2
  exact hP2
theorem sm_lastore {p : Program} {l : Launch} {e : Env} {R : Room} {s : State} {m : MethodId} {args : Array Value} {below : List Frame} {meth : Method} {c : Code} {Q : State → Prop} {nL base LL : Nat} {xs : Nat → Int32} {ad : Nat → Nat} {dC : Nat → ClassId} {dI : Nat → Nat → Nat} {dA : Nat → ClassId} {n0 s0 : Nat} {cc : ByteArray} {pc : Nat} {lo : am_V} {st : List Value} {h : am_H} {k : am_N} {res : Value × am_H} (hx : p.tables.exec = Jvm.exec) (hb : c.code = cc) (hk : ∀ pc lo st h, k pc lo st h = some res → am_Go p l e R s m args below meth c Q nL base LL xs ad dC dI dA n0 s0 pc lo st h) (hK : va_K (dC, dI) vwCl (am_tys dA) s) (had : am_ad base ad) (hd : decode cc pc = .ok (.lastore, 1)) (hs : am_1L st (fun x st => am_1I st (fun i st => am_1R st (fun o st => am_tL h o i x (fun h => k (pc + 1) lo st h)))) = some res) : am_Go p l e R s m args below meth c Q nL base LL xs ad dC dI dA n0 s0 pc lo st h := by
  obtain ⟨x, st, rfl, hs1⟩ := am_1L_inv hs
  obtain ⟨i, st, rfl, hs2⟩ := am_1I_inv hs1
  obtain ⟨o, st, rfl, hs3⟩ := am_1R_inv hs2
  unfold am_tL at hs3
  obtain ⟨hko, hs4⟩ := am_if_inv hs3
  obtain ⟨hin, hs5⟩ := am_if_inv hs4
  intro H locs ls cells slots hl hR hS e1 e2
  obtain ⟨hI, hz, hP⟩ := id hR
  obtain ⟨o3, ol⟩ := hI.lo (t := (am_K h o).1) (n := (am_K h o).2) rfl (by omega)
  have he := am_W_at (ad := ad) (dA := dA) o3 ol
  rw [am_cell_l hko] at he
  refine az_last (D := (dC, dI)) (cl := vwCl) hx hb hK hP (am_W_D had) hS (o - 3) 2 he rfl hin hd (fun H1 locs1 hP1 hS1 hz1 => hk _ _ _ _ hs5 H1 locs1 ls cells slots hl ⟨hI.sL, by rw [hz1]; exact hz, ?_⟩ hS1 e1 e2)
  rw [← am_L_sL] at hP1
  have hcl := am_cell_l (ad := ad) (dA := dA) (h := am_sL h o i.toNatClampNeg x) (a := o) hko
  have hP2 : va_P (dC, dI) vwCl ((am_W ad dA h).set (o - 3) (ad o, am_cell ad dA (am_sL h o i.toNatClampNeg x) o)) H1 := by rw [hcl]; exact hP1
  rw [am_W_set (h := h) (h' := am_sL h o i.toNatClampNeg x) o3 rfl (fun b hb => am_cell_sL hb)] at hP2
  exact hP2
theorem sm_aastore13 {p : Program} {l : Launch} {e : Env} {R : Room} {s : State} {m : MethodId} {args : Array Value} {below : List Frame} {meth : Method} {c : Code} {Q : State → Prop} {nL base LL : Nat} {xs : Nat → Int32} {ad : Nat → Nat} {dC : Nat → ClassId} {dI : Nat → Nat → Nat} {dA : Nat → ClassId} {n0 s0 : Nat} {cc : ByteArray} {pc : Nat} {lo : am_V} {st : List Value} {h : am_H} {k : am_N} {res : Value × am_H} (hx : p.tables.exec = Jvm.exec) (hb : c.code = cc) (hk : ∀ pc lo st h, k pc lo st h = some res → am_Go p l e R s m args below meth c Q nL base LL xs ad dC dI dA n0 s0 pc lo st h) (hK : va_K (dC, dI) vwCl (am_tys dA) s) (had : am_ad base ad) (hd : decode cc pc = .ok (.aastore, 1)) (hs : am_1R st (fun x st => am_1I st (fun i st => am_1R st (fun o st => am_tR h 13 7 o i x (fun h => k (pc + 1) lo st h)))) = some res) : am_Go p l e R s m args below meth c Q nL base LL xs ad dC dI dA n0 s0 pc lo st h := by
  obtain ⟨x, st, rfl, hs1⟩ := am_1R_inv hs
  obtain ⟨i, st, rfl, hs2⟩ := am_1I_inv hs1
  obtain ⟨o, st, rfl, hs3⟩ := am_1R_inv hs2
  unfold am_tR at hs3
  obtain ⟨hko, hs4⟩ := am_if_inv hs3
  obtain ⟨hin, hs5⟩ := am_if_inv hs4
  obtain ⟨hkx, hs6⟩ := am_if_inv hs5
  intro H locs ls cells slots hl hR hS e1 e2
  obtain ⟨hI, hz, hP⟩ := id hR
  obtain ⟨o3, ol⟩ := hI.lo (t := (am_K h o).1) (n := (am_K h o).2) rfl (by omega)
  have he := am_W_at (ad := ad) (dA := dA) o3 ol
  obtain ⟨x3, xl⟩ := hI.lo hkx (by omega)
  have hex := am_W_at (ad := ad) (dA := dA) x3 xl
  rw [am_cell_o hkx (by omega)] at hex
  rw [am_cell_r (t := 13) (by omega) hko] at he
  refine az_aast (D := (dC, dI)) (cl := vwCl) (r := (RX7, TX7, _)) hx hb hK hP (am_W_D had) hS (o - 3) 3 (x - 3) 7 he rfl hex rfl hin hd (fun H1 locs1 hP1 hS1 hz1 => hk _ _ _ _ hs6 H1 locs1 ls cells slots hl ⟨hI.sR, by rw [hz1]; exact hz, ?_⟩ hS1 e1 e2)
  have hcl := am_cell_r (ad := ad) (dA := dA) (h := am_sR h o i.toNatClampNeg (some x)) (a := o) (t := 13) (by omega) hko
  have hfn : (fun j => (am_R (am_sR h o i.toNatClampNeg (some x)) o j).map ad) = va_up (fun j => (am_R h o j).map ad) i.toNatClampNeg (some (ad x)) := by
    funext j
    rw [am_R_sR]
    by_cases hj : j = i.toNatClampNeg
    · subst hj; rw [va_up_self, va_up_self]; rfl
    · rw [va_up_ne _ _ hj, va_up_ne _ _ hj]
  rw [hfn] at hcl
  have hP2 : va_P (dC, dI) vwCl ((am_W ad dA h).set (o - 3) (ad o, am_cell ad dA (am_sR h o i.toNatClampNeg (some x)) o)) H1 := by rw [hcl]; exact hP1
  rw [am_W_set (h := h) (h' := am_sR h o i.toNatClampNeg (some x)) o3 rfl (fun b hb => am_cell_sR hb)] at hP2
  exact hP2
theorem sm_aastore14 {p : Program} {l : Launch} {e : Env} {R : Room} {s : State} {m : MethodId} {args : Array Value} {below : List Frame} {meth : Method} {c : Code} {Q : State → Prop} {nL base LL : Nat} {xs : Nat → Int32} {ad : Nat → Nat} {dC : Nat → ClassId} {dI : Nat → Nat → Nat} {dA : Nat → ClassId} {n0 s0 : Nat} {cc : ByteArray} {pc : Nat} {lo : am_V} {st : List Value} {h : am_H} {k : am_N} {res : Value × am_H} (hx : p.tables.exec = Jvm.exec) (hb : c.code = cc) (hk : ∀ pc lo st h, k pc lo st h = some res → am_Go p l e R s m args below meth c Q nL base LL xs ad dC dI dA n0 s0 pc lo st h) (hK : va_K (dC, dI) vwCl (am_tys dA) s) (had : am_ad base ad) (hd : decode cc pc = .ok (.aastore, 1)) (hs : am_1R st (fun x st => am_1I st (fun i st => am_1R st (fun o st => am_tR h 14 5 o i x (fun h => k (pc + 1) lo st h)))) = some res) : am_Go p l e R s m args below meth c Q nL base LL xs ad dC dI dA n0 s0 pc lo st h := by
  obtain ⟨x, st, rfl, hs1⟩ := am_1R_inv hs
  obtain ⟨i, st, rfl, hs2⟩ := am_1I_inv hs1
  obtain ⟨o, st, rfl, hs3⟩ := am_1R_inv hs2
  unfold am_tR at hs3
  obtain ⟨hko, hs4⟩ := am_if_inv hs3
  obtain ⟨hin, hs5⟩ := am_if_inv hs4
  obtain ⟨hkx, hs6⟩ := am_if_inv hs5
  intro H locs ls cells slots hl hR hS e1 e2
  obtain ⟨hI, hz, hP⟩ := id hR
  obtain ⟨o3, ol⟩ := hI.lo (t := (am_K h o).1) (n := (am_K h o).2) rfl (by omega)
  have he := am_W_at (ad := ad) (dA := dA) o3 ol
  obtain ⟨x3, xl⟩ := hI.lo hkx (by omega)
  have hex := am_W_at (ad := ad) (dA := dA) x3 xl
  rw [am_cell_o hkx (by omega)] at hex
  rw [am_cell_r (t := 14) (by omega) hko] at he
  refine az_aast (D := (dC, dI)) (cl := vwCl) (r := (RX5, TX5, _)) hx hb hK hP (am_W_D had) hS (o - 3) 4 (x - 3) 5 he rfl hex rfl hin hd (fun H1 locs1 hP1 hS1 hz1 => hk _ _ _ _ hs6 H1 locs1 ls cells slots hl ⟨hI.sR, by rw [hz1]; exact hz, ?_⟩ hS1 e1 e2)
  have hcl := am_cell_r (ad := ad) (dA := dA) (h := am_sR h o i.toNatClampNeg (some x)) (a := o) (t := 14) (by omega) hko
  have hfn : (fun j => (am_R (am_sR h o i.toNatClampNeg (some x)) o j).map ad) = va_up (fun j => (am_R h o j).map ad) i.toNatClampNeg (some (ad x)) := by
    funext j
    rw [am_R_sR]
    by_cases hj : j = i.toNatClampNeg
    · subst hj; rw [va_up_self, va_up_self]; rfl
    · rw [va_up_ne _ _ hj, va_up_ne _ _ hj]
  rw [hfn] at hcl
  have hP2 : va_P (dC, dI) vwCl ((am_W ad dA h).set (o - 3) (ad o, am_cell ad dA (am_sR h o i.toNatClampNeg (some x)) o)) H1 := by rw [hcl]; exact hP1
  rw [am_W_set (h := h) (h' := am_sR h o i.toNatClampNeg (some x)) o3 rfl (fun b hb => am_cell_sR hb)] at hP2
  exact hP2
theorem sm_balen {p : Program} {l : Launch} {e : Env} {R : Room} {s : State} {m : MethodId} {args : Array Value} {below : List Frame} {meth : Method} {c : Code} {Q : State → Prop} {nL base LL : Nat} {xs : Nat → Int32} {ad : Nat → Nat} {dC : Nat → ClassId} {dI : Nat → Nat → Nat} {dA : Nat → ClassId} {n0 s0 : Nat} {cc : ByteArray} {pc : Nat} {lo : am_V} {st : List Value} {h : am_H} {k : am_N} {res : Value × am_H} (hx : p.tables.exec = Jvm.exec) (hb : c.code = cc) (hk : ∀ pc lo st h, k pc lo st h = some res → am_Go p l e R s m args below meth c Q nL base LL xs ad dC dI dA n0 s0 pc lo st h) (hK : va_K (dC, dI) vwCl (am_tys dA) s) (had : am_ad base ad) (hd : decode cc pc = .ok (.arraylength, 1)) (hs : am_1R st (fun o st => am_al h 11 o (fun n => k (pc + 1) lo (.int n :: st) h)) = some res) : am_Go p l e R s m args below meth c Q nL base LL xs ad dC dI dA n0 s0 pc lo st h := by
  obtain ⟨o, st, rfl, hs1⟩ := am_1R_inv hs
  unfold am_al at hs1
  obtain ⟨hko, hs2⟩ := am_if_inv hs1
  intro H locs ls cells slots hl hR hS e1 e2
  obtain ⟨hI, hz, hP⟩ := id hR
  obtain ⟨o3, ol⟩ := hI.lo (t := (am_K h o).1) (n := (am_K h o).2) rfl (by omega)
  have he := am_W_at (ad := ad) (dA := dA) o3 ol
  rw [am_cell_b hko] at he
  exact va_alen (D := (dC, dI)) (cl := vwCl) hx hb hK hP (o - 3) 1 he rfl rfl hd (hk _ _ _ _ hs2 H locs ls cells slots hl hR hS e1 e2)
theorem sm_sclen {p : Program} {l : Launch} {e : Env} {R : Room} {s : State} {m : MethodId} {args : Array Value} {below : List Frame} {meth : Method} {c : Code} {Q : State → Prop} {nL base LL : Nat} {xs : Nat → Int32} {ad : Nat → Nat} {dC : Nat → ClassId} {dI : Nat → Nat → Nat} {dA : Nat → ClassId} {n0 s0 : Nat} {cc : ByteArray} {pc : Nat} {lo : am_V} {st : List Value} {h : am_H} {k : am_N} {res : Value × am_H} (hx : p.tables.exec = Jvm.exec) (hb : c.code = cc) (hk : ∀ pc lo st h, k pc lo st h = some res → am_Go p l e R s m args below meth c Q nL base LL xs ad dC dI dA n0 s0 pc lo st h) (hX : va_X (ad 1) LL xs s s.heap) (hbl : ad 1 < s.heap.size) (hba : ad 1 < base) (hd : decode cc pc = .ok (.arraylength, 1)) (hs : am_1R st (fun o st => am_al h 21 o (fun n => k (pc + 1) lo (.int n :: st) h)) = some res) : am_Go p l e R s m args below meth c Q nL base LL xs ad dC dI dA n0 s0 pc lo st h := by
  obtain ⟨o, st, rfl, hs1⟩ := am_1R_inv hs
  unfold am_al at hs1
  obtain ⟨hko, hs2⟩ := am_if_inv hs1
  intro H locs ls cells slots hl hR hS e1 e2
  obtain ⟨hI, hz, hP⟩ := id hR
  have ho : o = 1 := by
    rcases hI.sc hko (by omega) (by omega) with q | q
    · exact q.1
    · omega
  subst ho
  have hk1 := hI.2.2.1
  rw [hk1] at hs2
  exact va_slen (A := am_A base) hx hb hX hbl (Nat.not_le.mpr hba) hS hd (hk _ _ _ _ hs2 H locs ls cells slots hl hR hS e1 e2)
