/-! THE SIMULATION: new cells, switches, the library's own, calls -/
theorem am_cats (ad : Nat → Nat) (st : List Value) : ((st.map (am_rv ad)).map fun v => v.category).sum = (st.map fun v => v.category).sum := by
  rw [List.map_map]
  congr 1
  apply List.map_congr_left
  intro v _
  exact am_rv_cat ad v
theorem am_ar_inv {b : Nat} {st : List Value} {o : am_O} {r : Value × am_H} (h : am_ar b st o = some r) : (st.take b).length = b ∧ ((st.drop b).map fun v => v.category).sum ≤ 8 ∧ o = some r := by
  unfold am_ar at h
  cases hc : (Nat.beq (st.take b).length b && Nat.ble ((st.drop b).map fun v => v.category).sum 8) with
  | true =>
    rw [hc] at h
    rw [Bool.and_eq_true] at hc
    exact ⟨Nat.eq_of_beq_eq_true hc.1, Nat.le_of_ble_eq_true hc.2, h⟩
  | false => rw [hc] at h; cases h
theorem am_cI_inv {o : am_O} {f : Int32 → am_H → am_O} {r : Value × am_H} (h : am_cI o f = some r) : ∃ x h', o = some (.int x, h') ∧ f x h' = some r := by
  unfold am_cI at h
  split at h
  · exact ⟨_, _, rfl, h⟩
  · cases h
theorem am_cL_inv {o : am_O} {f : Int64 → am_H → am_O} {r : Value × am_H} (h : am_cL o f = some r) : ∃ x h', o = some (.long x, h') ∧ f x h' = some r := by
  unfold am_cL at h
  split at h
  · exact ⟨_, _, rfl, h⟩
  · cases h
theorem am_cV_inv {o : am_O} {f : am_H → am_O} {r : Value × am_H} (h : am_cV o f = some r) : ∃ h', o = some (.null, h') ∧ f h' = some r := by
  unfold am_cV at h
  split at h
  · exact ⟨_, rfl, h⟩
  · cases h
theorem sm_new {p : Program} {l : Launch} {e : Env} {R : Room} {s : State} {m : MethodId} {args : Array Value} {below : List Frame} {meth : Method} {c : Code} {Q : State → Prop} {nL base LL : Nat} {xs : Nat → Int32} {ad : Nat → Nat} {dC : Nat → ClassId} {dI : Nat → Nat → Nat} {dA : Nat → ClassId} {n0 s0 : Nat} {cc : ByteArray} {pc : Nat} {lo : am_V} {st : List Value} {h : am_H} {k : am_N} {res : Value × am_H} (hx : p.tables.exec = Jvm.exec) (hb : c.code = cc) (hk : ∀ pc lo st h, k pc lo st h = some res → am_Go p l e R s m args below meth c Q nL base LL xs ad dC dI dA n0 s0 pc lo st h) {own : String} (hown : s.vm.findClass own = some m.cls) (hts : ∀ w ∈ am_good, w.before args s = true) (hK : va_K (dC, dI) vwCl (am_tys dA) s) (had : am_ad base ad) {ci i N : Nat} {C : String} {T : u_T} {ty0 : Nat → FieldType} (hC : am_CL ci C T N ty0) (hw : Cond.classLink own i C ∈ am_good) (hm : ∀ pc lo st h, k pc lo st h = some res → h.1 ≤ res.2.1 ∧ h.2.1 ≤ res.2.2.1) (hRc : res.2.1 ≤ n0 + R.cells) (hRs : res.2.2.1 ≤ s0 + R.slots) (hd : decode cc pc = .ok (.new i, 3)) (hs : am_nw h ci N (fun q h => k (pc + 3) lo (.ref q :: st) h) = some res) : am_Go p l e R s m args below meth c Q nL base LL xs ad dC dI dA n0 s0 pc lo st h := by
  unfold am_nw at hs
  obtain ⟨m1, m2⟩ := hm _ _ _ _ hs
  intro H locs ls cells slots hl hR hS e1 e2
  obtain ⟨hI, hz, hP⟩ := id hR
  obtain ⟨c10, hcl, hN, hin, hty, hnm, htk, hi1, hi2⟩ := hC
  have h3 := hI.1
  have ea : ad h.1 = H.size := by rw [had _ h3, hz]
  have m1 : h.1 + 1 ≤ res.2.1 := m1
  have m2 : h.2.1 + N ≤ res.2.2.1 := m2
  refine az_new (D := (dC, dI)) (cl := vwCl) (C := C) (T := T) (N := N) (fs := am_fs ad (am_mk h (ci, 0) N) h.1 ci) hx hb hts hin ty0 hty hown (hts _ hw) (hts _ hi1) (hts _ hi2) hK hP hS hcl ?_ (by omega) (by omega) hd (fun H1 hP1 hS1 hz1 => ?_)
  · intro j hj
    show _ = (am_fs ad (am_mk h (ci, 0) N) h.1 ci).getD j .null
    rw [List.getD_eq_getElem?_getD, am_fs_at (by omega)]
    show _ = am_fld ad (am_mk h (ci, 0) N) h.1 ci j
    rcases htk j hj with ⟨q, t⟩ | ⟨q, t⟩ | ⟨q, t | t⟩ | ⟨q, t⟩
    · rw [t, am_fld_i (Or.inl q), show am_I (am_mk h (ci, 0) N) h.1 = fun _ => 0 from if_pos rfl]; rfl
    · rw [t, am_fld_l q, show am_L (am_mk h (ci, 0) N) h.1 = fun _ => 0 from if_pos rfl]; rfl
    · obtain ⟨_, t⟩ := t
      rw [t, am_fld_r q, show am_R (am_mk h (ci, 0) N) h.1 = fun _ => none from if_pos rfl]; rfl
    · obtain ⟨_, t⟩ := t
      rw [t, am_fld_r q, show am_R (am_mk h (ci, 0) N) h.1 = fun _ => none from if_pos rfl]; rfl
    · rw [t, am_fld_i (Or.inr q), show am_I (am_mk h (ci, 0) N) h.1 = fun _ => 0 from if_pos rfl]; rfl
  · have hcell := am_cell_o (h := am_mk h (ci, 0) N) (a := h.1) (dA := dA) (ad := ad) (if_pos rfl) c10
    rw [← ea]
    refine hk _ _ _ _ hs H1 locs ls (cells + 1) (slots + N) hl ⟨hI.mk (show ci < 20 by omega), by show H1.size = base + (h.1 + 1 - 3); omega, ?_⟩ hS1 (by show h.1 + 1 = _; omega) (by show h.2.1 + N = _; omega)
    rw [am_W_push h3, hcell, ea]
    exact hP1
theorem sm_newI {p : Program} {l : Launch} {e : Env} {R : Room} {s : State} {m : MethodId} {args : Array Value} {below : List Frame} {meth : Method} {c : Code} {Q : State → Prop} {nL base LL : Nat} {xs : Nat → Int32} {ad : Nat → Nat} {dC : Nat → ClassId} {dI : Nat → Nat → Nat} {dA : Nat → ClassId} {n0 s0 : Nat} {cc : ByteArray} {pc : Nat} {lo : am_V} {st : List Value} {h : am_H} {k : am_N} {res : Value × am_H} (hx : p.tables.exec = Jvm.exec) (hb : c.code = cc) (hk : ∀ pc lo st h, k pc lo st h = some res → am_Go p l e R s m args below meth c Q nL base LL xs ad dC dI dA n0 s0 pc lo st h) {own : String} (hown : s.vm.findClass own = some m.cls) (hts : ∀ w ∈ am_good, w.before args s = true) (hK : va_K (dC, dI) vwCl (am_tys dA) s) (had : am_ad base ad) (hw : Cond.arrayClass .int ∈ am_good) (hm : ∀ pc lo st h, k pc lo st h = some res → h.1 ≤ res.2.1 ∧ h.2.1 ≤ res.2.2.1) (hRc : res.2.1 ≤ n0 + R.cells) (hRs : res.2.2.1 ≤ s0 + R.slots) (hd : decode cc pc = .ok (.newarray .int, 2)) (hs : am_1I st (fun n st => am_na h 10 n (fun q h => k (pc + 2) lo (.ref q :: st) h)) = some res) : am_Go p l e R s m args below meth c Q nL base LL xs ad dC dI dA n0 s0 pc lo st h := by
  obtain ⟨n, st, rfl, hs1⟩ := am_1I_inv hs
  unfold am_na at hs1
  obtain ⟨⟨hn, hle⟩, hs2⟩ := am_if_inv hs1
  obtain ⟨m1, m2⟩ := hm _ _ _ _ hs2
  intro H locs ls cells slots hl hR hS e1 e2
  obtain ⟨hI, hz, hP⟩ := id hR
  have h3 := hI.1
  have ea : ad h.1 = H.size := by rw [had _ h3, hz]
  have m1 : h.1 + 1 ≤ res.2.1 := m1
  have m2 : h.2.1 + n.toNatClampNeg ≤ res.2.2.1 := m2
  refine az_newa (D := (dC, dI)) (cl := vwCl) (atype := .int) (ty := .int) (cA := dA 10) (a0 := (n.toNatClampNeg, .inl (fun _ => 0))) hx hb (hts _ hw) rfl (hK.2 0 _ rfl).2 hP hS (fun cA => rfl) hn rfl (Nat.le_trans (Nat.mul_le_mul_right _ hle) (by decide)) (by omega) (by omega) hd (fun H1 hP1 hS1 hz1 => ?_)
  have hkk : am_K (am_mk h (10, n.toNatClampNeg) n.toNatClampNeg) h.1 = (10, n.toNatClampNeg) := if_pos rfl
  have hcell := am_cell_i (h := am_mk h (10, n.toNatClampNeg) n.toNatClampNeg) (a := h.1) (dA := dA) (ad := ad) (by rw [hkk])
  rw [hkk, show am_I (am_mk h (10, n.toNatClampNeg) n.toNatClampNeg) h.1 = fun _ => 0 from if_pos rfl] at hcell
  rw [← ea]
  refine hk _ _ _ _ hs2 H1 locs ls (cells + 1) (slots + n.toNatClampNeg) hl ⟨hI.mk (show 10 < 20 by omega), by show H1.size = base + (h.1 + 1 - 3); omega, ?_⟩ hS1 (by show h.1 + 1 = _; omega) (by show h.2.1 + n.toNatClampNeg = _; omega)
  rw [am_W_push h3, hcell, ea]
  exact hP1
theorem sm_newB {p : Program} {l : Launch} {e : Env} {R : Room} {s : State} {m : MethodId} {args : Array Value} {below : List Frame} {meth : Method} {c : Code} {Q : State → Prop} {nL base LL : Nat} {xs : Nat → Int32} {ad : Nat → Nat} {dC : Nat → ClassId} {dI : Nat → Nat → Nat} {dA : Nat → ClassId} {n0 s0 : Nat} {cc : ByteArray} {pc : Nat} {lo : am_V} {st : List Value} {h : am_H} {k : am_N} {res : Value × am_H} (hx : p.tables.exec = Jvm.exec) (hb : c.code = cc) (hk : ∀ pc lo st h, k pc lo st h = some res → am_Go p l e R s m args below meth c Q nL base LL xs ad dC dI dA n0 s0 pc lo st h) {own : String} (hown : s.vm.findClass own = some m.cls) (hts : ∀ w ∈ am_good, w.before args s = true) (hK : va_K (dC, dI) vwCl (am_tys dA) s) (had : am_ad base ad) (hw : Cond.arrayClass .byte ∈ am_good) (hm : ∀ pc lo st h, k pc lo st h = some res → h.1 ≤ res.2.1 ∧ h.2.1 ≤ res.2.2.1) (hRc : res.2.1 ≤ n0 + R.cells) (hRs : res.2.2.1 ≤ s0 + R.slots) (hd : decode cc pc = .ok (.newarray .byte, 2)) (hs : am_1I st (fun n st => am_na h 11 n (fun q h => k (pc + 2) lo (.ref q :: st) h)) = some res) : am_Go p l e R s m args below meth c Q nL base LL xs ad dC dI dA n0 s0 pc lo st h := by
  obtain ⟨n, st, rfl, hs1⟩ := am_1I_inv hs
  unfold am_na at hs1
  obtain ⟨⟨hn, hle⟩, hs2⟩ := am_if_inv hs1
  obtain ⟨m1, m2⟩ := hm _ _ _ _ hs2
  intro H locs ls cells slots hl hR hS e1 e2
  obtain ⟨hI, hz, hP⟩ := id hR
  have h3 := hI.1
  have ea : ad h.1 = H.size := by rw [had _ h3, hz]
  have m1 : h.1 + 1 ≤ res.2.1 := m1
  have m2 : h.2.1 + n.toNatClampNeg ≤ res.2.2.1 := m2
  refine az_newa (D := (dC, dI)) (cl := vwCl) (atype := .byte) (ty := .byte) (cA := dA 11) (a0 := (n.toNatClampNeg, .inl (fun _ => 0))) hx hb (hts _ hw) rfl (hK.2 1 _ rfl).2 hP hS (fun cA => rfl) hn rfl (Nat.le_trans (Nat.mul_le_mul_right _ hle) (by decide)) (by omega) (by omega) hd (fun H1 hP1 hS1 hz1 => ?_)
  have hkk : am_K (am_mk h (11, n.toNatClampNeg) n.toNatClampNeg) h.1 = (11, n.toNatClampNeg) := if_pos rfl
  have hcell := am_cell_b (h := am_mk h (11, n.toNatClampNeg) n.toNatClampNeg) (a := h.1) (dA := dA) (ad := ad) (by rw [hkk])
  rw [hkk, show am_I (am_mk h (11, n.toNatClampNeg) n.toNatClampNeg) h.1 = fun _ => 0 from if_pos rfl] at hcell
  rw [← ea]
  refine hk _ _ _ _ hs2 H1 locs ls (cells + 1) (slots + n.toNatClampNeg) hl ⟨hI.mk (show 11 < 20 by omega), by show H1.size = base + (h.1 + 1 - 3); omega, ?_⟩ hS1 (by show h.1 + 1 = _; omega) (by show h.2.1 + n.toNatClampNeg = _; omega)
  rw [am_W_push h3, hcell, ea]
  exact hP1
theorem sm_newL {p : Program} {l : Launch} {e : Env} {R : Room} {s : State} {m : MethodId} {args : Array Value} {below : List Frame} {meth : Method} {c : Code} {Q : State → Prop} {nL base LL : Nat} {xs : Nat → Int32} {ad : Nat → Nat} {dC : Nat → ClassId} {dI : Nat → Nat → Nat} {dA : Nat → ClassId} {n0 s0 : Nat} {cc : ByteArray} {pc : Nat} {lo : am_V} {st : List Value} {h : am_H} {k : am_N} {res : Value × am_H} (hx : p.tables.exec = Jvm.exec) (hb : c.code = cc) (hk : ∀ pc lo st h, k pc lo st h = some res → am_Go p l e R s m args below meth c Q nL base LL xs ad dC dI dA n0 s0 pc lo st h) {own : String} (hown : s.vm.findClass own = some m.cls) (hts : ∀ w ∈ am_good, w.before args s = true) (hK : va_K (dC, dI) vwCl (am_tys dA) s) (had : am_ad base ad) (hw : Cond.arrayClass .long ∈ am_good) (hm : ∀ pc lo st h, k pc lo st h = some res → h.1 ≤ res.2.1 ∧ h.2.1 ≤ res.2.2.1) (hRc : res.2.1 ≤ n0 + R.cells) (hRs : res.2.2.1 ≤ s0 + R.slots) (hd : decode cc pc = .ok (.newarray .long, 2)) (hs : am_1I st (fun n st => am_na h 12 n (fun q h => k (pc + 2) lo (.ref q :: st) h)) = some res) : am_Go p l e R s m args below meth c Q nL base LL xs ad dC dI dA n0 s0 pc lo st h := by
  obtain ⟨n, st, rfl, hs1⟩ := am_1I_inv hs
  unfold am_na at hs1
  obtain ⟨⟨hn, hle⟩, hs2⟩ := am_if_inv hs1
  obtain ⟨m1, m2⟩ := hm _ _ _ _ hs2
  intro H locs ls cells slots hl hR hS e1 e2
  obtain ⟨hI, hz, hP⟩ := id hR
  have h3 := hI.1
  have ea : ad h.1 = H.size := by rw [had _ h3, hz]
  have m1 : h.1 + 1 ≤ res.2.1 := m1
  have m2 : h.2.1 + n.toNatClampNeg ≤ res.2.2.1 := m2
  refine az_newa (D := (dC, dI)) (cl := vwCl) (atype := .long) (ty := .long) (cA := dA 12) (a0 := (n.toNatClampNeg, .inr (.inl (fun _ => 0)))) hx hb (hts _ hw) rfl (hK.2 2 _ rfl).2 hP hS (fun cA => rfl) hn rfl (Nat.le_trans (Nat.mul_le_mul_right _ hle) (by decide)) (by omega) (by omega) hd (fun H1 hP1 hS1 hz1 => ?_)
  have hkk : am_K (am_mk h (12, n.toNatClampNeg) n.toNatClampNeg) h.1 = (12, n.toNatClampNeg) := if_pos rfl
  have hcell := am_cell_l (h := am_mk h (12, n.toNatClampNeg) n.toNatClampNeg) (a := h.1) (dA := dA) (ad := ad) (by rw [hkk])
  rw [hkk, show am_L (am_mk h (12, n.toNatClampNeg) n.toNatClampNeg) h.1 = fun _ => 0 from if_pos rfl] at hcell
  rw [← ea]
  refine hk _ _ _ _ hs2 H1 locs ls (cells + 1) (slots + n.toNatClampNeg) hl ⟨hI.mk (show 12 < 20 by omega), by show H1.size = base + (h.1 + 1 - 3); omega, ?_⟩ hS1 (by show h.1 + 1 = _; omega) (by show h.2.1 + n.toNatClampNeg = _; omega)
  rw [am_W_push h3, hcell, ea]
  exact hP1
theorem sm_newR13 {p : Program} {l : Launch} {e : Env} {R : Room} {s : State} {m : MethodId} {args : Array Value} {below : List Frame} {meth : Method} {c : Code} {Q : State → Prop} {nL base LL : Nat} {xs : Nat → Int32} {ad : Nat → Nat} {dC : Nat → ClassId} {dI : Nat → Nat → Nat} {dA : Nat → ClassId} {n0 s0 : Nat} {cc : ByteArray} {pc : Nat} {lo : am_V} {st : List Value} {h : am_H} {k : am_N} {res : Value × am_H} (hx : p.tables.exec = Jvm.exec) (hb : c.code = cc) (hk : ∀ pc lo st h, k pc lo st h = some res → am_Go p l e R s m args below meth c Q nL base LL xs ad dC dI dA n0 s0 pc lo st h) {own : String} (hown : s.vm.findClass own = some m.cls) (hts : ∀ w ∈ am_good, w.before args s = true) (hK : va_K (dC, dI) vwCl (am_tys dA) s) (had : am_ad base ad) {i : Nat} (hw : Cond.classLink own i "LicensedVoice$Tray" ∈ am_good) (hov : va_AO "LicensedVoice$Tray" s) (hm : ∀ pc lo st h, k pc lo st h = some res → h.1 ≤ res.2.1 ∧ h.2.1 ≤ res.2.2.1) (hRc : res.2.1 ≤ n0 + R.cells) (hRs : res.2.2.1 ≤ s0 + R.slots) (hd : decode cc pc = .ok (.anewarray i, 3)) (hs : am_1I st (fun n st => am_na h 13 n (fun q h => k (pc + 3) lo (.ref q :: st) h)) = some res) : am_Go p l e R s m args below meth c Q nL base LL xs ad dC dI dA n0 s0 pc lo st h := by
  obtain ⟨n, st, rfl, hs1⟩ := am_1I_inv hs
  unfold am_na at hs1
  obtain ⟨⟨hn, hle⟩, hs2⟩ := am_if_inv hs1
  obtain ⟨m1, m2⟩ := hm _ _ _ _ hs2
  intro H locs ls cells slots hl hR hS e1 e2
  obtain ⟨hI, hz, hP⟩ := id hR
  have h3 := hI.1
  have ea : ad h.1 = H.size := by rw [had _ h3, hz]
  have m1 : h.1 + 1 ≤ res.2.1 := m1
  have m2 : h.2.1 + n.toNatClampNeg ≤ res.2.2.1 := m2
  obtain ⟨kA, comp, f2, f3, f4, f1⟩ := (hK.2 3 _ rfl).2
  refine az_newq (D := (dC, dI)) (cl := vwCl) (C := "LicensedVoice$Tray") (cA := dA 13) hx hb hown (hts _ hw) hov f1 hP hS hn rfl (Nat.le_trans (Nat.mul_le_mul_right _ hle) (by decide)) (by omega) (by omega) hd (fun H1 hP1 hS1 hz1 => ?_)
  have hkk : am_K (am_mk h (13, n.toNatClampNeg) n.toNatClampNeg) h.1 = (13, n.toNatClampNeg) := if_pos rfl
  have hcell := am_cell_r (h := am_mk h (13, n.toNatClampNeg) n.toNatClampNeg) (a := h.1) (dA := dA) (ad := ad) (t := 13) (by omega) (by rw [hkk])
  rw [hkk, show am_R (am_mk h (13, n.toNatClampNeg) n.toNatClampNeg) h.1 = fun _ => none from if_pos rfl] at hcell
  rw [← ea]
  refine hk _ _ _ _ hs2 H1 locs ls (cells + 1) (slots + n.toNatClampNeg) hl ⟨hI.mk (show 13 < 20 by omega), by show H1.size = base + (h.1 + 1 - 3); omega, ?_⟩ hS1 (by show h.1 + 1 = _; omega) (by show h.2.1 + n.toNatClampNeg = _; omega)
  rw [am_W_push h3, hcell, ea]
  exact hP1
theorem sm_newR14 {p : Program} {l : Launch} {e : Env} {R : Room} {s : State} {m : MethodId} {args : Array Value} {below : List Frame} {meth : Method} {c : Code} {Q : State → Prop} {nL base LL : Nat} {xs : Nat → Int32} {ad : Nat → Nat} {dC : Nat → ClassId} {dI : Nat → Nat → Nat} {dA : Nat → ClassId} {n0 s0 : Nat} {cc : ByteArray} {pc : Nat} {lo : am_V} {st : List Value} {h : am_H} {k : am_N} {res : Value × am_H} (hx : p.tables.exec = Jvm.exec) (hb : c.code = cc) (hk : ∀ pc lo st h, k pc lo st h = some res → am_Go p l e R s m args below meth c Q nL base LL xs ad dC dI dA n0 s0 pc lo st h) {own : String} (hown : s.vm.findClass own = some m.cls) (hts : ∀ w ∈ am_good, w.before args s = true) (hK : va_K (dC, dI) vwCl (am_tys dA) s) (had : am_ad base ad) {i : Nat} (hw : Cond.classLink own i "LicensedVoice$Town" ∈ am_good) (hov : va_AO "LicensedVoice$Town" s) (hm : ∀ pc lo st h, k pc lo st h = some res → h.1 ≤ res.2.1 ∧ h.2.1 ≤ res.2.2.1) (hRc : res.2.1 ≤ n0 + R.cells) (hRs : res.2.2.1 ≤ s0 + R.slots) (hd : decode cc pc = .ok (.anewarray i, 3)) (hs : am_1I st (fun n st => am_na h 14 n (fun q h => k (pc + 3) lo (.ref q :: st) h)) = some res) : am_Go p l e R s m args below meth c Q nL base LL xs ad dC dI dA n0 s0 pc lo st h := by
  obtain ⟨n, st, rfl, hs1⟩ := am_1I_inv hs
  unfold am_na at hs1
  obtain ⟨⟨hn, hle⟩, hs2⟩ := am_if_inv hs1
  obtain ⟨m1, m2⟩ := hm _ _ _ _ hs2
  intro H locs ls cells slots hl hR hS e1 e2
  obtain ⟨hI, hz, hP⟩ := id hR
  have h3 := hI.1
  have ea : ad h.1 = H.size := by rw [had _ h3, hz]
  have m1 : h.1 + 1 ≤ res.2.1 := m1
  have m2 : h.2.1 + n.toNatClampNeg ≤ res.2.2.1 := m2
  obtain ⟨kA, comp, f2, f3, f4, f1⟩ := (hK.2 4 _ rfl).2
  refine az_newq (D := (dC, dI)) (cl := vwCl) (C := "LicensedVoice$Town") (cA := dA 14) hx hb hown (hts _ hw) hov f1 hP hS hn rfl (Nat.le_trans (Nat.mul_le_mul_right _ hle) (by decide)) (by omega) (by omega) hd (fun H1 hP1 hS1 hz1 => ?_)
  have hkk : am_K (am_mk h (14, n.toNatClampNeg) n.toNatClampNeg) h.1 = (14, n.toNatClampNeg) := if_pos rfl
  have hcell := am_cell_r (h := am_mk h (14, n.toNatClampNeg) n.toNatClampNeg) (a := h.1) (dA := dA) (ad := ad) (t := 14) (by omega) (by rw [hkk])
  rw [hkk, show am_R (am_mk h (14, n.toNatClampNeg) n.toNatClampNeg) h.1 = fun _ => none from if_pos rfl] at hcell
  rw [← ea]
  refine hk _ _ _ _ hs2 H1 locs ls (cells + 1) (slots + n.toNatClampNeg) hl ⟨hI.mk (show 14 < 20 by omega), by show H1.size = base + (h.1 + 1 - 3); omega, ?_⟩ hS1 (by show h.1 + 1 = _; omega) (by show h.2.1 + n.toNatClampNeg = _; omega)
  rw [am_W_push h3, hcell, ea]
  exact hP1
theorem sm_tsw {p : Program} {l : Launch} {e : Env} {R : Room} {s : State} {m : MethodId} {args : Array Value} {below : List Frame} {meth : Method} {c : Code} {Q : State → Prop} {nL base LL : Nat} {xs : Nat → Int32} {ad : Nat → Nat} {dC : Nat → ClassId} {dI : Nat → Nat → Nat} {dA : Nat → ClassId} {n0 s0 : Nat} {cc : ByteArray} {pc : Nat} {lo : am_V} {st : List Value} {h : am_H} {k : am_N} {res : Value × am_H} (hx : p.tables.exec = Jvm.exec) (hb : c.code = cc) (hk : ∀ pc lo st h, k pc lo st h = some res → am_Go p l e R s m args below meth c Q nL base LL xs ad dC dI dA n0 s0 pc lo st h) {dflt lo0 hi : Int} {offs : Array Int} {len tgt : Nat} {ts : List (Int32 × Nat)} (hd : decode cc pc = .ok (.tableswitch dflt lo0 hi offs, len)) (hlen : (ts.length : Int) = hi - lo0 + 1) (hts : ∀ (j : Nat) (c : Int32) (t : Nat), ts[j]? = some (c, t) → c.toInt = lo0 + j ∧ ∃ off : Int, offs[j]? = some off ∧ (pc : Int) + off = (t : Int)) (htg : (pc : Int) + dflt = (tgt : Int)) (hs : am_1I st (fun x st => am_sw ts tgt x (fun t => k t lo st h)) = some res) : am_Go p l e R s m args below meth c Q nL base LL xs ad dC dI dA n0 s0 pc lo st h := by
  obtain ⟨x, st, rfl, hs1⟩ := am_1I_inv hs
  intro H locs ls cells slots hl hR hS e1 e2
  rcases am_sw_inv hs1 with ⟨j, t, h1, h2⟩ | ⟨h1, h2⟩
  · obtain ⟨q1, off, q2, q3⟩ := hts j x t h1
    have hj := (List.getElem?_eq_some_iff.mp h1).1
    exact lv_tableIn hx hb hd (by omega) (by omega) (off := off) (by rw [show (x.toInt - lo0).toNat = j by omega]; exact q2) q3 (hk _ _ _ _ h2 H locs ls cells slots hl hR hS e1 e2)
  · refine lv_tableOut hx hb hd ?_ htg (hk _ _ _ _ h2 H locs ls cells slots hl hR hS e1 e2)
    by_cases q1 : x.toInt < lo0
    · exact Or.inl q1
    · by_cases q2 : hi < x.toInt
      · exact Or.inr q2
      · exfalso
        have hj : (x.toInt - lo0).toNat < ts.length := by omega
        have hg := List.getElem?_eq_getElem hj
        obtain ⟨q3, -⟩ := hts _ _ _ hg
        exact h1 _ _ _ hg (Int32.toInt_inj.mp (by rw [q3]; omega))
theorem sm_mmax {p : Program} {l : Launch} {e : Env} {R : Room} {s : State} {m : MethodId} {args : Array Value} {below : List Frame} {meth : Method} {c : Code} {Q : State → Prop} {nL base LL : Nat} {xs : Nat → Int32} {ad : Nat → Nat} {dC : Nat → ClassId} {dI : Nat → Nat → Nat} {dA : Nat → ClassId} {n0 s0 : Nat} {cc : ByteArray} {pc : Nat} {lo : am_V} {st : List Value} {h : am_H} {k : am_N} {res : Value × am_H} (hx : p.tables.exec = Jvm.exec) (hb : c.code = cc) (hk : ∀ pc lo st h, k pc lo st h = some res → am_Go p l e R s m args below meth c Q nL base LL xs ad dC dI dA n0 s0 pc lo st h) {own : String} (hown : s.vm.findClass own = some m.cls) (hts : ∀ w ∈ am_good, w.before args s = true) (hfr : 1 ≤ R.frames) (hlo : 64 ≤ R.locals) (hml : c.maxLocals = nL) {i : Nat} (hw : Cond.methodLink own i Lib.Math.max.name ∈ am_good) (hw2 : Cond.static Lib.Math.max.name ∈ am_good) (hw3 : Cond.initialized "java/lang/Math" ∈ am_good) (hw4 : Cond.code Lib.Math.max.name Lib.Math.max.code 2 (some .int) ∈ am_good) (hm : ∀ pc lo st h, k pc lo st h = some res → h.1 ≤ res.2.1 ∧ h.2.1 ≤ res.2.2.1) (hRc : res.2.1 ≤ n0 + R.cells) (hRs : res.2.2.1 ≤ s0 + R.slots) (hd : decode cc pc = .ok (.invokestatic i, 3)) (hs : am_1I st (fun y st => am_1I st (fun x st => am_lt8 st (k (pc + 3) lo (.int (if x < y then y else x) :: st) h))) = some res) : am_Go p l e R s m args below meth c Q nL base LL xs ad dC dI dA n0 s0 pc lo st h := by
  obtain ⟨y, st, rfl, hs1⟩ := am_1I_inv hs
  obtain ⟨x, st, rfl, hs2⟩ := am_1I_inv hs1
  obtain ⟨h8, hs3⟩ := am_lt8_inv hs2
  obtain ⟨m1, m2⟩ := hm _ _ _ _ hs3
  intro H locs ls cells slots hl hR hS e1 e2
  exact va_mmax hx hb (hml.trans hl.1.symm) hown (hts _ hw) (hts _ hw2) (hts _ hw3) (hts _ hw4) hfr (by rw [am_cats]; omega) (by omega) (by omega) hd (hk _ _ _ _ hs3 H locs ls cells slots hl hR hS e1 e2)
theorem sm_mmin {p : Program} {l : Launch} {e : Env} {R : Room} {s : State} {m : MethodId} {args : Array Value} {below : List Frame} {meth : Method} {c : Code} {Q : State → Prop} {nL base LL : Nat} {xs : Nat → Int32} {ad : Nat → Nat} {dC : Nat → ClassId} {dI : Nat → Nat → Nat} {dA : Nat → ClassId} {n0 s0 : Nat} {cc : ByteArray} {pc : Nat} {lo : am_V} {st : List Value} {h : am_H} {k : am_N} {res : Value × am_H} (hx : p.tables.exec = Jvm.exec) (hb : c.code = cc) (hk : ∀ pc lo st h, k pc lo st h = some res → am_Go p l e R s m args below meth c Q nL base LL xs ad dC dI dA n0 s0 pc lo st h) {own : String} (hown : s.vm.findClass own = some m.cls) (hts : ∀ w ∈ am_good, w.before args s = true) (hfr : 1 ≤ R.frames) (hlo : 64 ≤ R.locals) (hml : c.maxLocals = nL) {i : Nat} (hw : Cond.methodLink own i Lib.Math.min.name ∈ am_good) (hw2 : Cond.static Lib.Math.min.name ∈ am_good) (hw3 : Cond.initialized "java/lang/Math" ∈ am_good) (hw4 : Cond.code Lib.Math.min.name Lib.Math.min.code 2 (some .int) ∈ am_good) (hm : ∀ pc lo st h, k pc lo st h = some res → h.1 ≤ res.2.1 ∧ h.2.1 ≤ res.2.2.1) (hRc : res.2.1 ≤ n0 + R.cells) (hRs : res.2.2.1 ≤ s0 + R.slots) (hd : decode cc pc = .ok (.invokestatic i, 3)) (hs : am_1I st (fun y st => am_1I st (fun x st => am_lt8 st (k (pc + 3) lo (.int (if y < x then y else x) :: st) h))) = some res) : am_Go p l e R s m args below meth c Q nL base LL xs ad dC dI dA n0 s0 pc lo st h := by
  obtain ⟨y, st, rfl, hs1⟩ := am_1I_inv hs
  obtain ⟨x, st, rfl, hs2⟩ := am_1I_inv hs1
  obtain ⟨h8, hs3⟩ := am_lt8_inv hs2
  obtain ⟨m1, m2⟩ := hm _ _ _ _ hs3
  intro H locs ls cells slots hl hR hS e1 e2
  exact va_mmin hx hb (hml.trans hl.1.symm) hown (hts _ hw) (hts _ hw2) (hts _ hw3) (hts _ hw4) hfr (by rw [am_cats]; omega) (by omega) (by omega) hd (hk _ _ _ _ hs3 H locs ls cells slots hl hR hS e1 e2)
theorem sm_mabs {p : Program} {l : Launch} {e : Env} {R : Room} {s : State} {m : MethodId} {args : Array Value} {below : List Frame} {meth : Method} {c : Code} {Q : State → Prop} {nL base LL : Nat} {xs : Nat → Int32} {ad : Nat → Nat} {dC : Nat → ClassId} {dI : Nat → Nat → Nat} {dA : Nat → ClassId} {n0 s0 : Nat} {cc : ByteArray} {pc : Nat} {lo : am_V} {st : List Value} {h : am_H} {k : am_N} {res : Value × am_H} (hx : p.tables.exec = Jvm.exec) (hb : c.code = cc) (hk : ∀ pc lo st h, k pc lo st h = some res → am_Go p l e R s m args below meth c Q nL base LL xs ad dC dI dA n0 s0 pc lo st h) {own : String} (hown : s.vm.findClass own = some m.cls) (hts : ∀ w ∈ am_good, w.before args s = true) (hfr : 1 ≤ R.frames) (hlo : 64 ≤ R.locals) (hml : c.maxLocals = nL) {i : Nat} (hw : Cond.methodLink own i Lib.MathLoose.abs_long.x ∈ am_good) (hw2 : Cond.static Lib.MathLoose.abs_long.x ∈ am_good) (hw3 : Cond.initialized "java/lang/Math" ∈ am_good) (hw4 : Cond.code Lib.MathLoose.abs_long.x Lib.MathLoose.abs_long.code 2 (some .long) ∈ am_good) (hm : ∀ pc lo st h, k pc lo st h = some res → h.1 ≤ res.2.1 ∧ h.2.1 ≤ res.2.2.1) (hRc : res.2.1 ≤ n0 + R.cells) (hRs : res.2.2.1 ≤ s0 + R.slots) (hd : decode cc pc = .ok (.invokestatic i, 3)) (hs : am_1L st (fun x st => am_lt8 st (k (pc + 3) lo (.long (if 0 < x then x else -x) :: st) h)) = some res) : am_Go p l e R s m args below meth c Q nL base LL xs ad dC dI dA n0 s0 pc lo st h := by
  obtain ⟨x, st, rfl, hs1⟩ := am_1L_inv hs
  obtain ⟨h8, hs2⟩ := am_lt8_inv hs1
  obtain ⟨m1, m2⟩ := hm _ _ _ _ hs2
  intro H locs ls cells slots hl hR hS e1 e2
  exact va_mabs_long hx hb (hml.trans hl.1.symm) hown (hts _ hw) (hts _ hw2) (hts _ hw3) (hts _ hw4) hfr (by rw [am_cats]; omega) (by omega) (by omega) hd (hk _ _ _ _ hs2 H locs ls cells slots hl hR hS e1 e2)
theorem sm_oinit {p : Program} {l : Launch} {e : Env} {R : Room} {s : State} {m : MethodId} {args : Array Value} {below : List Frame} {meth : Method} {c : Code} {Q : State → Prop} {nL base LL : Nat} {xs : Nat → Int32} {ad : Nat → Nat} {dC : Nat → ClassId} {dI : Nat → Nat → Nat} {dA : Nat → ClassId} {n0 s0 : Nat} {cc : ByteArray} {pc : Nat} {lo : am_V} {st : List Value} {h : am_H} {k : am_N} {res : Value × am_H} (hx : p.tables.exec = Jvm.exec) (hb : c.code = cc) (hk : ∀ pc lo st h, k pc lo st h = some res → am_Go p l e R s m args below meth c Q nL base LL xs ad dC dI dA n0 s0 pc lo st h) {own : String} (hown : s.vm.findClass own = some m.cls) (hts : ∀ w ∈ am_good, w.before args s = true) (hfr : 1 ≤ R.frames) (hlo : 64 ≤ R.locals) (hml : c.maxLocals = nL) {i : Nat} (hw : Cond.methodLink own i Lib.objectInit ∈ am_good) (hw2 : Cond.instanceMethod Lib.objectInit ∈ am_good) (hw3 : Cond.code Lib.objectInit ⟨#[0xb1]⟩ 1 none ∈ am_good) (hd : decode cc pc = .ok (.invokespecial i, 3)) (hs : am_1R st (fun _ st => am_lt8 st (k (pc + 3) lo st h)) = some res) : am_Go p l e R s m args below meth c Q nL base LL xs ad dC dI dA n0 s0 pc lo st h := by
  obtain ⟨x, st, rfl, hs1⟩ := am_1R_inv hs
  obtain ⟨h8, hs2⟩ := am_lt8_inv hs1
  intro H locs ls cells slots hl hR hS e1 e2
  exact W.objInit hx hb hown (hts _ hw) (hts _ hw2) (hts _ hw3) rfl (hl.1.trans hml.symm) rfl hd hfr (by show 2 * 0 + _ + 12 ≤ _; rw [am_cats]; omega) (hk _ _ _ _ hs2 H locs ls cells slots hl hR hS e1 e2)
theorem sm_cpI {p : Program} {l : Launch} {e : Env} {R : Room} {s : State} {m : MethodId} {args : Array Value} {below : List Frame} {meth : Method} {c : Code} {Q : State → Prop} {nL base LL : Nat} {xs : Nat → Int32} {ad : Nat → Nat} {dC : Nat → ClassId} {dI : Nat → Nat → Nat} {dA : Nat → ClassId} {n0 s0 : Nat} {cc : ByteArray} {pc : Nat} {lo : am_V} {st : List Value} {h : am_H} {k : am_N} {res : Value × am_H} (hx : p.tables.exec = Jvm.exec) (hb : c.code = cc) (hk : ∀ pc lo st h, k pc lo st h = some res → am_Go p l e R s m args below meth c Q nL base LL xs ad dC dI dA n0 s0 pc lo st h) {own : String} (hown : s.vm.findClass own = some m.cls) (hts : ∀ w ∈ am_good, w.before args s = true) (hK : va_K (dC, dI) vwCl (am_tys dA) s) (had : am_ad base ad) (hfr : 1 ≤ R.frames) (hlo : 64 ≤ R.locals) (hml : c.maxLocals = nL) {i : Nat} (hw : Cond.methodLink own i arraycopyName ∈ am_good) (hw2 : Cond.native arraycopyName ∈ am_good) (hw3 : Cond.static arraycopyName ∈ am_good) (hw4 : Cond.initialized "java/lang/System" ∈ am_good) (hd : decode cc pc = .ok (.invokestatic i, 3)) (hs : am_1I st (fun n st => am_1I st (fun dp st => am_1R st (fun d st => am_1I st (fun sp st => am_1R st (fun o st => am_lt8 st (am_cpI h o sp d dp n (fun h => k (pc + 3) lo st h))))))) = some res) : am_Go p l e R s m args below meth c Q nL base LL xs ad dC dI dA n0 s0 pc lo st h := by
  obtain ⟨n, st, rfl, hs1⟩ := am_1I_inv hs
  obtain ⟨dp, st, rfl, hs2⟩ := am_1I_inv hs1
  obtain ⟨d, st, rfl, hs3⟩ := am_1R_inv hs2
  obtain ⟨sp, st, rfl, hs4⟩ := am_1I_inv hs3
  obtain ⟨o, st, rfl, hs5⟩ := am_1R_inv hs4
  obtain ⟨h8, hs6⟩ := am_lt8_inv hs5
  unfold am_cpI at hs6
  obtain ⟨⟨hko, hkd⟩, hs7⟩ := am_if_inv hs6
  obtain ⟨⟨⟨g1, g2, g3⟩, g4, g5⟩, hs8⟩ := am_if_inv hs7
  intro H locs ls cells slots hl hR hS e1 e2
  obtain ⟨hI, hz, hP⟩ := id hR
  obtain ⟨o3, ol⟩ := hI.lo (t := (am_K h o).1) (n := (am_K h o).2) rfl (by omega)
  obtain ⟨d3, dl⟩ := hI.lo (t := (am_K h d).1) (n := (am_K h d).2) rfl (by omega)
  have he := am_W_at (ad := ad) (dA := dA) o3 ol
  have hed := am_W_at (ad := ad) (dA := dA) d3 dl
  rw [am_cell_i hko] at he
  rw [am_cell_i hkd] at hed
  have hnw : nativeFrameWords "java/lang/System" "arraycopy" 5 ≤ 40 := by decide
  refine az_copyi (D := (dC, dI)) (cl := vwCl) hx hb (hml.trans hl.1.symm) hown (hts _ hw) (hts _ hw2) (hts _ hw3) (hts _ hw4) hK hP (am_W_D had) hS (o - 3) (d - 3) 0 he hed rfl g1 g2 g3 g4 g5 hfr (by rw [am_cats]; omega) hd (fun H1 locs1 hP1 hS1 hz1 => hk _ _ _ _ hs8 H1 locs1 ls cells slots hl ⟨hI.wI d3, by rw [hz1]; exact hz, ?_⟩ hS1 e1 e2)
  have hcl := am_cell_i (ad := ad) (dA := dA) (h := am_wI h d (va_cpy (am_I h o) (am_I h d) sp.toNatClampNeg dp.toNatClampNeg n.toNatClampNeg)) (a := d) hkd
  rw [show am_I (am_wI h d (va_cpy (am_I h o) (am_I h d) sp.toNatClampNeg dp.toNatClampNeg n.toNatClampNeg)) d = va_cpy (am_I h o) (am_I h d) sp.toNatClampNeg dp.toNatClampNeg n.toNatClampNeg from if_pos rfl] at hcl
  have hP2 : va_P (dC, dI) vwCl ((am_W ad dA h).set (d - 3) (ad d, am_cell ad dA (am_wI h d (va_cpy (am_I h o) (am_I h d) sp.toNatClampNeg dp.toNatClampNeg n.toNatClampNeg)) d)) H1 := by rw [hcl]; exact hP1
  rw [am_W_set (h := h) (h' := am_wI h d (va_cpy (am_I h o) (am_I h d) sp.toNatClampNeg dp.toNatClampNeg n.toNatClampNeg)) d3 rfl (fun b hb => am_cell_wI hb)] at hP2
  exact hP2
theorem sm_cpL {p : Program} {l : Launch} {e : Env} {R : Room} {s : State} {m : MethodId} {args : Array Value} {below : List Frame} {meth : Method} {c : Code} {Q : State → Prop} {nL base LL : Nat} {xs : Nat → Int32} {ad : Nat → Nat} {dC : Nat → ClassId} {dI : Nat → Nat → Nat} {dA : Nat → ClassId} {n0 s0 : Nat} {cc : ByteArray} {pc : Nat} {lo : am_V} {st : List Value} {h : am_H} {k : am_N} {res : Value × am_H} (hx : p.tables.exec = Jvm.exec) (hb : c.code = cc) (hk : ∀ pc lo st h, k pc lo st h = some res → am_Go p l e R s m args below meth c Q nL base LL xs ad dC dI dA n0 s0 pc lo st h) {own : String} (hown : s.vm.findClass own = some m.cls) (hts : ∀ w ∈ am_good, w.before args s = true) (hK : va_K (dC, dI) vwCl (am_tys dA) s) (had : am_ad base ad) (hfr : 1 ≤ R.frames) (hlo : 64 ≤ R.locals) (hml : c.maxLocals = nL) {i : Nat} (hw : Cond.methodLink own i arraycopyName ∈ am_good) (hw2 : Cond.native arraycopyName ∈ am_good) (hw3 : Cond.static arraycopyName ∈ am_good) (hw4 : Cond.initialized "java/lang/System" ∈ am_good) (hd : decode cc pc = .ok (.invokestatic i, 3)) (hs : am_1I st (fun n st => am_1I st (fun dp st => am_1R st (fun d st => am_1I st (fun sp st => am_1R st (fun o st => am_lt8 st (am_cpL h o sp d dp n (fun h => k (pc + 3) lo st h))))))) = some res) : am_Go p l e R s m args below meth c Q nL base LL xs ad dC dI dA n0 s0 pc lo st h := by
  obtain ⟨n, st, rfl, hs1⟩ := am_1I_inv hs
  obtain ⟨dp, st, rfl, hs2⟩ := am_1I_inv hs1
  obtain ⟨d, st, rfl, hs3⟩ := am_1R_inv hs2
  obtain ⟨sp, st, rfl, hs4⟩ := am_1I_inv hs3
  obtain ⟨o, st, rfl, hs5⟩ := am_1R_inv hs4
  obtain ⟨h8, hs6⟩ := am_lt8_inv hs5
  unfold am_cpL at hs6
  obtain ⟨⟨hko, hkd⟩, hs7⟩ := am_if_inv hs6
  obtain ⟨⟨⟨g1, g2, g3⟩, g4, g5⟩, hs8⟩ := am_if_inv hs7
  intro H locs ls cells slots hl hR hS e1 e2
  obtain ⟨hI, hz, hP⟩ := id hR
  obtain ⟨o3, ol⟩ := hI.lo (t := (am_K h o).1) (n := (am_K h o).2) rfl (by omega)
  obtain ⟨d3, dl⟩ := hI.lo (t := (am_K h d).1) (n := (am_K h d).2) rfl (by omega)
  have he := am_W_at (ad := ad) (dA := dA) o3 ol
  have hed := am_W_at (ad := ad) (dA := dA) d3 dl
  rw [am_cell_l hko] at he
  rw [am_cell_l hkd] at hed
  have hnw : nativeFrameWords "java/lang/System" "arraycopy" 5 ≤ 40 := by decide
  refine az_copyl (D := (dC, dI)) (cl := vwCl) hx hb (hml.trans hl.1.symm) hown (hts _ hw) (hts _ hw2) (hts _ hw3) (hts _ hw4) hK hP (am_W_D had) hS (o - 3) (d - 3) 2 he hed rfl g1 g2 g3 g4 g5 hfr (by rw [am_cats]; omega) hd (fun H1 locs1 hP1 hS1 hz1 => hk _ _ _ _ hs8 H1 locs1 ls cells slots hl ⟨hI.wL, by rw [hz1]; exact hz, ?_⟩ hS1 e1 e2)
  have hcl := am_cell_l (ad := ad) (dA := dA) (h := am_wL h d (va_cpy (am_L h o) (am_L h d) sp.toNatClampNeg dp.toNatClampNeg n.toNatClampNeg)) (a := d) hkd
  rw [show am_L (am_wL h d (va_cpy (am_L h o) (am_L h d) sp.toNatClampNeg dp.toNatClampNeg n.toNatClampNeg)) d = va_cpy (am_L h o) (am_L h d) sp.toNatClampNeg dp.toNatClampNeg n.toNatClampNeg from if_pos rfl] at hcl
  have hP2 : va_P (dC, dI) vwCl ((am_W ad dA h).set (d - 3) (ad d, am_cell ad dA (am_wL h d (va_cpy (am_L h o) (am_L h d) sp.toNatClampNeg dp.toNatClampNeg n.toNatClampNeg)) d)) H1 := by rw [hcl]; exact hP1
  rw [am_W_set (h := h) (h' := am_wL h d (va_cpy (am_L h o) (am_L h d) sp.toNatClampNeg dp.toNatClampNeg n.toNatClampNeg)) d3 rfl (fun b hb => am_cell_wL hb)] at hP2
  exact hP2
