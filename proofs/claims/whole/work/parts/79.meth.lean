/-! WHOLE METHODS: the simulation of a stretch, of a run; contracts -/
theorem am_from_inv : ∀ {code : List am_E} {pc : Nat} {e : am_E} {t : List am_E}, am_from code pc = e :: t → e.1 = pc ∧ ∀ x ∈ e :: t, x ∈ code
  | [], pc, e, t, h => by cases h
  | a :: r, pc, e, t, h => by
    unfold am_from at h
    cases hc : Nat.beq a.1 pc with
    | true =>
      rw [hc] at h
      cases h
      exact ⟨Nat.eq_of_beq_eq_true hc, fun x hx => hx⟩
    | false =>
      rw [hc] at h
      obtain ⟨h1, h2⟩ := am_from_inv (code := r) h
      exact ⟨h1, fun x hx => List.mem_cons_of_mem _ (h2 x hx)⟩
theorem am_go_inv {code tail : List am_E} {pc : Nat} {e : am_E} {t : List am_E} (hs : ∀ x ∈ tail, x ∈ code) (h : am_go code tail pc = e :: t) : e.1 = pc ∧ ∀ x ∈ e :: t, x ∈ code := by
  unfold am_go at h
  match tail, hs, h with
  | [], _, h => exact am_from_inv h
  | a :: r, hs, h =>
    dsimp only at h
    cases hc : Nat.beq a.1 pc with
    | true =>
      rw [hc] at h
      cases h
      exact ⟨Nat.eq_of_beq_eq_true hc, hs⟩
    | false =>
      rw [hc] at h
      exact am_from_inv h
theorem am_keep_mem {lo : am_V} {q : Nat × Value} : ∀ {ks : List Nat}, q ∈ am_keep lo ks → q ∈ lo
  | [], h => by cases h
  | i :: t, h => by
    unfold am_keep at h
    cases hc : am_lk lo i with
    | none =>
      rw [hc] at h
      exact am_keep_mem (ks := t) h
    | some v =>
      rw [hc] at h
      rcases List.mem_cons.mp h with h | h
      · rw [h]; exact am_lk_mem hc
      · exact am_keep_mem (ks := t) h
theorem am_Go_keep {p : Program} {l : Launch} {e : Env} {R : Room} {s : State} {m : MethodId} {args : Array Value} {below : List Frame} {meth : Method} {c : Code} {Q : State → Prop} {nL base LL : Nat} {xs : Nat → Int32} {ad : Nat → Nat} {dC : Nat → ClassId} {dI : Nat → Nat → Nat} {dA : Nat → ClassId} {n0 s0 : Nat} {pc : Nat} {lo : am_V} {st : List Value} {h : am_H} {ks : List Nat} (hg : am_Go p l e R s m args below meth c Q nL base LL xs ad dC dI dA n0 s0 pc (am_keep lo ks) st h) : am_Go p l e R s m args below meth c Q nL base LL xs ad dC dI dA n0 s0 pc lo st h := by
  intro H locs ls cells slots hl hR hS e1 e2
  refine hg H locs ls cells slots ⟨hl.1, hl.2.1, fun q hq => ?_⟩ hR hS e1 e2
  obtain ⟨z, hz, rfl⟩ := List.mem_map.mp hq
  exact hl.2.2 _ (List.mem_map.mpr ⟨z, am_keep_mem hz, rfl⟩)
set_option maxHeartbeats 1000000 in
theorem am_sim_seg {p : Program} {l : Launch} {e : Env} {R : Room} {s : State} {m : MethodId} {args : Array Value} {below : List Frame} {meth : Method} {c : Code} {Q : State → Prop} {nL base LL : Nat} {xs : Nat → Int32} {ad : Nat → Nat} {dC : Nat → ClassId} {dI : Nat → Nat → Nat} {dA : Nat → ClassId} {n0 s0 : Nat} {cc : ByteArray} {res : Value × am_H} {o rt d : Nat} {K : am_LK} {init : Bool} {SF : State → Prop} {prog : Nat → Option am_M} {G : am_GT} (hx : p.tables.exec = Jvm.exec) (hb : c.code = cc) (hml : c.maxLocals = nL) (hown : s.vm.findClass (am_cn o) = some m.cls) (hts : ∀ w ∈ am_good, w.before args s = true) (hF : am_Fx dC dI dA SF s) (hSF : am_SFok base SF) (had : am_ad base ad) (hlib : am_lib) (hLK : am_LKP prog o K) (hin : init = true → meth.name = "<init>")
    (hG : am_MS l base LL xs ad dC dI dA SF prog d G) (hGm : ∀ y as h r h', G y as h = some (r, h') → h.1 ≤ h'.1 ∧ h.2.1 ≤ h'.2.1) (hfr : d + 8 + 1 ≤ R.frames) (hlo : 64 * (d + 1) + 512 ≤ R.locals) (hRc : res.2.1 ≤ n0 + R.cells) (hRs : res.2.2.1 ≤ s0 + R.slots)
    (hsc : o = 10 → va_X (ad 1) LL xs s s.heap ∧ ad 1 < s.heap.size ∧ ad 1 < base)
    (hret : ∀ (pc : Nat) (H : Heap) (locs : List Loc) (ls : Array Slot) (cells slots : Nat), (((rt = 1 ∧ ∃ x, res.1 = .int x) ∨ (rt = 3 ∧ ∃ x : Int32, res.1 = .int x ∧ (x = 0 ∨ x = 1))) ∧ decode cc pc = .ok (.ireturn, 1)) ∨ (rt = 2 ∧ (∃ x, res.1 = .long x) ∧ decode cc pc = .ok (.lreturn, 1)) ∨ (rt = 0 ∧ res.1 = .null ∧ decode cc pc = .ok (.return_, 1)) → am_Rel base LL xs ad dC dI dA res.2 H → va_S (am_A base) s.heap H locs → res.2.1 = n0 + cells → res.2.2.1 = s0 + slots → W p l e R s m args below meth c H locs cells slots Q (F0 m pc ls (am_ov ad res.1).toList))
    (hStr : o = 4 → ∀ (lo : am_V) (st : List Value) (h : am_H) (k : am_N) (pc : Nat), (∀ pc lo st h, k pc lo st h = some res → am_Go p l e R s m args below meth c Q nL base LL xs ad dC dI dA n0 s0 pc lo st h) → (∀ pc lo st h, k pc lo st h = some res → h.1 ≤ res.2.1 ∧ h.2.1 ≤ res.2.2.1) → (decode cc pc = .ok (.ldc 23, 2) ∧ k (pc + 2) lo (.ref 2 :: st) h = some res) ∨ (decode cc pc = .ok (.invokevirtual 25, 3) ∧ am_call G 0 0 10 [] st h (fun st h => k (pc + 3) lo st h) = some res) ∨ (decode cc pc = .ok (.invokevirtual 31, 3) ∧ am_call G 0 0 11 [] st h (fun st h => k (pc + 3) lo st h) = some res) → am_Go p l e R s m args below meth c Q nL base LL xs ad dC dI dA n0 s0 pc lo st h)
    {code : List am_E} {cuts : List (Nat × List Nat)} (hcode : ∀ x ∈ code, decode cc x.1 = .ok (x.2.1, x.2.2.1) ∧ am_ck o K init rt nL x = true) {k : am_N} (hk : ∀ pc lo st h, k pc lo st h = some res → am_Go p l e R s m args below meth c Q nL base LL xs ad dC dI dA n0 s0 pc lo st h) (hm : ∀ pc lo st h, k pc lo st h = some res → h.1 ≤ res.2.1 ∧ h.2.1 ≤ res.2.2.1) : ∀ (f : Nat) (e0 : am_E) (t : List am_E) (lo : am_V) (st : List Value) (h : am_H), (∀ x ∈ e0 :: t, x ∈ code) → am_seg G code cuts f (e0 :: t) lo st h k = some res → am_Go p l e R s m args below meth c Q nL base LL xs ad dC dI dA n0 s0 e0.1 lo st h := by
  intro f
  induction f with
  | zero => intro e0 t lo st h _ hs; cases hs
  | succ f ih =>
    intro e0 t lo st h hsub hs
    obtain ⟨hd, hck⟩ := hcode e0 (hsub e0 List.mem_cons_self)
    have hk2 : ∀ pc lo st h, (fun pc l st h => match am_cut cuts pc with
        | some ks => k pc (am_keep l ks) st h
        | none => am_seg G code cuts f (am_go code t pc) l st h k) pc lo st h = some res → am_Go p l e R s m args below meth c Q nL base LL xs ad dC dI dA n0 s0 pc lo st h := by
      intro pc lo st h hq
      cases hc : am_cut cuts pc with
      | some ks =>
        have hq : k pc (am_keep lo ks) st h = some res := by simpa [hc] using hq
        exact am_Go_keep (hk _ _ _ _ hq)
      | none =>
        have hq : am_seg G code cuts f (am_go code t pc) lo st h k = some res := by simpa [hc] using hq
        cases hgo : am_go code t pc with
        | nil =>
          rw [hgo] at hq
          cases f with
          | zero => cases hq
          | succ f => cases hq
        | cons e1 t1 =>
          rw [hgo] at hq
          obtain ⟨g1, g2⟩ := am_go_inv (fun x hx => hsub x (List.mem_cons_of_mem _ hx)) hgo
          rw [← g1]
          exact ih e1 t1 lo st h g2 hq
    have hm2 : ∀ pc lo st h, (fun pc l st h => match am_cut cuts pc with
        | some ks => k pc (am_keep l ks) st h
        | none => am_seg G code cuts f (am_go code t pc) l st h k) pc lo st h = some res → h.1 ≤ res.2.1 ∧ h.2.1 ≤ res.2.2.1 := by
      intro pc lo st h hq
      cases hc : am_cut cuts pc with
      | some ks =>
        have hq : k pc (am_keep lo ks) st h = some res := by simpa [hc] using hq
        exact hm _ _ _ _ hq
      | none =>
        have hq : am_seg G code cuts f (am_go code t pc) lo st h k = some res := by simpa [hc] using hq
        exact am_mon_seg hGm hm f _ _ _ _ hq
    exact am_sim_step hx hb hml hown hts hF hSF had hlib hLK hin hG hfr hlo hRc hRs hsc hret e0 hd hck hk2 hm2 (fun pc ho hor => hStr ho lo st h _ pc hk2 hm2 hor) hs
set_option maxHeartbeats 1000000 in
theorem am_sim_run {p : Program} {l : Launch} {e : Env} {R : Room} {s : State} {m : MethodId} {args : Array Value} {below : List Frame} {meth : Method} {c : Code} {Q : State → Prop} {nL base LL : Nat} {xs : Nat → Int32} {ad : Nat → Nat} {dC : Nat → ClassId} {dI : Nat → Nat → Nat} {dA : Nat → ClassId} {n0 s0 : Nat} {cc : ByteArray} {res : Value × am_H} {o rt d : Nat} {K : am_LK} {init : Bool} {SF : State → Prop} {prog : Nat → Option am_M} {G : am_GT} (hx : p.tables.exec = Jvm.exec) (hb : c.code = cc) (hml : c.maxLocals = nL) (hown : s.vm.findClass (am_cn o) = some m.cls) (hts : ∀ w ∈ am_good, w.before args s = true) (hF : am_Fx dC dI dA SF s) (hSF : am_SFok base SF) (had : am_ad base ad) (hlib : am_lib) (hLK : am_LKP prog o K) (hin : init = true → meth.name = "<init>")
    (hG : am_MS l base LL xs ad dC dI dA SF prog d G) (hGm : ∀ y as h r h', G y as h = some (r, h') → h.1 ≤ h'.1 ∧ h.2.1 ≤ h'.2.1) (hfr : d + 8 + 1 ≤ R.frames) (hlo : 64 * (d + 1) + 512 ≤ R.locals) (hRc : res.2.1 ≤ n0 + R.cells) (hRs : res.2.2.1 ≤ s0 + R.slots)
    (hsc : o = 10 → va_X (ad 1) LL xs s s.heap ∧ ad 1 < s.heap.size ∧ ad 1 < base)
    (hret : ∀ (pc : Nat) (H : Heap) (locs : List Loc) (ls : Array Slot) (cells slots : Nat), (((rt = 1 ∧ ∃ x, res.1 = .int x) ∨ (rt = 3 ∧ ∃ x : Int32, res.1 = .int x ∧ (x = 0 ∨ x = 1))) ∧ decode cc pc = .ok (.ireturn, 1)) ∨ (rt = 2 ∧ (∃ x, res.1 = .long x) ∧ decode cc pc = .ok (.lreturn, 1)) ∨ (rt = 0 ∧ res.1 = .null ∧ decode cc pc = .ok (.return_, 1)) → am_Rel base LL xs ad dC dI dA res.2 H → va_S (am_A base) s.heap H locs → res.2.1 = n0 + cells → res.2.2.1 = s0 + slots → W p l e R s m args below meth c H locs cells slots Q (F0 m pc ls (am_ov ad res.1).toList))
    (hStr : o = 4 → ∀ (lo : am_V) (st : List Value) (h : am_H) (k : am_N) (pc : Nat), (∀ pc lo st h, k pc lo st h = some res → am_Go p l e R s m args below meth c Q nL base LL xs ad dC dI dA n0 s0 pc lo st h) → (∀ pc lo st h, k pc lo st h = some res → h.1 ≤ res.2.1 ∧ h.2.1 ≤ res.2.2.1) → (decode cc pc = .ok (.ldc 23, 2) ∧ k (pc + 2) lo (.ref 2 :: st) h = some res) ∨ (decode cc pc = .ok (.invokevirtual 25, 3) ∧ am_call G 0 0 10 [] st h (fun st h => k (pc + 3) lo st h) = some res) ∨ (decode cc pc = .ok (.invokevirtual 31, 3) ∧ am_call G 0 0 11 [] st h (fun st h => k (pc + 3) lo st h) = some res) → am_Go p l e R s m args below meth c Q nL base LL xs ad dC dI dA n0 s0 pc lo st h)
    {code : List am_E} {cuts : List (Nat × List Nat)} (hcode : ∀ x ∈ code, decode cc x.1 = .ok (x.2.1, x.2.2.1) ∧ am_ck o K init rt nL x = true) : ∀ (n pc : Nat) (lo : am_V) (st : List Value) (h : am_H), am_run G code cuts n pc lo st h = some res → am_Go p l e R s m args below meth c Q nL base LL xs ad dC dI dA n0 s0 pc lo st h := by
  intro n
  induction n with
  | zero => intro pc lo st h hs; cases hs
  | succ n ih =>
    intro pc lo st h hs
    rw [am_run_succ] at hs
    generalize 3000 = f at hs
    cases hfrom : am_from code pc with
    | nil =>
      rw [hfrom] at hs
      cases f with
      | zero => cases hs
      | succ f => cases hs
    | cons e1 t1 =>
      rw [hfrom] at hs
      obtain ⟨g1, g2⟩ := am_from_inv hfrom
      rw [← g1]
      exact am_sim_seg hx hb hml hown hts hF hSF had hlib hLK hin hG hGm hfr hlo hRc hRs hsc hret hStr hcode ih (fun pc lo st h hq => am_mon_run hGm n _ _ _ _ hq) f e1 t1 lo st h g2 hs
theorem am_rl_args (ad : Nat → Nat) : ∀ (vs : List Value) (i : Nat), lv_args i (vs.map (am_rv ad)) = am_rl ad (lv_args i vs)
  | [], i => rfl
  | v :: vs, i => by
    rw [List.map_cons, lv_args, lv_args, am_rv_cat, am_rl_args ad vs]; rfl
theorem am_sl_len (ad : Nat → Nat) (vs : List Value) : (lg_sl (vs.map (am_rv ad))).length = (lg_sl vs).length := by
  induction vs with
  | nil => rfl
  | cons v vs ih =>
    have h1 : ∀ w ws, lg_sl (w :: ws) = (if w.category = 2 then [Slot.val w, .second] else [.val w]) ++ lg_sl ws := fun w ws => rfl
    rw [List.map_cons, h1, h1, List.length_append, List.length_append, ih, am_rv_cat]
    by_cases q : v.category = 2
    · rw [if_pos q, if_pos q]; rfl
    · rw [if_neg q, if_neg q]; rfl
def am_rt (rt : Nat) (r : Option FieldType) : Prop := (rt = 0 ∧ r = none) ∨ (rt = 1 ∧ r = some .int) ∨ (rt = 2 ∧ r = some .long) ∨ (rt = 3 ∧ r = some .boolean)
/-- a method that keeps to the check -/
def am_VM (prog : Nat → Option am_M) (M : am_M) : Prop := ∃ (o rt n : Nat) (K : am_LK) (init : Bool), M.1.cls = am_cn o ∧ o ≠ 10 ∧ am_LKP prog o K ∧ am_rt rt M.2.2.2.1 ∧ am_MK M n ∧ (init = true → M.1.name = "<init>") ∧ ∀ x ∈ M.2.2.2.2.2.1, decode M.2.1 x.1 = .ok (x.2.1, x.2.2.1) ∧ am_ck o K init rt M.2.2.1 x = true
/-- what is asked of the String constant -/
def am_StrP (l : Launch) (base LL : Nat) (xs : Nat → Int32) (ad : Nat → Nat) (dC : Nat → ClassId) (dI : Nat → Nat → Nat) (dA : Nat → ClassId) (SF : State → Prop) : Prop := ∀ (p : Program) (e : Env) (R : Room) (s : State) (m : MethodId) (args : Array Value) (below : List Frame) (meth : Method) (c : Code) (Q : State → Prop) (nL n0 s0 : Nat) (cc : ByteArray) (res : Value × am_H) (G : am_GT), p.tables.exec = Jvm.exec → c.code = cc → c.maxLocals = nL → s.vm.findClass RX4 = some m.cls → (∀ w ∈ am_good, w.before args s = true) → am_Fx dC dI dA SF s → 9 ≤ R.frames → 576 ≤ R.locals → res.2.1 ≤ n0 + R.cells → res.2.2.1 ≤ s0 + R.slots → ∀ (lo : am_V) (st : List Value) (h : am_H) (k : am_N) (pc : Nat), (∀ pc lo st h, k pc lo st h = some res → am_Go p l e R s m args below meth c Q nL base LL xs ad dC dI dA n0 s0 pc lo st h) → (∀ pc lo st h, k pc lo st h = some res → h.1 ≤ res.2.1 ∧ h.2.1 ≤ res.2.2.1) → (decode cc pc = .ok (.ldc 23, 2) ∧ k (pc + 2) lo (.ref 2 :: st) h = some res) ∨ (decode cc pc = .ok (.invokevirtual 25, 3) ∧ am_call G 0 0 10 [] st h (fun st h => k (pc + 3) lo st h) = some res) ∨ (decode cc pc = .ok (.invokevirtual 31, 3) ∧ am_call G 0 0 11 [] st h (fun st h => k (pc + 3) lo st h) = some res) → am_Go p l e R s m args below meth c Q nL base LL xs ad dC dI dA n0 s0 pc lo st h
set_option maxHeartbeats 2000000 in
/-- every method's contract -/
theorem am_meth {l : Launch} {base LL : Nat} {xs : Nat → Int32} {ad : Nat → Nat} {dC : Nat → ClassId} {dI : Nat → Nat → Nat} {dA : Nat → ClassId} {SF : State → Prop} {prog : Nat → Option am_M} {N : Nat} (hSF : am_SFok base SF) (had : am_ad base ad) (hlib : am_lib) (hV : ∀ y M, prog y = some M → am_VM prog M) (hStr : am_StrP l base LL xs ad dC dI dA SF) : ∀ d, am_MS l base LL xs ad dC dI dA SF prog d (am_G prog N d) := by
  intro d
  induction d with
  | zero => intro y as h r h' M hs; cases hs
  | succ d ih =>
    intro y as h r h' M hs hM
    obtain ⟨M', hM', hrec, hlen, hrun⟩ := am_G_inv hs
    cases hM.symm.trans hM'
    obtain ⟨m1, m2⟩ := am_mon_G _ _ _ _ _ _ hs
    obtain ⟨o, rt, n, K, init, hcls, ho10, hLK, hrt, hMK, hinit, hcode⟩ := hV y M hM
    refine ⟨⟨m1, m2⟩, hrec, ?_⟩
    refine Met.ofW (cc := M.2.1) (maxL := M.2.2.1) (ret := M.2.2.2.1) hMK.1 rfl ?_
    intro p e s m args below meth c s₁ B hml hv
    obtain ⟨rfl, hR, hFx⟩ := hv
    have hx := B.exec
    have hb := B.bytes
    have hr := B.returns
    have hts0 := atoms_spec (ws := am_ws M) B.pre
    have hts : ∀ w ∈ am_good, w.before (as.map (am_rv ad)).toArray s = true := fun w hw => hts0 w (List.mem_cons_of_mem _ hw)
    have hown : s.vm.findClass (am_cn o) = some m.cls := by rw [← hcls]; exact findClass_of_methodNamed B.named
    have hlocks := B.notSynchronized
    have hnm : meth.name = M.1.name := (name_of_methodNamed B.named B.method).1
    rw [lg_entry_eq]
    have hl := lv_entry (as.map (am_rv ad)) (n := M.2.2.1) (by rw [am_sl_len]; exact hlen)
    rw [am_rl_args] at hl
    generalize (lg_sl (as.map (am_rv ad)) ++ List.replicate (M.2.2.1 - (lg_sl (as.map (am_rv ad))).length) Slot.unset).toArray = ls at hl ⊢
    have hret : ∀ (pc : Nat) (H : Heap) (locs : List Loc) (ls : Array Slot) (cells slots : Nat), (((rt = 1 ∧ ∃ x, r = .int x) ∨ (rt = 3 ∧ ∃ x : Int32, r = .int x ∧ (x = 0 ∨ x = 1))) ∧ decode M.2.1 pc = .ok (.ireturn, 1)) ∨ (rt = 2 ∧ (∃ x, r = .long x) ∧ decode M.2.1 pc = .ok (.lreturn, 1)) ∨ (rt = 0 ∧ r = .null ∧ decode M.2.1 pc = .ok (.return_, 1)) → am_Rel base LL xs ad dC dI dA h' H → va_S (am_A base) s.heap H locs → h'.1 = h.1 + cells → h'.2.1 = h.2.1 + slots → W p l e (headSpec (am_ws M) (am_rm (d + 1) (h'.1 - h.1) (h'.2.1 - h.2.1))).room s m (as.map (am_rv ad)).toArray below meth c H locs cells slots (MQ below (am_Qc base LL xs ad dC dI dA r h') (as.map (am_rv ad)).toArray s (h'.1 - h.1) (h'.2.1 - h.2.1) (am_A base)) (F0 m pc ls (am_ov ad r).toList) := by
      intro pc H locs ls cells slots hcase hR hS e1 e2
      have z1 : cells = h'.1 - h.1 := by omega
      have z2 : slots = h'.2.1 - h.2.1 := by omega
      subst z1
      subst z2
      have hq : ∀ t : State, t.heap = H → s.WarmedH t.vm → am_Qc base LL xs ad dC dI dA r h' (as.map (am_rv ad)).toArray s (.returned (am_ov ad r)) t := fun t ht _ => ⟨⟨rfl, by rw [ht]; exact hR⟩, hS.F ht⟩
      rcases hcase with ⟨⟨hr1, x, rfl⟩ | ⟨hr1, x, rfl, hz⟩, hd⟩ | ⟨hr1, ⟨x, rfl⟩, hd⟩ | ⟨hr1, rfl, hd⟩
      · have hrr : M.2.2.2.1 = some .int := by rcases hrt with ⟨q, _⟩ | ⟨_, q⟩ | ⟨q, _⟩ | ⟨q, _⟩ <;> first | omega | exact q
        exact W.iret hx hb (hr.trans hrr) hq hS.2.2 hd
      · have hrr : M.2.2.2.1 = some .boolean := by rcases hrt with ⟨q, _⟩ | ⟨q, _⟩ | ⟨q, _⟩ | ⟨_, q⟩ <;> first | omega | exact q
        exact W.zret hx hb (hr.trans hrr) (by rcases hz with q | q <;> rw [q] <;> decide) hq hS.2.2 hd
      · have hrr : M.2.2.2.1 = some .long := by rcases hrt with ⟨q, _⟩ | ⟨q, _⟩ | ⟨_, q⟩ | ⟨q, _⟩ <;> first | omega | exact q
        exact W.lret hx hb (hr.trans hrr) hq hS.2.2 hd
      · have hrr : M.2.2.2.1 = none := by rcases hrt with ⟨_, q⟩ | ⟨q, _⟩ | ⟨q, _⟩ | ⟨q, _⟩ <;> first | omega | exact q
        exact W.vret hx hb (hr.trans hrr) hq hS.2.2 hd
    have hgo := am_sim_run (res := (r, h')) (n0 := h.1) (s0 := h.2.1) (R := (headSpec (am_ws M) (am_rm (d + 1) (h'.1 - h.1) (h'.2.1 - h.2.1))).room) (Q := MQ below (am_Qc base LL xs ad dC dI dA r h') (as.map (am_rv ad)).toArray s (h'.1 - h.1) (h'.2.1 - h.2.1) (am_A base)) hx hb hml hown hts hFx hSF had hlib hLK (fun q => hnm.trans (hinit q)) ih (fun y as h r h' q => am_mon_G _ _ _ _ _ _ q)
      (show d + 8 + 1 ≤ d + 1 + 8 by omega) (show 64 * (d + 1) + 512 ≤ 64 * (d + 1) + 512 from Nat.le_refl _) (show h'.1 ≤ h.1 + (h'.1 - h.1) by omega) (show h'.2.1 ≤ h.2.1 + (h'.2.1 - h.2.1) by omega) (fun q => absurd q ho10) hret
      (fun ho => hStr p e _ s m _ below meth c _ _ _ _ _ _ _ hx hb hml (by rw [ho] at hown; exact hown) hts hFx (show 9 ≤ d + 1 + 8 by omega) (show 576 ≤ 64 * (d + 1) + 512 by omega) (show h'.1 ≤ h.1 + (h'.1 - h.1) by omega) (show h'.2.1 ≤ h.2.1 + (h'.2.1 - h.2.1) by omega)) hcode N 0 (lv_args 0 as) [] h hrun
    exact hgo s.heap [] ls 0 0 hl hR va_S.rf rfl rfl
