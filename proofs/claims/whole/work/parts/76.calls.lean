/-! CALLS -/
def am_ov (ad : Nat → Nat) : Value → Option Value
  | .null => none
  | v => some (am_rv ad v)
def am_Qc (base LL : Nat) (xs : Nat → Int32) (ad : Nat → Nat) (dC : Nat → ClassId) (dI : Nat → Nat → Nat) (dA : Nat → ClassId) (r : Value) (h' : am_H) : Array Value → State → Outcome → State → Prop := fun _ st oc t => (oc = .returned (am_ov ad r) ∧ am_Rel base LL xs ad dC dI dA h' t.heap) ∧ va_F (am_A base) st t
def am_nest : List Cond := [.methodLinkNest RX8 15 yX7_init RX8, .methodLinkNest RX8 22 yX5_init RX8, .methodLinkNest RX5 58 yX1_init RX8, .methodLinkNest RX2 11 yX1_init RX8, .methodLinkNest RX8 61 yX0_init RX8, .methodLinkNest RX8 68 yX3_init RX8]
theorem am_nest_on : ∀ w ∈ am_nest, w.onTables = true := by
  unfold am_nest
  simp [Cond.onTables]
theorem am_nest_warm {s U : State} (hW : s.WarmedH U.vm) : (∀ w ∈ am_nest, va_Nw w s) → ∀ w ∈ am_nest, va_Nw w U := by
  unfold am_nest
  intro h w hw
  have h1 := h w hw
  simp only [List.mem_cons, List.not_mem_nil, or_false] at hw
  rcases hw with rfl | rfl | rfl | rfl | rfl | rfl <;> exact va_Nw.warmM hW h1
def am_SFok (base : Nat) (SF : State → Prop) : Prop := (∀ s U : State, SF s → s.WarmedH U.vm → (∀ q : Nat, q < s.heap.size → ¬ am_A base q → U.heap[q]? = s.heap[q]?) → SF U) ∧ ∀ (U : State) (g : JFrame) (mk : MethodId) (a : Array Value), SF U → SF (U.calling g mk a)
def am_Fx (dC : Nat → ClassId) (dI : Nat → Nat → Nat) (dA : Nat → ClassId) (SF : State → Prop) (U : State) : Prop := va_K (dC, dI) vwCl (am_tys dA) U ∧ (va_AO "LicensedVoice$Tray" U ∧ va_AO "LicensedVoice$Town" U) ∧ (∀ w ∈ am_nest, va_Nw w U) ∧ SF U
theorem am_Fx.warm {base : Nat} {dC : Nat → ClassId} {dI : Nat → Nat → Nat} {dA : Nat → ClassId} {SF : State → Prop} (hSF : am_SFok base SF) {s U : State} (h : am_Fx dC dI dA SF s) (hW : s.WarmedH U.vm) (ho : ∀ q : Nat, q < s.heap.size → ¬ am_A base q → U.heap[q]? = s.heap[q]?) : am_Fx dC dI dA SF U :=
  ⟨va_K.moved hW.alike h.1, ⟨va_AO.moved hW.alike h.2.1.1, va_AO.moved hW.alike h.2.1.2⟩, am_nest_warm hW h.2.2.1, hSF.1 s U h.2.2.2 hW ho⟩
theorem am_Fx.blind {base : Nat} {dC : Nat → ClassId} {dI : Nat → Nat → Nat} {dA : Nat → ClassId} {SF : State → Prop} (hSF : am_SFok base SF) {U : State} {g : JFrame} {mk : MethodId} {a : Array Value} (h : am_Fx dC dI dA SF U) : am_Fx dC dI dA SF (U.calling g mk a) :=
  ⟨va_K.moved (u := U) (U := U.calling g mk a) (Vm.Alike.refl U.vm) h.1, ⟨va_AO.moved (u := U) (U := U.calling g mk a) (Vm.Alike.refl U.vm) h.2.1.1, va_AO.moved (u := U) (U := U.calling g mk a) (Vm.Alike.refl U.vm) h.2.1.2⟩, fun w hw => va_Nw.same (u := U) (U := U.calling g mk a) (am_nest_on w hw) rfl (h.2.2.1 w hw), hSF.2 U g mk a h.2.2.2⟩
def am_Pc (base LL : Nat) (xs : Nat → Int32) (ad : Nat → Nat) (dC : Nat → ClassId) (dI : Nat → Nat → Nat) (dA : Nat → ClassId) (SF : State → Prop) (as : List Value) (h : am_H) : Array Value → State → Prop := va_Pc (as.map (am_rv ad)) (fun U => am_Rel base LL xs ad dC dI dA h U.heap ∧ am_Fx dC dI dA SF U)
def am_rm (d mc ms : Nat) : Room := { frames := d + 8, cells := mc, slots := ms, locals := 64 * d + 512 }
theorem am_rm_lo (d mc ms : Nat) : (am_rm d mc ms).locals = 64 * d + 512 := rfl
theorem am_rm_fr (d mc ms : Nat) : (am_rm d mc ms).frames = d + 8 := rfl
def am_ws (M : am_M) : List Cond := Cond.code M.1 M.2.1 M.2.2.1 M.2.2.2.1 :: am_good
def am_MS (l : Launch) (base LL : Nat) (xs : Nat → Int32) (ad : Nat → Nat) (dC : Nat → ClassId) (dI : Nat → Nat → Nat) (dA : Nat → ClassId) (SF : State → Prop) (prog : Nat → Option am_M) (d : Nat) (G : am_GT) : Prop := ∀ (y : Nat) (as : List Value) (h : am_H) (r : Value) (h' : am_H) (M : am_M), G y as h = some (r, h') → prog y = some M → (h.1 ≤ h'.1 ∧ h.2.1 ≤ h'.2.1) ∧ (M.2.2.2.2.1 ≠ 99 → ∃ (o : Nat) (t : List Value), as = .ref o :: t ∧ am_K h o = (M.2.2.2.2.1, 0)) ∧ Met l M.1 (am_ws M) (am_rm d (h'.1 - h.1) (h'.2.1 - h.2.1)) (am_Pc base LL xs ad dC dI dA SF as h) (am_Qc base LL xs ad dC dI dA r h') (h'.1 - h.1) (h'.2.1 - h.2.1) (am_A base)
/-- what holds of every method -/
def am_MK (M : am_M) (n : Nat) : Prop := plainName M.1.cls = true ∧ Cond.code M.1 M.2.1 M.2.2.1 M.2.2.2.1 ∈ am_good ∧ Cond.initialized M.1.cls ∈ am_good ∧ (M.1.cls ≠ "java/lang/invoke/MethodHandle" ∧ M.1.cls ≠ "java/lang/invoke/VarHandle") ∧ M.2.2.1 ≤ 40 ∧ (parseMethodDescriptor M.1.desc).map (fun d => d.parameters.length) = some n
theorem am_good_ok : ∀ w ∈ am_good, (w.onTables && w.keeps) = true ∨ ∃ ty, w = .arrayClass ty := fun w hw => good_of_word (List.mem_filter.mp hw).2
theorem am_ws_good {M : am_M} (hc : Cond.code M.1 M.2.1 M.2.2.1 M.2.2.2.1 ∈ am_good) : ∀ w ∈ am_ws M, w ∈ am_good ∧ ((w.onTables && w.keeps) = true ∨ ∃ ty, w = .arrayClass ty) := by
  intro w hw
  rcases List.mem_cons.mp hw with h | h
  · rw [h]; exact ⟨hc, am_good_ok _ hc⟩
  · exact ⟨h, am_good_ok _ h⟩
section AC
variable {p : Program} {l : Launch} {e : Env} {R : Room} {s : State} {m : MethodId} {args : Array Value} {below : List Frame} {meth : Method} {c : Code} {Q : State → Prop} {nL base LL : Nat} {xs : Nat → Int32} {ad : Nat → Nat} {dC : Nat → ClassId} {dI : Nat → Nat → Nat} {dA : Nat → ClassId} {cc : ByteArray} {pc : Nat} {H : Heap} {locs : List Loc} {ls : Array Slot} {cells slots : Nat}
theorem az_call {mc ms : Nat} {st0 rest : List Value} {r : Value} {h' : am_H} {a : Array Value} (hr : va_Run p l e R s m args below meth c H locs cells slots mc ms (F0 m pc ls st0) rest (am_Qc base LL xs ad dC dI dA r h' a) (am_A base)) (hS : va_S (am_A base) s.heap H locs)
    (kk : ∀ (H1 : Heap) (locs1 : List Loc), am_Rel base LL xs ad dC dI dA h' H1 → va_S (am_A base) s.heap H1 locs1 → W p l e R s m args below meth c H1 locs1 (cells + mc) (slots + ms) Q (F0 m (pc + 3) ls ((am_ov ad r).toList ++ rest))) : W p l e R s m args below meth c H locs cells slots Q (F0 m pc ls st0) := by
  intro T hT X
  obtain ⟨v, st₀, t, T', L, h0, X', hL, e1, e2, ⟨⟨hv, hrel⟩, hz, hk⟩, st⟩ := hr T hT X
  cases hv
  rw [h0] at hz hk
  obtain ⟨t2, a1, b1⟩ := kk T'.heap (locs ++ L) (by rw [e1]; exact hrel) ⟨Nat.le_trans hS.1 (by rw [e1]; exact hz), fun q h1 h2 => by rw [e1, hk q (Nat.lt_of_lt_of_le h1 hS.1) h2]; exact hS.2.1 q h1 h2, fun q hq => by
      rcases List.mem_append.mp hq with h | h
      · exact hS.2.2 q h
      · exact hL q h⟩ T' rfl X'
  exact ⟨t2, st t2 a1, b1⟩
theorem am_Pc_blind {SF : State → Prop} (hSF : am_SFok base SF) {as : List Value} {h : am_H} : FrameBlind (am_Pc base LL xs ad dC dI dA SF as h) := fun a U g mk q => ⟨q.1, q.2.1, am_Fx.blind hSF q.2.2⟩
set_option maxHeartbeats 1000000 in
theorem sc_V {own : String} {lo : am_V} {st : List Value} {h h' : am_H} {r : Value} {SF : State → Prop} {prog : Nat → Option am_M} {d : Nat} {G : am_GT} {a i b n : Nat} {M : am_M} (hx : p.tables.exec = Jvm.exec) (hb : c.code = cc) (hml : c.maxLocals = nL) (hown : s.vm.findClass own = some m.cls) (hts : ∀ w ∈ am_good, w.before args s = true) (hF : am_Fx dC dI dA SF s) (hSF : am_SFok base SF) (hG : am_MS l base LL xs ad dC dI dA SF prog d G) (hM : prog a = some M) (hMK : am_MK M n) (hfr : d + 8 + 1 ≤ R.frames) (hlo : 64 * (d + 1) + 512 ≤ R.locals) (hg : G a (st.take b).reverse h = some (r, h')) (hlen : (st.take b).length = b) (h8 : ((st.drop b).map fun v => v.category).sum ≤ 8) (hf : cells + (h'.1 - h.1) ≤ R.cells ∧ slots + (h'.2.1 - h.2.1) ≤ R.slots) (hl : lv_has ls nL (am_rl ad lo)) (hR : am_Rel base LL xs ad dC dI dA h H) (hS : va_S (am_A base) s.heap H locs) (hlk : Cond.methodLink own i M.1 ∈ am_good) (hin : Cond.instanceMethod M.1 ∈ am_good) (hsel : Cond.selects M.1.cls M.1 M.1 ∈ am_good) {T : u_T} {N : Nat} (hr10 : M.2.2.2.2.1 < 10) (hci : vwCl[M.2.2.2.2.1]? = some (M.1.cls, T, N)) (hn : n + 1 = b) (hd : decode cc pc = .ok (.invokevirtual i, 3)) (kk : ∀ (H1 : Heap) (locs1 : List Loc), am_Rel base LL xs ad dC dI dA h' H1 → va_S (am_A base) s.heap H1 locs1 → W p l e R s m args below meth c H1 locs1 (cells + (h'.1 - h.1)) (slots + (h'.2.1 - h.2.1)) Q (F0 m (pc + 3) ls ((am_ov ad r).toList ++ (st.drop b).map (am_rv ad)))) : W p l e R s m args below meth c H locs cells slots Q (F0 m pc ls (st.map (am_rv ad))) := by
  obtain ⟨hpl, hcd, hini, hmh, hmx, har⟩ := hMK
  have hlo2 : 8 + (M.2.2.1 + 11) + (am_rm d (h'.1 - h.1) (h'.2.1 - h.2.1)).locals ≤ R.locals := by
    have e := am_rm_lo d (h'.1 - h.1) (h'.2.1 - h.2.1)
    omega
  have hfr2 : (am_rm d (h'.1 - h.1) (h'.2.1 - h.2.1)).frames + 1 ≤ R.frames := hfr
  obtain ⟨-, hrec, hMet⟩ := hG _ _ _ _ _ _ hg hM
  have har2 : ∀ sig, parseMethodDescriptor M.1.desc = some sig → n = sig.parameters.length := fun sig hsg => by
    rw [hsg] at har
    exact (Option.some.inj har).symm
  obtain ⟨o, t, eas, hko⟩ := hrec (by omega)
  have htk : st.take b = t.reverse ++ [.ref o] := by
    have := congrArg List.reverse eas
    rw [List.reverse_reverse, List.reverse_cons] at this
    exact this
  have hlt : t.length + 1 = b := by
    rw [htk] at hlen
    simp at hlen
    exact hlen
  have hst : st.map (am_rv ad) = (t.map (am_rv ad)).reverse ++ .ref (ad o) :: (st.drop b).map (am_rv ad) := by
    have h1 : st = t.reverse ++ [.ref o] ++ st.drop b := by rw [← htk, List.take_append_drop]
    have h2 := congrArg (List.map (am_rv ad)) h1
    rw [List.map_append, List.map_append, List.map_reverse] at h2
    rw [h2]
    simp [am_rv]
  obtain ⟨hI, hz, hP⟩ := id hR
  obtain ⟨o3, ol⟩ := hI.lo hko (by omega)
  have he := am_W_at (ad := ad) (dA := dA) o3 ol
  rw [am_cell_o hko hr10] at he
  rw [hst]
  exact az_call (va_runV (As := t.map (am_rv ad)) (rest := (st.drop b).map (am_rv ad)) ⟨hx, hb, hml, hown, hts⟩ hMet ⟨⟨rfl, rfl, hfr2, hlo2, pay_in hts (am_ws_good hcd), List.mem_cons_self, hts _ hcd, hts _ hini, hmh, har2, hts _ hlk⟩, hts _ hin, hts _ hsel⟩ ⟨am_Pc_blind hSF, va_recv (D := (dC, dI)) hF.1 hP hci he, fun U hU hW => ⟨by rw [eas]; rfl, by rw [hU]; exact hR, am_Fx.warm hSF hF hW (fun q q1 q2 => by rw [hU]; exact hS.2.1 q q1 q2)⟩⟩ rfl (by rw [List.length_map]; omega) hl.1 rfl (lv_room (by rw [am_cats]; exact h8)) hd hf) hS kk
set_option maxHeartbeats 1000000 in
theorem sc_I {own : String} {lo : am_V} {st : List Value} {h h' : am_H} {r : Value} {SF : State → Prop} {prog : Nat → Option am_M} {d : Nat} {G : am_GT} {a i b n : Nat} {M : am_M} (hx : p.tables.exec = Jvm.exec) (hb : c.code = cc) (hml : c.maxLocals = nL) (hown : s.vm.findClass own = some m.cls) (hts : ∀ w ∈ am_good, w.before args s = true) (hF : am_Fx dC dI dA SF s) (hSF : am_SFok base SF) (hG : am_MS l base LL xs ad dC dI dA SF prog d G) (hM : prog a = some M) (hMK : am_MK M n) (hfr : d + 8 + 1 ≤ R.frames) (hlo : 64 * (d + 1) + 512 ≤ R.locals) (hg : G a (st.take b).reverse h = some (r, h')) (hlen : (st.take b).length = b) (h8 : ((st.drop b).map fun v => v.category).sum ≤ 8) (hf : cells + (h'.1 - h.1) ≤ R.cells ∧ slots + (h'.2.1 - h.2.1) ≤ R.slots) (hl : lv_has ls nL (am_rl ad lo)) (hR : am_Rel base LL xs ad dC dI dA h H) (hS : va_S (am_A base) s.heap H locs) (hlk : Cond.methodLink own i M.1 ∈ am_good) (hin : Cond.instanceMethod M.1 ∈ am_good) (hnm : M.1.name = "<init>") (hret : M.2.2.2.1 = none) (hr10 : M.2.2.2.2.1 < 10) (hn : n + 1 = b) (hd : decode cc pc = .ok (.invokespecial i, 3)) (kk : ∀ (H1 : Heap) (locs1 : List Loc), am_Rel base LL xs ad dC dI dA h' H1 → va_S (am_A base) s.heap H1 locs1 → W p l e R s m args below meth c H1 locs1 (cells + (h'.1 - h.1)) (slots + (h'.2.1 - h.2.1)) Q (F0 m (pc + 3) ls ((am_ov ad r).toList ++ (st.drop b).map (am_rv ad)))) : W p l e R s m args below meth c H locs cells slots Q (F0 m pc ls (st.map (am_rv ad))) := by
  obtain ⟨hpl, hcd, hini, hmh, hmx, har⟩ := hMK
  have hlo2 : 8 + (M.2.2.1 + 11) + (am_rm d (h'.1 - h.1) (h'.2.1 - h.2.1)).locals ≤ R.locals := by
    have e := am_rm_lo d (h'.1 - h.1) (h'.2.1 - h.2.1)
    omega
  have hfr2 : (am_rm d (h'.1 - h.1) (h'.2.1 - h.2.1)).frames + 1 ≤ R.frames := hfr
  obtain ⟨-, hrec, hMet⟩ := hG _ _ _ _ _ _ hg hM
  have har2 : ∀ sig, parseMethodDescriptor M.1.desc = some sig → n = sig.parameters.length := fun sig hsg => by
    rw [hsg] at har
    exact (Option.some.inj har).symm
  obtain ⟨o, t, eas, hko⟩ := hrec (by omega)
  have htk : st.take b = t.reverse ++ [.ref o] := by
    have := congrArg List.reverse eas
    rw [List.reverse_reverse, List.reverse_cons] at this
    exact this
  have hlt : t.length + 1 = b := by
    rw [htk] at hlen
    simp at hlen
    exact hlen
  have hst : st.map (am_rv ad) = (t.map (am_rv ad)).reverse ++ .ref (ad o) :: (st.drop b).map (am_rv ad) := by
    have h1 : st = t.reverse ++ [.ref o] ++ st.drop b := by rw [← htk, List.take_append_drop]
    have h2 := congrArg (List.map (am_rv ad)) h1
    rw [List.map_append, List.map_append, List.map_reverse] at h2
    rw [h2]
    simp [am_rv]
  rw [hst]
  rw [hret] at hcd
  exact az_call (va_runI (As := t.map (am_rv ad)) (rest := (st.drop b).map (am_rv ad)) ⟨hx, hb, hml, hown, hts⟩ hMet ⟨⟨rfl, rfl, hfr2, hlo2, pay_in hts (am_ws_good (by rw [hret]; exact hcd)), (by unfold am_ws; rw [hret]; exact List.mem_cons_self), hts _ hcd, hts _ hini, hmh, har2, hts _ hlk⟩, hnm, hts _ hin⟩ ⟨am_Pc_blind hSF, fun U hU hW => ⟨by rw [eas]; rfl, by rw [hU]; exact hR, am_Fx.warm hSF hF hW (fun q q1 q2 => by rw [hU]; exact hS.2.1 q q1 q2)⟩⟩ rfl (by rw [List.length_map]; omega) hl.1 rfl (lv_room (by rw [am_cats]; exact h8)) hd hf) hS kk
set_option maxHeartbeats 1000000 in
theorem sc_N {own : String} {lo : am_V} {st : List Value} {h h' : am_H} {r : Value} {SF : State → Prop} {prog : Nat → Option am_M} {d : Nat} {G : am_GT} {a i b n : Nat} {M : am_M} (hx : p.tables.exec = Jvm.exec) (hb : c.code = cc) (hml : c.maxLocals = nL) (hown : s.vm.findClass own = some m.cls) (hts : ∀ w ∈ am_good, w.before args s = true) (hF : am_Fx dC dI dA SF s) (hSF : am_SFok base SF) (hG : am_MS l base LL xs ad dC dI dA SF prog d G) (hM : prog a = some M) (hMK : am_MK M n) (hfr : d + 8 + 1 ≤ R.frames) (hlo : 64 * (d + 1) + 512 ≤ R.locals) (hg : G a (st.take b).reverse h = some (r, h')) (hlen : (st.take b).length = b) (h8 : ((st.drop b).map fun v => v.category).sum ≤ 8) (hf : cells + (h'.1 - h.1) ≤ R.cells ∧ slots + (h'.2.1 - h.2.1) ≤ R.slots) (hl : lv_has ls nL (am_rl ad lo)) (hR : am_Rel base LL xs ad dC dI dA h H) (hS : va_S (am_A base) s.heap H locs) {host : String} (hlk : va_Nw (.methodLinkNest own i M.1 host) s) (hin : Cond.instanceMethod M.1 ∈ am_good) (hnm : M.1.name = "<init>") (hret : M.2.2.2.1 = none) (hr10 : M.2.2.2.2.1 < 10) (hn : n + 1 = b) (hd : decode cc pc = .ok (.invokespecial i, 3)) (kk : ∀ (H1 : Heap) (locs1 : List Loc), am_Rel base LL xs ad dC dI dA h' H1 → va_S (am_A base) s.heap H1 locs1 → W p l e R s m args below meth c H1 locs1 (cells + (h'.1 - h.1)) (slots + (h'.2.1 - h.2.1)) Q (F0 m (pc + 3) ls ((am_ov ad r).toList ++ (st.drop b).map (am_rv ad)))) : W p l e R s m args below meth c H locs cells slots Q (F0 m pc ls (st.map (am_rv ad))) := by
  obtain ⟨hpl, hcd, hini, hmh, hmx, har⟩ := hMK
  have hlo2 : 8 + (M.2.2.1 + 11) + (am_rm d (h'.1 - h.1) (h'.2.1 - h.2.1)).locals ≤ R.locals := by
    have e := am_rm_lo d (h'.1 - h.1) (h'.2.1 - h.2.1)
    omega
  have hfr2 : (am_rm d (h'.1 - h.1) (h'.2.1 - h.2.1)).frames + 1 ≤ R.frames := hfr
  obtain ⟨-, hrec, hMet⟩ := hG _ _ _ _ _ _ hg hM
  have har2 : ∀ sig, parseMethodDescriptor M.1.desc = some sig → n = sig.parameters.length := fun sig hsg => by
    rw [hsg] at har
    exact (Option.some.inj har).symm
  obtain ⟨o, t, eas, hko⟩ := hrec (by omega)
  have htk : st.take b = t.reverse ++ [.ref o] := by
    have := congrArg List.reverse eas
    rw [List.reverse_reverse, List.reverse_cons] at this
    exact this
  have hlt : t.length + 1 = b := by
    rw [htk] at hlen
    simp at hlen
    exact hlen
  have hst : st.map (am_rv ad) = (t.map (am_rv ad)).reverse ++ .ref (ad o) :: (st.drop b).map (am_rv ad) := by
    have h1 : st = t.reverse ++ [.ref o] ++ st.drop b := by rw [← htk, List.take_append_drop]
    have h2 := congrArg (List.map (am_rv ad)) h1
    rw [List.map_append, List.map_append, List.map_reverse] at h2
    rw [h2]
    simp [am_rv]
  rw [hst]
  rw [hret] at hcd
  exact az_call (va_runIN (As := t.map (am_rv ad)) (rest := (st.drop b).map (am_rv ad)) ⟨hx, hb, hml, hown, hts⟩ hMet ⟨⟨⟨rfl, rfl, hfr2, hlo2, pay_in hts (am_ws_good (by rw [hret]; exact hcd)), (by unfold am_ws; rw [hret]; exact List.mem_cons_self)⟩, hts _ hcd, hts _ hini, hmh, har2, va_Nw.use rfl hlk⟩, hnm, hts _ hin⟩ ⟨am_Pc_blind hSF, fun U hU hW => ⟨by rw [eas]; rfl, by rw [hU]; exact hR, am_Fx.warm hSF hF hW (fun q q1 q2 => by rw [hU]; exact hS.2.1 q q1 q2)⟩⟩ rfl (by rw [List.length_map]; omega) hl.1 rfl (lv_room (by rw [am_cats]; exact h8)) hd hf) hS kk
set_option maxHeartbeats 1000000 in
theorem sc_S {own : String} {lo : am_V} {st : List Value} {h h' : am_H} {r : Value} {SF : State → Prop} {prog : Nat → Option am_M} {d : Nat} {G : am_GT} {a i b n : Nat} {M : am_M} (hx : p.tables.exec = Jvm.exec) (hb : c.code = cc) (hml : c.maxLocals = nL) (hown : s.vm.findClass own = some m.cls) (hts : ∀ w ∈ am_good, w.before args s = true) (hF : am_Fx dC dI dA SF s) (hSF : am_SFok base SF) (hG : am_MS l base LL xs ad dC dI dA SF prog d G) (hM : prog a = some M) (hMK : am_MK M n) (hfr : d + 8 + 1 ≤ R.frames) (hlo : 64 * (d + 1) + 512 ≤ R.locals) (hg : G a (st.take b).reverse h = some (r, h')) (hlen : (st.take b).length = b) (h8 : ((st.drop b).map fun v => v.category).sum ≤ 8) (hf : cells + (h'.1 - h.1) ≤ R.cells ∧ slots + (h'.2.1 - h.2.1) ≤ R.slots) (hl : lv_has ls nL (am_rl ad lo)) (hR : am_Rel base LL xs ad dC dI dA h H) (hS : va_S (am_A base) s.heap H locs) (hlk : Cond.methodLink own i M.1 ∈ am_good) (hin : Cond.static M.1 ∈ am_good) (hn : n = b) (hd : decode cc pc = .ok (.invokestatic i, 3)) (kk : ∀ (H1 : Heap) (locs1 : List Loc), am_Rel base LL xs ad dC dI dA h' H1 → va_S (am_A base) s.heap H1 locs1 → W p l e R s m args below meth c H1 locs1 (cells + (h'.1 - h.1)) (slots + (h'.2.1 - h.2.1)) Q (F0 m (pc + 3) ls ((am_ov ad r).toList ++ (st.drop b).map (am_rv ad)))) : W p l e R s m args below meth c H locs cells slots Q (F0 m pc ls (st.map (am_rv ad))) := by
  obtain ⟨hpl, hcd, hini, hmh, hmx, har⟩ := hMK
  have hlo2 : 8 + (M.2.2.1 + 11) + (am_rm d (h'.1 - h.1) (h'.2.1 - h.2.1)).locals ≤ R.locals := by
    have e := am_rm_lo d (h'.1 - h.1) (h'.2.1 - h.2.1)
    omega
  have hfr2 : (am_rm d (h'.1 - h.1) (h'.2.1 - h.2.1)).frames + 1 ≤ R.frames := hfr
  obtain ⟨-, hrec, hMet⟩ := hG _ _ _ _ _ _ hg hM
  have har2 : ∀ sig, parseMethodDescriptor M.1.desc = some sig → n = sig.parameters.length := fun sig hsg => by
    rw [hsg] at har
    exact (Option.some.inj har).symm
  have hst : st.map (am_rv ad) = ((st.take b).reverse.map (am_rv ad)).reverse ++ (st.drop b).map (am_rv ad) := by
    rw [List.map_reverse, List.reverse_reverse, ← List.map_append, List.take_append_drop]
  rw [hst]
  exact az_call (va_runS (As := (st.take b).reverse.map (am_rv ad)) (rest := (st.drop b).map (am_rv ad)) ⟨hx, hb, hml, hown, hts⟩ hMet ⟨⟨rfl, rfl, hfr2, hlo2, pay_in hts (am_ws_good hcd), List.mem_cons_self, hts _ hcd, hts _ hini, hmh, har2, hts _ hlk⟩, hts _ hin⟩ ⟨am_Pc_blind hSF, fun U hU hW => ⟨rfl, by rw [hU]; exact hR, am_Fx.warm hSF hF hW (fun q q1 q2 => by rw [hU]; exact hS.2.1 q q1 q2)⟩⟩ rfl (by rw [List.length_map, List.length_reverse]; omega) hl.1 rfl (lv_room (by rw [am_cats]; exact h8)) hd hf) hS kk
end AC
