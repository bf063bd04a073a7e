/-! THE CLAIM OUT OF ONE WALK OF THE LAW'S BODY. Your part is whole_start (and what it stands on); all else here is the same for every law, but numbers. -/
def R_law : String := "LicensedVoiceLaw"
def lw_P (b : Addr) (xs : List Int32) (args : Array Value) (s : State) : Prop := args = #[.ref b] ∧ s.IntsAt b xs ∧ xs.length ≤ 3072 ∧ (Jvm.Cond.and given_1 narrow_1).before args s = true
def lw_Q (_ : Array Value) (s : State) (o : Outcome) (t : State) : Prop := o = .returned (some (.int 1)) ∧ Framed s o t [] 600000 7302250
def lw_Z (below : List Frame) (a : Array Value) (s : State) : State → Prop := fun t => ∃ o, t.status = .running ∧ Ended t below o ∧ lw_Q a s o t
/-- the law's own end, with 1 on the stack, nothing written that was there before, its room as the claim has it -/
theorem lw_ret {p : Program} {l : Launch} {e : Env} {s : State} {m : MethodId} {below : List Frame} {meth : Method} {c : Code} {b : Nat} (hx : p.tables.exec = Jvm.exec) (hb : c.code = code) (hr : meth.sig.returnType = ret) (hlocks : meth.locks = false) {pc : Nat} {H : Heap} {ls : Array Slot} (hdg : decode code pc = .ok (.ireturn, 1)) : W p l e room_1 s m #[Value.ref b] below meth c H [] 600000 7302250 (lw_Z below #[Value.ref b] s) (F0 m pc ls [.int 1]) := by
  intro T hT X
  obtain ⟨fs, hret, hrun, hended, hW, hframe⟩ := X.leave (v := some (.int 1)) (hlocks := hlocks) (fun h => by rw [hr] at h; cases h)
  have hmeth' : T.vm.method? m = some meth := X.method'
  refine ⟨T.setFrames fs, ?_, .returned (some (.int 1)), hrun, hended, rfl, ⟨_, rfl⟩, hW, hframe⟩
  jvm_step X.here [X.here.top, hx, hb, hdg, hmeth', hr, ret, narrow_b1]
  (try refine ⟨rfl, ?_⟩); (try refine ⟨rfl, ?_⟩)
  first | (intro acts; rw [hret _ acts rfl rfl rfl]) | rw [hret _ _ rfl rfl rfl]
  exact Steps.refl _
/-- what holds at the law's entry: the machine, the code, the tables' words (any of lw_tbl by 'hts w (by decide +kernel)'), the script of L ints xs at the cell b, what the Statement gives of the start (any of its parts by flat_of_before) -/
def lw_At (p : Program) (s : State) (m : MethodId) (meth : Method) (c : Code) (b L : Nat) (xs : Nat → Int32) : Prop :=
  p.tables.exec = Jvm.exec ∧ c.code = code ∧ meth.sig.returnType = ret ∧ c.maxLocals = 4 ∧ s.vm.findClass R_law = some m.cls ∧ (∀ w ∈ lw_tbl, w.before #[Value.ref b] s = true) ∧ va_X b L xs s s.heap ∧ b < s.heap.size ∧ meth.locks = false ∧ (Jvm.Cond.and given_1 narrow_1).before #[Value.ref b] s = true
def am_Pure : Prop := ∀ (L : Nat) (xs : Nat → Int32), L ≤ 3072 → ∃ (N D : Nat) (r : am_H), D ≤ 1000 ∧ am_run (am_G am_prog N D) eL_law uL_law N 0 [(0, .ref 1)] [] (am_h0 L xs) = some (.int 1, r) ∧ r.1 ≤ 600003 ∧ r.2.1 ≤ 7302250
def lw_el (j : Nat) : Cond := Cond.eq (.elem (.field (.string RX4 23) "java/lang/String" "value" "[B") (.int (Int32.ofNat j))) (.int (am_SB.getD j 0))
theorem lw_flat : ((flatC (Jvm.Cond.and given_1 narrow_1)).drop 33).take 139 = (List.range 139).map lw_el := by decide +kernel
theorem lw_SL : am_SL = 139 := by decide +kernel
theorem lw_elems (j : Nat) (hj : j < am_SL) : lw_el j ∈ flatC (Jvm.Cond.and given_1 narrow_1) := by
  rw [lw_SL] at hj
  have h : lw_el j ∈ (List.range 139).map lw_el := List.mem_map.mpr ⟨j, List.mem_range.mpr hj, rfl⟩
  rw [← lw_flat] at h
  exact List.mem_of_mem_drop (List.mem_of_mem_take h)
set_option maxHeartbeats 4000000 in
set_option maxRecDepth 100000 in
theorem whole_start_open (hPure : am_Pure) {p : Program} {e : Env} {s : State} {m : MethodId} {below : List Frame} {meth : Method} {c : Code} (l : Launch) (hflags : l.flags = flags0) {b L : Nat} {xs : Nat → Int32} (hL : L ≤ 3072) (C0 : lw_At p s m meth c b L xs) : W p l e room_1 s m #[Value.ref b] below meth c s.heap [] 0 0 (lw_Z below #[Value.ref b] s) (entryFrame m ([Value.ref b] : List Value).toArray 4) := by
  obtain ⟨hx, hb, hr, hml, hown, hts, hX, hbl, hlocks, hgv⟩ := id C0
  have htg : ∀ w ∈ am_good, w.before #[Value.ref b] s = true := fun w hw => hts w (List.mem_filter.mp hw).1
  obtain ⟨c0, i0, hKn0⟩ := u_known (C := RX0) (T := TX0) (N := 5) (n := 5) htg lyX0 (htg _ lzX0.1)
  obtain ⟨c1, i1, hKn1⟩ := u_known (C := RX1) (T := TX1) (N := 8) (n := 8) htg lyX1 (htg _ lzX1.1)
  obtain ⟨c2, i2, hKn2⟩ := u_known (C := RX2) (T := TX2) (N := 5) (n := 5) htg lyX2 (htg _ lzX2.1)
  obtain ⟨c3, i3, hKn3⟩ := u_known (C := RX3) (T := TX3) (N := 7) (n := 7) htg lyX3 (htg _ lzX3.1)
  obtain ⟨c4, i4, hKn4⟩ := u_known (C := RX4) (T := TX4) (N := 12) (n := 12) htg lyX4 (htg _ lzX4.1)
  obtain ⟨c5, i5, hKn5⟩ := u_known (C := RX5) (T := TX5) (N := 19) (n := 19) htg lyX5 (htg _ lzX5.1)
  obtain ⟨c6, i6, hKn6⟩ := u_known (C := RX6) (T := TX6) (N := 3) (n := 3) htg lyX6 (htg _ lzX6.1)
  obtain ⟨c7, i7, hKn7⟩ := u_known (C := RX7) (T := TX7) (N := 4) (n := 4) htg lyX7 (htg _ lzX7.1)
  obtain ⟨c8, i8, hKn8⟩ := u_known (C := RX8) (T := TX8) (N := 18) (n := 18) htg lyX8 (htg _ lzX8.1)
  obtain ⟨c9, i9, hKn9⟩ := u_known (C := RX9) (T := TX9) (N := 42) (n := 42) htg lyX9 (htg _ lzX9.1)
  obtain ⟨dC, dI, hKc⟩ : ∃ (dC : Nat → ClassId) (dI : Nat → Nat → Nat), ∀ (k : Nat) (q : vw_C), vwCl[k]? = some q → u_Kn s q.1 q.2.1 q.2.2 (dC k) (dI k) := by
    refine ⟨fun k => if k = 0 then c0 else if k = 1 then c1 else if k = 2 then c2 else if k = 3 then c3 else if k = 4 then c4 else if k = 5 then c5 else if k = 6 then c6 else if k = 7 then c7 else if k = 8 then c8 else c9, fun k => if k = 0 then i0 else if k = 1 then i1 else if k = 2 then i2 else if k = 3 then i3 else if k = 4 then i4 else if k = 5 then i5 else if k = 6 then i6 else if k = 7 then i7 else if k = 8 then i8 else i9, ?_⟩
    intro k q hq
    match k, hq with
    | 0, hq => cases hq; exact hKn0
    | 1, hq => cases hq; exact hKn1
    | 2, hq => cases hq; exact hKn2
    | 3, hq => cases hq; exact hKn3
    | 4, hq => cases hq; exact hKn4
    | 5, hq => cases hq; exact hKn5
    | 6, hq => cases hq; exact hKn6
    | 7, hq => cases hq; exact hKn7
    | 8, hq => cases hq; exact hKn8
    | 9, hq => cases hq; exact hKn9
    | k + 10, hq => simp [vwCl] at hq
  have hAr : ∀ ty : FieldType, (Cond.arrayClass ty).before #[Value.ref b] s = true → (∀ C, ty ≠ .object C) → ∃ cA : ClassId, ArrOfT s cA ty ∧ va_RA s cA ty := by
    intro ty h hno
    obtain ⟨cA, k, comp, h1, h2, h3⟩ := Cond.arrayClass_spec h
    refine ⟨cA, fun n z => ⟨fun k h => (by cases h), k, h2, comp, h3⟩, ?_⟩
    cases ty with
    | object C => exact absurd rfl (hno C)
    | _ => exact h1
  have hAo : ∀ C : String, va_AO C s → ∃ cA : ClassId, ArrOfT s cA (.object C) ∧ va_RA s cA (.object C) := by
    intro C h
    obtain ⟨comp, cA, k, h1, h2, h3, h4, h5⟩ := Cond.arrayOver_spec h
    exact ⟨cA, fun n z => ⟨fun k h => (by cases h), k, h3, comp, h4⟩, k, comp, h3, h4, h1, h5⟩
  obtain ⟨a0, hA0⟩ := hAr .int (htg _ am_libw.2.2.2.2.2.2.1) (fun C h => by cases h)
  obtain ⟨a1, hA1⟩ := hAr .byte (htg _ am_libw.2.2.2.2.2.2.2.1) (fun C h => by cases h)
  obtain ⟨a2, hA2⟩ := hAr .long (htg _ am_libw.2.2.2.2.2.2.2.2) (fun C h => by cases h)
  have hov1 : va_AO "LicensedVoice$Tray" s := va_AO.of (hts _ (List.mem_of_getElem? (i := 189) (by decide +kernel)))
  have hov2 : va_AO "LicensedVoice$Town" s := va_AO.of (hts _ (List.mem_of_getElem? (i := 361) (by decide +kernel)))
  obtain ⟨a3, hA3⟩ := hAo _ hov1
  obtain ⟨a4, hA4⟩ := hAo _ hov2
  obtain ⟨dA, hdA⟩ : ∃ dA : Nat → ClassId, am_tys dA = [(a0, .int), (a1, .byte), (a2, .long), (a3, .object "LicensedVoice$Tray"), (a4, .object "LicensedVoice$Town")] := ⟨fun t => if t = 10 then a0 else if t = 11 then a1 else if t = 12 then a2 else if t = 13 then a3 else a4, rfl⟩
  have hK : va_K (dC, dI) vwCl (am_tys dA) s := by
    refine ⟨hKc, fun k q hq => ?_⟩
    rw [hdA] at hq
    match k, hq with
    | 0, hq => cases hq; exact hA0
    | 1, hq => cases hq; exact hA1
    | 2, hq => cases hq; exact hA2
    | 3, hq => cases hq; exact hA3
    | 4, hq => cases hq; exact hA4
    | k + 5, hq => simp at hq
  have hfl := flat_of_before _ hgv
  have hnA : ∀ a : Nat, a < s.heap.size → ¬ am_A s.heap.size a := fun a h q => absurd h (Nat.not_lt.mpr q)
  obtain ⟨adK, adV, hvS, hev⟩ := vk_Sof (args := #[Value.ref b]) (s := s) (N := 1) (tm := fun _ => .string RX4 23) (len := [am_SL]) (byt := [am_SB]) (A := am_A s.heap.size)
    (fun i hi => by have q : i = 0 := by omega
                    subst q; decide +kernel)
    (fun i hi => hfl _ (by decide +kernel)) (fun i hi => hfl _ (by decide +kernel)) (fun i hi => hfl _ (by decide +kernel))
    (fun i hi => by have q : i = 0 := by omega
                    subst q; exact hfl _ (by decide +kernel))
    (fun i hi j hj => by have q : i = 0 := by omega
                         subst q; exact hfl _ (lw_elems j hj))
    (fun i j hi hj hij => absurd (by omega) hij) hnA
  have hs2 := hev 0 (by decide)
  generalize hz2 : adK 0 = s2 at hs2
  have hvS2 : vk_S 1 [am_SL] [am_SB] (fun _ => s2) (fun _ => adV 0) (am_A s.heap.size) s s.heap := by
    refine ⟨fun i hi => ?_, fun i j hi hj _ => by omega⟩
    have q : i = 0 := by omega
    subst q
    have := hvS.1 0 (by decide)
    rw [hz2] at this
    exact this
  have hSF : am_SFd s.heap.size s2 (adV 0) s := ⟨vk_R.of (hts _ (List.mem_of_getElem? (i := 368) (by decide +kernel))) hs2, hvS2, va_Zof (hts _ (List.mem_of_getElem? (i := 378) (by decide +kernel))) (htg _ (am_gd (i := 168) (by decide +kernel) (by decide +kernel))) (va_eqi (hfl _ (by decide +kernel))) hnA, va_Zqof (hts _ (List.mem_of_getElem? (i := 394) (by decide +kernel))) (htg _ (am_gd (i := 170) (by decide +kernel) (by decide +kernel))) (hfl _ (by decide +kernel)) hnA⟩
  obtain ⟨ad, had1, had2, had⟩ : ∃ ad : Nat → Nat, ad 1 = b ∧ ad 2 = s2 ∧ am_ad s.heap.size ad := ⟨fun a => if a = 1 then b else if a = 2 then s2 else s.heap.size + (a - 3), rfl, rfl, fun a ha => by
    show (if a = 1 then b else if a = 2 then s2 else s.heap.size + (a - 3)) = _
    rw [if_neg (by omega), if_neg (by omega)]⟩
  subst had1
  subst had2
  have hnest : ∀ w ∈ am_nest, va_Nw w s := by
    unfold am_nest
    exact List.forall_mem_cons.mpr ⟨va_Nw.of rfl (hts _ (List.mem_of_getElem? (i := 191) (by decide +kernel))), List.forall_mem_cons.mpr ⟨va_Nw.of rfl (hts _ (List.mem_of_getElem? (i := 217) (by decide +kernel))), List.forall_mem_cons.mpr ⟨va_Nw.of rfl (hts _ (List.mem_of_getElem? (i := 223) (by decide +kernel))), List.forall_mem_cons.mpr ⟨va_Nw.of rfl (hts _ (List.mem_of_getElem? (i := 485) (by decide +kernel))), List.forall_mem_cons.mpr ⟨va_Nw.of rfl (hts _ (List.mem_of_getElem? (i := 505) (by decide +kernel))), List.forall_mem_cons.mpr ⟨va_Nw.of rfl (hts _ (List.mem_of_getElem? (i := 529) (by decide +kernel))), fun _ h => absurd h List.not_mem_nil⟩⟩⟩⟩⟩⟩
  have hF : am_Fx dC dI dA (am_SFd s.heap.size (ad 2) (adV 0)) s := ⟨hK, ⟨hov1, hov2⟩, hnest, hSF⟩
  obtain ⟨N, D, r, hD, hrun, hr1, hr2⟩ := hPure L xs hL
  have hMS := am_meth (N := N) (LL := L) (xs := xs) (dC := dC) (dI := dI) (dA := dA) (am_SFd_ok s.heap.size (ad 2) (adV 0)) had am_libw am_valid (am_str_ok l s.heap.size L xs ad dC dI dA (adV 0)) D
  rw [lg_entry_eq]
  have hl := lv_entry ([.ref (ad 1)]) (n := 4) (Nat.le_of_ble_eq_true rfl)
  generalize (lg_sl ([.ref (ad 1)]) ++ List.replicate (4 - (lg_sl ([.ref (ad 1)])).length) Slot.unset).toArray = ls at hl ⊢
  have hgo := am_sim_run (p := p) (l := l) (e := e) (s := s) (m := m) (args := #[Value.ref (ad 1)]) (below := below) (meth := meth) (c := c) (res := (.int 1, r)) (n0 := 3) (s0 := 0) (R := room_1) (o := 10) (rt := 3) (K := am_K10) (init := false) (nL := 4) (Q := lw_Z below #[Value.ref (ad 1)] s) (code := eL_law) (cuts := uL_law) hx hb hml hown htg hF (am_SFd_ok s.heap.size (ad 2) (adV 0)) had am_libw am_LKP10 (fun h => by cases h) hMS (fun y as h r h' q => am_mon_G _ _ _ _ _ _ q)
    (show D + 8 + 1 ≤ 2048 by omega) (show 64 * (D + 1) + 512 ≤ 84000 by omega) (show r.1 ≤ 3 + 600000 by omega) (show r.2.1 ≤ 0 + 7302250 by omega) (fun _ => ⟨hX, hbl, hbl⟩)
    (fun pc H locs ls cells slots hcase hR hS e1 e2 => by
      have hd : decode code pc = .ok (.ireturn, 1) := by
        rcases hcase with ⟨_, hd⟩ | ⟨h3, _⟩ | ⟨h3, _⟩
        · exact hd
        · cases h3
        · cases h3
      refine va_forget (fun q hq => hS.2.2 q hq) ?_
      have e1 : r.1 = 3 + cells := e1
      have e2 : r.2.1 = 0 + slots := e2
      refine W.widen (k := 600000) (n := 7302250) (by omega) (by omega) ?_
      exact lw_ret hx hb hr hlocks hd)
    (fun h => by cases h) lw_code N 0 [(0, .ref 1)] [] (am_h0 L xs) hrun
  exact hgo s.heap [] ls 0 0 hl ⟨⟨Nat.le_refl _, rfl, rfl, rfl, fun a ha => by
      have ha : 3 ≤ a := ha
      show (if a = 1 then (21, L) else if a = 2 then (20, am_SL) else (99, 0)) = _
      rw [if_neg (by omega), if_neg (by omega)], rfl, rfl, fun a h3 h4 => absurd h4 (Nat.not_lt.mpr h3)⟩, rfl, fun k q h => by
      have h : ([] : va_W)[k]? = some q := h
      simp at h⟩ va_S.rf rfl rfl
