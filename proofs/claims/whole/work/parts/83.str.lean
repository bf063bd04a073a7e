/-! THE STRING CONSTANT: length() and charAt(i), by the JDK's own code -/
def am_SFd (base s2 v2 : Nat) (U : State) : Prop := vk_R RX4 23 am_txt s2 U ∧ vk_S 1 [am_SL] [am_SB] (fun _ => s2) (fun _ => v2) (am_A base) U U.heap ∧ va_Z "java/lang/String" "COMPACT_STRINGS" "Z" (.int 1) (am_A base) U U.heap ∧ va_Zq "jdk/internal/util/Preconditions" "SIOOBE_FORMATTER" "Ljava/util/function/BiFunction;" (am_A base) U U.heap
theorem am_SFd_ok (base s2 v2 : Nat) : am_SFok base (am_SFd base s2 v2) := by
  refine ⟨fun s U h hW ho => ?_, fun U g mk a h => ?_⟩
  · obtain ⟨h1, h2, h3, h4⟩ := h
    exact ⟨h1.warm hW, (h2.moved hW.alike).kept ho, (h3.moved hW.alike).kept ho, (h4.moved hW.alike).kept ho⟩
  · obtain ⟨h1, h2, h3, h4⟩ := h
    exact ⟨vk_R.same (u := U) (U := U.calling g mk a) rfl h1, vk_S.moved (u := U) (U := U.calling g mk a) (Vm.Alike.refl U.vm) h2, va_Z.moved (u := U) (U := U.calling g mk a) (Vm.Alike.refl U.vm) h3, va_Zq.moved (u := U) (U := U.calling g mk a) (Vm.Alike.refl U.vm) h4⟩
def am_jr (f : Nat) : Room := { frames := f, cells := 0, slots := 0, locals := 64 * f }
theorem dJ0_coder_7d493_0 : decode cJ0_coder_7d493 0 = .ok (.getstatic 38, 3) := by decide +kernel
theorem dJ0_coder_7d493_3 : decode cJ0_coder_7d493 3 = .ok (.ifCond .eq 10, 3) := by decide +kernel
theorem dJ0_coder_7d493_6 : decode cJ0_coder_7d493 6 = .ok (.aload_n 0, 1) := by decide +kernel
theorem dJ0_coder_7d493_7 : decode cJ0_coder_7d493 7 = .ok (.getfield 15, 3) := by decide +kernel
theorem dJ0_coder_7d493_10 : decode cJ0_coder_7d493 10 = .ok (.goto 4, 3) := by decide +kernel
theorem dJ0_coder_7d493_13 : decode cJ0_coder_7d493 13 = .ok (.iconst 1, 1) := by decide +kernel
theorem dJ0_coder_7d493_14 : decode cJ0_coder_7d493 14 = .ok (.ireturn, 1) := by decide +kernel
theorem dJ0_isLatin1_aae02_0 : decode cJ0_isLatin1_aae02 0 = .ok (.getstatic 38, 3) := by decide +kernel
theorem dJ0_isLatin1_aae02_3 : decode cJ0_isLatin1_aae02 3 = .ok (.ifCond .eq 14, 3) := by decide +kernel
theorem dJ0_isLatin1_aae02_6 : decode cJ0_isLatin1_aae02 6 = .ok (.aload_n 0, 1) := by decide +kernel
theorem dJ0_isLatin1_aae02_7 : decode cJ0_isLatin1_aae02 7 = .ok (.getfield 15, 3) := by decide +kernel
theorem dJ0_isLatin1_aae02_10 : decode cJ0_isLatin1_aae02 10 = .ok (.ifCond .ne 7, 3) := by decide +kernel
theorem dJ0_isLatin1_aae02_13 : decode cJ0_isLatin1_aae02 13 = .ok (.iconst 1, 1) := by decide +kernel
theorem dJ0_isLatin1_aae02_14 : decode cJ0_isLatin1_aae02 14 = .ok (.goto 4, 3) := by decide +kernel
theorem dJ0_isLatin1_aae02_17 : decode cJ0_isLatin1_aae02 17 = .ok (.iconst 0, 1) := by decide +kernel
theorem dJ0_isLatin1_aae02_18 : decode cJ0_isLatin1_aae02 18 = .ok (.ireturn, 1) := by decide +kernel
theorem dJ3_checkIndex_8e157_0 : decode cJ3_checkIndex_8e157 0 = .ok (.iload_n 0, 1) := by decide +kernel
theorem dJ3_checkIndex_8e157_1 : decode cJ3_checkIndex_8e157 1 = .ok (.ifCond .lt 8, 3) := by decide +kernel
theorem dJ3_checkIndex_8e157_4 : decode cJ3_checkIndex_8e157 4 = .ok (.iload_n 0, 1) := by decide +kernel
theorem dJ3_checkIndex_8e157_5 : decode cJ3_checkIndex_8e157 5 = .ok (.iload_n 1, 1) := by decide +kernel
theorem dJ3_checkIndex_8e157_6 : decode cJ3_checkIndex_8e157 6 = .ok (.if_icmp .lt 10, 3) := by decide +kernel
theorem dJ3_checkIndex_8e157_9 : decode cJ3_checkIndex_8e157 9 = .ok (.aload_n 2, 1) := by decide +kernel
theorem dJ3_checkIndex_8e157_10 : decode cJ3_checkIndex_8e157 10 = .ok (.iload_n 0, 1) := by decide +kernel
theorem dJ3_checkIndex_8e157_11 : decode cJ3_checkIndex_8e157 11 = .ok (.iload_n 1, 1) := by decide +kernel
theorem dJ3_checkIndex_8e157_12 : decode cJ3_checkIndex_8e157 12 = .ok (.invokestatic 95, 3) := by decide +kernel
theorem dJ3_checkIndex_8e157_15 : decode cJ3_checkIndex_8e157 15 = .ok (.athrow, 1) := by decide +kernel
theorem dJ3_checkIndex_8e157_16 : decode cJ3_checkIndex_8e157 16 = .ok (.iload_n 0, 1) := by decide +kernel
theorem dJ3_checkIndex_8e157_17 : decode cJ3_checkIndex_8e157 17 = .ok (.ireturn, 1) := by decide +kernel
theorem dJ0_checkIndex_df160_0 : decode cJ0_checkIndex_df160 0 = .ok (.iload_n 0, 1) := by decide +kernel
theorem dJ0_checkIndex_df160_1 : decode cJ0_checkIndex_df160 1 = .ok (.iload_n 1, 1) := by decide +kernel
theorem dJ0_checkIndex_df160_2 : decode cJ0_checkIndex_df160 2 = .ok (.getstatic 1053, 3) := by decide +kernel
theorem dJ0_checkIndex_df160_5 : decode cJ0_checkIndex_df160 5 = .ok (.invokestatic 1059, 3) := by decide +kernel
theorem dJ0_checkIndex_df160_8 : decode cJ0_checkIndex_df160 8 = .ok (.pop, 1) := by decide +kernel
theorem dJ0_checkIndex_df160_9 : decode cJ0_checkIndex_df160 9 = .ok (.return_, 1) := by decide +kernel
theorem dJ1_charAt_3b067_0 : decode cJ1_charAt_3b067 0 = .ok (.iload_n 1, 1) := by decide +kernel
theorem dJ1_charAt_3b067_1 : decode cJ1_charAt_3b067 1 = .ok (.aload_n 0, 1) := by decide +kernel
theorem dJ1_charAt_3b067_2 : decode cJ1_charAt_3b067 2 = .ok (.arraylength, 1) := by decide +kernel
theorem dJ1_charAt_3b067_3 : decode cJ1_charAt_3b067 3 = .ok (.invokestatic 9, 3) := by decide +kernel
theorem dJ1_charAt_3b067_6 : decode cJ1_charAt_3b067 6 = .ok (.aload_n 0, 1) := by decide +kernel
theorem dJ1_charAt_3b067_7 : decode cJ1_charAt_3b067 7 = .ok (.iload_n 1, 1) := by decide +kernel
theorem dJ1_charAt_3b067_8 : decode cJ1_charAt_3b067 8 = .ok (.baload, 1) := by decide +kernel
theorem dJ1_charAt_3b067_9 : decode cJ1_charAt_3b067 9 = .ok (.sipush 255, 3) := by decide +kernel
theorem dJ1_charAt_3b067_12 : decode cJ1_charAt_3b067 12 = .ok (.iand, 1) := by decide +kernel
theorem dJ1_charAt_3b067_13 : decode cJ1_charAt_3b067 13 = .ok (.i2c, 1) := by decide +kernel
theorem dJ1_charAt_3b067_14 : decode cJ1_charAt_3b067 14 = .ok (.ireturn, 1) := by decide +kernel
theorem dJ0_length_8abf5_0 : decode cJ0_length_8abf5 0 = .ok (.aload_n 0, 1) := by decide +kernel
theorem dJ0_length_8abf5_1 : decode cJ0_length_8abf5 1 = .ok (.getfield 9, 3) := by decide +kernel
theorem dJ0_length_8abf5_4 : decode cJ0_length_8abf5 4 = .ok (.arraylength, 1) := by decide +kernel
theorem dJ0_length_8abf5_5 : decode cJ0_length_8abf5 5 = .ok (.aload_n 0, 1) := by decide +kernel
theorem dJ0_length_8abf5_6 : decode cJ0_length_8abf5 6 = .ok (.invokevirtual 335, 3) := by decide +kernel
theorem dJ0_length_8abf5_9 : decode cJ0_length_8abf5 9 = .ok (.ishr, 1) := by decide +kernel
theorem dJ0_length_8abf5_10 : decode cJ0_length_8abf5 10 = .ok (.ireturn, 1) := by decide +kernel
theorem dJ0_charAt_5068e_0 : decode cJ0_charAt_5068e 0 = .ok (.aload_n 0, 1) := by decide +kernel
theorem dJ0_charAt_5068e_1 : decode cJ0_charAt_5068e 1 = .ok (.invokevirtual 492, 3) := by decide +kernel
theorem dJ0_charAt_5068e_4 : decode cJ0_charAt_5068e 4 = .ok (.ifCond .eq 12, 3) := by decide +kernel
theorem dJ0_charAt_5068e_7 : decode cJ0_charAt_5068e 7 = .ok (.aload_n 0, 1) := by decide +kernel
theorem dJ0_charAt_5068e_8 : decode cJ0_charAt_5068e 8 = .ok (.getfield 9, 3) := by decide +kernel
theorem dJ0_charAt_5068e_11 : decode cJ0_charAt_5068e 11 = .ok (.iload_n 1, 1) := by decide +kernel
theorem dJ0_charAt_5068e_12 : decode cJ0_charAt_5068e 12 = .ok (.invokestatic 495, 3) := by decide +kernel
theorem dJ0_charAt_5068e_15 : decode cJ0_charAt_5068e 15 = .ok (.ireturn, 1) := by decide +kernel
theorem dJ0_charAt_5068e_16 : decode cJ0_charAt_5068e 16 = .ok (.aload_n 0, 1) := by decide +kernel
theorem dJ0_charAt_5068e_17 : decode cJ0_charAt_5068e 17 = .ok (.getfield 9, 3) := by decide +kernel
theorem dJ0_charAt_5068e_20 : decode cJ0_charAt_5068e 20 = .ok (.iload_n 1, 1) := by decide +kernel
theorem dJ0_charAt_5068e_21 : decode cJ0_charAt_5068e 21 = .ok (.invokestatic 498, 3) := by decide +kernel
theorem dJ0_charAt_5068e_24 : decode cJ0_charAt_5068e 24 = .ok (.ireturn, 1) := by decide +kernel
theorem am_SCall : ∀ j, j < am_SL → (((am_SC j &&& 255).toUInt32 % 65536).toInt32 = am_SC j ∧ narrow .char (.int (am_SC j)) = .int (am_SC j)) := by decide +kernel
theorem am_SCn {j : Nat} (h : j < am_SL) : narrow .char (.int (am_SC j)) = .int (am_SC j) := (am_SCall j h).2
theorem am_SCc {j : Nat} (h : j < am_SL) : ((am_SC j &&& 255).toUInt32 % 65536).toInt32 = am_SC j := (am_SCall j h).1
theorem am_SLlt {i : Int32} (h : vp_in i am_SL) : i < Int32.ofNat am_SL := by
  obtain ⟨j, hj, rfl⟩ := vp_in_of h (by decide +kernel)
  exact nI_lt hj (by decide +kernel)
theorem am_jw {w : Cond} (hc : w ∈ am_good) : ∀ x ∈ w :: am_good, x ∈ am_good ∧ ((x.onTables && x.keeps) = true ∨ ∃ ty, x = .arrayClass ty) := by
  intro x hx
  rcases List.mem_cons.mp hx with h | h
  · rw [h]; exact ⟨hc, am_good_ok _ hc⟩
  · exact ⟨h, am_good_ok _ h⟩
set_option maxRecDepth 20000 in
set_option maxHeartbeats 1000000 in
theorem js_coder (l : Launch) (base s2 v2 : Nat) : Met l yJ0_coder_7d493 (Cond.code yJ0_coder_7d493 cJ0_coder_7d493 1 (some .byte) :: am_good) (am_jr 0) (va_Pc ([.ref s2]) (fun U => am_SFd base s2 v2 U)) (vp_Si (fun r => r = 0)) 0 0 (fun _ => False) := by
  refine Met.ofW (cc := cJ0_coder_7d493) (maxL := 1) (ret := (some .byte)) (by decide +kernel) rfl ?_
  intro p e s m args below meth c s₁ B hml hv
  obtain ⟨rfl, hv⟩ := hv
  have hx := B.exec
  have hb := B.bytes
  have hr := B.returns
  have hts0 := atoms_spec (ws := (Cond.code yJ0_coder_7d493 cJ0_coder_7d493 1 (some .byte) :: am_good)) B.pre
  have hts : ∀ w ∈ am_good, w.before ([.ref s2] : List Value).toArray s = true := fun w hw => hts0 w (List.mem_cons_of_mem _ hw)
  have hown : s.vm.findClass RJ0 = some m.cls := findClass_of_methodNamed B.named
  have hlocks := B.notSynchronized
  have hS : va_S (am_A base) s.heap s.heap [] := va_S.rf
  have hl := lv_entry ([.ref s2]) (n := 1) (Nat.le_of_ble_eq_true rfl)
  rw [lg_entry_eq]
  generalize (lg_sl ([.ref s2]) ++ List.replicate (1 - (lg_sl ([.ref s2])).length) Slot.unset).toArray = ls at hl ⊢
  obtain ⟨h1, h2, h3, h4⟩ := hv
  obtain ⟨-, hco, hva, hT⟩ := h2.1 0 (by decide)
  refine va_gets hx hb h3 hS hown (hts _ (am_gd (i := 377) (by decide +kernel) (by decide +kernel))) (fun _ q => q) dJ0_coder_7d493_0 ?_
  refine lv_if_eq (tgt := 13) hx hb dJ0_coder_7d493_3 (by decide) (fun q => absurd q (by decide)) (fun _ => ?_)
  refine lv_aload_n hx hb dJ0_coder_7d493_6 rfl (lv_at hl 0 rfl) ?_
  refine vk_getf hx hb hco hS hown (hts _ (am_gd (i := 2204) (by decide +kernel) (by decide +kernel))) (fun _ q => q) dJ0_coder_7d493_7 ?_
  refine lv_goto (tgt := 14) hx hb dJ0_coder_7d493_10 (by decide) ?_
  exact W.zret (v := 0) hx hb hr (by decide) (fun t ht hW => ⟨0, rfl, rfl, ht⟩) (fun q h => by cases h) dJ0_coder_7d493_14
set_option maxRecDepth 20000 in
set_option maxHeartbeats 1000000 in
theorem js_isLatin1 (l : Launch) (base s2 v2 : Nat) : Met l yJ0_isLatin1_aae02 (Cond.code yJ0_isLatin1_aae02 cJ0_isLatin1_aae02 1 (some .boolean) :: am_good) (am_jr 0) (va_Pc ([.ref s2]) (fun U => am_SFd base s2 v2 U)) (vp_Si (fun r => r = 1)) 0 0 (fun _ => False) := by
  refine Met.ofW (cc := cJ0_isLatin1_aae02) (maxL := 1) (ret := (some .boolean)) (by decide +kernel) rfl ?_
  intro p e s m args below meth c s₁ B hml hv
  obtain ⟨rfl, hv⟩ := hv
  have hx := B.exec
  have hb := B.bytes
  have hr := B.returns
  have hts0 := atoms_spec (ws := (Cond.code yJ0_isLatin1_aae02 cJ0_isLatin1_aae02 1 (some .boolean) :: am_good)) B.pre
  have hts : ∀ w ∈ am_good, w.before ([.ref s2] : List Value).toArray s = true := fun w hw => hts0 w (List.mem_cons_of_mem _ hw)
  have hown : s.vm.findClass RJ0 = some m.cls := findClass_of_methodNamed B.named
  have hlocks := B.notSynchronized
  have hS : va_S (am_A base) s.heap s.heap [] := va_S.rf
  have hl := lv_entry ([.ref s2]) (n := 1) (Nat.le_of_ble_eq_true rfl)
  rw [lg_entry_eq]
  generalize (lg_sl ([.ref s2]) ++ List.replicate (1 - (lg_sl ([.ref s2])).length) Slot.unset).toArray = ls at hl ⊢
  obtain ⟨h1, h2, h3, h4⟩ := hv
  obtain ⟨-, hco, hva, hT⟩ := h2.1 0 (by decide)
  refine va_gets hx hb h3 hS hown (hts _ (am_gd (i := 377) (by decide +kernel) (by decide +kernel))) (fun _ q => q) dJ0_isLatin1_aae02_0 ?_
  refine lv_if_eq (tgt := 17) hx hb dJ0_isLatin1_aae02_3 (by decide) (fun q => absurd q (by decide)) (fun _ => ?_)
  refine lv_aload_n hx hb dJ0_isLatin1_aae02_6 rfl (lv_at hl 0 rfl) ?_
  refine vk_getf hx hb hco hS hown (hts _ (am_gd (i := 2204) (by decide +kernel) (by decide +kernel))) (fun _ q => q) dJ0_isLatin1_aae02_7 ?_
  refine lv_if_ne (tgt := 17) hx hb dJ0_isLatin1_aae02_10 (by decide) (fun q => absurd rfl q) (fun _ => ?_)
  refine lv_iconst (v := 1) hx hb dJ0_isLatin1_aae02_13 (by decide) ?_
  refine lv_goto (tgt := 18) hx hb dJ0_isLatin1_aae02_14 (by decide) ?_
  exact W.zret (v := 1) hx hb hr (by decide) (fun t ht hW => ⟨1, rfl, rfl, ht⟩) (fun q h => by cases h) dJ0_isLatin1_aae02_18
set_option maxRecDepth 20000 in
set_option maxHeartbeats 1000000 in
theorem js_pcheckN (l : Launch) (base s2 v2 : Nat) (i n : Int32) : Met l yJ3_checkIndex_8e157 (Cond.code yJ3_checkIndex_8e157 cJ3_checkIndex_8e157 3 (some .int) :: am_good) (am_jr 0) (va_Pc ([.int i, .int n, .null]) (fun U => 0 ≤ i ∧ i < n)) (vp_Si (fun r => r = i)) 0 0 (fun _ => False) := by
  refine Met.ofW (cc := cJ3_checkIndex_8e157) (maxL := 3) (ret := (some .int)) (by decide +kernel) rfl ?_
  intro p e s m args below meth c s₁ B hml hv
  obtain ⟨rfl, hv⟩ := hv
  have hx := B.exec
  have hb := B.bytes
  have hr := B.returns
  have hts0 := atoms_spec (ws := (Cond.code yJ3_checkIndex_8e157 cJ3_checkIndex_8e157 3 (some .int) :: am_good)) B.pre
  have hts : ∀ w ∈ am_good, w.before ([.int i, .int n, .null] : List Value).toArray s = true := fun w hw => hts0 w (List.mem_cons_of_mem _ hw)
  have hown : s.vm.findClass RJ3 = some m.cls := findClass_of_methodNamed B.named
  have hlocks := B.notSynchronized
  have hS : va_S (am_A base) s.heap s.heap [] := va_S.rf
  have hl := lv_entry ([.int i, .int n, .null]) (n := 3) (Nat.le_of_ble_eq_true rfl)
  rw [lg_entry_eq]
  generalize (lg_sl ([.int i, .int n, .null]) ++ List.replicate (3 - (lg_sl ([.int i, .int n, .null])).length) Slot.unset).toArray = ls at hl ⊢
  obtain ⟨h0, h1⟩ := hv
  have hl : lv_has ls 3 [(0, .int i), (1, .int n), (2, .null)] := hl
  refine lv_iload_n hx hb dJ3_checkIndex_8e157_0 rfl (lv_at hl 0 rfl) ?_
  refine lv_if_lt (tgt := 9) hx hb dJ3_checkIndex_8e157_1 (by decide) (fun q => absurd q (Int32.not_lt.mpr h0)) (fun _ => ?_)
  refine lv_iload_n hx hb dJ3_checkIndex_8e157_4 rfl (lv_at hl 0 rfl) ?_
  refine lv_iload_n hx hb dJ3_checkIndex_8e157_5 rfl (lv_at hl 1 rfl) ?_
  refine lv_icmp_lt (tgt := 16) hx hb dJ3_checkIndex_8e157_6 (by decide) (fun _ => ?_) (fun q => absurd h1 q)
  refine lv_iload_n hx hb dJ3_checkIndex_8e157_16 rfl (lv_at hl 0 rfl) ?_
  exact W.iret (v := i) hx hb hr (fun t ht hW => ⟨i, rfl, rfl, ht⟩) (fun q h => by cases h) dJ3_checkIndex_8e157_17
set_option maxRecDepth 20000 in
set_option maxHeartbeats 1000000 in
theorem js_pcheckR (l : Launch) (base s2 v2 : Nat) (i n : Int32) (t0 : Nat) : Met l yJ3_checkIndex_8e157 (Cond.code yJ3_checkIndex_8e157 cJ3_checkIndex_8e157 3 (some .int) :: am_good) (am_jr 0) (va_Pc ([.int i, .int n, .ref t0]) (fun U => 0 ≤ i ∧ i < n)) (vp_Si (fun r => r = i)) 0 0 (fun _ => False) := by
  refine Met.ofW (cc := cJ3_checkIndex_8e157) (maxL := 3) (ret := (some .int)) (by decide +kernel) rfl ?_
  intro p e s m args below meth c s₁ B hml hv
  obtain ⟨rfl, hv⟩ := hv
  have hx := B.exec
  have hb := B.bytes
  have hr := B.returns
  have hts0 := atoms_spec (ws := (Cond.code yJ3_checkIndex_8e157 cJ3_checkIndex_8e157 3 (some .int) :: am_good)) B.pre
  have hts : ∀ w ∈ am_good, w.before ([.int i, .int n, .ref t0] : List Value).toArray s = true := fun w hw => hts0 w (List.mem_cons_of_mem _ hw)
  have hown : s.vm.findClass RJ3 = some m.cls := findClass_of_methodNamed B.named
  have hlocks := B.notSynchronized
  have hS : va_S (am_A base) s.heap s.heap [] := va_S.rf
  have hl := lv_entry ([.int i, .int n, .ref t0]) (n := 3) (Nat.le_of_ble_eq_true rfl)
  rw [lg_entry_eq]
  generalize (lg_sl ([.int i, .int n, .ref t0]) ++ List.replicate (3 - (lg_sl ([.int i, .int n, .ref t0])).length) Slot.unset).toArray = ls at hl ⊢
  obtain ⟨h0, h1⟩ := hv
  have hl : lv_has ls 3 [(0, .int i), (1, .int n), (2, .ref t0)] := hl
  refine lv_iload_n hx hb dJ3_checkIndex_8e157_0 rfl (lv_at hl 0 rfl) ?_
  refine lv_if_lt (tgt := 9) hx hb dJ3_checkIndex_8e157_1 (by decide) (fun q => absurd q (Int32.not_lt.mpr h0)) (fun _ => ?_)
  refine lv_iload_n hx hb dJ3_checkIndex_8e157_4 rfl (lv_at hl 0 rfl) ?_
  refine lv_iload_n hx hb dJ3_checkIndex_8e157_5 rfl (lv_at hl 1 rfl) ?_
  refine lv_icmp_lt (tgt := 16) hx hb dJ3_checkIndex_8e157_6 (by decide) (fun _ => ?_) (fun q => absurd h1 q)
  refine lv_iload_n hx hb dJ3_checkIndex_8e157_16 rfl (lv_at hl 0 rfl) ?_
  exact W.iret (v := i) hx hb hr (fun t ht hW => ⟨i, rfl, rfl, ht⟩) (fun q h => by cases h) dJ3_checkIndex_8e157_17
set_option maxRecDepth 20000 in
set_option maxHeartbeats 1000000 in
theorem js_check (l : Launch) (base s2 v2 : Nat) (i n : Int32) : Met l yJ0_checkIndex_df160 (Cond.code yJ0_checkIndex_df160 cJ0_checkIndex_df160 2 none :: am_good) (am_jr 1) (va_Pc ([.int i, .int n]) (fun U => am_SFd base s2 v2 U ∧ 0 ≤ i ∧ i < n)) (va_Sv (fun _ => True)) 0 0 (fun _ => False) := by
  refine Met.ofW (cc := cJ0_checkIndex_df160) (maxL := 2) (ret := none) (by decide +kernel) rfl ?_
  intro p e s m args below meth c s₁ B hml hv
  obtain ⟨rfl, hv⟩ := hv
  have hx := B.exec
  have hb := B.bytes
  have hr := B.returns
  have hts0 := atoms_spec (ws := (Cond.code yJ0_checkIndex_df160 cJ0_checkIndex_df160 2 none :: am_good)) B.pre
  have hts : ∀ w ∈ am_good, w.before ([.int i, .int n] : List Value).toArray s = true := fun w hw => hts0 w (List.mem_cons_of_mem _ hw)
  have hown : s.vm.findClass RJ0 = some m.cls := findClass_of_methodNamed B.named
  have hlocks := B.notSynchronized
  have hS : va_S (am_A base) s.heap s.heap [] := va_S.rf
  have hl := lv_entry ([.int i, .int n]) (n := 2) (Nat.le_of_ble_eq_true rfl)
  rw [lg_entry_eq]
  generalize (lg_sl ([.int i, .int n]) ++ List.replicate (2 - (lg_sl ([.int i, .int n])).length) Slot.unset).toArray = ls at hl ⊢
  obtain ⟨⟨h1, h2, h3, h4⟩, g0, g1⟩ := hv
  have hl : lv_has ls 2 [(0, .int i), (1, .int n)] := hl
  refine lv_iload_n hx hb dJ0_checkIndex_df160_0 rfl (lv_at hl 0 rfl) ?_
  refine lv_iload_n hx hb dJ0_checkIndex_df160_1 rfl (lv_at hl 1 rfl) ?_
  rcases h4 with h4 | ⟨t0, h4⟩
  · refine va_gets hx hb h4 hS hown (hts _ (am_gd (i := 393) (by decide +kernel) (by decide +kernel))) (fun _ q => q) dJ0_checkIndex_df160_2 ?_
    refine vp_callSi (W.runS (As := [.int i, .int n, .null]) (rest := []) ⟨hx, hb, hml, hown, hts⟩ (js_pcheckN l base s2 v2 i n) ⟨⟨rfl, rfl, by decide, by decide, pay_in hts (am_jw (am_gd (i := 397) (by decide +kernel) (by decide +kernel))), List.mem_cons_self, hts _ (am_gd (i := 397) (by decide +kernel) (by decide +kernel)), hts _ (am_gd (i := 170) (by decide +kernel) (by decide +kernel)), ⟨by decide +kernel, by decide +kernel⟩, (fun sig h => by have q : (parseMethodDescriptor yJ3_checkIndex_8e157.desc).map (fun d => d.parameters.length) = some 3 := (by decide +kernel); rw [h] at q; exact (Option.some.inj q).symm), hts _ (am_gd (i := 395) (by decide +kernel) (by decide +kernel))⟩, hts _ (am_gd (i := 396) (by decide +kernel) (by decide +kernel))⟩ ⟨fun a U g mk q => q, fun U hU hW => ⟨rfl, g0, g1⟩⟩ rfl rfl hl.1 rfl (lv_room (Nat.le_of_ble_eq_true rfl)) dJ0_checkIndex_df160_5 ⟨Nat.le_refl _, Nat.le_refl _⟩) (fun r hr1 => ?_)
    refine lv_pop hx hb dJ0_checkIndex_df160_8 rfl ?_
    exact W.vret hx hb hr (fun t ht hW => ⟨rfl, trivial, ht⟩) (fun q h => by cases h) dJ0_checkIndex_df160_9
  · refine va_gets hx hb h4 hS hown (hts _ (am_gd (i := 393) (by decide +kernel) (by decide +kernel))) (fun _ q => q) dJ0_checkIndex_df160_2 ?_
    refine vp_callSi (W.runS (As := [.int i, .int n, .ref t0]) (rest := []) ⟨hx, hb, hml, hown, hts⟩ (js_pcheckR l base s2 v2 i n t0) ⟨⟨rfl, rfl, by decide, by decide, pay_in hts (am_jw (am_gd (i := 397) (by decide +kernel) (by decide +kernel))), List.mem_cons_self, hts _ (am_gd (i := 397) (by decide +kernel) (by decide +kernel)), hts _ (am_gd (i := 170) (by decide +kernel) (by decide +kernel)), ⟨by decide +kernel, by decide +kernel⟩, (fun sig h => by have q : (parseMethodDescriptor yJ3_checkIndex_8e157.desc).map (fun d => d.parameters.length) = some 3 := (by decide +kernel); rw [h] at q; exact (Option.some.inj q).symm), hts _ (am_gd (i := 395) (by decide +kernel) (by decide +kernel))⟩, hts _ (am_gd (i := 396) (by decide +kernel) (by decide +kernel))⟩ ⟨fun a U g mk q => q, fun U hU hW => ⟨rfl, g0, g1⟩⟩ rfl rfl hl.1 rfl (lv_room (Nat.le_of_ble_eq_true rfl)) dJ0_checkIndex_df160_5 ⟨Nat.le_refl _, Nat.le_refl _⟩) (fun r hr1 => ?_)
    refine lv_pop hx hb dJ0_checkIndex_df160_8 rfl ?_
    exact W.vret hx hb hr (fun t ht hW => ⟨rfl, trivial, ht⟩) (fun q h => by cases h) dJ0_checkIndex_df160_9
set_option maxRecDepth 20000 in
set_option maxHeartbeats 1000000 in
theorem js_lcharAt (l : Launch) (base s2 v2 : Nat) (i : Int32) (hi : vp_in i am_SL) : Met l yJ1_charAt_3b067 (Cond.code yJ1_charAt_3b067 cJ1_charAt_3b067 2 (some .char) :: am_good) (am_jr 2) (va_Pc ([.ref v2, .int i]) (fun U => am_SFd base s2 v2 U)) (vp_Si (fun r => r = am_SC i.toNatClampNeg)) 0 0 (fun _ => False) := by
  refine Met.ofW (cc := cJ1_charAt_3b067) (maxL := 2) (ret := (some .char)) (by decide +kernel) rfl ?_
  intro p e s m args below meth c s₁ B hml hv
  obtain ⟨rfl, hv⟩ := hv
  have hx := B.exec
  have hb := B.bytes
  have hr := B.returns
  have hts0 := atoms_spec (ws := (Cond.code yJ1_charAt_3b067 cJ1_charAt_3b067 2 (some .char) :: am_good)) B.pre
  have hts : ∀ w ∈ am_good, w.before ([.ref v2, .int i] : List Value).toArray s = true := fun w hw => hts0 w (List.mem_cons_of_mem _ hw)
  have hown : s.vm.findClass RJ1 = some m.cls := findClass_of_methodNamed B.named
  have hlocks := B.notSynchronized
  have hS : va_S (am_A base) s.heap s.heap [] := va_S.rf
  have hl := lv_entry ([.ref v2, .int i]) (n := 2) (Nat.le_of_ble_eq_true rfl)
  rw [lg_entry_eq]
  generalize (lg_sl ([.ref v2, .int i]) ++ List.replicate (2 - (lg_sl ([.ref v2, .int i])).length) Slot.unset).toArray = ls at hl ⊢
  obtain ⟨h1, h2, h3, h4⟩ := id hv
  obtain ⟨-, hco, hva, hT⟩ := h2.1 0 (by decide)
  have hT : va_T .byte v2 am_SL (fun j => .int (am_SC j)) (am_A base) s s.heap := hT
  have hl : lv_has ls 2 [(0, .ref v2), (1, .int i)] := hl
  have hlt : i.toNatClampNeg < am_SL := Nat.not_le.mp fun q => hi (Or.inr q)
  refine lv_iload_n hx hb dJ1_charAt_3b067_0 rfl (lv_at hl 1 rfl) ?_
  refine lv_aload_n hx hb dJ1_charAt_3b067_1 rfl (lv_at hl 0 rfl) ?_
  refine va_tlen hx hb hT hS rfl dJ1_charAt_3b067_2 ?_
  refine va_csv (W.runS (As := [.int i, .int (Int32.ofNat am_SL)]) (rest := []) ⟨hx, hb, hml, hown, hts⟩ (js_check l base s2 v2 i (Int32.ofNat am_SL)) ⟨⟨rfl, rfl, by decide, by decide, pay_in hts (am_jw (am_gd (i := 392) (by decide +kernel) (by decide +kernel))), List.mem_cons_self, hts _ (am_gd (i := 392) (by decide +kernel) (by decide +kernel)), hts _ (am_gd (i := 168) (by decide +kernel) (by decide +kernel)), ⟨by decide +kernel, by decide +kernel⟩, (fun sig h => by have q : (parseMethodDescriptor yJ0_checkIndex_df160.desc).map (fun d => d.parameters.length) = some 2 := (by decide +kernel); rw [h] at q; exact (Option.some.inj q).symm), hts _ (am_gd (i := 390) (by decide +kernel) (by decide +kernel))⟩, hts _ (am_gd (i := 391) (by decide +kernel) (by decide +kernel))⟩ ⟨fun a U g mk q => ⟨q.1, (am_SFd_ok base s2 v2).2 U g mk a q.2.1, q.2.2⟩, fun U hU hW => ⟨rfl, (am_SFd_ok base s2 v2).1 s U hv hW (fun q q1 q2 => by rw [hU]), Int32.not_lt.mp (fun q => hi (Or.inl q)), am_SLlt hi⟩⟩ rfl rfl hl.1 rfl (lv_room (Nat.le_of_ble_eq_true rfl)) dJ1_charAt_3b067_3 ⟨Nat.le_refl _, Nat.le_refl _⟩) (fun _ => ?_)
  refine lv_aload_n hx hb dJ1_charAt_3b067_6 rfl (lv_at hl 0 rfl) ?_
  refine lv_iload_n hx hb dJ1_charAt_3b067_7 rfl (lv_at hl 1 rfl) ?_
  refine va_tb hx hb hT hS hi rfl dJ1_charAt_3b067_8 ?_
  refine lv_sipush (v := 255) hx hb dJ1_charAt_3b067_9 (by decide) ?_
  refine lv_iand hx hb dJ1_charAt_3b067_12 ?_
  refine lv_i2c (v := am_SC i.toNatClampNeg) hx hb dJ1_charAt_3b067_13 (am_SCc hlt) ?_
  exact W.zret (v := am_SC i.toNatClampNeg) hx hb hr (am_SCn hlt) (fun t ht hW => ⟨_, rfl, rfl, ht⟩) (fun q h => by cases h) dJ1_charAt_3b067_14
set_option maxRecDepth 20000 in
set_option maxHeartbeats 1000000 in
theorem js_length (l : Launch) (base s2 v2 : Nat) : Met l yJ0_length_8abf5 (Cond.code yJ0_length_8abf5 cJ0_length_8abf5 1 (some .int) :: am_good) (am_jr 1) (va_Pc ([.ref s2]) (fun U => am_SFd base s2 v2 U)) (vp_Si (fun r => r = Int32.ofNat am_SL)) 0 0 (fun _ => False) := by
  refine Met.ofW (cc := cJ0_length_8abf5) (maxL := 1) (ret := (some .int)) (by decide +kernel) rfl ?_
  intro p e s m args below meth c s₁ B hml hv
  obtain ⟨rfl, hv⟩ := hv
  have hx := B.exec
  have hb := B.bytes
  have hr := B.returns
  have hts0 := atoms_spec (ws := (Cond.code yJ0_length_8abf5 cJ0_length_8abf5 1 (some .int) :: am_good)) B.pre
  have hts : ∀ w ∈ am_good, w.before ([.ref s2] : List Value).toArray s = true := fun w hw => hts0 w (List.mem_cons_of_mem _ hw)
  have hown : s.vm.findClass RJ0 = some m.cls := findClass_of_methodNamed B.named
  have hlocks := B.notSynchronized
  have hS : va_S (am_A base) s.heap s.heap [] := va_S.rf
  have hl := lv_entry ([.ref s2]) (n := 1) (Nat.le_of_ble_eq_true rfl)
  rw [lg_entry_eq]
  generalize (lg_sl ([.ref s2]) ++ List.replicate (1 - (lg_sl ([.ref s2])).length) Slot.unset).toArray = ls at hl ⊢
  obtain ⟨h1, h2, h3, h4⟩ := id hv
  obtain ⟨-, hco, hva, hT⟩ := h2.1 0 (by decide)
  have hl : lv_has ls 1 [(0, .ref s2)] := hl
  refine lv_aload_n hx hb dJ0_length_8abf5_0 rfl (lv_at hl 0 rfl) ?_
  refine vk_getf hx hb hva hS hown (hts _ (am_gd (i := 2203) (by decide +kernel) (by decide +kernel))) (fun _ q => q) dJ0_length_8abf5_1 ?_
  refine va_tlen hx hb hT hS rfl dJ0_length_8abf5_4 ?_
  refine lv_aload_n hx hb dJ0_length_8abf5_5 rfl (lv_at hl 0 rfl) ?_
  refine vp_callSi (W.runV (As := []) (rest := [.int (Int32.ofNat am_SL)]) ⟨hx, hb, hml, hown, hts⟩ (js_coder l base s2 v2) ⟨⟨rfl, rfl, by decide, by decide, pay_in hts (am_jw (am_gd (i := 376) (by decide +kernel) (by decide +kernel))), List.mem_cons_self, hts _ (am_gd (i := 376) (by decide +kernel) (by decide +kernel)), hts _ (am_gd (i := 168) (by decide +kernel) (by decide +kernel)), ⟨by decide +kernel, by decide +kernel⟩, (fun sig h => by have q : (parseMethodDescriptor yJ0_coder_7d493.desc).map (fun d => d.parameters.length) = some 0 := (by decide +kernel); rw [h] at q; exact (Option.some.inj q).symm), hts _ (am_gd (i := 373) (by decide +kernel) (by decide +kernel))⟩, hts _ (am_gd (i := 374) (by decide +kernel) (by decide +kernel)), hts _ (am_gd (i := 375) (by decide +kernel) (by decide +kernel))⟩ ⟨fun a U g mk q => ⟨q.1, (am_SFd_ok base s2 v2).2 U g mk a q.2⟩, vk_recv h2 (i := 0) (by decide) hS, fun U hU hW => ⟨rfl, (am_SFd_ok base s2 v2).1 s U hv hW (fun q q1 q2 => by rw [hU])⟩⟩ rfl rfl hl.1 rfl (lv_room (Nat.le_of_ble_eq_true rfl)) dJ0_length_8abf5_6 ⟨Nat.le_refl _, Nat.le_refl _⟩) (fun r hr1 => ?_)
  subst hr1
  refine lv_ishr hx hb dJ0_length_8abf5_9 ?_
  exact W.iret (v := Int32.ofNat am_SL >>> ((0 : Int32) &&& 31)) hx hb hr (fun t ht hW => ⟨_, rfl, by decide +kernel, ht⟩) (fun q h => by cases h) dJ0_length_8abf5_10
set_option maxRecDepth 20000 in
set_option maxHeartbeats 1000000 in
theorem js_charAt (l : Launch) (base s2 v2 : Nat) (i : Int32) (hi : vp_in i am_SL) : Met l yJ0_charAt_5068e (Cond.code yJ0_charAt_5068e cJ0_charAt_5068e 2 (some .char) :: am_good) (am_jr 3) (va_Pc ([.ref s2, .int i]) (fun U => am_SFd base s2 v2 U)) (vp_Si (fun r => r = am_SC i.toNatClampNeg)) 0 0 (fun _ => False) := by
  refine Met.ofW (cc := cJ0_charAt_5068e) (maxL := 2) (ret := (some .char)) (by decide +kernel) rfl ?_
  intro p e s m args below meth c s₁ B hml hv
  obtain ⟨rfl, hv⟩ := hv
  have hx := B.exec
  have hb := B.bytes
  have hr := B.returns
  have hts0 := atoms_spec (ws := (Cond.code yJ0_charAt_5068e cJ0_charAt_5068e 2 (some .char) :: am_good)) B.pre
  have hts : ∀ w ∈ am_good, w.before ([.ref s2, .int i] : List Value).toArray s = true := fun w hw => hts0 w (List.mem_cons_of_mem _ hw)
  have hown : s.vm.findClass RJ0 = some m.cls := findClass_of_methodNamed B.named
  have hlocks := B.notSynchronized
  have hS : va_S (am_A base) s.heap s.heap [] := va_S.rf
  have hl := lv_entry ([.ref s2, .int i]) (n := 2) (Nat.le_of_ble_eq_true rfl)
  rw [lg_entry_eq]
  generalize (lg_sl ([.ref s2, .int i]) ++ List.replicate (2 - (lg_sl ([.ref s2, .int i])).length) Slot.unset).toArray = ls at hl ⊢
  obtain ⟨h1, h2, h3, h4⟩ := id hv
  obtain ⟨-, hco, hva, hT⟩ := h2.1 0 (by decide)
  have hl : lv_has ls 2 [(0, .ref s2), (1, .int i)] := hl
  have hlt : i.toNatClampNeg < am_SL := Nat.not_le.mp fun q => hi (Or.inr q)
  refine lv_aload_n hx hb dJ0_charAt_5068e_0 rfl (lv_at hl 0 rfl) ?_
  refine vp_callSi (W.runV (As := []) (rest := []) ⟨hx, hb, hml, hown, hts⟩ (js_isLatin1 l base s2 v2) ⟨⟨rfl, rfl, by decide, by decide, pay_in hts (am_jw (am_gd (i := 386) (by decide +kernel) (by decide +kernel))), List.mem_cons_self, hts _ (am_gd (i := 386) (by decide +kernel) (by decide +kernel)), hts _ (am_gd (i := 168) (by decide +kernel) (by decide +kernel)), ⟨by decide +kernel, by decide +kernel⟩, (fun sig h => by have q : (parseMethodDescriptor yJ0_isLatin1_aae02.desc).map (fun d => d.parameters.length) = some 0 := (by decide +kernel); rw [h] at q; exact (Option.some.inj q).symm), hts _ (am_gd (i := 383) (by decide +kernel) (by decide +kernel))⟩, hts _ (am_gd (i := 384) (by decide +kernel) (by decide +kernel)), hts _ (am_gd (i := 385) (by decide +kernel) (by decide +kernel))⟩ ⟨fun a U g mk q => ⟨q.1, (am_SFd_ok base s2 v2).2 U g mk a q.2⟩, vk_recv h2 (i := 0) (by decide) hS, fun U hU hW => ⟨rfl, (am_SFd_ok base s2 v2).1 s U hv hW (fun q q1 q2 => by rw [hU])⟩⟩ rfl rfl hl.1 rfl (lv_room (Nat.le_of_ble_eq_true rfl)) dJ0_charAt_5068e_1 ⟨Nat.le_refl _, Nat.le_refl _⟩) (fun r hr1 => ?_)
  subst hr1
  refine lv_if_eq (tgt := 16) hx hb dJ0_charAt_5068e_4 (by decide) (fun q => absurd q (by decide)) (fun _ => ?_)
  refine lv_aload_n hx hb dJ0_charAt_5068e_7 rfl (lv_at hl 0 rfl) ?_
  refine vk_getf hx hb hva hS hown (hts _ (am_gd (i := 2203) (by decide +kernel) (by decide +kernel))) (fun _ q => q) dJ0_charAt_5068e_8 ?_
  refine lv_iload_n hx hb dJ0_charAt_5068e_11 rfl (lv_at hl 1 rfl) ?_
  refine vp_callSi (W.runS (As := [.ref v2, .int i]) (rest := []) ⟨hx, hb, hml, hown, hts⟩ (js_lcharAt l base s2 v2 i hi) ⟨⟨rfl, rfl, by decide, by decide, pay_in hts (am_jw (am_gd (i := 389) (by decide +kernel) (by decide +kernel))), List.mem_cons_self, hts _ (am_gd (i := 389) (by decide +kernel) (by decide +kernel)), hts _ (am_gd (i := 169) (by decide +kernel) (by decide +kernel)), ⟨by decide +kernel, by decide +kernel⟩, (fun sig h => by have q : (parseMethodDescriptor yJ1_charAt_3b067.desc).map (fun d => d.parameters.length) = some 2 := (by decide +kernel); rw [h] at q; exact (Option.some.inj q).symm), hts _ (am_gd (i := 387) (by decide +kernel) (by decide +kernel))⟩, hts _ (am_gd (i := 388) (by decide +kernel) (by decide +kernel))⟩ ⟨fun a U g mk q => ⟨q.1, (am_SFd_ok base s2 v2).2 U g mk a q.2⟩, fun U hU hW => ⟨rfl, (am_SFd_ok base s2 v2).1 s U hv hW (fun q q1 q2 => by rw [hU])⟩⟩ rfl rfl hl.1 rfl (lv_room (Nat.le_of_ble_eq_true rfl)) dJ0_charAt_5068e_12 ⟨Nat.le_refl _, Nat.le_refl _⟩) (fun r hr1 => ?_)
  subst hr1
  exact W.zret (v := am_SC i.toNatClampNeg) hx hb hr (am_SCn hlt) (fun t ht hW => ⟨_, rfl, rfl, ht⟩) (fun q h => by cases h) dJ0_charAt_5068e_15
set_option maxRecDepth 20000 in
set_option maxHeartbeats 1000000 in
theorem am_str_ok (l : Launch) (base LL : Nat) (xs : Nat → Int32) (ad : Nat → Nat) (dC : Nat → ClassId) (dI : Nat → Nat → Nat) (dA : Nat → ClassId) (v2 : Nat) : am_StrP l base LL xs ad dC dI dA (am_SFd base (ad 2) v2) := by
  intro p e R s m args below meth c Q nL n0 s0 cc res G hx hb hml hown hts hF hfr hlo hRc hRs lo st h k pc hk hm hor
  obtain ⟨h1, h2, h3, h4⟩ := id hF.2.2.2
  rcases hor with ⟨hd, hs⟩ | ⟨hd, hs⟩ | ⟨hd, hs⟩
  · intro H locs ls cells slots hl hR hS e1 e2
    exact va_ldcS hx hb hown h1 hd (hk _ _ _ _ hs H locs ls cells slots hl hR hS e1 e2)
  · obtain ⟨o, st, rfl, hs1⟩ := am_1R_inv hs
    obtain ⟨h8, hs2⟩ := am_lt8_inv hs1
    unfold am_al at hs2
    obtain ⟨hko, hs3⟩ := am_if_inv hs2
    obtain ⟨m1, m2⟩ := hm _ _ _ _ hs3
    intro H locs ls cells slots hl hR hS e1 e2
    have ho : o = 2 := by
      rcases hR.1.sc hko (by omega) (by omega) with q | q
      · omega
      · exact q.1
    subst ho
    rw [hR.1.2.2.2.1] at hs3
    have hr0 : ∃ cell : Cell, H[ad 2]? = some cell ∧ cell.vm.isStatics = false ∧ s.vm.findClass "java/lang/String" = some cell.cls := vk_recv h2 (i := 0) (by decide) hS
    refine vp_callSi (W.runV (As := []) (rest := st.map (am_rv ad)) ⟨hx, hb, hml, hown, hts⟩ (js_length l base (ad 2) v2) ⟨⟨rfl, rfl, (show 1 + 1 ≤ R.frames by omega), (show 8 + (1 + 11) + 64 * 1 ≤ R.locals by omega), pay_in hts (am_jw (am_gd (i := 372) (by decide +kernel) (by decide +kernel))), List.mem_cons_self, hts _ (am_gd (i := 372) (by decide +kernel) (by decide +kernel)), hts _ (am_gd (i := 168) (by decide +kernel) (by decide +kernel)), ⟨by decide +kernel, by decide +kernel⟩, (fun sig h => by have q : (parseMethodDescriptor yJ0_length_8abf5.desc).map (fun d => d.parameters.length) = some 0 := (by decide +kernel); rw [h] at q; exact (Option.some.inj q).symm), hts _ (am_gd (i := 369) (by decide +kernel) (by decide +kernel))⟩, hts _ (am_gd (i := 370) (by decide +kernel) (by decide +kernel)), hts _ (am_gd (i := 371) (by decide +kernel) (by decide +kernel))⟩ ⟨fun a U g mk q => ⟨q.1, (am_SFd_ok base (ad 2) v2).2 U g mk a q.2⟩, hr0, fun U hU hW => ⟨rfl, (am_SFd_ok base (ad 2) v2).1 s U hF.2.2.2 hW (fun q q1 q2 => by rw [hU]; exact hS.2.1 q q1 q2)⟩⟩ rfl rfl hl.1 rfl (lv_room (by rw [am_cats]; exact h8)) hd ⟨by omega, by omega⟩) (fun r hr1 => ?_)
    subst hr1
    exact hk _ _ _ _ hs3 H locs ls cells slots hl hR hS e1 e2
  · obtain ⟨i, st, rfl, hs1⟩ := am_1I_inv hs
    obtain ⟨o, st, rfl, hs2⟩ := am_1R_inv hs1
    obtain ⟨h8, hs3⟩ := am_lt8_inv hs2
    unfold am_lI at hs3
    obtain ⟨hko, hs4⟩ := am_if_inv hs3
    obtain ⟨hin, hs5⟩ := am_if_inv hs4
    obtain ⟨m1, m2⟩ := hm _ _ _ _ hs5
    intro H locs ls cells slots hl hR hS e1 e2
    have ho : o = 2 := by
      rcases hR.1.sc hko (by omega) (by omega) with q | q
      · omega
      · exact q.1
    subst ho
    rw [hR.1.2.2.2.1] at hin
    rw [hR.1.2.2.2.2.2.2.1] at hs5
    have hr0 : ∃ cell : Cell, H[ad 2]? = some cell ∧ cell.vm.isStatics = false ∧ s.vm.findClass "java/lang/String" = some cell.cls := vk_recv h2 (i := 0) (by decide) hS
    refine vp_callSi (W.runV (As := [.int i]) (rest := st.map (am_rv ad)) ⟨hx, hb, hml, hown, hts⟩ (js_charAt l base (ad 2) v2 i hin) ⟨⟨rfl, rfl, (show 3 + 1 ≤ R.frames by omega), (show 8 + (2 + 11) + 64 * 3 ≤ R.locals by omega), pay_in hts (am_jw (am_gd (i := 382) (by decide +kernel) (by decide +kernel))), List.mem_cons_self, hts _ (am_gd (i := 382) (by decide +kernel) (by decide +kernel)), hts _ (am_gd (i := 168) (by decide +kernel) (by decide +kernel)), ⟨by decide +kernel, by decide +kernel⟩, (fun sig h => by have q : (parseMethodDescriptor yJ0_charAt_5068e.desc).map (fun d => d.parameters.length) = some 1 := (by decide +kernel); rw [h] at q; exact (Option.some.inj q).symm), hts _ (am_gd (i := 379) (by decide +kernel) (by decide +kernel))⟩, hts _ (am_gd (i := 380) (by decide +kernel) (by decide +kernel)), hts _ (am_gd (i := 381) (by decide +kernel) (by decide +kernel))⟩ ⟨fun a U g mk q => ⟨q.1, (am_SFd_ok base (ad 2) v2).2 U g mk a q.2⟩, hr0, fun U hU hW => ⟨rfl, (am_SFd_ok base (ad 2) v2).1 s U hF.2.2.2 hW (fun q q1 q2 => by rw [hU]; exact hS.2.1 q q1 q2)⟩⟩ rfl rfl hl.1 rfl (lv_room (by rw [am_cats]; exact h8)) hd ⟨by omega, by omega⟩) (fun r hr1 => ?_)
    subst hr1
    exact hk _ _ _ _ hs5 H locs ls cells slots hl hR hS e1 e2
