theorem lw_c0 : ∀ x ∈ eL_law_c0, decode code x.1 = .ok (x.2.1, x.2.2.1) ∧ am_ck 10 am_K10 false 3 4 x = true := am_ents (by decide +kernel)
theorem lw_c1 : ∀ x ∈ eL_law_c1, decode code x.1 = .ok (x.2.1, x.2.2.1) ∧ am_ck 10 am_K10 false 3 4 x = true := am_ents (by decide +kernel)
theorem lw_c2 : ∀ x ∈ eL_law_c2, decode code x.1 = .ok (x.2.1, x.2.2.1) ∧ am_ck 10 am_K10 false 3 4 x = true := am_ents (by decide +kernel)
theorem lw_c3 : ∀ x ∈ eL_law_c3, decode code x.1 = .ok (x.2.1, x.2.2.1) ∧ am_ck 10 am_K10 false 3 4 x = true := am_ents (by decide +kernel)
theorem lw_c4 : ∀ x ∈ eL_law_c4, decode code x.1 = .ok (x.2.1, x.2.2.1) ∧ am_ck 10 am_K10 false 3 4 x = true := am_ents (by decide +kernel)
theorem lw_c5 : ∀ x ∈ eL_law_c5, decode code x.1 = .ok (x.2.1, x.2.2.1) ∧ am_ck 10 am_K10 false 3 4 x = true := am_ents (by decide +kernel)
theorem lw_c6 : ∀ x ∈ eL_law_c6, decode code x.1 = .ok (x.2.1, x.2.2.1) ∧ am_ck 10 am_K10 false 3 4 x = true := am_ents (by decide +kernel)
theorem lw_c7 : ∀ x ∈ eL_law_c7, decode code x.1 = .ok (x.2.1, x.2.2.1) ∧ am_ck 10 am_K10 false 3 4 x = true := am_ents (by decide +kernel)
theorem lw_c8 : ∀ x ∈ eL_law_c8, decode code x.1 = .ok (x.2.1, x.2.2.1) ∧ am_ck 10 am_K10 false 3 4 x = true := am_ents (by decide +kernel)
theorem lw_c9 : ∀ x ∈ eL_law_c9, decode code x.1 = .ok (x.2.1, x.2.2.1) ∧ am_ck 10 am_K10 false 3 4 x = true := am_ents (by decide +kernel)
theorem lw_code : ∀ x ∈ eL_law, decode code x.1 = .ok (x.2.1, x.2.2.1) ∧ am_ck 10 am_K10 false 3 4 x = true := by
  unfold eL_law
  exact List.forall_mem_append.mpr ⟨lw_c0, List.forall_mem_append.mpr ⟨lw_c1, List.forall_mem_append.mpr ⟨lw_c2, List.forall_mem_append.mpr ⟨lw_c3, List.forall_mem_append.mpr ⟨lw_c4, List.forall_mem_append.mpr ⟨lw_c5, List.forall_mem_append.mpr ⟨lw_c6, List.forall_mem_append.mpr ⟨lw_c7, List.forall_mem_append.mpr ⟨lw_c8, lw_c9⟩⟩⟩⟩⟩⟩⟩⟩⟩
