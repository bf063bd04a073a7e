/-! printed by wip/whole/valid.py: every entry is what the decoder says, and keeps to the check -/
theorem am_ents {o rt nL : Nat} {K : am_LK} {init : Bool} {cc : ByteArray} {code : List am_E} (h : code.all (fun x => decide (decode cc x.1 = .ok (x.2.1, x.2.2.1)) && am_ck o K init rt nL x) = true) : ∀ x ∈ code, decode cc x.1 = .ok (x.2.1, x.2.2.1) ∧ am_ck o K init rt nL x = true := by
  intro x hx
  have := List.all_eq_true.mp h x hx
  rw [Bool.and_eq_true] at this
  exact ⟨of_decide_eq_true this.1, this.2⟩
theorem vX0_init : am_VM am_prog mX0_init := ⟨0, 0, 0, am_K0, true, rfl, by decide, am_LKP0, Or.inl ⟨rfl, rfl⟩, mkX0_init, (fun _ => rfl), am_ents (by decide +kernel)⟩
theorem vX0_weigh : am_VM am_prog mX0_weigh := ⟨0, 0, 1, am_K0, false, rfl, by decide, am_LKP0, Or.inl ⟨rfl, rfl⟩, mkX0_weigh, (fun h => by cases h), am_ents (by decide +kernel)⟩
theorem vX0_findBest : am_VM am_prog mX0_findBest := ⟨0, 1, 2, am_K0, false, rfl, by decide, am_LKP0, Or.inr (Or.inl ⟨rfl, rfl⟩), mkX0_findBest, (fun h => by cases h), am_ents (by decide +kernel)⟩
theorem vX0_mostBySet : am_VM am_prog mX0_mostBySet := ⟨0, 1, 3, am_K0, false, rfl, by decide, am_LKP0, Or.inr (Or.inl ⟨rfl, rfl⟩), mkX0_mostBySet, (fun h => by cases h), am_ents (by decide +kernel)⟩
theorem vX0_bySet : am_VM am_prog mX0_bySet := ⟨0, 1, 3, am_K0, false, rfl, by decide, am_LKP0, Or.inr (Or.inl ⟨rfl, rfl⟩), mkX0_bySet, (fun h => by cases h), am_ents (by decide +kernel)⟩
theorem vX0_findBestSet : am_VM am_prog mX0_findBestSet := ⟨0, 1, 3, am_K0, false, rfl, by decide, am_LKP0, Or.inr (Or.inl ⟨rfl, rfl⟩), mkX0_findBestSet, (fun h => by cases h), am_ents (by decide +kernel)⟩
theorem vX0_firstBest : am_VM am_prog mX0_firstBest := ⟨0, 1, 3, am_K0, false, rfl, by decide, am_LKP0, Or.inr (Or.inl ⟨rfl, rfl⟩), mkX0_firstBest, (fun h => by cases h), am_ents (by decide +kernel)⟩
theorem vX0_makeTrades : am_VM am_prog mX0_makeTrades := ⟨0, 0, 1, am_K0, false, rfl, by decide, am_LKP0, Or.inl ⟨rfl, rfl⟩, mkX0_makeTrades, (fun h => by cases h), am_ents (by decide +kernel)⟩
theorem vX0_firstSetOf : am_VM am_prog mX0_firstSetOf := ⟨0, 1, 2, am_K0, false, rfl, by decide, am_LKP0, Or.inr (Or.inl ⟨rfl, rfl⟩), mkX0_firstSetOf, (fun h => by cases h), am_ents (by decide +kernel)⟩
theorem vX0_pointsTo : am_VM am_prog mX0_pointsTo := ⟨0, 1, 3, am_K0, false, rfl, by decide, am_LKP0, Or.inr (Or.inl ⟨rfl, rfl⟩), mkX0_pointsTo, (fun h => by cases h), am_ents (by decide +kernel)⟩
theorem vX0_isBetter : am_VM am_prog mX0_isBetter := ⟨0, 3, 3, am_K0, false, rfl, by decide, am_LKP0, Or.inr (Or.inr (Or.inr ⟨rfl, rfl⟩)), mkX0_isBetter, (fun h => by cases h), am_ents (by decide +kernel)⟩
theorem vX0_leaveInRings : am_VM am_prog mX0_leaveInRings := ⟨0, 1, 2, am_K0, false, rfl, by decide, am_LKP0, Or.inr (Or.inl ⟨rfl, rfl⟩), mkX0_leaveInRings, (fun h => by cases h), am_ents (by decide +kernel)⟩
theorem vX0_isInRing : am_VM am_prog mX0_isInRing := ⟨0, 3, 1, am_K0, false, rfl, by decide, am_LKP0, Or.inr (Or.inr (Or.inr ⟨rfl, rfl⟩)), mkX0_isInRing, (fun h => by cases h), am_ents (by decide +kernel)⟩
theorem vX0_mostWorth : am_VM am_prog mX0_mostWorth := ⟨0, 1, 3, am_K0, false, rfl, by decide, am_LKP0, Or.inr (Or.inl ⟨rfl, rfl⟩), mkX0_mostWorth, (fun h => by cases h), am_ents (by decide +kernel)⟩
theorem vX0_findPick : am_VM am_prog mX0_findPick := ⟨0, 1, 3, am_K0, false, rfl, by decide, am_LKP0, Or.inr (Or.inl ⟨rfl, rfl⟩), mkX0_findPick, (fun h => by cases h), am_ents (by decide +kernel)⟩
theorem vX0_firstMost : am_VM am_prog mX0_firstMost := ⟨0, 1, 3, am_K0, false, rfl, by decide, am_LKP0, Or.inr (Or.inl ⟨rfl, rfl⟩), mkX0_firstMost, (fun h => by cases h), am_ents (by decide +kernel)⟩
theorem vX0_playGame : am_VM am_prog mX0_playGame := ⟨0, 1, 4, am_K0, false, rfl, by decide, am_LKP0, Or.inr (Or.inl ⟨rfl, rfl⟩), mkX0_playGame, (fun h => by cases h), am_ents (by decide +kernel)⟩
theorem vX0_firstsBest : am_VM am_prog mX0_firstsBest := ⟨0, 1, 4, am_K0, false, rfl, by decide, am_LKP0, Or.inr (Or.inl ⟨rfl, rfl⟩), mkX0_firstsBest, (fun h => by cases h), am_ents (by decide +kernel)⟩
theorem vX0_secondsBest : am_VM am_prog mX0_secondsBest := ⟨0, 1, 4, am_K0, false, rfl, by decide, am_LKP0, Or.inr (Or.inl ⟨rfl, rfl⟩), mkX0_secondsBest, (fun h => by cases h), am_ents (by decide +kernel)⟩
theorem vX0_findMove : am_VM am_prog mX0_findMove := ⟨0, 1, 4, am_K0, false, rfl, by decide, am_LKP0, Or.inr (Or.inl ⟨rfl, rfl⟩), mkX0_findMove, (fun h => by cases h), am_ents (by decide +kernel)⟩
theorem vX1_init : am_VM am_prog mX1_init := ⟨1, 0, 0, am_K1, true, rfl, by decide, am_LKP1, Or.inl ⟨rfl, rfl⟩, mkX1_init, (fun _ => rfl), am_ents (by decide +kernel)⟩
theorem vX1_clear : am_VM am_prog mX1_clear := ⟨1, 0, 0, am_K1, false, rfl, by decide, am_LKP1, Or.inl ⟨rfl, rfl⟩, mkX1_clear, (fun h => by cases h), am_ents (by decide +kernel)⟩
theorem vX1_take : am_VM am_prog mX1_take := ⟨1, 0, 1, am_K1, false, rfl, by decide, am_LKP1, Or.inl ⟨rfl, rfl⟩, mkX1_take, (fun h => by cases h), am_ents (by decide +kernel)⟩
theorem vX2_init : am_VM am_prog mX2_init := ⟨2, 0, 1, am_K2, true, rfl, by decide, am_LKP2, Or.inl ⟨rfl, rfl⟩, mkX2_init, (fun _ => rfl), am_ents (by decide +kernel)⟩
theorem vX2_readsFor : am_VM am_prog mX2_readsFor := ⟨2, 3, 1, am_K2, false, rfl, by decide, am_LKP2, Or.inr (Or.inr (Or.inr ⟨rfl, rfl⟩)), mkX2_readsFor, (fun h => by cases h), am_ents (by decide +kernel)⟩
theorem vX2_readsNext : am_VM am_prog mX2_readsNext := ⟨2, 3, 0, am_K2, false, rfl, by decide, am_LKP2, Or.inr (Or.inr (Or.inr ⟨rfl, rfl⟩)), mkX2_readsNext, (fun h => by cases h), am_ents (by decide +kernel)⟩
theorem vX2_isStep : am_VM am_prog mX2_isStep := ⟨2, 3, 1, am_K2, false, rfl, by decide, am_LKP2, Or.inr (Or.inr (Or.inr ⟨rfl, rfl⟩)), mkX2_isStep, (fun h => by cases h), am_ents (by decide +kernel)⟩
theorem vX2_adds : am_VM am_prog mX2_adds := ⟨2, 1, 1, am_K2, false, rfl, by decide, am_LKP2, Or.inr (Or.inl ⟨rfl, rfl⟩), mkX2_adds, (fun h => by cases h), am_ents (by decide +kernel)⟩
theorem vX2_readsEnd : am_VM am_prog mX2_readsEnd := ⟨2, 3, 0, am_K2, false, rfl, by decide, am_LKP2, Or.inr (Or.inr (Or.inr ⟨rfl, rfl⟩)), mkX2_readsEnd, (fun h => by cases h), am_ents (by decide +kernel)⟩
theorem vX2_readsTestWord : am_VM am_prog mX2_readsTestWord := ⟨2, 3, 1, am_K2, false, rfl, by decide, am_LKP2, Or.inr (Or.inr (Or.inr ⟨rfl, rfl⟩)), mkX2_readsTestWord, (fun h => by cases h), am_ents (by decide +kernel)⟩
theorem vX2_readsRest : am_VM am_prog mX2_readsRest := ⟨2, 3, 1, am_K2, false, rfl, by decide, am_LKP2, Or.inr (Or.inr (Or.inr ⟨rfl, rfl⟩)), mkX2_readsRest, (fun h => by cases h), am_ents (by decide +kernel)⟩
theorem vX2_readsCompares : am_VM am_prog mX2_readsCompares := ⟨2, 3, 1, am_K2, false, rfl, by decide, am_LKP2, Or.inr (Or.inr (Or.inr ⟨rfl, rfl⟩)), mkX2_readsCompares, (fun h => by cases h), am_ents (by decide +kernel)⟩
theorem vX2_readsFirst : am_VM am_prog mX2_readsFirst := ⟨2, 3, 2, am_K2, false, rfl, by decide, am_LKP2, Or.inr (Or.inr (Or.inr ⟨rfl, rfl⟩)), mkX2_readsFirst, (fun h => by cases h), am_ents (by decide +kernel)⟩
theorem vX2_readsSecond : am_VM am_prog mX2_readsSecond := ⟨2, 3, 2, am_K2, false, rfl, by decide, am_LKP2, Or.inr (Or.inr (Or.inr ⟨rfl, rfl⟩)), mkX2_readsSecond, (fun h => by cases h), am_ents (by decide +kernel)⟩
theorem vX3_init : am_VM am_prog mX3_init := ⟨3, 0, 0, am_K3, true, rfl, by decide, am_LKP3, Or.inl ⟨rfl, rfl⟩, mkX3_init, (fun _ => rfl), am_ents (by decide +kernel)⟩
theorem vX3_play : am_VM am_prog mX3_play := ⟨3, 0, 2, am_K3, false, rfl, by decide, am_LKP3, Or.inl ⟨rfl, rfl⟩, mkX3_play, (fun h => by cases h), am_ents (by decide +kernel)⟩
theorem vX3_placeBehindEnd : am_VM am_prog mX3_placeBehindEnd := ⟨3, 1, 2, am_K3, false, rfl, by decide, am_LKP3, Or.inr (Or.inl ⟨rfl, rfl⟩), mkX3_placeBehindEnd, (fun h => by cases h), am_ents (by decide +kernel)⟩
theorem vX3_placeBehindOpener : am_VM am_prog mX3_placeBehindOpener := ⟨3, 1, 2, am_K3, false, rfl, by decide, am_LKP3, Or.inr (Or.inl ⟨rfl, rfl⟩), mkX3_placeBehindOpener, (fun h => by cases h), am_ents (by decide +kernel)⟩
theorem vX3_holds : am_VM am_prog mX3_holds := ⟨3, 3, 2, am_K3, false, rfl, by decide, am_LKP3, Or.inr (Or.inr (Or.inr ⟨rfl, rfl⟩)), mkX3_holds, (fun h => by cases h), am_ents (by decide +kernel)⟩
theorem vX3_does : am_VM am_prog mX3_does := ⟨3, 3, 2, am_K3, false, rfl, by decide, am_LKP3, Or.inr (Or.inr (Or.inr ⟨rfl, rfl⟩)), mkX3_does, (fun h => by cases h), am_ents (by decide +kernel)⟩
theorem vX3_doesHours : am_VM am_prog mX3_doesHours := ⟨3, 3, 2, am_K3, false, rfl, by decide, am_LKP3, Or.inr (Or.inr (Or.inr ⟨rfl, rfl⟩)), mkX3_doesHours, (fun h => by cases h), am_ents (by decide +kernel)⟩
theorem vX3_doesYears : am_VM am_prog mX3_doesYears := ⟨3, 3, 2, am_K3, false, rfl, by decide, am_LKP3, Or.inr (Or.inr (Or.inr ⟨rfl, rfl⟩)), mkX3_doesYears, (fun h => by cases h), am_ents (by decide +kernel)⟩
theorem vX3_doesAny : am_VM am_prog mX3_doesAny := ⟨3, 3, 1, am_K3, false, rfl, by decide, am_LKP3, Or.inr (Or.inr (Or.inr ⟨rfl, rfl⟩)), mkX3_doesAny, (fun h => by cases h), am_ents (by decide +kernel)⟩
theorem vX3_draw : am_VM am_prog mX3_draw := ⟨3, 1, 1, am_K3, false, rfl, by decide, am_LKP3, Or.inr (Or.inl ⟨rfl, rfl⟩), mkX3_draw, (fun h => by cases h), am_ents (by decide +kernel)⟩
theorem vX4_init : am_VM am_prog mX4_init := ⟨4, 0, 1, am_K4, true, rfl, by decide, am_LKP4, Or.inl ⟨rfl, rfl⟩, mkX4_init, (fun _ => rfl), am_ents (by decide +kernel)⟩
theorem vX4_open : am_VM am_prog mX4_open := ⟨4, 0, 1, am_K4, false, rfl, by decide, am_LKP4, Or.inl ⟨rfl, rfl⟩, mkX4_open, (fun h => by cases h), am_ents (by decide +kernel)⟩
theorem vX4_advance : am_VM am_prog mX4_advance := ⟨4, 0, 0, am_K4, false, rfl, by decide, am_LKP4, Or.inl ⟨rfl, rfl⟩, mkX4_advance, (fun h => by cases h), am_ents (by decide +kernel)⟩
theorem vX4_advanceWord : am_VM am_prog mX4_advanceWord := ⟨4, 0, 0, am_K4, false, rfl, by decide, am_LKP4, Or.inl ⟨rfl, rfl⟩, mkX4_advanceWord, (fun h => by cases h), am_ents (by decide +kernel)⟩
theorem vX4_advanceNumber : am_VM am_prog mX4_advanceNumber := ⟨4, 0, 0, am_K4, false, rfl, by decide, am_LKP4, Or.inl ⟨rfl, rfl⟩, mkX4_advanceNumber, (fun h => by cases h), am_ents (by decide +kernel)⟩
theorem vX4_fail : am_VM am_prog mX4_fail := ⟨4, 3, 1, am_K4, false, rfl, by decide, am_LKP4, Or.inr (Or.inr (Or.inr ⟨rfl, rfl⟩)), mkX4_fail, (fun h => by cases h), am_ents (by decide +kernel)⟩
theorem vX4_refuses : am_VM am_prog mX4_refuses := ⟨4, 3, 0, am_K4, false, rfl, by decide, am_LKP4, Or.inr (Or.inr (Or.inr ⟨rfl, rfl⟩)), mkX4_refuses, (fun h => by cases h), am_ents (by decide +kernel)⟩
theorem vX4_takes : am_VM am_prog mX4_takes := ⟨4, 3, 1, am_K4, false, rfl, by decide, am_LKP4, Or.inr (Or.inr (Or.inr ⟨rfl, rfl⟩)), mkX4_takes, (fun h => by cases h), am_ents (by decide +kernel)⟩
theorem vX4_takesNumber : am_VM am_prog mX4_takesNumber := ⟨4, 3, 2, am_K4, false, rfl, by decide, am_LKP4, Or.inr (Or.inr (Or.inr ⟨rfl, rfl⟩)), mkX4_takesNumber, (fun h => by cases h), am_ents (by decide +kernel)⟩
theorem vX4_isNameOf : am_VM am_prog mX4_isNameOf := ⟨4, 3, 2, am_K4, false, rfl, by decide, am_LKP4, Or.inr (Or.inr (Or.inr ⟨rfl, rfl⟩)), mkX4_isNameOf, (fun h => by cases h), am_ents (by decide +kernel)⟩
theorem vX4_takesName : am_VM am_prog mX4_takesName := ⟨4, 3, 2, am_K4, false, rfl, by decide, am_LKP4, Or.inr (Or.inr (Or.inr ⟨rfl, rfl⟩)), mkX4_takesName, (fun h => by cases h), am_ents (by decide +kernel)⟩
theorem vX4_takesNewName : am_VM am_prog mX4_takesNewName := ⟨4, 3, 2, am_K4, false, rfl, by decide, am_LKP4, Or.inr (Or.inr (Or.inr ⟨rfl, rfl⟩)), mkX4_takesNewName, (fun h => by cases h), am_ents (by decide +kernel)⟩
theorem vX5_init : am_VM am_prog mX5_init := ⟨5, 0, 0, am_K5, true, rfl, by decide, am_LKP5, Or.inl ⟨rfl, rfl⟩, mkX5_init, (fun _ => rfl), am_ents (by decide +kernel)⟩
theorem vX5_clear : am_VM am_prog mX5_clear := ⟨5, 0, 0, am_K5, false, rfl, by decide, am_LKP5, Or.inl ⟨rfl, rfl⟩, mkX5_clear, (fun h => by cases h), am_ents (by decide +kernel)⟩
theorem vX5_take : am_VM am_prog mX5_take := ⟨5, 0, 1, am_K5, false, rfl, by decide, am_LKP5, Or.inl ⟨rfl, rfl⟩, mkX5_take, (fun h => by cases h), am_ents (by decide +kernel)⟩
theorem vX5_find : am_VM am_prog mX5_find := ⟨5, 1, 2, am_K5, false, rfl, by decide, am_LKP5, Or.inr (Or.inl ⟨rfl, rfl⟩), mkX5_find, (fun h => by cases h), am_ents (by decide +kernel)⟩
theorem vX5_isTaken : am_VM am_prog mX5_isTaken := ⟨5, 3, 1, am_K5, false, rfl, by decide, am_LKP5, Or.inr (Or.inr (Or.inr ⟨rfl, rfl⟩)), mkX5_isTaken, (fun h => by cases h), am_ents (by decide +kernel)⟩
theorem vX5_isFull : am_VM am_prog mX5_isFull := ⟨5, 3, 1, am_K5, false, rfl, by decide, am_LKP5, Or.inr (Or.inr (Or.inr ⟨rfl, rfl⟩)), mkX5_isFull, (fun h => by cases h), am_ents (by decide +kernel)⟩
theorem vX5_add : am_VM am_prog mX5_add := ⟨5, 1, 2, am_K5, false, rfl, by decide, am_LKP5, Or.inr (Or.inl ⟨rfl, rfl⟩), mkX5_add, (fun h => by cases h), am_ents (by decide +kernel)⟩
theorem vX5_addToRow : am_VM am_prog mX5_addToRow := ⟨5, 0, 2, am_K5, false, rfl, by decide, am_LKP5, Or.inl ⟨rfl, rfl⟩, mkX5_addToRow, (fun h => by cases h), am_ents (by decide +kernel)⟩
theorem vX5_setsOf : am_VM am_prog mX5_setsOf := ⟨5, 1, 1, am_K5, false, rfl, by decide, am_LKP5, Or.inr (Or.inl ⟨rfl, rfl⟩), mkX5_setsOf, (fun h => by cases h), am_ents (by decide +kernel)⟩
theorem vX5_voicesIn : am_VM am_prog mX5_voicesIn := ⟨5, 1, 1, am_K5, false, rfl, by decide, am_LKP5, Or.inr (Or.inl ⟨rfl, rfl⟩), mkX5_voicesIn, (fun h => by cases h), am_ents (by decide +kernel)⟩
theorem vX5_voicesOf : am_VM am_prog mX5_voicesOf := ⟨5, 1, 1, am_K5, false, rfl, by decide, am_LKP5, Or.inr (Or.inl ⟨rfl, rfl⟩), mkX5_voicesOf, (fun h => by cases h), am_ents (by decide +kernel)⟩
theorem vX5_hearersOf : am_VM am_prog mX5_hearersOf := ⟨5, 1, 1, am_K5, false, rfl, by decide, am_LKP5, Or.inr (Or.inl ⟨rfl, rfl⟩), mkX5_hearersOf, (fun h => by cases h), am_ents (by decide +kernel)⟩
theorem vX5_coinsOfAll : am_VM am_prog mX5_coinsOfAll := ⟨5, 1, 0, am_K5, false, rfl, by decide, am_LKP5, Or.inr (Or.inl ⟨rfl, rfl⟩), mkX5_coinsOfAll, (fun h => by cases h), am_ents (by decide +kernel)⟩
theorem vX5_gladOfAll : am_VM am_prog mX5_gladOfAll := ⟨5, 1, 0, am_K5, false, rfl, by decide, am_LKP5, Or.inr (Or.inl ⟨rfl, rfl⟩), mkX5_gladOfAll, (fun h => by cases h), am_ents (by decide +kernel)⟩
theorem vX5_isLiving : am_VM am_prog mX5_isLiving := ⟨5, 3, 1, am_K5, false, rfl, by decide, am_LKP5, Or.inr (Or.inr (Or.inr ⟨rfl, rfl⟩)), mkX5_isLiving, (fun h => by cases h), am_ents (by decide +kernel)⟩
theorem vX5_hasCold : am_VM am_prog mX5_hasCold := ⟨5, 3, 1, am_K5, false, rfl, by decide, am_LKP5, Or.inr (Or.inr (Or.inr ⟨rfl, rfl⟩)), mkX5_hasCold, (fun h => by cases h), am_ents (by decide +kernel)⟩
theorem vX5_placedAt : am_VM am_prog mX5_placedAt := ⟨5, 1, 2, am_K5, false, rfl, by decide, am_LKP5, Or.inr (Or.inl ⟨rfl, rfl⟩), mkX5_placedAt, (fun h => by cases h), am_ents (by decide +kernel)⟩
theorem vX5_saysAt : am_VM am_prog mX5_saysAt := ⟨5, 1, 2, am_K5, false, rfl, by decide, am_LKP5, Or.inr (Or.inl ⟨rfl, rfl⟩), mkX5_saysAt, (fun h => by cases h), am_ents (by decide +kernel)⟩
theorem vX5_heardAt : am_VM am_prog mX5_heardAt := ⟨5, 1, 2, am_K5, false, rfl, by decide, am_LKP5, Or.inr (Or.inl ⟨rfl, rfl⟩), mkX5_heardAt, (fun h => by cases h), am_ents (by decide +kernel)⟩
theorem vX5_joyBy : am_VM am_prog mX5_joyBy := ⟨5, 1, 2, am_K5, false, rfl, by decide, am_LKP5, Or.inr (Or.inl ⟨rfl, rfl⟩), mkX5_joyBy, (fun h => by cases h), am_ents (by decide +kernel)⟩
theorem vX5_joyAhead : am_VM am_prog mX5_joyAhead := ⟨5, 1, 3, am_K5, false, rfl, by decide, am_LKP5, Or.inr (Or.inl ⟨rfl, rfl⟩), mkX5_joyAhead, (fun h => by cases h), am_ents (by decide +kernel)⟩
theorem vX5_worthTo : am_VM am_prog mX5_worthTo := ⟨5, 1, 2, am_K5, false, rfl, by decide, am_LKP5, Or.inr (Or.inl ⟨rfl, rfl⟩), mkX5_worthTo, (fun h => by cases h), am_ents (by decide +kernel)⟩
theorem vX5_hasHours : am_VM am_prog mX5_hasHours := ⟨5, 3, 1, am_K5, false, rfl, by decide, am_LKP5, Or.inr (Or.inr (Or.inr ⟨rfl, rfl⟩)), mkX5_hasHours, (fun h => by cases h), am_ents (by decide +kernel)⟩
theorem vX5_hasYears : am_VM am_prog mX5_hasYears := ⟨5, 3, 1, am_K5, false, rfl, by decide, am_LKP5, Or.inr (Or.inr (Or.inr ⟨rfl, rfl⟩)), mkX5_hasYears, (fun h => by cases h), am_ents (by decide +kernel)⟩
theorem vX5_passHours : am_VM am_prog mX5_passHours := ⟨5, 1, 1, am_K5, false, rfl, by decide, am_LKP5, Or.inr (Or.inl ⟨rfl, rfl⟩), mkX5_passHours, (fun h => by cases h), am_ents (by decide +kernel)⟩
theorem vX5_passYears : am_VM am_prog mX5_passYears := ⟨5, 1, 1, am_K5, false, rfl, by decide, am_LKP5, Or.inr (Or.inl ⟨rfl, rfl⟩), mkX5_passYears, (fun h => by cases h), am_ents (by decide +kernel)⟩
theorem vX5_makesSale : am_VM am_prog mX5_makesSale := ⟨5, 3, 3, am_K5, false, rfl, by decide, am_LKP5, Or.inr (Or.inr (Or.inr ⟨rfl, rfl⟩)), mkX5_makesSale, (fun h => by cases h), am_ents (by decide +kernel)⟩
theorem vX5_makesGift : am_VM am_prog mX5_makesGift := ⟨5, 3, 2, am_K5, false, rfl, by decide, am_LKP5, Or.inr (Or.inr (Or.inr ⟨rfl, rfl⟩)), mkX5_makesGift, (fun h => by cases h), am_ents (by decide +kernel)⟩
theorem vX5_catchesCold : am_VM am_prog mX5_catchesCold := ⟨5, 3, 1, am_K5, false, rfl, by decide, am_LKP5, Or.inr (Or.inr (Or.inr ⟨rfl, rfl⟩)), mkX5_catchesCold, (fun h => by cases h), am_ents (by decide +kernel)⟩
theorem vX5_getsWell : am_VM am_prog mX5_getsWell := ⟨5, 3, 1, am_K5, false, rfl, by decide, am_LKP5, Or.inr (Or.inr (Or.inr ⟨rfl, rfl⟩)), mkX5_getsWell, (fun h => by cases h), am_ents (by decide +kernel)⟩
theorem vX5_voicesThatFit : am_VM am_prog mX5_voicesThatFit := ⟨5, 1, 2, am_K5, false, rfl, by decide, am_LKP5, Or.inr (Or.inl ⟨rfl, rfl⟩), mkX5_voicesThatFit, (fun h => by cases h), am_ents (by decide +kernel)⟩
theorem vX5_hourThatParts : am_VM am_prog mX5_hourThatParts := ⟨5, 1, 1, am_K5, false, rfl, by decide, am_LKP5, Or.inr (Or.inl ⟨rfl, rfl⟩), mkX5_hourThatParts, (fun h => by cases h), am_ents (by decide +kernel)⟩
theorem vX5_mostWithOne : am_VM am_prog mX5_mostWithOne := ⟨5, 1, 2, am_K5, false, rfl, by decide, am_LKP5, Or.inr (Or.inl ⟨rfl, rfl⟩), mkX5_mostWithOne, (fun h => by cases h), am_ents (by decide +kernel)⟩
theorem vX5_leastLike : am_VM am_prog mX5_leastLike := ⟨5, 1, 2, am_K5, false, rfl, by decide, am_LKP5, Or.inr (Or.inl ⟨rfl, rfl⟩), mkX5_leastLike, (fun h => by cases h), am_ents (by decide +kernel)⟩
theorem vX5_likeOfAll : am_VM am_prog mX5_likeOfAll := ⟨5, 1, 2, am_K5, false, rfl, by decide, am_LKP5, Or.inr (Or.inl ⟨rfl, rfl⟩), mkX5_likeOfAll, (fun h => by cases h), am_ents (by decide +kernel)⟩
theorem vX5_subjectOfPeace : am_VM am_prog mX5_subjectOfPeace := ⟨5, 1, 1, am_K5, false, rfl, by decide, am_LKP5, Or.inr (Or.inl ⟨rfl, rfl⟩), mkX5_subjectOfPeace, (fun h => by cases h), am_ents (by decide +kernel)⟩
theorem vX5_fansAmong : am_VM am_prog mX5_fansAmong := ⟨5, 1, 2, am_K5, false, rfl, by decide, am_LKP5, Or.inr (Or.inl ⟨rfl, rfl⟩), mkX5_fansAmong, (fun h => by cases h), am_ents (by decide +kernel)⟩
theorem vX5_popularAmong : am_VM am_prog mX5_popularAmong := ⟨5, 1, 1, am_K5, false, rfl, by decide, am_LKP5, Or.inr (Or.inl ⟨rfl, rfl⟩), mkX5_popularAmong, (fun h => by cases h), am_ents (by decide +kernel)⟩
theorem vX6_init : am_VM am_prog mX6_init := ⟨6, 0, 1, am_K6, true, rfl, by decide, am_LKP6, Or.inl ⟨rfl, rfl⟩, mkX6_init, (fun _ => rfl), am_ents (by decide +kernel)⟩
theorem vX6_readsInto : am_VM am_prog mX6_readsInto := ⟨6, 3, 1, am_K6, false, rfl, by decide, am_LKP6, Or.inr (Or.inr (Or.inr ⟨rfl, rfl⟩)), mkX6_readsInto, (fun h => by cases h), am_ents (by decide +kernel)⟩
theorem vX6_readsPart : am_VM am_prog mX6_readsPart := ⟨6, 3, 0, am_K6, false, rfl, by decide, am_LKP6, Or.inr (Or.inr (Or.inr ⟨rfl, rfl⟩)), mkX6_readsPart, (fun h => by cases h), am_ents (by decide +kernel)⟩
theorem vX6_readsNew : am_VM am_prog mX6_readsNew := ⟨6, 3, 1, am_K6, false, rfl, by decide, am_LKP6, Or.inr (Or.inr (Or.inr ⟨rfl, rfl⟩)), mkX6_readsNew, (fun h => by cases h), am_ents (by decide +kernel)⟩
theorem vX6_readsOdds : am_VM am_prog mX6_readsOdds := ⟨6, 3, 0, am_K6, false, rfl, by decide, am_LKP6, Or.inr (Or.inr (Or.inr ⟨rfl, rfl⟩)), mkX6_readsOdds, (fun h => by cases h), am_ents (by decide +kernel)⟩
theorem vX6_readsVoice : am_VM am_prog mX6_readsVoice := ⟨6, 3, 1, am_K6, false, rfl, by decide, am_LKP6, Or.inr (Or.inr (Or.inr ⟨rfl, rfl⟩)), mkX6_readsVoice, (fun h => by cases h), am_ents (by decide +kernel)⟩
theorem vX6_readsRow : am_VM am_prog mX6_readsRow := ⟨6, 3, 1, am_K6, false, rfl, by decide, am_LKP6, Or.inr (Or.inr (Or.inr ⟨rfl, rfl⟩)), mkX6_readsRow, (fun h => by cases h), am_ents (by decide +kernel)⟩
theorem vX6_readsPerson : am_VM am_prog mX6_readsPerson := ⟨6, 3, 1, am_K6, false, rfl, by decide, am_LKP6, Or.inr (Or.inr (Or.inr ⟨rfl, rfl⟩)), mkX6_readsPerson, (fun h => by cases h), am_ents (by decide +kernel)⟩
theorem vX6_readsLikes : am_VM am_prog mX6_readsLikes := ⟨6, 3, 0, am_K6, false, rfl, by decide, am_LKP6, Or.inr (Or.inr (Or.inr ⟨rfl, rfl⟩)), mkX6_readsLikes, (fun h => by cases h), am_ents (by decide +kernel)⟩
theorem vX6_readsSet : am_VM am_prog mX6_readsSet := ⟨6, 3, 1, am_K6, false, rfl, by decide, am_LKP6, Or.inr (Or.inr (Or.inr ⟨rfl, rfl⟩)), mkX6_readsSet, (fun h => by cases h), am_ents (by decide +kernel)⟩
theorem vX6_readsFlaw : am_VM am_prog mX6_readsFlaw := ⟨6, 3, 1, am_K6, false, rfl, by decide, am_LKP6, Or.inr (Or.inr (Or.inr ⟨rfl, rfl⟩)), mkX6_readsFlaw, (fun h => by cases h), am_ents (by decide +kernel)⟩
theorem vX7_init : am_VM am_prog mX7_init := ⟨7, 0, 0, am_K7, true, rfl, by decide, am_LKP7, Or.inl ⟨rfl, rfl⟩, mkX7_init, (fun _ => rfl), am_ents (by decide +kernel)⟩
theorem vX7_lay : am_VM am_prog mX7_lay := ⟨7, 0, 2, am_K7, false, rfl, by decide, am_LKP7, Or.inl ⟨rfl, rfl⟩, mkX7_lay, (fun h => by cases h), am_ents (by decide +kernel)⟩
theorem vX7_hasRun : am_VM am_prog mX7_hasRun := ⟨7, 3, 2, am_K7, false, rfl, by decide, am_LKP7, Or.inr (Or.inr (Or.inr ⟨rfl, rfl⟩)), mkX7_hasRun, (fun h => by cases h), am_ents (by decide +kernel)⟩
theorem vX7_put : am_VM am_prog mX7_put := ⟨7, 0, 2, am_K7, false, rfl, by decide, am_LKP7, Or.inl ⟨rfl, rfl⟩, mkX7_put, (fun h => by cases h), am_ents (by decide +kernel)⟩
theorem vX8_init : am_VM am_prog mX8_init := ⟨8, 0, 0, am_K8, true, rfl, by decide, am_LKP8, Or.inl ⟨rfl, rfl⟩, mkX8_init, (fun _ => rfl), am_ents (by decide +kernel)⟩
theorem vX8_status : am_VM am_prog mX8_status := ⟨8, 1, 0, am_K8, false, rfl, by decide, am_LKP8, Or.inr (Or.inl ⟨rfl, rfl⟩), mkX8_status, (fun h => by cases h), am_ents (by decide +kernel)⟩
theorem vX8_top : am_VM am_prog mX8_top := ⟨8, 2, 0, am_K8, false, rfl, by decide, am_LKP8, Or.inr (Or.inr (Or.inl ⟨rfl, rfl⟩)), mkX8_top, (fun h => by cases h), am_ents (by decide +kernel)⟩
theorem vX8_bottom : am_VM am_prog mX8_bottom := ⟨8, 2, 0, am_K8, false, rfl, by decide, am_LKP8, Or.inr (Or.inr (Or.inl ⟨rfl, rfl⟩)), mkX8_bottom, (fun h => by cases h), am_ents (by decide +kernel)⟩
theorem vX8_tray : am_VM am_prog mX8_tray := ⟨8, 3, 3, am_K8, false, rfl, by decide, am_LKP8, Or.inr (Or.inr (Or.inr ⟨rfl, rfl⟩)), mkX8_tray, (fun h => by cases h), am_ents (by decide +kernel)⟩
theorem vX8_write : am_VM am_prog mX8_write := ⟨8, 3, 3, am_K8, false, rfl, by decide, am_LKP8, Or.inr (Or.inr (Or.inr ⟨rfl, rfl⟩)), mkX8_write, (fun h => by cases h), am_ents (by decide +kernel)⟩
theorem vX8_read : am_VM am_prog mX8_read := ⟨8, 2, 2, am_K8, false, rfl, by decide, am_LKP8, Or.inr (Or.inr (Or.inl ⟨rfl, rfl⟩)), mkX8_read, (fun h => by cases h), am_ents (by decide +kernel)⟩
theorem vX8_pour : am_VM am_prog mX8_pour := ⟨8, 3, 5, am_K8, false, rfl, by decide, am_LKP8, Or.inr (Or.inr (Or.inr ⟨rfl, rfl⟩)), mkX8_pour, (fun h => by cases h), am_ents (by decide +kernel)⟩
theorem vX8_isTray : am_VM am_prog mX8_isTray := ⟨8, 3, 1, am_K8, false, rfl, by decide, am_LKP8, Or.inr (Or.inr (Or.inr ⟨rfl, rfl⟩)), mkX8_isTray, (fun h => by cases h), am_ents (by decide +kernel)⟩
theorem vX8_placeStatus : am_VM am_prog mX8_placeStatus := ⟨8, 1, 2, am_K8, false, rfl, by decide, am_LKP8, Or.inr (Or.inl ⟨rfl, rfl⟩), mkX8_placeStatus, (fun h => by cases h), am_ents (by decide +kernel)⟩
theorem vX8_runStatus : am_VM am_prog mX8_runStatus := ⟨8, 1, 2, am_K8, false, rfl, by decide, am_LKP8, Or.inr (Or.inl ⟨rfl, rfl⟩), mkX8_runStatus, (fun h => by cases h), am_ents (by decide +kernel)⟩
theorem vX8_feed : am_VM am_prog mX8_feed := ⟨8, 1, 5, am_K8, false, rfl, by decide, am_LKP8, Or.inr (Or.inl ⟨rfl, rfl⟩), mkX8_feed, (fun h => by cases h), am_ents (by decide +kernel)⟩
theorem vX8_feedFour : am_VM am_prog mX8_feedFour := ⟨8, 0, 1, am_K8, false, rfl, by decide, am_LKP8, Or.inl ⟨rfl, rfl⟩, mkX8_feedFour, (fun h => by cases h), am_ents (by decide +kernel)⟩
theorem vX8_town : am_VM am_prog mX8_town := ⟨8, 1, 1, am_K8, false, rfl, by decide, am_LKP8, Or.inr (Or.inl ⟨rfl, rfl⟩), mkX8_town, (fun h => by cases h), am_ents (by decide +kernel)⟩
theorem vX8_dials : am_VM am_prog mX8_dials := ⟨8, 1, 1, am_K8, false, rfl, by decide, am_LKP8, Or.inr (Or.inl ⟨rfl, rfl⟩), mkX8_dials, (fun h => by cases h), am_ents (by decide +kernel)⟩
theorem vX8_fault : am_VM am_prog mX8_fault := ⟨8, 1, 1, am_K8, false, rfl, by decide, am_LKP8, Or.inr (Or.inl ⟨rfl, rfl⟩), mkX8_fault, (fun h => by cases h), am_ents (by decide +kernel)⟩
theorem vX8_many : am_VM am_prog mX8_many := ⟨8, 1, 1, am_K8, false, rfl, by decide, am_LKP8, Or.inr (Or.inl ⟨rfl, rfl⟩), mkX8_many, (fun h => by cases h), am_ents (by decide +kernel)⟩
theorem vX8_voice : am_VM am_prog mX8_voice := ⟨8, 1, 2, am_K8, false, rfl, by decide, am_LKP8, Or.inr (Or.inl ⟨rfl, rfl⟩), mkX8_voice, (fun h => by cases h), am_ents (by decide +kernel)⟩
theorem vX8_row : am_VM am_prog mX8_row := ⟨8, 1, 2, am_K8, false, rfl, by decide, am_LKP8, Or.inr (Or.inl ⟨rfl, rfl⟩), mkX8_row, (fun h => by cases h), am_ents (by decide +kernel)⟩
theorem vX8_person : am_VM am_prog mX8_person := ⟨8, 1, 2, am_K8, false, rfl, by decide, am_LKP8, Or.inr (Or.inl ⟨rfl, rfl⟩), mkX8_person, (fun h => by cases h), am_ents (by decide +kernel)⟩
theorem vX8_like : am_VM am_prog mX8_like := ⟨8, 1, 2, am_K8, false, rfl, by decide, am_LKP8, Or.inr (Or.inl ⟨rfl, rfl⟩), mkX8_like, (fun h => by cases h), am_ents (by decide +kernel)⟩
theorem vX8_set : am_VM am_prog mX8_set := ⟨8, 1, 2, am_K8, false, rfl, by decide, am_LKP8, Or.inr (Or.inl ⟨rfl, rfl⟩), mkX8_set, (fun h => by cases h), am_ents (by decide +kernel)⟩
theorem vX8_hour : am_VM am_prog mX8_hour := ⟨8, 1, 1, am_K8, false, rfl, by decide, am_LKP8, Or.inr (Or.inl ⟨rfl, rfl⟩), mkX8_hour, (fun h => by cases h), am_ents (by decide +kernel)⟩
theorem vX8_year : am_VM am_prog mX8_year := ⟨8, 1, 1, am_K8, false, rfl, by decide, am_LKP8, Or.inr (Or.inl ⟨rfl, rfl⟩), mkX8_year, (fun h => by cases h), am_ents (by decide +kernel)⟩
theorem vX8_sell : am_VM am_prog mX8_sell := ⟨8, 1, 3, am_K8, false, rfl, by decide, am_LKP8, Or.inr (Or.inl ⟨rfl, rfl⟩), mkX8_sell, (fun h => by cases h), am_ents (by decide +kernel)⟩
theorem vX8_give : am_VM am_prog mX8_give := ⟨8, 1, 2, am_K8, false, rfl, by decide, am_LKP8, Or.inr (Or.inl ⟨rfl, rfl⟩), mkX8_give, (fun h => by cases h), am_ents (by decide +kernel)⟩
theorem vX8_dump : am_VM am_prog mX8_dump := ⟨8, 1, 1, am_K8, false, rfl, by decide, am_LKP8, Or.inr (Or.inl ⟨rfl, rfl⟩), mkX8_dump, (fun h => by cases h), am_ents (by decide +kernel)⟩
theorem vX8_cold : am_VM am_prog mX8_cold := ⟨8, 3, 2, am_K8, false, rfl, by decide, am_LKP8, Or.inr (Or.inr (Or.inr ⟨rfl, rfl⟩)), mkX8_cold, (fun h => by cases h), am_ents (by decide +kernel)⟩
theorem vX8_flaw : am_VM am_prog mX8_flaw := ⟨8, 3, 2, am_K8, false, rfl, by decide, am_LKP8, Or.inr (Or.inr (Or.inr ⟨rfl, rfl⟩)), mkX8_flaw, (fun h => by cases h), am_ents (by decide +kernel)⟩
theorem vX8_please : am_VM am_prog mX8_please := ⟨8, 1, 3, am_K8, false, rfl, by decide, am_LKP8, Or.inr (Or.inl ⟨rfl, rfl⟩), mkX8_please, (fun h => by cases h), am_ents (by decide +kernel)⟩
theorem vX8_teach : am_VM am_prog mX8_teach := ⟨8, 1, 2, am_K8, false, rfl, by decide, am_LKP8, Or.inr (Or.inl ⟨rfl, rfl⟩), mkX8_teach, (fun h => by cases h), am_ents (by decide +kernel)⟩
theorem vX8_rule : am_VM am_prog mX8_rule := ⟨8, 3, 1, am_K8, false, rfl, by decide, am_LKP8, Or.inr (Or.inr (Or.inr ⟨rfl, rfl⟩)), mkX8_rule, (fun h => by cases h), am_ents (by decide +kernel)⟩
theorem vX8_saysIn : am_VM am_prog mX8_saysIn := ⟨8, 1, 2, am_K8, false, rfl, by decide, am_LKP8, Or.inr (Or.inl ⟨rfl, rfl⟩), mkX8_saysIn, (fun h => by cases h), am_ents (by decide +kernel)⟩
theorem vX8_hearsIn : am_VM am_prog mX8_hearsIn := ⟨8, 1, 2, am_K8, false, rfl, by decide, am_LKP8, Or.inr (Or.inl ⟨rfl, rfl⟩), mkX8_hearsIn, (fun h => by cases h), am_ents (by decide +kernel)⟩
theorem vX8_gladIn : am_VM am_prog mX8_gladIn := ⟨8, 1, 2, am_K8, false, rfl, by decide, am_LKP8, Or.inr (Or.inl ⟨rfl, rfl⟩), mkX8_gladIn, (fun h => by cases h), am_ents (by decide +kernel)⟩
theorem vX8_gladBy : am_VM am_prog mX8_gladBy := ⟨8, 1, 2, am_K8, false, rfl, by decide, am_LKP8, Or.inr (Or.inl ⟨rfl, rfl⟩), mkX8_gladBy, (fun h => by cases h), am_ents (by decide +kernel)⟩
theorem vX8_lonelyIn : am_VM am_prog mX8_lonelyIn := ⟨8, 1, 1, am_K8, false, rfl, by decide, am_LKP8, Or.inr (Or.inl ⟨rfl, rfl⟩), mkX8_lonelyIn, (fun h => by cases h), am_ents (by decide +kernel)⟩
theorem vX8_diesIn : am_VM am_prog mX8_diesIn := ⟨8, 1, 1, am_K8, false, rfl, by decide, am_LKP8, Or.inr (Or.inl ⟨rfl, rfl⟩), mkX8_diesIn, (fun h => by cases h), am_ents (by decide +kernel)⟩
theorem vX8_crowd : am_VM am_prog mX8_crowd := ⟨8, 1, 1, am_K8, false, rfl, by decide, am_LKP8, Or.inr (Or.inl ⟨rfl, rfl⟩), mkX8_crowd, (fun h => by cases h), am_ents (by decide +kernel)⟩
theorem vX8_worth : am_VM am_prog mX8_worth := ⟨8, 1, 2, am_K8, false, rfl, by decide, am_LKP8, Or.inr (Or.inl ⟨rfl, rfl⟩), mkX8_worth, (fun h => by cases h), am_ents (by decide +kernel)⟩
theorem vX8_best : am_VM am_prog mX8_best := ⟨8, 1, 1, am_K8, false, rfl, by decide, am_LKP8, Or.inr (Or.inl ⟨rfl, rfl⟩), mkX8_best, (fun h => by cases h), am_ents (by decide +kernel)⟩
theorem vX8_bestSet : am_VM am_prog mX8_bestSet := ⟨8, 1, 2, am_K8, false, rfl, by decide, am_LKP8, Or.inr (Or.inl ⟨rfl, rfl⟩), mkX8_bestSet, (fun h => by cases h), am_ents (by decide +kernel)⟩
theorem vX8_trade : am_VM am_prog mX8_trade := ⟨8, 1, 1, am_K8, false, rfl, by decide, am_LKP8, Or.inr (Or.inl ⟨rfl, rfl⟩), mkX8_trade, (fun h => by cases h), am_ents (by decide +kernel)⟩
theorem vX8_trades : am_VM am_prog mX8_trades := ⟨8, 1, 0, am_K8, false, rfl, by decide, am_LKP8, Or.inr (Or.inl ⟨rfl, rfl⟩), mkX8_trades, (fun h => by cases h), am_ents (by decide +kernel)⟩
theorem vX8_envies : am_VM am_prog mX8_envies := ⟨8, 1, 2, am_K8, false, rfl, by decide, am_LKP8, Or.inr (Or.inl ⟨rfl, rfl⟩), mkX8_envies, (fun h => by cases h), am_ents (by decide +kernel)⟩
theorem vX8_pick : am_VM am_prog mX8_pick := ⟨8, 1, 3, am_K8, false, rfl, by decide, am_LKP8, Or.inr (Or.inl ⟨rfl, rfl⟩), mkX8_pick, (fun h => by cases h), am_ents (by decide +kernel)⟩
theorem vX8_isSetOfPeople : am_VM am_prog mX8_isSetOfPeople := ⟨8, 3, 1, am_K8, false, rfl, by decide, am_LKP8, Or.inr (Or.inr (Or.inr ⟨rfl, rfl⟩)), mkX8_isSetOfPeople, (fun h => by cases h), am_ents (by decide +kernel)⟩
theorem vX8_isRowOfPeople : am_VM am_prog mX8_isRowOfPeople := ⟨8, 3, 2, am_K8, false, rfl, by decide, am_LKP8, Or.inr (Or.inr (Or.inr ⟨rfl, rfl⟩)), mkX8_isRowOfPeople, (fun h => by cases h), am_ents (by decide +kernel)⟩
theorem vX8_fits : am_VM am_prog mX8_fits := ⟨8, 1, 2, am_K8, false, rfl, by decide, am_LKP8, Or.inr (Or.inl ⟨rfl, rfl⟩), mkX8_fits, (fun h => by cases h), am_ents (by decide +kernel)⟩
theorem vX8_ask : am_VM am_prog mX8_ask := ⟨8, 1, 2, am_K8, false, rfl, by decide, am_LKP8, Or.inr (Or.inl ⟨rfl, rfl⟩), mkX8_ask, (fun h => by cases h), am_ents (by decide +kernel)⟩
theorem vX8_twosStatus : am_VM am_prog mX8_twosStatus := ⟨8, 1, 2, am_K8, false, rfl, by decide, am_LKP8, Or.inr (Or.inl ⟨rfl, rfl⟩), mkX8_twosStatus, (fun h => by cases h), am_ents (by decide +kernel)⟩
theorem vX8_peace : am_VM am_prog mX8_peace := ⟨8, 1, 1, am_K8, false, rfl, by decide, am_LKP8, Or.inr (Or.inl ⟨rfl, rfl⟩), mkX8_peace, (fun h => by cases h), am_ents (by decide +kernel)⟩
theorem vX8_peaceBy : am_VM am_prog mX8_peaceBy := ⟨8, 1, 1, am_K8, false, rfl, by decide, am_LKP8, Or.inr (Or.inl ⟨rfl, rfl⟩), mkX8_peaceBy, (fun h => by cases h), am_ents (by decide +kernel)⟩
theorem vX8_peaceStatus : am_VM am_prog mX8_peaceStatus := ⟨8, 1, 1, am_K8, false, rfl, by decide, am_LKP8, Or.inr (Or.inl ⟨rfl, rfl⟩), mkX8_peaceStatus, (fun h => by cases h), am_ents (by decide +kernel)⟩
theorem vX8_popular : am_VM am_prog mX8_popular := ⟨8, 1, 1, am_K8, false, rfl, by decide, am_LKP8, Or.inr (Or.inl ⟨rfl, rfl⟩), mkX8_popular, (fun h => by cases h), am_ents (by decide +kernel)⟩
theorem vX8_popularBy : am_VM am_prog mX8_popularBy := ⟨8, 1, 1, am_K8, false, rfl, by decide, am_LKP8, Or.inr (Or.inl ⟨rfl, rfl⟩), mkX8_popularBy, (fun h => by cases h), am_ents (by decide +kernel)⟩
theorem vX8_popularStatus : am_VM am_prog mX8_popularStatus := ⟨8, 1, 1, am_K8, false, rfl, by decide, am_LKP8, Or.inr (Or.inl ⟨rfl, rfl⟩), mkX8_popularStatus, (fun h => by cases h), am_ents (by decide +kernel)⟩
theorem vX8_game : am_VM am_prog mX8_game := ⟨8, 1, 3, am_K8, false, rfl, by decide, am_LKP8, Or.inr (Or.inl ⟨rfl, rfl⟩), mkX8_game, (fun h => by cases h), am_ents (by decide +kernel)⟩
theorem vX8_moveOf : am_VM am_prog mX8_moveOf := ⟨8, 1, 3, am_K8, false, rfl, by decide, am_LKP8, Or.inr (Or.inl ⟨rfl, rfl⟩), mkX8_moveOf, (fun h => by cases h), am_ents (by decide +kernel)⟩
theorem vX8_gameStatus : am_VM am_prog mX8_gameStatus := ⟨8, 1, 3, am_K8, false, rfl, by decide, am_LKP8, Or.inr (Or.inl ⟨rfl, rfl⟩), mkX8_gameStatus, (fun h => by cases h), am_ents (by decide +kernel)⟩
theorem vX8_alive : am_VM am_prog mX8_alive := ⟨8, 3, 2, am_K8, false, rfl, by decide, am_LKP8, Or.inr (Or.inr (Or.inr ⟨rfl, rfl⟩)), mkX8_alive, (fun h => by cases h), am_ents (by decide +kernel)⟩
theorem vX8_warm : am_VM am_prog mX8_warm := ⟨8, 3, 1, am_K8, false, rfl, by decide, am_LKP8, Or.inr (Or.inr (Or.inr ⟨rfl, rfl⟩)), mkX8_warm, (fun h => by cases h), am_ents (by decide +kernel)⟩
theorem vX8_power : am_VM am_prog mX8_power := ⟨8, 2, 2, am_K8, false, rfl, by decide, am_LKP8, Or.inr (Or.inr (Or.inl ⟨rfl, rfl⟩)), mkX8_power, (fun h => by cases h), am_ents (by decide +kernel)⟩
theorem vX8_tell : am_VM am_prog mX8_tell := ⟨8, 0, 2, am_K8, false, rfl, by decide, am_LKP8, Or.inl ⟨rfl, rfl⟩, mkX8_tell, (fun h => by cases h), am_ents (by decide +kernel)⟩
theorem vX8_live : am_VM am_prog mX8_live := ⟨8, 1, 1, am_K8, false, rfl, by decide, am_LKP8, Or.inr (Or.inl ⟨rfl, rfl⟩), mkX8_live, (fun h => by cases h), am_ents (by decide +kernel)⟩
theorem vX8_lived : am_VM am_prog mX8_lived := ⟨8, 1, 1, am_K8, false, rfl, by decide, am_LKP8, Or.inr (Or.inl ⟨rfl, rfl⟩), mkX8_lived, (fun h => by cases h), am_ents (by decide +kernel)⟩
theorem vX8_mean : am_VM am_prog mX8_mean := ⟨8, 3, 2, am_K8, false, rfl, by decide, am_LKP8, Or.inr (Or.inr (Or.inr ⟨rfl, rfl⟩)), mkX8_mean, (fun h => by cases h), am_ents (by decide +kernel)⟩
theorem vX8_mark : am_VM am_prog mX8_mark := ⟨8, 1, 0, am_K8, false, rfl, by decide, am_LKP8, Or.inr (Or.inl ⟨rfl, rfl⟩), mkX8_mark, (fun h => by cases h), am_ents (by decide +kernel)⟩
theorem vX8_back : am_VM am_prog mX8_back := ⟨8, 1, 0, am_K8, false, rfl, by decide, am_LKP8, Or.inr (Or.inl ⟨rfl, rfl⟩), mkX8_back, (fun h => by cases h), am_ents (by decide +kernel)⟩
theorem vX8_has : am_VM am_prog mX8_has := ⟨8, 3, 2, am_K8, false, rfl, by decide, am_LKP8, Or.inr (Or.inr (Or.inr ⟨rfl, rfl⟩)), mkX8_has, (fun h => by cases h), am_ents (by decide +kernel)⟩
theorem vX8_answer : am_VM am_prog mX8_answer := ⟨8, 1, 1, am_K8, false, rfl, by decide, am_LKP8, Or.inr (Or.inl ⟨rfl, rfl⟩), mkX8_answer, (fun h => by cases h), am_ents (by decide +kernel)⟩
theorem vX8_answerIfAny : am_VM am_prog mX8_answerIfAny := ⟨8, 1, 1, am_K8, false, rfl, by decide, am_LKP8, Or.inr (Or.inl ⟨rfl, rfl⟩), mkX8_answerIfAny, (fun h => by cases h), am_ents (by decide +kernel)⟩
theorem vX8_refuse : am_VM am_prog mX8_refuse := ⟨8, 1, 1, am_K8, false, rfl, by decide, am_LKP8, Or.inr (Or.inl ⟨rfl, rfl⟩), mkX8_refuse, (fun h => by cases h), am_ents (by decide +kernel)⟩
theorem vX8_agree : am_VM am_prog mX8_agree := ⟨8, 3, 0, am_K8, false, rfl, by decide, am_LKP8, Or.inr (Or.inr (Or.inr ⟨rfl, rfl⟩)), mkX8_agree, (fun h => by cases h), am_ents (by decide +kernel)⟩
theorem vX8_deny : am_VM am_prog mX8_deny := ⟨8, 3, 1, am_K8, false, rfl, by decide, am_LKP8, Or.inr (Or.inr (Or.inr ⟨rfl, rfl⟩)), mkX8_deny, (fun h => by cases h), am_ents (by decide +kernel)⟩
theorem vX9_init : am_VM am_prog mX9_init := ⟨9, 0, 0, am_K9, true, rfl, by decide, am_LKP9, Or.inl ⟨rfl, rfl⟩, mkX9_init, (fun _ => rfl), am_ents (by decide +kernel)⟩
theorem vX9_status : am_VM am_prog mX9_status := ⟨9, 1, 0, am_K9, false, rfl, by decide, am_LKP9, Or.inr (Or.inl ⟨rfl, rfl⟩), mkX9_status, (fun h => by cases h), am_ents (by decide +kernel)⟩
theorem vX9_top : am_VM am_prog mX9_top := ⟨9, 2, 0, am_K9, false, rfl, by decide, am_LKP9, Or.inr (Or.inr (Or.inl ⟨rfl, rfl⟩)), mkX9_top, (fun h => by cases h), am_ents (by decide +kernel)⟩
theorem vX9_bottom : am_VM am_prog mX9_bottom := ⟨9, 2, 0, am_K9, false, rfl, by decide, am_LKP9, Or.inr (Or.inr (Or.inl ⟨rfl, rfl⟩)), mkX9_bottom, (fun h => by cases h), am_ents (by decide +kernel)⟩
theorem vX9_refuse : am_VM am_prog mX9_refuse := ⟨9, 1, 1, am_K9, false, rfl, by decide, am_LKP9, Or.inr (Or.inl ⟨rfl, rfl⟩), mkX9_refuse, (fun h => by cases h), am_ents (by decide +kernel)⟩
theorem vX9_no : am_VM am_prog mX9_no := ⟨9, 3, 1, am_K9, false, rfl, by decide, am_LKP9, Or.inr (Or.inr (Or.inr ⟨rfl, rfl⟩)), mkX9_no, (fun h => by cases h), am_ents (by decide +kernel)⟩
theorem vX9_isIn : am_VM am_prog mX9_isIn := ⟨9, 3, 3, am_K9, false, rfl, by decide, am_LKP9, Or.inr (Or.inr (Or.inr ⟨rfl, rfl⟩)), mkX9_isIn, (fun h => by cases h), am_ents (by decide +kernel)⟩
theorem vX9_fraction : am_VM am_prog mX9_fraction := ⟨9, 3, 2, am_K9, false, rfl, by decide, am_LKP9, Or.inr (Or.inr (Or.inr ⟨rfl, rfl⟩)), mkX9_fraction, (fun h => by cases h), am_ents (by decide +kernel)⟩
theorem vX9_cut : am_VM am_prog mX9_cut := ⟨9, 2, 2, am_K9, false, rfl, by decide, am_LKP9, Or.inr (Or.inr (Or.inl ⟨rfl, rfl⟩)), mkX9_cut, (fun h => by cases h), am_ents (by decide +kernel)⟩
theorem vX9_tray : am_VM am_prog mX9_tray := ⟨9, 3, 3, am_K9, false, rfl, by decide, am_LKP9, Or.inr (Or.inr (Or.inr ⟨rfl, rfl⟩)), mkX9_tray, (fun h => by cases h), am_ents (by decide +kernel)⟩
theorem vX9_trayed : am_VM am_prog mX9_trayed := ⟨9, 1, 1, am_K9, false, rfl, by decide, am_LKP9, Or.inr (Or.inl ⟨rfl, rfl⟩), mkX9_trayed, (fun h => by cases h), am_ents (by decide +kernel)⟩
theorem vX9_placed : am_VM am_prog mX9_placed := ⟨9, 1, 2, am_K9, false, rfl, by decide, am_LKP9, Or.inr (Or.inl ⟨rfl, rfl⟩), mkX9_placed, (fun h => by cases h), am_ents (by decide +kernel)⟩
theorem vX9_write : am_VM am_prog mX9_write := ⟨9, 3, 3, am_K9, false, rfl, by decide, am_LKP9, Or.inr (Or.inr (Or.inr ⟨rfl, rfl⟩)), mkX9_write, (fun h => by cases h), am_ents (by decide +kernel)⟩
theorem vX9_read : am_VM am_prog mX9_read := ⟨9, 2, 2, am_K9, false, rfl, by decide, am_LKP9, Or.inr (Or.inr (Or.inl ⟨rfl, rfl⟩)), mkX9_read, (fun h => by cases h), am_ents (by decide +kernel)⟩
theorem vX9_pour : am_VM am_prog mX9_pour := ⟨9, 3, 5, am_K9, false, rfl, by decide, am_LKP9, Or.inr (Or.inr (Or.inr ⟨rfl, rfl⟩)), mkX9_pour, (fun h => by cases h), am_ents (by decide +kernel)⟩
theorem vX9_numberOf : am_VM am_prog mX9_numberOf := ⟨9, 2, 2, am_K9, false, rfl, by decide, am_LKP9, Or.inr (Or.inr (Or.inl ⟨rfl, rfl⟩)), mkX9_numberOf, (fun h => by cases h), am_ents (by decide +kernel)⟩
theorem vX9_isTray : am_VM am_prog mX9_isTray := ⟨9, 3, 1, am_K9, false, rfl, by decide, am_LKP9, Or.inr (Or.inr (Or.inr ⟨rfl, rfl⟩)), mkX9_isTray, (fun h => by cases h), am_ents (by decide +kernel)⟩
theorem vX9_has : am_VM am_prog mX9_has := ⟨9, 3, 2, am_K9, false, rfl, by decide, am_LKP9, Or.inr (Or.inr (Or.inr ⟨rfl, rfl⟩)), mkX9_has, (fun h => by cases h), am_ents (by decide +kernel)⟩
theorem vX9_sizeOf : am_VM am_prog mX9_sizeOf := ⟨9, 1, 1, am_K9, false, rfl, by decide, am_LKP9, Or.inr (Or.inl ⟨rfl, rfl⟩), mkX9_sizeOf, (fun h => by cases h), am_ents (by decide +kernel)⟩
theorem vX9_look2 : am_VM am_prog mX9_look2 := ⟨9, 1, 1, am_K9, false, rfl, by decide, am_LKP9, Or.inr (Or.inl ⟨rfl, rfl⟩), mkX9_look2, (fun h => by cases h), am_ents (by decide +kernel)⟩
theorem vX9_isLetter : am_VM am_prog mX9_isLetter := ⟨9, 3, 1, am_K9, false, rfl, by decide, am_LKP9, Or.inr (Or.inr (Or.inr ⟨rfl, rfl⟩)), mkX9_isLetter, (fun h => by cases h), am_ents (by decide +kernel)⟩
theorem vX9_isDigit : am_VM am_prog mX9_isDigit := ⟨9, 3, 1, am_K9, false, rfl, by decide, am_LKP9, Or.inr (Or.inr (Or.inr ⟨rfl, rfl⟩)), mkX9_isDigit, (fun h => by cases h), am_ents (by decide +kernel)⟩
theorem vX9_isSignByte : am_VM am_prog mX9_isSignByte := ⟨9, 3, 1, am_K9, false, rfl, by decide, am_LKP9, Or.inr (Or.inr (Or.inr ⟨rfl, rfl⟩)), mkX9_isSignByte, (fun h => by cases h), am_ents (by decide +kernel)⟩
theorem vX9_advance : am_VM am_prog mX9_advance := ⟨9, 0, 0, am_K9, false, rfl, by decide, am_LKP9, Or.inl ⟨rfl, rfl⟩, mkX9_advance, (fun h => by cases h), am_ents (by decide +kernel)⟩
theorem vX9_isSign : am_VM am_prog mX9_isSign := ⟨9, 3, 1, am_K9, false, rfl, by decide, am_LKP9, Or.inr (Or.inr (Or.inr ⟨rfl, rfl⟩)), mkX9_isSign, (fun h => by cases h), am_ents (by decide +kernel)⟩
theorem vX9_spelled : am_VM am_prog mX9_spelled := ⟨9, 2, 6, am_K9, false, rfl, by decide, am_LKP9, Or.inr (Or.inr (Or.inl ⟨rfl, rfl⟩)), mkX9_spelled, (fun h => by cases h), am_ents (by decide +kernel)⟩
theorem vX9_isWord : am_VM am_prog mX9_isWord := ⟨9, 3, 1, am_K9, false, rfl, by decide, am_LKP9, Or.inr (Or.inr (Or.inr ⟨rfl, rfl⟩)), mkX9_isWord, (fun h => by cases h), am_ents (by decide +kernel)⟩
theorem vX9_isOdds : am_VM am_prog mX9_isOdds := ⟨9, 3, 0, am_K9, false, rfl, by decide, am_LKP9, Or.inr (Or.inr (Or.inr ⟨rfl, rfl⟩)), mkX9_isOdds, (fun h => by cases h), am_ents (by decide +kernel)⟩
theorem vX9_isSubject : am_VM am_prog mX9_isSubject := ⟨9, 3, 0, am_K9, false, rfl, by decide, am_LKP9, Or.inr (Or.inr (Or.inr ⟨rfl, rfl⟩)), mkX9_isSubject, (fun h => by cases h), am_ents (by decide +kernel)⟩
theorem vX9_isVoice : am_VM am_prog mX9_isVoice := ⟨9, 3, 0, am_K9, false, rfl, by decide, am_LKP9, Or.inr (Or.inr (Or.inr ⟨rfl, rfl⟩)), mkX9_isVoice, (fun h => by cases h), am_ents (by decide +kernel)⟩
theorem vX9_isAge : am_VM am_prog mX9_isAge := ⟨9, 3, 0, am_K9, false, rfl, by decide, am_LKP9, Or.inr (Or.inr (Or.inr ⟨rfl, rfl⟩)), mkX9_isAge, (fun h => by cases h), am_ents (by decide +kernel)⟩
theorem vX9_isLife : am_VM am_prog mX9_isLife := ⟨9, 3, 0, am_K9, false, rfl, by decide, am_LKP9, Or.inr (Or.inr (Or.inr ⟨rfl, rfl⟩)), mkX9_isLife, (fun h => by cases h), am_ents (by decide +kernel)⟩
theorem vX9_isSays : am_VM am_prog mX9_isSays := ⟨9, 3, 0, am_K9, false, rfl, by decide, am_LKP9, Or.inr (Or.inr (Or.inr ⟨rfl, rfl⟩)), mkX9_isSays, (fun h => by cases h), am_ents (by decide +kernel)⟩
theorem vX9_isPerson : am_VM am_prog mX9_isPerson := ⟨9, 3, 0, am_K9, false, rfl, by decide, am_LKP9, Or.inr (Or.inr (Or.inr ⟨rfl, rfl⟩)), mkX9_isPerson, (fun h => by cases h), am_ents (by decide +kernel)⟩
theorem vX9_isCoins : am_VM am_prog mX9_isCoins := ⟨9, 3, 0, am_K9, false, rfl, by decide, am_LKP9, Or.inr (Or.inr (Or.inr ⟨rfl, rfl⟩)), mkX9_isCoins, (fun h => by cases h), am_ents (by decide +kernel)⟩
theorem vX9_isLikes : am_VM am_prog mX9_isLikes := ⟨9, 3, 0, am_K9, false, rfl, by decide, am_LKP9, Or.inr (Or.inr (Or.inr ⟨rfl, rfl⟩)), mkX9_isLikes, (fun h => by cases h), am_ents (by decide +kernel)⟩
theorem vX9_isSet : am_VM am_prog mX9_isSet := ⟨9, 3, 0, am_K9, false, rfl, by decide, am_LKP9, Or.inr (Or.inr (Or.inr ⟨rfl, rfl⟩)), mkX9_isSet, (fun h => by cases h), am_ents (by decide +kernel)⟩
theorem vX9_isGets : am_VM am_prog mX9_isGets := ⟨9, 3, 0, am_K9, false, rfl, by decide, am_LKP9, Or.inr (Or.inr (Or.inr ⟨rfl, rfl⟩)), mkX9_isGets, (fun h => by cases h), am_ents (by decide +kernel)⟩
theorem vX9_isFlaw : am_VM am_prog mX9_isFlaw := ⟨9, 3, 0, am_K9, false, rfl, by decide, am_LKP9, Or.inr (Or.inr (Or.inr ⟨rfl, rfl⟩)), mkX9_isFlaw, (fun h => by cases h), am_ents (by decide +kernel)⟩
theorem vX9_isFor : am_VM am_prog mX9_isFor := ⟨9, 3, 0, am_K9, false, rfl, by decide, am_LKP9, Or.inr (Or.inr (Or.inr ⟨rfl, rfl⟩)), mkX9_isFor, (fun h => by cases h), am_ents (by decide +kernel)⟩
theorem vX9_stepWord : am_VM am_prog mX9_stepWord := ⟨9, 1, 0, am_K9, false, rfl, by decide, am_LKP9, Or.inr (Or.inl ⟨rfl, rfl⟩), mkX9_stepWord, (fun h => by cases h), am_ents (by decide +kernel)⟩
theorem vX9_testWord : am_VM am_prog mX9_testWord := ⟨9, 1, 0, am_K9, false, rfl, by decide, am_LKP9, Or.inr (Or.inl ⟨rfl, rfl⟩), mkX9_testWord, (fun h => by cases h), am_ents (by decide +kernel)⟩
theorem vX9_isEnd : am_VM am_prog mX9_isEnd := ⟨9, 3, 0, am_K9, false, rfl, by decide, am_LKP9, Or.inr (Or.inr (Or.inr ⟨rfl, rfl⟩)), mkX9_isEnd, (fun h => by cases h), am_ents (by decide +kernel)⟩
theorem vX9_isKept : am_VM am_prog mX9_isKept := ⟨9, 3, 0, am_K9, false, rfl, by decide, am_LKP9, Or.inr (Or.inr (Or.inr ⟨rfl, rfl⟩)), mkX9_isKept, (fun h => by cases h), am_ents (by decide +kernel)⟩
theorem vX9_isName : am_VM am_prog mX9_isName := ⟨9, 3, 0, am_K9, false, rfl, by decide, am_LKP9, Or.inr (Or.inr (Or.inr ⟨rfl, rfl⟩)), mkX9_isName, (fun h => by cases h), am_ents (by decide +kernel)⟩
theorem vX9_fail : am_VM am_prog mX9_fail := ⟨9, 0, 2, am_K9, false, rfl, by decide, am_LKP9, Or.inl ⟨rfl, rfl⟩, mkX9_fail, (fun h => by cases h), am_ents (by decide +kernel)⟩
theorem vX9_amiss : am_VM am_prog mX9_amiss := ⟨9, 0, 0, am_K9, false, rfl, by decide, am_LKP9, Or.inl ⟨rfl, rfl⟩, mkX9_amiss, (fun h => by cases h), am_ents (by decide +kernel)⟩
theorem vX9_must : am_VM am_prog mX9_must := ⟨9, 0, 1, am_K9, false, rfl, by decide, am_LKP9, Or.inl ⟨rfl, rfl⟩, mkX9_must, (fun h => by cases h), am_ents (by decide +kernel)⟩
theorem vX9_count : am_VM am_prog mX9_count := ⟨9, 1, 2, am_K9, false, rfl, by decide, am_LKP9, Or.inr (Or.inl ⟨rfl, rfl⟩), mkX9_count, (fun h => by cases h), am_ents (by decide +kernel)⟩
theorem vX9_behindWord : am_VM am_prog mX9_behindWord := ⟨9, 1, 3, am_K9, false, rfl, by decide, am_LKP9, Or.inr (Or.inl ⟨rfl, rfl⟩), mkX9_behindWord, (fun h => by cases h), am_ents (by decide +kernel)⟩
theorem vX9_perhaps : am_VM am_prog mX9_perhaps := ⟨9, 3, 1, am_K9, false, rfl, by decide, am_LKP9, Or.inr (Or.inr (Or.inr ⟨rfl, rfl⟩)), mkX9_perhaps, (fun h => by cases h), am_ents (by decide +kernel)⟩
theorem vX9_feed : am_VM am_prog mX9_feed := ⟨9, 1, 5, am_K9, false, rfl, by decide, am_LKP9, Or.inr (Or.inl ⟨rfl, rfl⟩), mkX9_feed, (fun h => by cases h), am_ents (by decide +kernel)⟩
theorem vX9_lay : am_VM am_prog mX9_lay := ⟨9, 0, 1, am_K9, false, rfl, by decide, am_LKP9, Or.inl ⟨rfl, rfl⟩, mkX9_lay, (fun h => by cases h), am_ents (by decide +kernel)⟩
theorem vX9_starts : am_VM am_prog mX9_starts := ⟨9, 3, 2, am_K9, false, rfl, by decide, am_LKP9, Or.inr (Or.inr (Or.inr ⟨rfl, rfl⟩)), mkX9_starts, (fun h => by cases h), am_ents (by decide +kernel)⟩
theorem vX9_isWell : am_VM am_prog mX9_isWell := ⟨9, 3, 0, am_K9, false, rfl, by decide, am_LKP9, Or.inr (Or.inr (Or.inr ⟨rfl, rfl⟩)), mkX9_isWell, (fun h => by cases h), am_ents (by decide +kernel)⟩
theorem vX9_fault : am_VM am_prog mX9_fault := ⟨9, 1, 1, am_K9, false, rfl, by decide, am_LKP9, Or.inr (Or.inl ⟨rfl, rfl⟩), mkX9_fault, (fun h => by cases h), am_ents (by decide +kernel)⟩
theorem vX9_empties : am_VM am_prog mX9_empties := ⟨9, 0, 1, am_K9, false, rfl, by decide, am_LKP9, Or.inl ⟨rfl, rfl⟩, mkX9_empties, (fun h => by cases h), am_ents (by decide +kernel)⟩
theorem vX9_named : am_VM am_prog mX9_named := ⟨9, 1, 2, am_K9, false, rfl, by decide, am_LKP9, Or.inr (Or.inl ⟨rfl, rfl⟩), mkX9_named, (fun h => by cases h), am_ents (by decide +kernel)⟩
theorem vX9_isTaken : am_VM am_prog mX9_isTaken := ⟨9, 3, 0, am_K9, false, rfl, by decide, am_LKP9, Or.inr (Or.inr (Or.inr ⟨rfl, rfl⟩)), mkX9_isTaken, (fun h => by cases h), am_ents (by decide +kernel)⟩
theorem vX9_readNew : am_VM am_prog mX9_readNew := ⟨9, 1, 1, am_K9, false, rfl, by decide, am_LKP9, Or.inr (Or.inl ⟨rfl, rfl⟩), mkX9_readNew, (fun h => by cases h), am_ents (by decide +kernel)⟩
theorem vX9_told : am_VM am_prog mX9_told := ⟨9, 1, 2, am_K9, false, rfl, by decide, am_LKP9, Or.inr (Or.inl ⟨rfl, rfl⟩), mkX9_told, (fun h => by cases h), am_ents (by decide +kernel)⟩
theorem vX9_readTold : am_VM am_prog mX9_readTold := ⟨9, 1, 2, am_K9, false, rfl, by decide, am_LKP9, Or.inr (Or.inl ⟨rfl, rfl⟩), mkX9_readTold, (fun h => by cases h), am_ents (by decide +kernel)⟩
theorem vX9_readOdds : am_VM am_prog mX9_readOdds := ⟨9, 0, 0, am_K9, false, rfl, by decide, am_LKP9, Or.inl ⟨rfl, rfl⟩, mkX9_readOdds, (fun h => by cases h), am_ents (by decide +kernel)⟩
theorem vX9_readSubject : am_VM am_prog mX9_readSubject := ⟨9, 0, 0, am_K9, false, rfl, by decide, am_LKP9, Or.inl ⟨rfl, rfl⟩, mkX9_readSubject, (fun h => by cases h), am_ents (by decide +kernel)⟩
theorem vX9_readVoice : am_VM am_prog mX9_readVoice := ⟨9, 0, 0, am_K9, false, rfl, by decide, am_LKP9, Or.inl ⟨rfl, rfl⟩, mkX9_readVoice, (fun h => by cases h), am_ents (by decide +kernel)⟩
theorem vX9_readPerson : am_VM am_prog mX9_readPerson := ⟨9, 0, 0, am_K9, false, rfl, by decide, am_LKP9, Or.inl ⟨rfl, rfl⟩, mkX9_readPerson, (fun h => by cases h), am_ents (by decide +kernel)⟩
theorem vX9_readLikes : am_VM am_prog mX9_readLikes := ⟨9, 0, 0, am_K9, false, rfl, by decide, am_LKP9, Or.inl ⟨rfl, rfl⟩, mkX9_readLikes, (fun h => by cases h), am_ents (by decide +kernel)⟩
theorem vX9_readSet : am_VM am_prog mX9_readSet := ⟨9, 0, 0, am_K9, false, rfl, by decide, am_LKP9, Or.inl ⟨rfl, rfl⟩, mkX9_readSet, (fun h => by cases h), am_ents (by decide +kernel)⟩
theorem vX9_readPart : am_VM am_prog mX9_readPart := ⟨9, 0, 0, am_K9, false, rfl, by decide, am_LKP9, Or.inl ⟨rfl, rfl⟩, mkX9_readPart, (fun h => by cases h), am_ents (by decide +kernel)⟩
theorem vX9_town : am_VM am_prog mX9_town := ⟨9, 1, 1, am_K9, false, rfl, by decide, am_LKP9, Or.inr (Or.inl ⟨rfl, rfl⟩), mkX9_town, (fun h => by cases h), am_ents (by decide +kernel)⟩
theorem vX9_readTest : am_VM am_prog mX9_readTest := ⟨9, 0, 1, am_K9, false, rfl, by decide, am_LKP9, Or.inl ⟨rfl, rfl⟩, mkX9_readTest, (fun h => by cases h), am_ents (by decide +kernel)⟩
theorem vX9_readRest : am_VM am_prog mX9_readRest := ⟨9, 0, 1, am_K9, false, rfl, by decide, am_LKP9, Or.inl ⟨rfl, rfl⟩, mkX9_readRest, (fun h => by cases h), am_ents (by decide +kernel)⟩
theorem vX9_readStep : am_VM am_prog mX9_readStep := ⟨9, 0, 1, am_K9, false, rfl, by decide, am_LKP9, Or.inl ⟨rfl, rfl⟩, mkX9_readStep, (fun h => by cases h), am_ents (by decide +kernel)⟩
theorem vX9_dials : am_VM am_prog mX9_dials := ⟨9, 1, 1, am_K9, false, rfl, by decide, am_LKP9, Or.inr (Or.inl ⟨rfl, rfl⟩), mkX9_dials, (fun h => by cases h), am_ents (by decide +kernel)⟩
theorem vX9_isSubjectAt : am_VM am_prog mX9_isSubjectAt := ⟨9, 3, 1, am_K9, false, rfl, by decide, am_LKP9, Or.inr (Or.inr (Or.inr ⟨rfl, rfl⟩)), mkX9_isSubjectAt, (fun h => by cases h), am_ents (by decide +kernel)⟩
theorem vX9_isVoiceAt : am_VM am_prog mX9_isVoiceAt := ⟨9, 3, 1, am_K9, false, rfl, by decide, am_LKP9, Or.inr (Or.inr (Or.inr ⟨rfl, rfl⟩)), mkX9_isVoiceAt, (fun h => by cases h), am_ents (by decide +kernel)⟩
theorem vX9_isPersonAt : am_VM am_prog mX9_isPersonAt := ⟨9, 3, 1, am_K9, false, rfl, by decide, am_LKP9, Or.inr (Or.inr (Or.inr ⟨rfl, rfl⟩)), mkX9_isPersonAt, (fun h => by cases h), am_ents (by decide +kernel)⟩
theorem vX9_isSetAt : am_VM am_prog mX9_isSetAt := ⟨9, 3, 1, am_K9, false, rfl, by decide, am_LKP9, Or.inr (Or.inr (Or.inr ⟨rfl, rfl⟩)), mkX9_isSetAt, (fun h => by cases h), am_ents (by decide +kernel)⟩
theorem vX9_ownedBy : am_VM am_prog mX9_ownedBy := ⟨9, 1, 1, am_K9, false, rfl, by decide, am_LKP9, Or.inr (Or.inl ⟨rfl, rfl⟩), mkX9_ownedBy, (fun h => by cases h), am_ents (by decide +kernel)⟩
theorem vX9_voicesBy : am_VM am_prog mX9_voicesBy := ⟨9, 1, 1, am_K9, false, rfl, by decide, am_LKP9, Or.inr (Or.inl ⟨rfl, rfl⟩), mkX9_voicesBy, (fun h => by cases h), am_ents (by decide +kernel)⟩
theorem vX9_sumOf : am_VM am_prog mX9_sumOf := ⟨9, 1, 1, am_K9, false, rfl, by decide, am_LKP9, Or.inr (Or.inl ⟨rfl, rfl⟩), mkX9_sumOf, (fun h => by cases h), am_ents (by decide +kernel)⟩
theorem vX9_many : am_VM am_prog mX9_many := ⟨9, 1, 1, am_K9, false, rfl, by decide, am_LKP9, Or.inr (Or.inl ⟨rfl, rfl⟩), mkX9_many, (fun h => by cases h), am_ents (by decide +kernel)⟩
theorem vX9_voice : am_VM am_prog mX9_voice := ⟨9, 1, 2, am_K9, false, rfl, by decide, am_LKP9, Or.inr (Or.inl ⟨rfl, rfl⟩), mkX9_voice, (fun h => by cases h), am_ents (by decide +kernel)⟩
theorem vX9_row : am_VM am_prog mX9_row := ⟨9, 1, 2, am_K9, false, rfl, by decide, am_LKP9, Or.inr (Or.inl ⟨rfl, rfl⟩), mkX9_row, (fun h => by cases h), am_ents (by decide +kernel)⟩
theorem vX9_person : am_VM am_prog mX9_person := ⟨9, 1, 2, am_K9, false, rfl, by decide, am_LKP9, Or.inr (Or.inl ⟨rfl, rfl⟩), mkX9_person, (fun h => by cases h), am_ents (by decide +kernel)⟩
theorem vX9_likeOf : am_VM am_prog mX9_likeOf := ⟨9, 1, 2, am_K9, false, rfl, by decide, am_LKP9, Or.inr (Or.inl ⟨rfl, rfl⟩), mkX9_likeOf, (fun h => by cases h), am_ents (by decide +kernel)⟩
theorem vX9_like : am_VM am_prog mX9_like := ⟨9, 1, 2, am_K9, false, rfl, by decide, am_LKP9, Or.inr (Or.inl ⟨rfl, rfl⟩), mkX9_like, (fun h => by cases h), am_ents (by decide +kernel)⟩
theorem vX9_set : am_VM am_prog mX9_set := ⟨9, 1, 2, am_K9, false, rfl, by decide, am_LKP9, Or.inr (Or.inl ⟨rfl, rfl⟩), mkX9_set, (fun h => by cases h), am_ents (by decide +kernel)⟩
theorem vX9_placeOf : am_VM am_prog mX9_placeOf := ⟨9, 1, 2, am_K9, false, rfl, by decide, am_LKP9, Or.inr (Or.inl ⟨rfl, rfl⟩), mkX9_placeOf, (fun h => by cases h), am_ents (by decide +kernel)⟩
theorem vX9_said : am_VM am_prog mX9_said := ⟨9, 1, 2, am_K9, false, rfl, by decide, am_LKP9, Or.inr (Or.inl ⟨rfl, rfl⟩), mkX9_said, (fun h => by cases h), am_ents (by decide +kernel)⟩
theorem vX9_heardBy : am_VM am_prog mX9_heardBy := ⟨9, 1, 2, am_K9, false, rfl, by decide, am_LKP9, Or.inr (Or.inl ⟨rfl, rfl⟩), mkX9_heardBy, (fun h => by cases h), am_ents (by decide +kernel)⟩
theorem vX9_heard : am_VM am_prog mX9_heard := ⟨9, 1, 2, am_K9, false, rfl, by decide, am_LKP9, Or.inr (Or.inl ⟨rfl, rfl⟩), mkX9_heard, (fun h => by cases h), am_ents (by decide +kernel)⟩
theorem vX9_liked : am_VM am_prog mX9_liked := ⟨9, 1, 2, am_K9, false, rfl, by decide, am_LKP9, Or.inr (Or.inl ⟨rfl, rfl⟩), mkX9_liked, (fun h => by cases h), am_ents (by decide +kernel)⟩
theorem vX9_goesHour : am_VM am_prog mX9_goesHour := ⟨9, 1, 0, am_K9, false, rfl, by decide, am_LKP9, Or.inr (Or.inl ⟨rfl, rfl⟩), mkX9_goesHour, (fun h => by cases h), am_ents (by decide +kernel)⟩
theorem vX9_hour : am_VM am_prog mX9_hour := ⟨9, 1, 1, am_K9, false, rfl, by decide, am_LKP9, Or.inr (Or.inl ⟨rfl, rfl⟩), mkX9_hour, (fun h => by cases h), am_ents (by decide +kernel)⟩
theorem vX9_goesYear : am_VM am_prog mX9_goesYear := ⟨9, 1, 0, am_K9, false, rfl, by decide, am_LKP9, Or.inr (Or.inl ⟨rfl, rfl⟩), mkX9_goesYear, (fun h => by cases h), am_ents (by decide +kernel)⟩
theorem vX9_year : am_VM am_prog mX9_year := ⟨9, 1, 1, am_K9, false, rfl, by decide, am_LKP9, Or.inr (Or.inl ⟨rfl, rfl⟩), mkX9_year, (fun h => by cases h), am_ents (by decide +kernel)⟩
theorem vX9_sells : am_VM am_prog mX9_sells := ⟨9, 3, 3, am_K9, false, rfl, by decide, am_LKP9, Or.inr (Or.inr (Or.inr ⟨rfl, rfl⟩)), mkX9_sells, (fun h => by cases h), am_ents (by decide +kernel)⟩
theorem vX9_sell : am_VM am_prog mX9_sell := ⟨9, 1, 3, am_K9, false, rfl, by decide, am_LKP9, Or.inr (Or.inl ⟨rfl, rfl⟩), mkX9_sell, (fun h => by cases h), am_ents (by decide +kernel)⟩
theorem vX9_becomes : am_VM am_prog mX9_becomes := ⟨9, 3, 2, am_K9, false, rfl, by decide, am_LKP9, Or.inr (Or.inr (Or.inr ⟨rfl, rfl⟩)), mkX9_becomes, (fun h => by cases h), am_ents (by decide +kernel)⟩
theorem vX9_give : am_VM am_prog mX9_give := ⟨9, 1, 2, am_K9, false, rfl, by decide, am_LKP9, Or.inr (Or.inl ⟨rfl, rfl⟩), mkX9_give, (fun h => by cases h), am_ents (by decide +kernel)⟩
theorem vX9_dump : am_VM am_prog mX9_dump := ⟨9, 1, 1, am_K9, false, rfl, by decide, am_LKP9, Or.inr (Or.inl ⟨rfl, rfl⟩), mkX9_dump, (fun h => by cases h), am_ents (by decide +kernel)⟩
theorem vX9_chills : am_VM am_prog mX9_chills := ⟨9, 3, 2, am_K9, false, rfl, by decide, am_LKP9, Or.inr (Or.inr (Or.inr ⟨rfl, rfl⟩)), mkX9_chills, (fun h => by cases h), am_ents (by decide +kernel)⟩
theorem vX9_cold : am_VM am_prog mX9_cold := ⟨9, 3, 2, am_K9, false, rfl, by decide, am_LKP9, Or.inr (Or.inr (Or.inr ⟨rfl, rfl⟩)), mkX9_cold, (fun h => by cases h), am_ents (by decide +kernel)⟩
theorem vX9_flaw : am_VM am_prog mX9_flaw := ⟨9, 3, 2, am_K9, false, rfl, by decide, am_LKP9, Or.inr (Or.inr (Or.inr ⟨rfl, rfl⟩)), mkX9_flaw, (fun h => by cases h), am_ents (by decide +kernel)⟩
theorem vX9_please : am_VM am_prog mX9_please := ⟨9, 1, 3, am_K9, false, rfl, by decide, am_LKP9, Or.inr (Or.inl ⟨rfl, rfl⟩), mkX9_please, (fun h => by cases h), am_ents (by decide +kernel)⟩
theorem vX9_teach : am_VM am_prog mX9_teach := ⟨9, 1, 2, am_K9, false, rfl, by decide, am_LKP9, Or.inr (Or.inl ⟨rfl, rfl⟩), mkX9_teach, (fun h => by cases h), am_ents (by decide +kernel)⟩
theorem vX9_rule : am_VM am_prog mX9_rule := ⟨9, 3, 1, am_K9, false, rfl, by decide, am_LKP9, Or.inr (Or.inr (Or.inr ⟨rfl, rfl⟩)), mkX9_rule, (fun h => by cases h), am_ents (by decide +kernel)⟩
theorem vX9_saysIn : am_VM am_prog mX9_saysIn := ⟨9, 1, 2, am_K9, false, rfl, by decide, am_LKP9, Or.inr (Or.inl ⟨rfl, rfl⟩), mkX9_saysIn, (fun h => by cases h), am_ents (by decide +kernel)⟩
theorem vX9_hearsIn : am_VM am_prog mX9_hearsIn := ⟨9, 1, 2, am_K9, false, rfl, by decide, am_LKP9, Or.inr (Or.inl ⟨rfl, rfl⟩), mkX9_hearsIn, (fun h => by cases h), am_ents (by decide +kernel)⟩
theorem vX9_gladAfter : am_VM am_prog mX9_gladAfter := ⟨9, 1, 2, am_K9, false, rfl, by decide, am_LKP9, Or.inr (Or.inl ⟨rfl, rfl⟩), mkX9_gladAfter, (fun h => by cases h), am_ents (by decide +kernel)⟩
theorem vX9_gladIn : am_VM am_prog mX9_gladIn := ⟨9, 1, 2, am_K9, false, rfl, by decide, am_LKP9, Or.inr (Or.inl ⟨rfl, rfl⟩), mkX9_gladIn, (fun h => by cases h), am_ents (by decide +kernel)⟩
theorem vX9_gladBy : am_VM am_prog mX9_gladBy := ⟨9, 1, 2, am_K9, false, rfl, by decide, am_LKP9, Or.inr (Or.inl ⟨rfl, rfl⟩), mkX9_gladBy, (fun h => by cases h), am_ents (by decide +kernel)⟩
theorem vX9_lonelyIn : am_VM am_prog mX9_lonelyIn := ⟨9, 1, 1, am_K9, false, rfl, by decide, am_LKP9, Or.inr (Or.inl ⟨rfl, rfl⟩), mkX9_lonelyIn, (fun h => by cases h), am_ents (by decide +kernel)⟩
theorem vX9_diesIn : am_VM am_prog mX9_diesIn := ⟨9, 1, 1, am_K9, false, rfl, by decide, am_LKP9, Or.inr (Or.inl ⟨rfl, rfl⟩), mkX9_diesIn, (fun h => by cases h), am_ents (by decide +kernel)⟩
theorem vX9_crowdOf : am_VM am_prog mX9_crowdOf := ⟨9, 1, 1, am_K9, false, rfl, by decide, am_LKP9, Or.inr (Or.inl ⟨rfl, rfl⟩), mkX9_crowdOf, (fun h => by cases h), am_ents (by decide +kernel)⟩
theorem vX9_crowd : am_VM am_prog mX9_crowd := ⟨9, 1, 1, am_K9, false, rfl, by decide, am_LKP9, Or.inr (Or.inl ⟨rfl, rfl⟩), mkX9_crowd, (fun h => by cases h), am_ents (by decide +kernel)⟩
theorem vX9_worthOf : am_VM am_prog mX9_worthOf := ⟨9, 1, 2, am_K9, false, rfl, by decide, am_LKP9, Or.inr (Or.inl ⟨rfl, rfl⟩), mkX9_worthOf, (fun h => by cases h), am_ents (by decide +kernel)⟩
theorem vX9_worth : am_VM am_prog mX9_worth := ⟨9, 1, 2, am_K9, false, rfl, by decide, am_LKP9, Or.inr (Or.inl ⟨rfl, rfl⟩), mkX9_worth, (fun h => by cases h), am_ents (by decide +kernel)⟩
theorem vX9_laysWorths : am_VM am_prog mX9_laysWorths := ⟨9, 0, 0, am_K9, false, rfl, by decide, am_LKP9, Or.inl ⟨rfl, rfl⟩, mkX9_laysWorths, (fun h => by cases h), am_ents (by decide +kernel)⟩
theorem vX9_shares : am_VM am_prog mX9_shares := ⟨9, 0, 4, am_K9, false, rfl, by decide, am_LKP9, Or.inl ⟨rfl, rfl⟩, mkX9_shares, (fun h => by cases h), am_ents (by decide +kernel)⟩
theorem vX9_laysBest : am_VM am_prog mX9_laysBest := ⟨9, 0, 1, am_K9, false, rfl, by decide, am_LKP9, Or.inl ⟨rfl, rfl⟩, mkX9_laysBest, (fun h => by cases h), am_ents (by decide +kernel)⟩
theorem vX9_arePeople : am_VM am_prog mX9_arePeople := ⟨9, 3, 1, am_K9, false, rfl, by decide, am_LKP9, Or.inr (Or.inr (Or.inr ⟨rfl, rfl⟩)), mkX9_arePeople, (fun h => by cases h), am_ents (by decide +kernel)⟩
theorem vX9_best : am_VM am_prog mX9_best := ⟨9, 1, 1, am_K9, false, rfl, by decide, am_LKP9, Or.inr (Or.inl ⟨rfl, rfl⟩), mkX9_best, (fun h => by cases h), am_ents (by decide +kernel)⟩
theorem vX9_bestSet : am_VM am_prog mX9_bestSet := ⟨9, 1, 2, am_K9, false, rfl, by decide, am_LKP9, Or.inr (Or.inl ⟨rfl, rfl⟩), mkX9_bestSet, (fun h => by cases h), am_ents (by decide +kernel)⟩
theorem vX9_firstOf : am_VM am_prog mX9_firstOf := ⟨9, 1, 1, am_K9, false, rfl, by decide, am_LKP9, Or.inr (Or.inl ⟨rfl, rfl⟩), mkX9_firstOf, (fun h => by cases h), am_ents (by decide +kernel)⟩
theorem vX9_pointsTo : am_VM am_prog mX9_pointsTo := ⟨9, 1, 1, am_K9, false, rfl, by decide, am_LKP9, Or.inr (Or.inl ⟨rfl, rfl⟩), mkX9_pointsTo, (fun h => by cases h), am_ents (by decide +kernel)⟩
theorem vX9_goesRing : am_VM am_prog mX9_goesRing := ⟨9, 0, 1, am_K9, false, rfl, by decide, am_LKP9, Or.inl ⟨rfl, rfl⟩, mkX9_goesRing, (fun h => by cases h), am_ents (by decide +kernel)⟩
theorem vX9_ringFrom : am_VM am_prog mX9_ringFrom := ⟨9, 1, 1, am_K9, false, rfl, by decide, am_LKP9, Or.inr (Or.inl ⟨rfl, rfl⟩), mkX9_ringFrom, (fun h => by cases h), am_ents (by decide +kernel)⟩
theorem vX9_laysTrades : am_VM am_prog mX9_laysTrades := ⟨9, 0, 0, am_K9, false, rfl, by decide, am_LKP9, Or.inl ⟨rfl, rfl⟩, mkX9_laysTrades, (fun h => by cases h), am_ents (by decide +kernel)⟩
theorem vX9_trade : am_VM am_prog mX9_trade := ⟨9, 1, 1, am_K9, false, rfl, by decide, am_LKP9, Or.inr (Or.inl ⟨rfl, rfl⟩), mkX9_trade, (fun h => by cases h), am_ents (by decide +kernel)⟩
theorem vX9_trades : am_VM am_prog mX9_trades := ⟨9, 1, 0, am_K9, false, rfl, by decide, am_LKP9, Or.inr (Or.inl ⟨rfl, rfl⟩), mkX9_trades, (fun h => by cases h), am_ents (by decide +kernel)⟩
theorem vX9_bestOwned : am_VM am_prog mX9_bestOwned := ⟨9, 1, 2, am_K9, false, rfl, by decide, am_LKP9, Or.inr (Or.inl ⟨rfl, rfl⟩), mkX9_bestOwned, (fun h => by cases h), am_ents (by decide +kernel)⟩
theorem vX9_envies : am_VM am_prog mX9_envies := ⟨9, 1, 2, am_K9, false, rfl, by decide, am_LKP9, Or.inr (Or.inl ⟨rfl, rfl⟩), mkX9_envies, (fun h => by cases h), am_ents (by decide +kernel)⟩
theorem vX9_whyNoPick : am_VM am_prog mX9_whyNoPick := ⟨9, 1, 2, am_K9, false, rfl, by decide, am_LKP9, Or.inr (Or.inl ⟨rfl, rfl⟩), mkX9_whyNoPick, (fun h => by cases h), am_ents (by decide +kernel)⟩
theorem vX9_pick : am_VM am_prog mX9_pick := ⟨9, 1, 3, am_K9, false, rfl, by decide, am_LKP9, Or.inr (Or.inl ⟨rfl, rfl⟩), mkX9_pick, (fun h => by cases h), am_ents (by decide +kernel)⟩
theorem vX9_whyNotFits : am_VM am_prog mX9_whyNotFits := ⟨9, 1, 2, am_K9, false, rfl, by decide, am_LKP9, Or.inr (Or.inl ⟨rfl, rfl⟩), mkX9_whyNotFits, (fun h => by cases h), am_ents (by decide +kernel)⟩
theorem vX9_fitting : am_VM am_prog mX9_fitting := ⟨9, 1, 2, am_K9, false, rfl, by decide, am_LKP9, Or.inr (Or.inl ⟨rfl, rfl⟩), mkX9_fitting, (fun h => by cases h), am_ents (by decide +kernel)⟩
theorem vX9_fits : am_VM am_prog mX9_fits := ⟨9, 1, 2, am_K9, false, rfl, by decide, am_LKP9, Or.inr (Or.inl ⟨rfl, rfl⟩), mkX9_fits, (fun h => by cases h), am_ents (by decide +kernel)⟩
theorem vX9_alikeIn : am_VM am_prog mX9_alikeIn := ⟨9, 1, 2, am_K9, false, rfl, by decide, am_LKP9, Or.inr (Or.inl ⟨rfl, rfl⟩), mkX9_alikeIn, (fun h => by cases h), am_ents (by decide +kernel)⟩
theorem vX9_ask : am_VM am_prog mX9_ask := ⟨9, 1, 2, am_K9, false, rfl, by decide, am_LKP9, Or.inr (Or.inl ⟨rfl, rfl⟩), mkX9_ask, (fun h => by cases h), am_ents (by decide +kernel)⟩
theorem vX9_leastLike : am_VM am_prog mX9_leastLike := ⟨9, 1, 2, am_K9, false, rfl, by decide, am_LKP9, Or.inr (Or.inl ⟨rfl, rfl⟩), mkX9_leastLike, (fun h => by cases h), am_ents (by decide +kernel)⟩
theorem vX9_allLike : am_VM am_prog mX9_allLike := ⟨9, 1, 2, am_K9, false, rfl, by decide, am_LKP9, Or.inr (Or.inl ⟨rfl, rfl⟩), mkX9_allLike, (fun h => by cases h), am_ents (by decide +kernel)⟩
theorem vX9_peaceful : am_VM am_prog mX9_peaceful := ⟨9, 1, 1, am_K9, false, rfl, by decide, am_LKP9, Or.inr (Or.inl ⟨rfl, rfl⟩), mkX9_peaceful, (fun h => by cases h), am_ents (by decide +kernel)⟩
theorem vX9_peace : am_VM am_prog mX9_peace := ⟨9, 1, 1, am_K9, false, rfl, by decide, am_LKP9, Or.inr (Or.inl ⟨rfl, rfl⟩), mkX9_peace, (fun h => by cases h), am_ents (by decide +kernel)⟩
theorem vX9_peaceBy : am_VM am_prog mX9_peaceBy := ⟨9, 1, 1, am_K9, false, rfl, by decide, am_LKP9, Or.inr (Or.inl ⟨rfl, rfl⟩), mkX9_peaceBy, (fun h => by cases h), am_ents (by decide +kernel)⟩
theorem vX9_fansOf : am_VM am_prog mX9_fansOf := ⟨9, 1, 2, am_K9, false, rfl, by decide, am_LKP9, Or.inr (Or.inl ⟨rfl, rfl⟩), mkX9_fansOf, (fun h => by cases h), am_ents (by decide +kernel)⟩
theorem vX9_popularOf : am_VM am_prog mX9_popularOf := ⟨9, 1, 1, am_K9, false, rfl, by decide, am_LKP9, Or.inr (Or.inl ⟨rfl, rfl⟩), mkX9_popularOf, (fun h => by cases h), am_ents (by decide +kernel)⟩
theorem vX9_popular : am_VM am_prog mX9_popular := ⟨9, 1, 1, am_K9, false, rfl, by decide, am_LKP9, Or.inr (Or.inl ⟨rfl, rfl⟩), mkX9_popular, (fun h => by cases h), am_ents (by decide +kernel)⟩
theorem vX9_popularBy : am_VM am_prog mX9_popularBy := ⟨9, 1, 1, am_K9, false, rfl, by decide, am_LKP9, Or.inr (Or.inl ⟨rfl, rfl⟩), mkX9_popularBy, (fun h => by cases h), am_ents (by decide +kernel)⟩
theorem vX9_plays : am_VM am_prog mX9_plays := ⟨9, 1, 5, am_K9, false, rfl, by decide, am_LKP9, Or.inr (Or.inl ⟨rfl, rfl⟩), mkX9_plays, (fun h => by cases h), am_ents (by decide +kernel)⟩
theorem vX9_whyNoGame : am_VM am_prog mX9_whyNoGame := ⟨9, 1, 4, am_K9, false, rfl, by decide, am_LKP9, Or.inr (Or.inl ⟨rfl, rfl⟩), mkX9_whyNoGame, (fun h => by cases h), am_ents (by decide +kernel)⟩
theorem vX9_game : am_VM am_prog mX9_game := ⟨9, 1, 3, am_K9, false, rfl, by decide, am_LKP9, Or.inr (Or.inl ⟨rfl, rfl⟩), mkX9_game, (fun h => by cases h), am_ents (by decide +kernel)⟩
theorem vX9_moveOf : am_VM am_prog mX9_moveOf := ⟨9, 1, 3, am_K9, false, rfl, by decide, am_LKP9, Or.inr (Or.inl ⟨rfl, rfl⟩), mkX9_moveOf, (fun h => by cases h), am_ents (by decide +kernel)⟩
theorem vX9_power : am_VM am_prog mX9_power := ⟨9, 2, 2, am_K9, false, rfl, by decide, am_LKP9, Or.inr (Or.inr (Or.inl ⟨rfl, rfl⟩)), mkX9_power, (fun h => by cases h), am_ents (by decide +kernel)⟩
theorem vX9_alive : am_VM am_prog mX9_alive := ⟨9, 3, 2, am_K9, false, rfl, by decide, am_LKP9, Or.inr (Or.inr (Or.inr ⟨rfl, rfl⟩)), mkX9_alive, (fun h => by cases h), am_ents (by decide +kernel)⟩
theorem vX9_warm : am_VM am_prog mX9_warm := ⟨9, 3, 1, am_K9, false, rfl, by decide, am_LKP9, Or.inr (Or.inr (Or.inr ⟨rfl, rfl⟩)), mkX9_warm, (fun h => by cases h), am_ents (by decide +kernel)⟩
theorem vX9_draw : am_VM am_prog mX9_draw := ⟨9, 1, 1, am_K9, false, rfl, by decide, am_LKP9, Or.inr (Or.inl ⟨rfl, rfl⟩), mkX9_draw, (fun h => by cases h), am_ents (by decide +kernel)⟩
theorem vX9_anyHours : am_VM am_prog mX9_anyHours := ⟨9, 3, 1, am_K9, false, rfl, by decide, am_LKP9, Or.inr (Or.inr (Or.inr ⟨rfl, rfl⟩)), mkX9_anyHours, (fun h => by cases h), am_ents (by decide +kernel)⟩
theorem vX9_anyYears : am_VM am_prog mX9_anyYears := ⟨9, 3, 1, am_K9, false, rfl, by decide, am_LKP9, Or.inr (Or.inr (Or.inr ⟨rfl, rfl⟩)), mkX9_anyYears, (fun h => by cases h), am_ents (by decide +kernel)⟩
theorem vX9_isAny : am_VM am_prog mX9_isAny := ⟨9, 3, 0, am_K9, false, rfl, by decide, am_LKP9, Or.inr (Or.inr (Or.inr ⟨rfl, rfl⟩)), mkX9_isAny, (fun h => by cases h), am_ents (by decide +kernel)⟩
theorem vX9_does : am_VM am_prog mX9_does := ⟨9, 3, 1, am_K9, false, rfl, by decide, am_LKP9, Or.inr (Or.inr (Or.inr ⟨rfl, rfl⟩)), mkX9_does, (fun h => by cases h), am_ents (by decide +kernel)⟩
theorem vX9_isSo : am_VM am_prog mX9_isSo := ⟨9, 3, 1, am_K9, false, rfl, by decide, am_LKP9, Or.inr (Or.inr (Or.inr ⟨rfl, rfl⟩)), mkX9_isSo, (fun h => by cases h), am_ents (by decide +kernel)⟩
theorem vX9_doOne : am_VM am_prog mX9_doOne := ⟨9, 0, 1, am_K9, false, rfl, by decide, am_LKP9, Or.inl ⟨rfl, rfl⟩, mkX9_doOne, (fun h => by cases h), am_ents (by decide +kernel)⟩
theorem vX9_doAll : am_VM am_prog mX9_doAll := ⟨9, 0, 2, am_K9, false, rfl, by decide, am_LKP9, Or.inl ⟨rfl, rfl⟩, mkX9_doAll, (fun h => by cases h), am_ents (by decide +kernel)⟩
theorem vX9_runsDials : am_VM am_prog mX9_runsDials := ⟨9, 0, 1, am_K9, false, rfl, by decide, am_LKP9, Or.inl ⟨rfl, rfl⟩, mkX9_runsDials, (fun h => by cases h), am_ents (by decide +kernel)⟩
theorem vX9_live : am_VM am_prog mX9_live := ⟨9, 1, 1, am_K9, false, rfl, by decide, am_LKP9, Or.inr (Or.inl ⟨rfl, rfl⟩), mkX9_live, (fun h => by cases h), am_ents (by decide +kernel)⟩
theorem vX9_lived : am_VM am_prog mX9_lived := ⟨9, 1, 1, am_K9, false, rfl, by decide, am_LKP9, Or.inr (Or.inl ⟨rfl, rfl⟩), mkX9_lived, (fun h => by cases h), am_ents (by decide +kernel)⟩
theorem vX9_mean : am_VM am_prog mX9_mean := ⟨9, 3, 2, am_K9, false, rfl, by decide, am_LKP9, Or.inr (Or.inr (Or.inr ⟨rfl, rfl⟩)), mkX9_mean, (fun h => by cases h), am_ents (by decide +kernel)⟩
theorem vX9_copy : am_VM am_prog mX9_copy := ⟨9, 0, 2, am_K9, false, rfl, by decide, am_LKP9, Or.inl ⟨rfl, rfl⟩, mkX9_copy, (fun h => by cases h), am_ents (by decide +kernel)⟩
theorem vX9_mark : am_VM am_prog mX9_mark := ⟨9, 1, 0, am_K9, false, rfl, by decide, am_LKP9, Or.inr (Or.inl ⟨rfl, rfl⟩), mkX9_mark, (fun h => by cases h), am_ents (by decide +kernel)⟩
theorem vX9_back : am_VM am_prog mX9_back := ⟨9, 1, 0, am_K9, false, rfl, by decide, am_LKP9, Or.inr (Or.inl ⟨rfl, rfl⟩), mkX9_back, (fun h => by cases h), am_ents (by decide +kernel)⟩
theorem vJ6_bitCount_0f7a4 : am_VM am_prog mJ6_bitCount_0f7a4 := ⟨11, 1, 1, am_K11, false, rfl, by decide, am_LKP11, Or.inr (Or.inl ⟨rfl, rfl⟩), mkJ6_bitCount_0f7a4, (fun h => by cases h), am_ents (by decide +kernel)⟩
theorem pt_or {b : Bool} {x y : Option am_M} {M : am_M} {Q : Prop} (h : (bif b then x else y) = some M) (hx : x = some M → Q) (hy : y = some M → Q) : Q := by
  cases b with
  | true => exact hx h
  | false => exact hy h
theorem pv_0_2 (i : Nat) (M : am_M) (h : pt_0_2 i = some M) : am_VM am_prog M := pt_or (show (bif _ then _ else _) = some M from h) (fun h => by cases h; exact vX0_init) (fun h => by cases h; exact vX0_weigh)
theorem pv_3_5 (i : Nat) (M : am_M) (h : pt_3_5 i = some M) : am_VM am_prog M := pt_or (show (bif _ then _ else _) = some M from h) (fun h => by cases h; exact vX0_mostBySet) (fun h => by cases h; exact vX0_bySet)
theorem pv_2_5 (i : Nat) (M : am_M) (h : pt_2_5 i = some M) : am_VM am_prog M := pt_or (show (bif _ then _ else _) = some M from h) (fun h => by cases h; exact vX0_findBest) (fun h => pv_3_5 i M h)
theorem pv_0_5 (i : Nat) (M : am_M) (h : pt_0_5 i = some M) : am_VM am_prog M := pt_or (show (bif _ then _ else _) = some M from h) (fun h => pv_0_2 i M h) (fun h => pv_2_5 i M h)
theorem pv_6_8 (i : Nat) (M : am_M) (h : pt_6_8 i = some M) : am_VM am_prog M := pt_or (show (bif _ then _ else _) = some M from h) (fun h => by cases h; exact vX0_firstBest) (fun h => by cases h; exact vX0_makeTrades)
theorem pv_5_8 (i : Nat) (M : am_M) (h : pt_5_8 i = some M) : am_VM am_prog M := pt_or (show (bif _ then _ else _) = some M from h) (fun h => by cases h; exact vX0_findBestSet) (fun h => pv_6_8 i M h)
theorem pv_9_11 (i : Nat) (M : am_M) (h : pt_9_11 i = some M) : am_VM am_prog M := pt_or (show (bif _ then _ else _) = some M from h) (fun h => by cases h; exact vX0_pointsTo) (fun h => by cases h; exact vX0_isBetter)
theorem pv_8_11 (i : Nat) (M : am_M) (h : pt_8_11 i = some M) : am_VM am_prog M := pt_or (show (bif _ then _ else _) = some M from h) (fun h => by cases h; exact vX0_firstSetOf) (fun h => pv_9_11 i M h)
theorem pv_5_11 (i : Nat) (M : am_M) (h : pt_5_11 i = some M) : am_VM am_prog M := pt_or (show (bif _ then _ else _) = some M from h) (fun h => pv_5_8 i M h) (fun h => pv_8_11 i M h)
theorem pv_0_11 (i : Nat) (M : am_M) (h : pt_0_11 i = some M) : am_VM am_prog M := pt_or (show (bif _ then _ else _) = some M from h) (fun h => pv_0_5 i M h) (fun h => pv_5_11 i M h)
theorem pv_11_13 (i : Nat) (M : am_M) (h : pt_11_13 i = some M) : am_VM am_prog M := pt_or (show (bif _ then _ else _) = some M from h) (fun h => by cases h; exact vX0_leaveInRings) (fun h => by cases h; exact vX0_isInRing)
theorem pv_14_16 (i : Nat) (M : am_M) (h : pt_14_16 i = some M) : am_VM am_prog M := pt_or (show (bif _ then _ else _) = some M from h) (fun h => by cases h; exact vX0_findPick) (fun h => by cases h; exact vX0_firstMost)
theorem pv_13_16 (i : Nat) (M : am_M) (h : pt_13_16 i = some M) : am_VM am_prog M := pt_or (show (bif _ then _ else _) = some M from h) (fun h => by cases h; exact vX0_mostWorth) (fun h => pv_14_16 i M h)
theorem pv_11_16 (i : Nat) (M : am_M) (h : pt_11_16 i = some M) : am_VM am_prog M := pt_or (show (bif _ then _ else _) = some M from h) (fun h => pv_11_13 i M h) (fun h => pv_13_16 i M h)
theorem pv_17_19 (i : Nat) (M : am_M) (h : pt_17_19 i = some M) : am_VM am_prog M := pt_or (show (bif _ then _ else _) = some M from h) (fun h => by cases h; exact vX0_firstsBest) (fun h => by cases h; exact vX0_secondsBest)
theorem pv_16_19 (i : Nat) (M : am_M) (h : pt_16_19 i = some M) : am_VM am_prog M := pt_or (show (bif _ then _ else _) = some M from h) (fun h => by cases h; exact vX0_playGame) (fun h => pv_17_19 i M h)
theorem pv_20_22 (i : Nat) (M : am_M) (h : pt_20_22 i = some M) : am_VM am_prog M := pt_or (show (bif _ then _ else _) = some M from h) (fun h => by cases h; exact vX1_init) (fun h => by cases h; exact vX1_clear)
theorem pv_19_22 (i : Nat) (M : am_M) (h : pt_19_22 i = some M) : am_VM am_prog M := pt_or (show (bif _ then _ else _) = some M from h) (fun h => by cases h; exact vX0_findMove) (fun h => pv_20_22 i M h)
theorem pv_16_22 (i : Nat) (M : am_M) (h : pt_16_22 i = some M) : am_VM am_prog M := pt_or (show (bif _ then _ else _) = some M from h) (fun h => pv_16_19 i M h) (fun h => pv_19_22 i M h)
theorem pv_11_22 (i : Nat) (M : am_M) (h : pt_11_22 i = some M) : am_VM am_prog M := pt_or (show (bif _ then _ else _) = some M from h) (fun h => pv_11_16 i M h) (fun h => pv_16_22 i M h)
theorem pv_0_22 (i : Nat) (M : am_M) (h : pt_0_22 i = some M) : am_VM am_prog M := pt_or (show (bif _ then _ else _) = some M from h) (fun h => pv_0_11 i M h) (fun h => pv_11_22 i M h)
theorem pv_22_24 (i : Nat) (M : am_M) (h : pt_22_24 i = some M) : am_VM am_prog M := pt_or (show (bif _ then _ else _) = some M from h) (fun h => by cases h; exact vX1_take) (fun h => by cases h; exact vX2_init)
theorem pv_25_27 (i : Nat) (M : am_M) (h : pt_25_27 i = some M) : am_VM am_prog M := pt_or (show (bif _ then _ else _) = some M from h) (fun h => by cases h; exact vX2_readsNext) (fun h => by cases h; exact vX2_isStep)
theorem pv_24_27 (i : Nat) (M : am_M) (h : pt_24_27 i = some M) : am_VM am_prog M := pt_or (show (bif _ then _ else _) = some M from h) (fun h => by cases h; exact vX2_readsFor) (fun h => pv_25_27 i M h)
theorem pv_22_27 (i : Nat) (M : am_M) (h : pt_22_27 i = some M) : am_VM am_prog M := pt_or (show (bif _ then _ else _) = some M from h) (fun h => pv_22_24 i M h) (fun h => pv_24_27 i M h)
theorem pv_28_30 (i : Nat) (M : am_M) (h : pt_28_30 i = some M) : am_VM am_prog M := pt_or (show (bif _ then _ else _) = some M from h) (fun h => by cases h; exact vX2_readsEnd) (fun h => by cases h; exact vX2_readsTestWord)
theorem pv_27_30 (i : Nat) (M : am_M) (h : pt_27_30 i = some M) : am_VM am_prog M := pt_or (show (bif _ then _ else _) = some M from h) (fun h => by cases h; exact vX2_adds) (fun h => pv_28_30 i M h)
theorem pv_31_33 (i : Nat) (M : am_M) (h : pt_31_33 i = some M) : am_VM am_prog M := pt_or (show (bif _ then _ else _) = some M from h) (fun h => by cases h; exact vX2_readsCompares) (fun h => by cases h; exact vX2_readsFirst)
theorem pv_30_33 (i : Nat) (M : am_M) (h : pt_30_33 i = some M) : am_VM am_prog M := pt_or (show (bif _ then _ else _) = some M from h) (fun h => by cases h; exact vX2_readsRest) (fun h => pv_31_33 i M h)
theorem pv_27_33 (i : Nat) (M : am_M) (h : pt_27_33 i = some M) : am_VM am_prog M := pt_or (show (bif _ then _ else _) = some M from h) (fun h => pv_27_30 i M h) (fun h => pv_30_33 i M h)
theorem pv_22_33 (i : Nat) (M : am_M) (h : pt_22_33 i = some M) : am_VM am_prog M := pt_or (show (bif _ then _ else _) = some M from h) (fun h => pv_22_27 i M h) (fun h => pv_27_33 i M h)
theorem pv_33_35 (i : Nat) (M : am_M) (h : pt_33_35 i = some M) : am_VM am_prog M := pt_or (show (bif _ then _ else _) = some M from h) (fun h => by cases h; exact vX2_readsSecond) (fun h => by cases h; exact vX3_init)
theorem pv_36_38 (i : Nat) (M : am_M) (h : pt_36_38 i = some M) : am_VM am_prog M := pt_or (show (bif _ then _ else _) = some M from h) (fun h => by cases h; exact vX3_placeBehindEnd) (fun h => by cases h; exact vX3_placeBehindOpener)
theorem pv_35_38 (i : Nat) (M : am_M) (h : pt_35_38 i = some M) : am_VM am_prog M := pt_or (show (bif _ then _ else _) = some M from h) (fun h => by cases h; exact vX3_play) (fun h => pv_36_38 i M h)
theorem pv_33_38 (i : Nat) (M : am_M) (h : pt_33_38 i = some M) : am_VM am_prog M := pt_or (show (bif _ then _ else _) = some M from h) (fun h => pv_33_35 i M h) (fun h => pv_35_38 i M h)
theorem pv_39_41 (i : Nat) (M : am_M) (h : pt_39_41 i = some M) : am_VM am_prog M := pt_or (show (bif _ then _ else _) = some M from h) (fun h => by cases h; exact vX3_does) (fun h => by cases h; exact vX3_doesHours)
theorem pv_38_41 (i : Nat) (M : am_M) (h : pt_38_41 i = some M) : am_VM am_prog M := pt_or (show (bif _ then _ else _) = some M from h) (fun h => by cases h; exact vX3_holds) (fun h => pv_39_41 i M h)
theorem pv_42_44 (i : Nat) (M : am_M) (h : pt_42_44 i = some M) : am_VM am_prog M := pt_or (show (bif _ then _ else _) = some M from h) (fun h => by cases h; exact vX3_doesAny) (fun h => by cases h; exact vX3_draw)
theorem pv_41_44 (i : Nat) (M : am_M) (h : pt_41_44 i = some M) : am_VM am_prog M := pt_or (show (bif _ then _ else _) = some M from h) (fun h => by cases h; exact vX3_doesYears) (fun h => pv_42_44 i M h)
theorem pv_38_44 (i : Nat) (M : am_M) (h : pt_38_44 i = some M) : am_VM am_prog M := pt_or (show (bif _ then _ else _) = some M from h) (fun h => pv_38_41 i M h) (fun h => pv_41_44 i M h)
theorem pv_33_44 (i : Nat) (M : am_M) (h : pt_33_44 i = some M) : am_VM am_prog M := pt_or (show (bif _ then _ else _) = some M from h) (fun h => pv_33_38 i M h) (fun h => pv_38_44 i M h)
theorem pv_22_44 (i : Nat) (M : am_M) (h : pt_22_44 i = some M) : am_VM am_prog M := pt_or (show (bif _ then _ else _) = some M from h) (fun h => pv_22_33 i M h) (fun h => pv_33_44 i M h)
theorem pv_0_44 (i : Nat) (M : am_M) (h : pt_0_44 i = some M) : am_VM am_prog M := pt_or (show (bif _ then _ else _) = some M from h) (fun h => pv_0_22 i M h) (fun h => pv_22_44 i M h)
theorem pv_44_46 (i : Nat) (M : am_M) (h : pt_44_46 i = some M) : am_VM am_prog M := pt_or (show (bif _ then _ else _) = some M from h) (fun h => by cases h; exact vX4_init) (fun h => by cases h; exact vX4_open)
theorem pv_47_49 (i : Nat) (M : am_M) (h : pt_47_49 i = some M) : am_VM am_prog M := pt_or (show (bif _ then _ else _) = some M from h) (fun h => by cases h; exact vX4_advanceWord) (fun h => by cases h; exact vX4_advanceNumber)
theorem pv_46_49 (i : Nat) (M : am_M) (h : pt_46_49 i = some M) : am_VM am_prog M := pt_or (show (bif _ then _ else _) = some M from h) (fun h => by cases h; exact vX4_advance) (fun h => pv_47_49 i M h)
theorem pv_44_49 (i : Nat) (M : am_M) (h : pt_44_49 i = some M) : am_VM am_prog M := pt_or (show (bif _ then _ else _) = some M from h) (fun h => pv_44_46 i M h) (fun h => pv_46_49 i M h)
theorem pv_50_52 (i : Nat) (M : am_M) (h : pt_50_52 i = some M) : am_VM am_prog M := pt_or (show (bif _ then _ else _) = some M from h) (fun h => by cases h; exact vX4_refuses) (fun h => by cases h; exact vX4_takes)
theorem pv_49_52 (i : Nat) (M : am_M) (h : pt_49_52 i = some M) : am_VM am_prog M := pt_or (show (bif _ then _ else _) = some M from h) (fun h => by cases h; exact vX4_fail) (fun h => pv_50_52 i M h)
theorem pv_53_55 (i : Nat) (M : am_M) (h : pt_53_55 i = some M) : am_VM am_prog M := pt_or (show (bif _ then _ else _) = some M from h) (fun h => by cases h; exact vX4_isNameOf) (fun h => by cases h; exact vX4_takesName)
theorem pv_52_55 (i : Nat) (M : am_M) (h : pt_52_55 i = some M) : am_VM am_prog M := pt_or (show (bif _ then _ else _) = some M from h) (fun h => by cases h; exact vX4_takesNumber) (fun h => pv_53_55 i M h)
theorem pv_49_55 (i : Nat) (M : am_M) (h : pt_49_55 i = some M) : am_VM am_prog M := pt_or (show (bif _ then _ else _) = some M from h) (fun h => pv_49_52 i M h) (fun h => pv_52_55 i M h)
theorem pv_44_55 (i : Nat) (M : am_M) (h : pt_44_55 i = some M) : am_VM am_prog M := pt_or (show (bif _ then _ else _) = some M from h) (fun h => pv_44_49 i M h) (fun h => pv_49_55 i M h)
theorem pv_55_57 (i : Nat) (M : am_M) (h : pt_55_57 i = some M) : am_VM am_prog M := pt_or (show (bif _ then _ else _) = some M from h) (fun h => by cases h; exact vX4_takesNewName) (fun h => by cases h; exact vX5_init)
theorem pv_58_60 (i : Nat) (M : am_M) (h : pt_58_60 i = some M) : am_VM am_prog M := pt_or (show (bif _ then _ else _) = some M from h) (fun h => by cases h; exact vX5_take) (fun h => by cases h; exact vX5_find)
theorem pv_57_60 (i : Nat) (M : am_M) (h : pt_57_60 i = some M) : am_VM am_prog M := pt_or (show (bif _ then _ else _) = some M from h) (fun h => by cases h; exact vX5_clear) (fun h => pv_58_60 i M h)
theorem pv_55_60 (i : Nat) (M : am_M) (h : pt_55_60 i = some M) : am_VM am_prog M := pt_or (show (bif _ then _ else _) = some M from h) (fun h => pv_55_57 i M h) (fun h => pv_57_60 i M h)
theorem pv_61_63 (i : Nat) (M : am_M) (h : pt_61_63 i = some M) : am_VM am_prog M := pt_or (show (bif _ then _ else _) = some M from h) (fun h => by cases h; exact vX5_isFull) (fun h => by cases h; exact vX5_add)
theorem pv_60_63 (i : Nat) (M : am_M) (h : pt_60_63 i = some M) : am_VM am_prog M := pt_or (show (bif _ then _ else _) = some M from h) (fun h => by cases h; exact vX5_isTaken) (fun h => pv_61_63 i M h)
theorem pv_64_66 (i : Nat) (M : am_M) (h : pt_64_66 i = some M) : am_VM am_prog M := pt_or (show (bif _ then _ else _) = some M from h) (fun h => by cases h; exact vX5_setsOf) (fun h => by cases h; exact vX5_voicesIn)
theorem pv_63_66 (i : Nat) (M : am_M) (h : pt_63_66 i = some M) : am_VM am_prog M := pt_or (show (bif _ then _ else _) = some M from h) (fun h => by cases h; exact vX5_addToRow) (fun h => pv_64_66 i M h)
theorem pv_60_66 (i : Nat) (M : am_M) (h : pt_60_66 i = some M) : am_VM am_prog M := pt_or (show (bif _ then _ else _) = some M from h) (fun h => pv_60_63 i M h) (fun h => pv_63_66 i M h)
theorem pv_55_66 (i : Nat) (M : am_M) (h : pt_55_66 i = some M) : am_VM am_prog M := pt_or (show (bif _ then _ else _) = some M from h) (fun h => pv_55_60 i M h) (fun h => pv_60_66 i M h)
theorem pv_44_66 (i : Nat) (M : am_M) (h : pt_44_66 i = some M) : am_VM am_prog M := pt_or (show (bif _ then _ else _) = some M from h) (fun h => pv_44_55 i M h) (fun h => pv_55_66 i M h)
theorem pv_66_68 (i : Nat) (M : am_M) (h : pt_66_68 i = some M) : am_VM am_prog M := pt_or (show (bif _ then _ else _) = some M from h) (fun h => by cases h; exact vX5_voicesOf) (fun h => by cases h; exact vX5_hearersOf)
theorem pv_69_71 (i : Nat) (M : am_M) (h : pt_69_71 i = some M) : am_VM am_prog M := pt_or (show (bif _ then _ else _) = some M from h) (fun h => by cases h; exact vX5_gladOfAll) (fun h => by cases h; exact vX5_isLiving)
theorem pv_68_71 (i : Nat) (M : am_M) (h : pt_68_71 i = some M) : am_VM am_prog M := pt_or (show (bif _ then _ else _) = some M from h) (fun h => by cases h; exact vX5_coinsOfAll) (fun h => pv_69_71 i M h)
theorem pv_66_71 (i : Nat) (M : am_M) (h : pt_66_71 i = some M) : am_VM am_prog M := pt_or (show (bif _ then _ else _) = some M from h) (fun h => pv_66_68 i M h) (fun h => pv_68_71 i M h)
theorem pv_72_74 (i : Nat) (M : am_M) (h : pt_72_74 i = some M) : am_VM am_prog M := pt_or (show (bif _ then _ else _) = some M from h) (fun h => by cases h; exact vX5_placedAt) (fun h => by cases h; exact vX5_saysAt)
theorem pv_71_74 (i : Nat) (M : am_M) (h : pt_71_74 i = some M) : am_VM am_prog M := pt_or (show (bif _ then _ else _) = some M from h) (fun h => by cases h; exact vX5_hasCold) (fun h => pv_72_74 i M h)
theorem pv_75_77 (i : Nat) (M : am_M) (h : pt_75_77 i = some M) : am_VM am_prog M := pt_or (show (bif _ then _ else _) = some M from h) (fun h => by cases h; exact vX5_joyBy) (fun h => by cases h; exact vX5_joyAhead)
theorem pv_74_77 (i : Nat) (M : am_M) (h : pt_74_77 i = some M) : am_VM am_prog M := pt_or (show (bif _ then _ else _) = some M from h) (fun h => by cases h; exact vX5_heardAt) (fun h => pv_75_77 i M h)
theorem pv_71_77 (i : Nat) (M : am_M) (h : pt_71_77 i = some M) : am_VM am_prog M := pt_or (show (bif _ then _ else _) = some M from h) (fun h => pv_71_74 i M h) (fun h => pv_74_77 i M h)
theorem pv_66_77 (i : Nat) (M : am_M) (h : pt_66_77 i = some M) : am_VM am_prog M := pt_or (show (bif _ then _ else _) = some M from h) (fun h => pv_66_71 i M h) (fun h => pv_71_77 i M h)
theorem pv_78_80 (i : Nat) (M : am_M) (h : pt_78_80 i = some M) : am_VM am_prog M := pt_or (show (bif _ then _ else _) = some M from h) (fun h => by cases h; exact vX5_hasHours) (fun h => by cases h; exact vX5_hasYears)
theorem pv_77_80 (i : Nat) (M : am_M) (h : pt_77_80 i = some M) : am_VM am_prog M := pt_or (show (bif _ then _ else _) = some M from h) (fun h => by cases h; exact vX5_worthTo) (fun h => pv_78_80 i M h)
theorem pv_81_83 (i : Nat) (M : am_M) (h : pt_81_83 i = some M) : am_VM am_prog M := pt_or (show (bif _ then _ else _) = some M from h) (fun h => by cases h; exact vX5_passYears) (fun h => by cases h; exact vX5_makesSale)
theorem pv_80_83 (i : Nat) (M : am_M) (h : pt_80_83 i = some M) : am_VM am_prog M := pt_or (show (bif _ then _ else _) = some M from h) (fun h => by cases h; exact vX5_passHours) (fun h => pv_81_83 i M h)
theorem pv_77_83 (i : Nat) (M : am_M) (h : pt_77_83 i = some M) : am_VM am_prog M := pt_or (show (bif _ then _ else _) = some M from h) (fun h => pv_77_80 i M h) (fun h => pv_80_83 i M h)
theorem pv_84_86 (i : Nat) (M : am_M) (h : pt_84_86 i = some M) : am_VM am_prog M := pt_or (show (bif _ then _ else _) = some M from h) (fun h => by cases h; exact vX5_catchesCold) (fun h => by cases h; exact vX5_getsWell)
theorem pv_83_86 (i : Nat) (M : am_M) (h : pt_83_86 i = some M) : am_VM am_prog M := pt_or (show (bif _ then _ else _) = some M from h) (fun h => by cases h; exact vX5_makesGift) (fun h => pv_84_86 i M h)
theorem pv_87_89 (i : Nat) (M : am_M) (h : pt_87_89 i = some M) : am_VM am_prog M := pt_or (show (bif _ then _ else _) = some M from h) (fun h => by cases h; exact vX5_hourThatParts) (fun h => by cases h; exact vX5_mostWithOne)
theorem pv_86_89 (i : Nat) (M : am_M) (h : pt_86_89 i = some M) : am_VM am_prog M := pt_or (show (bif _ then _ else _) = some M from h) (fun h => by cases h; exact vX5_voicesThatFit) (fun h => pv_87_89 i M h)
theorem pv_83_89 (i : Nat) (M : am_M) (h : pt_83_89 i = some M) : am_VM am_prog M := pt_or (show (bif _ then _ else _) = some M from h) (fun h => pv_83_86 i M h) (fun h => pv_86_89 i M h)
theorem pv_77_89 (i : Nat) (M : am_M) (h : pt_77_89 i = some M) : am_VM am_prog M := pt_or (show (bif _ then _ else _) = some M from h) (fun h => pv_77_83 i M h) (fun h => pv_83_89 i M h)
theorem pv_66_89 (i : Nat) (M : am_M) (h : pt_66_89 i = some M) : am_VM am_prog M := pt_or (show (bif _ then _ else _) = some M from h) (fun h => pv_66_77 i M h) (fun h => pv_77_89 i M h)
theorem pv_44_89 (i : Nat) (M : am_M) (h : pt_44_89 i = some M) : am_VM am_prog M := pt_or (show (bif _ then _ else _) = some M from h) (fun h => pv_44_66 i M h) (fun h => pv_66_89 i M h)
theorem pv_0_89 (i : Nat) (M : am_M) (h : pt_0_89 i = some M) : am_VM am_prog M := pt_or (show (bif _ then _ else _) = some M from h) (fun h => pv_0_44 i M h) (fun h => pv_44_89 i M h)
theorem pv_89_91 (i : Nat) (M : am_M) (h : pt_89_91 i = some M) : am_VM am_prog M := pt_or (show (bif _ then _ else _) = some M from h) (fun h => by cases h; exact vX5_leastLike) (fun h => by cases h; exact vX5_likeOfAll)
theorem pv_92_94 (i : Nat) (M : am_M) (h : pt_92_94 i = some M) : am_VM am_prog M := pt_or (show (bif _ then _ else _) = some M from h) (fun h => by cases h; exact vX5_fansAmong) (fun h => by cases h; exact vX5_popularAmong)
theorem pv_91_94 (i : Nat) (M : am_M) (h : pt_91_94 i = some M) : am_VM am_prog M := pt_or (show (bif _ then _ else _) = some M from h) (fun h => by cases h; exact vX5_subjectOfPeace) (fun h => pv_92_94 i M h)
theorem pv_89_94 (i : Nat) (M : am_M) (h : pt_89_94 i = some M) : am_VM am_prog M := pt_or (show (bif _ then _ else _) = some M from h) (fun h => pv_89_91 i M h) (fun h => pv_91_94 i M h)
theorem pv_95_97 (i : Nat) (M : am_M) (h : pt_95_97 i = some M) : am_VM am_prog M := pt_or (show (bif _ then _ else _) = some M from h) (fun h => by cases h; exact vX6_readsInto) (fun h => by cases h; exact vX6_readsPart)
theorem pv_94_97 (i : Nat) (M : am_M) (h : pt_94_97 i = some M) : am_VM am_prog M := pt_or (show (bif _ then _ else _) = some M from h) (fun h => by cases h; exact vX6_init) (fun h => pv_95_97 i M h)
theorem pv_98_100 (i : Nat) (M : am_M) (h : pt_98_100 i = some M) : am_VM am_prog M := pt_or (show (bif _ then _ else _) = some M from h) (fun h => by cases h; exact vX6_readsOdds) (fun h => by cases h; exact vX6_readsVoice)
theorem pv_97_100 (i : Nat) (M : am_M) (h : pt_97_100 i = some M) : am_VM am_prog M := pt_or (show (bif _ then _ else _) = some M from h) (fun h => by cases h; exact vX6_readsNew) (fun h => pv_98_100 i M h)
theorem pv_94_100 (i : Nat) (M : am_M) (h : pt_94_100 i = some M) : am_VM am_prog M := pt_or (show (bif _ then _ else _) = some M from h) (fun h => pv_94_97 i M h) (fun h => pv_97_100 i M h)
theorem pv_89_100 (i : Nat) (M : am_M) (h : pt_89_100 i = some M) : am_VM am_prog M := pt_or (show (bif _ then _ else _) = some M from h) (fun h => pv_89_94 i M h) (fun h => pv_94_100 i M h)
theorem pv_100_102 (i : Nat) (M : am_M) (h : pt_100_102 i = some M) : am_VM am_prog M := pt_or (show (bif _ then _ else _) = some M from h) (fun h => by cases h; exact vX6_readsRow) (fun h => by cases h; exact vX6_readsPerson)
theorem pv_103_105 (i : Nat) (M : am_M) (h : pt_103_105 i = some M) : am_VM am_prog M := pt_or (show (bif _ then _ else _) = some M from h) (fun h => by cases h; exact vX6_readsSet) (fun h => by cases h; exact vX6_readsFlaw)
theorem pv_102_105 (i : Nat) (M : am_M) (h : pt_102_105 i = some M) : am_VM am_prog M := pt_or (show (bif _ then _ else _) = some M from h) (fun h => by cases h; exact vX6_readsLikes) (fun h => pv_103_105 i M h)
theorem pv_100_105 (i : Nat) (M : am_M) (h : pt_100_105 i = some M) : am_VM am_prog M := pt_or (show (bif _ then _ else _) = some M from h) (fun h => pv_100_102 i M h) (fun h => pv_102_105 i M h)
theorem pv_106_108 (i : Nat) (M : am_M) (h : pt_106_108 i = some M) : am_VM am_prog M := pt_or (show (bif _ then _ else _) = some M from h) (fun h => by cases h; exact vX7_lay) (fun h => by cases h; exact vX7_hasRun)
theorem pv_105_108 (i : Nat) (M : am_M) (h : pt_105_108 i = some M) : am_VM am_prog M := pt_or (show (bif _ then _ else _) = some M from h) (fun h => by cases h; exact vX7_init) (fun h => pv_106_108 i M h)
theorem pv_109_111 (i : Nat) (M : am_M) (h : pt_109_111 i = some M) : am_VM am_prog M := pt_or (show (bif _ then _ else _) = some M from h) (fun h => by cases h; exact vX8_init) (fun h => by cases h; exact vX8_status)
theorem pv_108_111 (i : Nat) (M : am_M) (h : pt_108_111 i = some M) : am_VM am_prog M := pt_or (show (bif _ then _ else _) = some M from h) (fun h => by cases h; exact vX7_put) (fun h => pv_109_111 i M h)
theorem pv_105_111 (i : Nat) (M : am_M) (h : pt_105_111 i = some M) : am_VM am_prog M := pt_or (show (bif _ then _ else _) = some M from h) (fun h => pv_105_108 i M h) (fun h => pv_108_111 i M h)
theorem pv_100_111 (i : Nat) (M : am_M) (h : pt_100_111 i = some M) : am_VM am_prog M := pt_or (show (bif _ then _ else _) = some M from h) (fun h => pv_100_105 i M h) (fun h => pv_105_111 i M h)
theorem pv_89_111 (i : Nat) (M : am_M) (h : pt_89_111 i = some M) : am_VM am_prog M := pt_or (show (bif _ then _ else _) = some M from h) (fun h => pv_89_100 i M h) (fun h => pv_100_111 i M h)
theorem pv_111_113 (i : Nat) (M : am_M) (h : pt_111_113 i = some M) : am_VM am_prog M := pt_or (show (bif _ then _ else _) = some M from h) (fun h => by cases h; exact vX8_top) (fun h => by cases h; exact vX8_bottom)
theorem pv_114_116 (i : Nat) (M : am_M) (h : pt_114_116 i = some M) : am_VM am_prog M := pt_or (show (bif _ then _ else _) = some M from h) (fun h => by cases h; exact vX8_write) (fun h => by cases h; exact vX8_read)
theorem pv_113_116 (i : Nat) (M : am_M) (h : pt_113_116 i = some M) : am_VM am_prog M := pt_or (show (bif _ then _ else _) = some M from h) (fun h => by cases h; exact vX8_tray) (fun h => pv_114_116 i M h)
theorem pv_111_116 (i : Nat) (M : am_M) (h : pt_111_116 i = some M) : am_VM am_prog M := pt_or (show (bif _ then _ else _) = some M from h) (fun h => pv_111_113 i M h) (fun h => pv_113_116 i M h)
theorem pv_117_119 (i : Nat) (M : am_M) (h : pt_117_119 i = some M) : am_VM am_prog M := pt_or (show (bif _ then _ else _) = some M from h) (fun h => by cases h; exact vX8_isTray) (fun h => by cases h; exact vX8_placeStatus)
theorem pv_116_119 (i : Nat) (M : am_M) (h : pt_116_119 i = some M) : am_VM am_prog M := pt_or (show (bif _ then _ else _) = some M from h) (fun h => by cases h; exact vX8_pour) (fun h => pv_117_119 i M h)
theorem pv_120_122 (i : Nat) (M : am_M) (h : pt_120_122 i = some M) : am_VM am_prog M := pt_or (show (bif _ then _ else _) = some M from h) (fun h => by cases h; exact vX8_feed) (fun h => by cases h; exact vX8_feedFour)
theorem pv_119_122 (i : Nat) (M : am_M) (h : pt_119_122 i = some M) : am_VM am_prog M := pt_or (show (bif _ then _ else _) = some M from h) (fun h => by cases h; exact vX8_runStatus) (fun h => pv_120_122 i M h)
theorem pv_116_122 (i : Nat) (M : am_M) (h : pt_116_122 i = some M) : am_VM am_prog M := pt_or (show (bif _ then _ else _) = some M from h) (fun h => pv_116_119 i M h) (fun h => pv_119_122 i M h)
theorem pv_111_122 (i : Nat) (M : am_M) (h : pt_111_122 i = some M) : am_VM am_prog M := pt_or (show (bif _ then _ else _) = some M from h) (fun h => pv_111_116 i M h) (fun h => pv_116_122 i M h)
theorem pv_122_124 (i : Nat) (M : am_M) (h : pt_122_124 i = some M) : am_VM am_prog M := pt_or (show (bif _ then _ else _) = some M from h) (fun h => by cases h; exact vX8_town) (fun h => by cases h; exact vX8_dials)
theorem pv_125_127 (i : Nat) (M : am_M) (h : pt_125_127 i = some M) : am_VM am_prog M := pt_or (show (bif _ then _ else _) = some M from h) (fun h => by cases h; exact vX8_many) (fun h => by cases h; exact vX8_voice)
theorem pv_124_127 (i : Nat) (M : am_M) (h : pt_124_127 i = some M) : am_VM am_prog M := pt_or (show (bif _ then _ else _) = some M from h) (fun h => by cases h; exact vX8_fault) (fun h => pv_125_127 i M h)
theorem pv_122_127 (i : Nat) (M : am_M) (h : pt_122_127 i = some M) : am_VM am_prog M := pt_or (show (bif _ then _ else _) = some M from h) (fun h => pv_122_124 i M h) (fun h => pv_124_127 i M h)
theorem pv_128_130 (i : Nat) (M : am_M) (h : pt_128_130 i = some M) : am_VM am_prog M := pt_or (show (bif _ then _ else _) = some M from h) (fun h => by cases h; exact vX8_person) (fun h => by cases h; exact vX8_like)
theorem pv_127_130 (i : Nat) (M : am_M) (h : pt_127_130 i = some M) : am_VM am_prog M := pt_or (show (bif _ then _ else _) = some M from h) (fun h => by cases h; exact vX8_row) (fun h => pv_128_130 i M h)
theorem pv_131_133 (i : Nat) (M : am_M) (h : pt_131_133 i = some M) : am_VM am_prog M := pt_or (show (bif _ then _ else _) = some M from h) (fun h => by cases h; exact vX8_hour) (fun h => by cases h; exact vX8_year)
theorem pv_130_133 (i : Nat) (M : am_M) (h : pt_130_133 i = some M) : am_VM am_prog M := pt_or (show (bif _ then _ else _) = some M from h) (fun h => by cases h; exact vX8_set) (fun h => pv_131_133 i M h)
theorem pv_127_133 (i : Nat) (M : am_M) (h : pt_127_133 i = some M) : am_VM am_prog M := pt_or (show (bif _ then _ else _) = some M from h) (fun h => pv_127_130 i M h) (fun h => pv_130_133 i M h)
theorem pv_122_133 (i : Nat) (M : am_M) (h : pt_122_133 i = some M) : am_VM am_prog M := pt_or (show (bif _ then _ else _) = some M from h) (fun h => pv_122_127 i M h) (fun h => pv_127_133 i M h)
theorem pv_111_133 (i : Nat) (M : am_M) (h : pt_111_133 i = some M) : am_VM am_prog M := pt_or (show (bif _ then _ else _) = some M from h) (fun h => pv_111_122 i M h) (fun h => pv_122_133 i M h)
theorem pv_89_133 (i : Nat) (M : am_M) (h : pt_89_133 i = some M) : am_VM am_prog M := pt_or (show (bif _ then _ else _) = some M from h) (fun h => pv_89_111 i M h) (fun h => pv_111_133 i M h)
theorem pv_133_135 (i : Nat) (M : am_M) (h : pt_133_135 i = some M) : am_VM am_prog M := pt_or (show (bif _ then _ else _) = some M from h) (fun h => by cases h; exact vX8_sell) (fun h => by cases h; exact vX8_give)
theorem pv_136_138 (i : Nat) (M : am_M) (h : pt_136_138 i = some M) : am_VM am_prog M := pt_or (show (bif _ then _ else _) = some M from h) (fun h => by cases h; exact vX8_cold) (fun h => by cases h; exact vX8_flaw)
theorem pv_135_138 (i : Nat) (M : am_M) (h : pt_135_138 i = some M) : am_VM am_prog M := pt_or (show (bif _ then _ else _) = some M from h) (fun h => by cases h; exact vX8_dump) (fun h => pv_136_138 i M h)
theorem pv_133_138 (i : Nat) (M : am_M) (h : pt_133_138 i = some M) : am_VM am_prog M := pt_or (show (bif _ then _ else _) = some M from h) (fun h => pv_133_135 i M h) (fun h => pv_135_138 i M h)
theorem pv_139_141 (i : Nat) (M : am_M) (h : pt_139_141 i = some M) : am_VM am_prog M := pt_or (show (bif _ then _ else _) = some M from h) (fun h => by cases h; exact vX8_teach) (fun h => by cases h; exact vX8_rule)
theorem pv_138_141 (i : Nat) (M : am_M) (h : pt_138_141 i = some M) : am_VM am_prog M := pt_or (show (bif _ then _ else _) = some M from h) (fun h => by cases h; exact vX8_please) (fun h => pv_139_141 i M h)
theorem pv_142_144 (i : Nat) (M : am_M) (h : pt_142_144 i = some M) : am_VM am_prog M := pt_or (show (bif _ then _ else _) = some M from h) (fun h => by cases h; exact vX8_hearsIn) (fun h => by cases h; exact vX8_gladIn)
theorem pv_141_144 (i : Nat) (M : am_M) (h : pt_141_144 i = some M) : am_VM am_prog M := pt_or (show (bif _ then _ else _) = some M from h) (fun h => by cases h; exact vX8_saysIn) (fun h => pv_142_144 i M h)
theorem pv_138_144 (i : Nat) (M : am_M) (h : pt_138_144 i = some M) : am_VM am_prog M := pt_or (show (bif _ then _ else _) = some M from h) (fun h => pv_138_141 i M h) (fun h => pv_141_144 i M h)
theorem pv_133_144 (i : Nat) (M : am_M) (h : pt_133_144 i = some M) : am_VM am_prog M := pt_or (show (bif _ then _ else _) = some M from h) (fun h => pv_133_138 i M h) (fun h => pv_138_144 i M h)
theorem pv_144_146 (i : Nat) (M : am_M) (h : pt_144_146 i = some M) : am_VM am_prog M := pt_or (show (bif _ then _ else _) = some M from h) (fun h => by cases h; exact vX8_gladBy) (fun h => by cases h; exact vX8_lonelyIn)
theorem pv_147_149 (i : Nat) (M : am_M) (h : pt_147_149 i = some M) : am_VM am_prog M := pt_or (show (bif _ then _ else _) = some M from h) (fun h => by cases h; exact vX8_crowd) (fun h => by cases h; exact vX8_worth)
theorem pv_146_149 (i : Nat) (M : am_M) (h : pt_146_149 i = some M) : am_VM am_prog M := pt_or (show (bif _ then _ else _) = some M from h) (fun h => by cases h; exact vX8_diesIn) (fun h => pv_147_149 i M h)
theorem pv_144_149 (i : Nat) (M : am_M) (h : pt_144_149 i = some M) : am_VM am_prog M := pt_or (show (bif _ then _ else _) = some M from h) (fun h => pv_144_146 i M h) (fun h => pv_146_149 i M h)
theorem pv_150_152 (i : Nat) (M : am_M) (h : pt_150_152 i = some M) : am_VM am_prog M := pt_or (show (bif _ then _ else _) = some M from h) (fun h => by cases h; exact vX8_bestSet) (fun h => by cases h; exact vX8_trade)
theorem pv_149_152 (i : Nat) (M : am_M) (h : pt_149_152 i = some M) : am_VM am_prog M := pt_or (show (bif _ then _ else _) = some M from h) (fun h => by cases h; exact vX8_best) (fun h => pv_150_152 i M h)
theorem pv_153_155 (i : Nat) (M : am_M) (h : pt_153_155 i = some M) : am_VM am_prog M := pt_or (show (bif _ then _ else _) = some M from h) (fun h => by cases h; exact vX8_envies) (fun h => by cases h; exact vX8_pick)
theorem pv_152_155 (i : Nat) (M : am_M) (h : pt_152_155 i = some M) : am_VM am_prog M := pt_or (show (bif _ then _ else _) = some M from h) (fun h => by cases h; exact vX8_trades) (fun h => pv_153_155 i M h)
theorem pv_149_155 (i : Nat) (M : am_M) (h : pt_149_155 i = some M) : am_VM am_prog M := pt_or (show (bif _ then _ else _) = some M from h) (fun h => pv_149_152 i M h) (fun h => pv_152_155 i M h)
theorem pv_144_155 (i : Nat) (M : am_M) (h : pt_144_155 i = some M) : am_VM am_prog M := pt_or (show (bif _ then _ else _) = some M from h) (fun h => pv_144_149 i M h) (fun h => pv_149_155 i M h)
theorem pv_133_155 (i : Nat) (M : am_M) (h : pt_133_155 i = some M) : am_VM am_prog M := pt_or (show (bif _ then _ else _) = some M from h) (fun h => pv_133_144 i M h) (fun h => pv_144_155 i M h)
theorem pv_155_157 (i : Nat) (M : am_M) (h : pt_155_157 i = some M) : am_VM am_prog M := pt_or (show (bif _ then _ else _) = some M from h) (fun h => by cases h; exact vX8_isSetOfPeople) (fun h => by cases h; exact vX8_isRowOfPeople)
theorem pv_158_160 (i : Nat) (M : am_M) (h : pt_158_160 i = some M) : am_VM am_prog M := pt_or (show (bif _ then _ else _) = some M from h) (fun h => by cases h; exact vX8_ask) (fun h => by cases h; exact vX8_twosStatus)
theorem pv_157_160 (i : Nat) (M : am_M) (h : pt_157_160 i = some M) : am_VM am_prog M := pt_or (show (bif _ then _ else _) = some M from h) (fun h => by cases h; exact vX8_fits) (fun h => pv_158_160 i M h)
theorem pv_155_160 (i : Nat) (M : am_M) (h : pt_155_160 i = some M) : am_VM am_prog M := pt_or (show (bif _ then _ else _) = some M from h) (fun h => pv_155_157 i M h) (fun h => pv_157_160 i M h)
theorem pv_161_163 (i : Nat) (M : am_M) (h : pt_161_163 i = some M) : am_VM am_prog M := pt_or (show (bif _ then _ else _) = some M from h) (fun h => by cases h; exact vX8_peaceBy) (fun h => by cases h; exact vX8_peaceStatus)
theorem pv_160_163 (i : Nat) (M : am_M) (h : pt_160_163 i = some M) : am_VM am_prog M := pt_or (show (bif _ then _ else _) = some M from h) (fun h => by cases h; exact vX8_peace) (fun h => pv_161_163 i M h)
theorem pv_164_166 (i : Nat) (M : am_M) (h : pt_164_166 i = some M) : am_VM am_prog M := pt_or (show (bif _ then _ else _) = some M from h) (fun h => by cases h; exact vX8_popularBy) (fun h => by cases h; exact vX8_popularStatus)
theorem pv_163_166 (i : Nat) (M : am_M) (h : pt_163_166 i = some M) : am_VM am_prog M := pt_or (show (bif _ then _ else _) = some M from h) (fun h => by cases h; exact vX8_popular) (fun h => pv_164_166 i M h)
theorem pv_160_166 (i : Nat) (M : am_M) (h : pt_160_166 i = some M) : am_VM am_prog M := pt_or (show (bif _ then _ else _) = some M from h) (fun h => pv_160_163 i M h) (fun h => pv_163_166 i M h)
theorem pv_155_166 (i : Nat) (M : am_M) (h : pt_155_166 i = some M) : am_VM am_prog M := pt_or (show (bif _ then _ else _) = some M from h) (fun h => pv_155_160 i M h) (fun h => pv_160_166 i M h)
theorem pv_167_169 (i : Nat) (M : am_M) (h : pt_167_169 i = some M) : am_VM am_prog M := pt_or (show (bif _ then _ else _) = some M from h) (fun h => by cases h; exact vX8_moveOf) (fun h => by cases h; exact vX8_gameStatus)
theorem pv_166_169 (i : Nat) (M : am_M) (h : pt_166_169 i = some M) : am_VM am_prog M := pt_or (show (bif _ then _ else _) = some M from h) (fun h => by cases h; exact vX8_game) (fun h => pv_167_169 i M h)
theorem pv_170_172 (i : Nat) (M : am_M) (h : pt_170_172 i = some M) : am_VM am_prog M := pt_or (show (bif _ then _ else _) = some M from h) (fun h => by cases h; exact vX8_warm) (fun h => by cases h; exact vX8_power)
theorem pv_169_172 (i : Nat) (M : am_M) (h : pt_169_172 i = some M) : am_VM am_prog M := pt_or (show (bif _ then _ else _) = some M from h) (fun h => by cases h; exact vX8_alive) (fun h => pv_170_172 i M h)
theorem pv_166_172 (i : Nat) (M : am_M) (h : pt_166_172 i = some M) : am_VM am_prog M := pt_or (show (bif _ then _ else _) = some M from h) (fun h => pv_166_169 i M h) (fun h => pv_169_172 i M h)
theorem pv_173_175 (i : Nat) (M : am_M) (h : pt_173_175 i = some M) : am_VM am_prog M := pt_or (show (bif _ then _ else _) = some M from h) (fun h => by cases h; exact vX8_live) (fun h => by cases h; exact vX8_lived)
theorem pv_172_175 (i : Nat) (M : am_M) (h : pt_172_175 i = some M) : am_VM am_prog M := pt_or (show (bif _ then _ else _) = some M from h) (fun h => by cases h; exact vX8_tell) (fun h => pv_173_175 i M h)
theorem pv_176_178 (i : Nat) (M : am_M) (h : pt_176_178 i = some M) : am_VM am_prog M := pt_or (show (bif _ then _ else _) = some M from h) (fun h => by cases h; exact vX8_mark) (fun h => by cases h; exact vX8_back)
theorem pv_175_178 (i : Nat) (M : am_M) (h : pt_175_178 i = some M) : am_VM am_prog M := pt_or (show (bif _ then _ else _) = some M from h) (fun h => by cases h; exact vX8_mean) (fun h => pv_176_178 i M h)
theorem pv_172_178 (i : Nat) (M : am_M) (h : pt_172_178 i = some M) : am_VM am_prog M := pt_or (show (bif _ then _ else _) = some M from h) (fun h => pv_172_175 i M h) (fun h => pv_175_178 i M h)
theorem pv_166_178 (i : Nat) (M : am_M) (h : pt_166_178 i = some M) : am_VM am_prog M := pt_or (show (bif _ then _ else _) = some M from h) (fun h => pv_166_172 i M h) (fun h => pv_172_178 i M h)
theorem pv_155_178 (i : Nat) (M : am_M) (h : pt_155_178 i = some M) : am_VM am_prog M := pt_or (show (bif _ then _ else _) = some M from h) (fun h => pv_155_166 i M h) (fun h => pv_166_178 i M h)
theorem pv_133_178 (i : Nat) (M : am_M) (h : pt_133_178 i = some M) : am_VM am_prog M := pt_or (show (bif _ then _ else _) = some M from h) (fun h => pv_133_155 i M h) (fun h => pv_155_178 i M h)
theorem pv_89_178 (i : Nat) (M : am_M) (h : pt_89_178 i = some M) : am_VM am_prog M := pt_or (show (bif _ then _ else _) = some M from h) (fun h => pv_89_133 i M h) (fun h => pv_133_178 i M h)
theorem pv_0_178 (i : Nat) (M : am_M) (h : pt_0_178 i = some M) : am_VM am_prog M := pt_or (show (bif _ then _ else _) = some M from h) (fun h => pv_0_89 i M h) (fun h => pv_89_178 i M h)
theorem pv_178_180 (i : Nat) (M : am_M) (h : pt_178_180 i = some M) : am_VM am_prog M := pt_or (show (bif _ then _ else _) = some M from h) (fun h => by cases h; exact vX8_has) (fun h => by cases h; exact vX8_answer)
theorem pv_181_183 (i : Nat) (M : am_M) (h : pt_181_183 i = some M) : am_VM am_prog M := pt_or (show (bif _ then _ else _) = some M from h) (fun h => by cases h; exact vX8_refuse) (fun h => by cases h; exact vX8_agree)
theorem pv_180_183 (i : Nat) (M : am_M) (h : pt_180_183 i = some M) : am_VM am_prog M := pt_or (show (bif _ then _ else _) = some M from h) (fun h => by cases h; exact vX8_answerIfAny) (fun h => pv_181_183 i M h)
theorem pv_178_183 (i : Nat) (M : am_M) (h : pt_178_183 i = some M) : am_VM am_prog M := pt_or (show (bif _ then _ else _) = some M from h) (fun h => pv_178_180 i M h) (fun h => pv_180_183 i M h)
theorem pv_184_186 (i : Nat) (M : am_M) (h : pt_184_186 i = some M) : am_VM am_prog M := pt_or (show (bif _ then _ else _) = some M from h) (fun h => by cases h; exact vX9_init) (fun h => by cases h; exact vX9_status)
theorem pv_183_186 (i : Nat) (M : am_M) (h : pt_183_186 i = some M) : am_VM am_prog M := pt_or (show (bif _ then _ else _) = some M from h) (fun h => by cases h; exact vX8_deny) (fun h => pv_184_186 i M h)
theorem pv_187_189 (i : Nat) (M : am_M) (h : pt_187_189 i = some M) : am_VM am_prog M := pt_or (show (bif _ then _ else _) = some M from h) (fun h => by cases h; exact vX9_bottom) (fun h => by cases h; exact vX9_refuse)
theorem pv_186_189 (i : Nat) (M : am_M) (h : pt_186_189 i = some M) : am_VM am_prog M := pt_or (show (bif _ then _ else _) = some M from h) (fun h => by cases h; exact vX9_top) (fun h => pv_187_189 i M h)
theorem pv_183_189 (i : Nat) (M : am_M) (h : pt_183_189 i = some M) : am_VM am_prog M := pt_or (show (bif _ then _ else _) = some M from h) (fun h => pv_183_186 i M h) (fun h => pv_186_189 i M h)
theorem pv_178_189 (i : Nat) (M : am_M) (h : pt_178_189 i = some M) : am_VM am_prog M := pt_or (show (bif _ then _ else _) = some M from h) (fun h => pv_178_183 i M h) (fun h => pv_183_189 i M h)
theorem pv_189_191 (i : Nat) (M : am_M) (h : pt_189_191 i = some M) : am_VM am_prog M := pt_or (show (bif _ then _ else _) = some M from h) (fun h => by cases h; exact vX9_no) (fun h => by cases h; exact vX9_isIn)
theorem pv_192_194 (i : Nat) (M : am_M) (h : pt_192_194 i = some M) : am_VM am_prog M := pt_or (show (bif _ then _ else _) = some M from h) (fun h => by cases h; exact vX9_cut) (fun h => by cases h; exact vX9_tray)
theorem pv_191_194 (i : Nat) (M : am_M) (h : pt_191_194 i = some M) : am_VM am_prog M := pt_or (show (bif _ then _ else _) = some M from h) (fun h => by cases h; exact vX9_fraction) (fun h => pv_192_194 i M h)
theorem pv_189_194 (i : Nat) (M : am_M) (h : pt_189_194 i = some M) : am_VM am_prog M := pt_or (show (bif _ then _ else _) = some M from h) (fun h => pv_189_191 i M h) (fun h => pv_191_194 i M h)
theorem pv_195_197 (i : Nat) (M : am_M) (h : pt_195_197 i = some M) : am_VM am_prog M := pt_or (show (bif _ then _ else _) = some M from h) (fun h => by cases h; exact vX9_placed) (fun h => by cases h; exact vX9_write)
theorem pv_194_197 (i : Nat) (M : am_M) (h : pt_194_197 i = some M) : am_VM am_prog M := pt_or (show (bif _ then _ else _) = some M from h) (fun h => by cases h; exact vX9_trayed) (fun h => pv_195_197 i M h)
theorem pv_198_200 (i : Nat) (M : am_M) (h : pt_198_200 i = some M) : am_VM am_prog M := pt_or (show (bif _ then _ else _) = some M from h) (fun h => by cases h; exact vX9_pour) (fun h => by cases h; exact vX9_numberOf)
theorem pv_197_200 (i : Nat) (M : am_M) (h : pt_197_200 i = some M) : am_VM am_prog M := pt_or (show (bif _ then _ else _) = some M from h) (fun h => by cases h; exact vX9_read) (fun h => pv_198_200 i M h)
theorem pv_194_200 (i : Nat) (M : am_M) (h : pt_194_200 i = some M) : am_VM am_prog M := pt_or (show (bif _ then _ else _) = some M from h) (fun h => pv_194_197 i M h) (fun h => pv_197_200 i M h)
theorem pv_189_200 (i : Nat) (M : am_M) (h : pt_189_200 i = some M) : am_VM am_prog M := pt_or (show (bif _ then _ else _) = some M from h) (fun h => pv_189_194 i M h) (fun h => pv_194_200 i M h)
theorem pv_178_200 (i : Nat) (M : am_M) (h : pt_178_200 i = some M) : am_VM am_prog M := pt_or (show (bif _ then _ else _) = some M from h) (fun h => pv_178_189 i M h) (fun h => pv_189_200 i M h)
theorem pv_200_202 (i : Nat) (M : am_M) (h : pt_200_202 i = some M) : am_VM am_prog M := pt_or (show (bif _ then _ else _) = some M from h) (fun h => by cases h; exact vX9_isTray) (fun h => by cases h; exact vX9_has)
theorem pv_203_205 (i : Nat) (M : am_M) (h : pt_203_205 i = some M) : am_VM am_prog M := pt_or (show (bif _ then _ else _) = some M from h) (fun h => by cases h; exact vX9_look2) (fun h => by cases h; exact vX9_isLetter)
theorem pv_202_205 (i : Nat) (M : am_M) (h : pt_202_205 i = some M) : am_VM am_prog M := pt_or (show (bif _ then _ else _) = some M from h) (fun h => by cases h; exact vX9_sizeOf) (fun h => pv_203_205 i M h)
theorem pv_200_205 (i : Nat) (M : am_M) (h : pt_200_205 i = some M) : am_VM am_prog M := pt_or (show (bif _ then _ else _) = some M from h) (fun h => pv_200_202 i M h) (fun h => pv_202_205 i M h)
theorem pv_206_208 (i : Nat) (M : am_M) (h : pt_206_208 i = some M) : am_VM am_prog M := pt_or (show (bif _ then _ else _) = some M from h) (fun h => by cases h; exact vX9_isSignByte) (fun h => by cases h; exact vX9_advance)
theorem pv_205_208 (i : Nat) (M : am_M) (h : pt_205_208 i = some M) : am_VM am_prog M := pt_or (show (bif _ then _ else _) = some M from h) (fun h => by cases h; exact vX9_isDigit) (fun h => pv_206_208 i M h)
theorem pv_209_211 (i : Nat) (M : am_M) (h : pt_209_211 i = some M) : am_VM am_prog M := pt_or (show (bif _ then _ else _) = some M from h) (fun h => by cases h; exact vX9_spelled) (fun h => by cases h; exact vX9_isWord)
theorem pv_208_211 (i : Nat) (M : am_M) (h : pt_208_211 i = some M) : am_VM am_prog M := pt_or (show (bif _ then _ else _) = some M from h) (fun h => by cases h; exact vX9_isSign) (fun h => pv_209_211 i M h)
theorem pv_205_211 (i : Nat) (M : am_M) (h : pt_205_211 i = some M) : am_VM am_prog M := pt_or (show (bif _ then _ else _) = some M from h) (fun h => pv_205_208 i M h) (fun h => pv_208_211 i M h)
theorem pv_200_211 (i : Nat) (M : am_M) (h : pt_200_211 i = some M) : am_VM am_prog M := pt_or (show (bif _ then _ else _) = some M from h) (fun h => pv_200_205 i M h) (fun h => pv_205_211 i M h)
theorem pv_211_213 (i : Nat) (M : am_M) (h : pt_211_213 i = some M) : am_VM am_prog M := pt_or (show (bif _ then _ else _) = some M from h) (fun h => by cases h; exact vX9_isOdds) (fun h => by cases h; exact vX9_isSubject)
theorem pv_214_216 (i : Nat) (M : am_M) (h : pt_214_216 i = some M) : am_VM am_prog M := pt_or (show (bif _ then _ else _) = some M from h) (fun h => by cases h; exact vX9_isAge) (fun h => by cases h; exact vX9_isLife)
theorem pv_213_216 (i : Nat) (M : am_M) (h : pt_213_216 i = some M) : am_VM am_prog M := pt_or (show (bif _ then _ else _) = some M from h) (fun h => by cases h; exact vX9_isVoice) (fun h => pv_214_216 i M h)
theorem pv_211_216 (i : Nat) (M : am_M) (h : pt_211_216 i = some M) : am_VM am_prog M := pt_or (show (bif _ then _ else _) = some M from h) (fun h => pv_211_213 i M h) (fun h => pv_213_216 i M h)
theorem pv_217_219 (i : Nat) (M : am_M) (h : pt_217_219 i = some M) : am_VM am_prog M := pt_or (show (bif _ then _ else _) = some M from h) (fun h => by cases h; exact vX9_isPerson) (fun h => by cases h; exact vX9_isCoins)
theorem pv_216_219 (i : Nat) (M : am_M) (h : pt_216_219 i = some M) : am_VM am_prog M := pt_or (show (bif _ then _ else _) = some M from h) (fun h => by cases h; exact vX9_isSays) (fun h => pv_217_219 i M h)
theorem pv_220_222 (i : Nat) (M : am_M) (h : pt_220_222 i = some M) : am_VM am_prog M := pt_or (show (bif _ then _ else _) = some M from h) (fun h => by cases h; exact vX9_isSet) (fun h => by cases h; exact vX9_isGets)
theorem pv_219_222 (i : Nat) (M : am_M) (h : pt_219_222 i = some M) : am_VM am_prog M := pt_or (show (bif _ then _ else _) = some M from h) (fun h => by cases h; exact vX9_isLikes) (fun h => pv_220_222 i M h)
theorem pv_216_222 (i : Nat) (M : am_M) (h : pt_216_222 i = some M) : am_VM am_prog M := pt_or (show (bif _ then _ else _) = some M from h) (fun h => pv_216_219 i M h) (fun h => pv_219_222 i M h)
theorem pv_211_222 (i : Nat) (M : am_M) (h : pt_211_222 i = some M) : am_VM am_prog M := pt_or (show (bif _ then _ else _) = some M from h) (fun h => pv_211_216 i M h) (fun h => pv_216_222 i M h)
theorem pv_200_222 (i : Nat) (M : am_M) (h : pt_200_222 i = some M) : am_VM am_prog M := pt_or (show (bif _ then _ else _) = some M from h) (fun h => pv_200_211 i M h) (fun h => pv_211_222 i M h)
theorem pv_178_222 (i : Nat) (M : am_M) (h : pt_178_222 i = some M) : am_VM am_prog M := pt_or (show (bif _ then _ else _) = some M from h) (fun h => pv_178_200 i M h) (fun h => pv_200_222 i M h)
theorem pv_222_224 (i : Nat) (M : am_M) (h : pt_222_224 i = some M) : am_VM am_prog M := pt_or (show (bif _ then _ else _) = some M from h) (fun h => by cases h; exact vX9_isFlaw) (fun h => by cases h; exact vX9_isFor)
theorem pv_225_227 (i : Nat) (M : am_M) (h : pt_225_227 i = some M) : am_VM am_prog M := pt_or (show (bif _ then _ else _) = some M from h) (fun h => by cases h; exact vX9_testWord) (fun h => by cases h; exact vX9_isEnd)
theorem pv_224_227 (i : Nat) (M : am_M) (h : pt_224_227 i = some M) : am_VM am_prog M := pt_or (show (bif _ then _ else _) = some M from h) (fun h => by cases h; exact vX9_stepWord) (fun h => pv_225_227 i M h)
theorem pv_222_227 (i : Nat) (M : am_M) (h : pt_222_227 i = some M) : am_VM am_prog M := pt_or (show (bif _ then _ else _) = some M from h) (fun h => pv_222_224 i M h) (fun h => pv_224_227 i M h)
theorem pv_228_230 (i : Nat) (M : am_M) (h : pt_228_230 i = some M) : am_VM am_prog M := pt_or (show (bif _ then _ else _) = some M from h) (fun h => by cases h; exact vX9_isName) (fun h => by cases h; exact vX9_fail)
theorem pv_227_230 (i : Nat) (M : am_M) (h : pt_227_230 i = some M) : am_VM am_prog M := pt_or (show (bif _ then _ else _) = some M from h) (fun h => by cases h; exact vX9_isKept) (fun h => pv_228_230 i M h)
theorem pv_231_233 (i : Nat) (M : am_M) (h : pt_231_233 i = some M) : am_VM am_prog M := pt_or (show (bif _ then _ else _) = some M from h) (fun h => by cases h; exact vX9_must) (fun h => by cases h; exact vX9_count)
theorem pv_230_233 (i : Nat) (M : am_M) (h : pt_230_233 i = some M) : am_VM am_prog M := pt_or (show (bif _ then _ else _) = some M from h) (fun h => by cases h; exact vX9_amiss) (fun h => pv_231_233 i M h)
theorem pv_227_233 (i : Nat) (M : am_M) (h : pt_227_233 i = some M) : am_VM am_prog M := pt_or (show (bif _ then _ else _) = some M from h) (fun h => pv_227_230 i M h) (fun h => pv_230_233 i M h)
theorem pv_222_233 (i : Nat) (M : am_M) (h : pt_222_233 i = some M) : am_VM am_prog M := pt_or (show (bif _ then _ else _) = some M from h) (fun h => pv_222_227 i M h) (fun h => pv_227_233 i M h)
theorem pv_233_235 (i : Nat) (M : am_M) (h : pt_233_235 i = some M) : am_VM am_prog M := pt_or (show (bif _ then _ else _) = some M from h) (fun h => by cases h; exact vX9_behindWord) (fun h => by cases h; exact vX9_perhaps)
theorem pv_236_238 (i : Nat) (M : am_M) (h : pt_236_238 i = some M) : am_VM am_prog M := pt_or (show (bif _ then _ else _) = some M from h) (fun h => by cases h; exact vX9_lay) (fun h => by cases h; exact vX9_starts)
theorem pv_235_238 (i : Nat) (M : am_M) (h : pt_235_238 i = some M) : am_VM am_prog M := pt_or (show (bif _ then _ else _) = some M from h) (fun h => by cases h; exact vX9_feed) (fun h => pv_236_238 i M h)
theorem pv_233_238 (i : Nat) (M : am_M) (h : pt_233_238 i = some M) : am_VM am_prog M := pt_or (show (bif _ then _ else _) = some M from h) (fun h => pv_233_235 i M h) (fun h => pv_235_238 i M h)
theorem pv_239_241 (i : Nat) (M : am_M) (h : pt_239_241 i = some M) : am_VM am_prog M := pt_or (show (bif _ then _ else _) = some M from h) (fun h => by cases h; exact vX9_fault) (fun h => by cases h; exact vX9_empties)
theorem pv_238_241 (i : Nat) (M : am_M) (h : pt_238_241 i = some M) : am_VM am_prog M := pt_or (show (bif _ then _ else _) = some M from h) (fun h => by cases h; exact vX9_isWell) (fun h => pv_239_241 i M h)
theorem pv_242_244 (i : Nat) (M : am_M) (h : pt_242_244 i = some M) : am_VM am_prog M := pt_or (show (bif _ then _ else _) = some M from h) (fun h => by cases h; exact vX9_isTaken) (fun h => by cases h; exact vX9_readNew)
theorem pv_241_244 (i : Nat) (M : am_M) (h : pt_241_244 i = some M) : am_VM am_prog M := pt_or (show (bif _ then _ else _) = some M from h) (fun h => by cases h; exact vX9_named) (fun h => pv_242_244 i M h)
theorem pv_238_244 (i : Nat) (M : am_M) (h : pt_238_244 i = some M) : am_VM am_prog M := pt_or (show (bif _ then _ else _) = some M from h) (fun h => pv_238_241 i M h) (fun h => pv_241_244 i M h)
theorem pv_233_244 (i : Nat) (M : am_M) (h : pt_233_244 i = some M) : am_VM am_prog M := pt_or (show (bif _ then _ else _) = some M from h) (fun h => pv_233_238 i M h) (fun h => pv_238_244 i M h)
theorem pv_222_244 (i : Nat) (M : am_M) (h : pt_222_244 i = some M) : am_VM am_prog M := pt_or (show (bif _ then _ else _) = some M from h) (fun h => pv_222_233 i M h) (fun h => pv_233_244 i M h)
theorem pv_244_246 (i : Nat) (M : am_M) (h : pt_244_246 i = some M) : am_VM am_prog M := pt_or (show (bif _ then _ else _) = some M from h) (fun h => by cases h; exact vX9_told) (fun h => by cases h; exact vX9_readTold)
theorem pv_247_249 (i : Nat) (M : am_M) (h : pt_247_249 i = some M) : am_VM am_prog M := pt_or (show (bif _ then _ else _) = some M from h) (fun h => by cases h; exact vX9_readSubject) (fun h => by cases h; exact vX9_readVoice)
theorem pv_246_249 (i : Nat) (M : am_M) (h : pt_246_249 i = some M) : am_VM am_prog M := pt_or (show (bif _ then _ else _) = some M from h) (fun h => by cases h; exact vX9_readOdds) (fun h => pv_247_249 i M h)
theorem pv_244_249 (i : Nat) (M : am_M) (h : pt_244_249 i = some M) : am_VM am_prog M := pt_or (show (bif _ then _ else _) = some M from h) (fun h => pv_244_246 i M h) (fun h => pv_246_249 i M h)
theorem pv_250_252 (i : Nat) (M : am_M) (h : pt_250_252 i = some M) : am_VM am_prog M := pt_or (show (bif _ then _ else _) = some M from h) (fun h => by cases h; exact vX9_readLikes) (fun h => by cases h; exact vX9_readSet)
theorem pv_249_252 (i : Nat) (M : am_M) (h : pt_249_252 i = some M) : am_VM am_prog M := pt_or (show (bif _ then _ else _) = some M from h) (fun h => by cases h; exact vX9_readPerson) (fun h => pv_250_252 i M h)
theorem pv_253_255 (i : Nat) (M : am_M) (h : pt_253_255 i = some M) : am_VM am_prog M := pt_or (show (bif _ then _ else _) = some M from h) (fun h => by cases h; exact vX9_town) (fun h => by cases h; exact vX9_readTest)
theorem pv_252_255 (i : Nat) (M : am_M) (h : pt_252_255 i = some M) : am_VM am_prog M := pt_or (show (bif _ then _ else _) = some M from h) (fun h => by cases h; exact vX9_readPart) (fun h => pv_253_255 i M h)
theorem pv_249_255 (i : Nat) (M : am_M) (h : pt_249_255 i = some M) : am_VM am_prog M := pt_or (show (bif _ then _ else _) = some M from h) (fun h => pv_249_252 i M h) (fun h => pv_252_255 i M h)
theorem pv_244_255 (i : Nat) (M : am_M) (h : pt_244_255 i = some M) : am_VM am_prog M := pt_or (show (bif _ then _ else _) = some M from h) (fun h => pv_244_249 i M h) (fun h => pv_249_255 i M h)
theorem pv_256_258 (i : Nat) (M : am_M) (h : pt_256_258 i = some M) : am_VM am_prog M := pt_or (show (bif _ then _ else _) = some M from h) (fun h => by cases h; exact vX9_readStep) (fun h => by cases h; exact vX9_dials)
theorem pv_255_258 (i : Nat) (M : am_M) (h : pt_255_258 i = some M) : am_VM am_prog M := pt_or (show (bif _ then _ else _) = some M from h) (fun h => by cases h; exact vX9_readRest) (fun h => pv_256_258 i M h)
theorem pv_259_261 (i : Nat) (M : am_M) (h : pt_259_261 i = some M) : am_VM am_prog M := pt_or (show (bif _ then _ else _) = some M from h) (fun h => by cases h; exact vX9_isVoiceAt) (fun h => by cases h; exact vX9_isPersonAt)
theorem pv_258_261 (i : Nat) (M : am_M) (h : pt_258_261 i = some M) : am_VM am_prog M := pt_or (show (bif _ then _ else _) = some M from h) (fun h => by cases h; exact vX9_isSubjectAt) (fun h => pv_259_261 i M h)
theorem pv_255_261 (i : Nat) (M : am_M) (h : pt_255_261 i = some M) : am_VM am_prog M := pt_or (show (bif _ then _ else _) = some M from h) (fun h => pv_255_258 i M h) (fun h => pv_258_261 i M h)
theorem pv_262_264 (i : Nat) (M : am_M) (h : pt_262_264 i = some M) : am_VM am_prog M := pt_or (show (bif _ then _ else _) = some M from h) (fun h => by cases h; exact vX9_ownedBy) (fun h => by cases h; exact vX9_voicesBy)
theorem pv_261_264 (i : Nat) (M : am_M) (h : pt_261_264 i = some M) : am_VM am_prog M := pt_or (show (bif _ then _ else _) = some M from h) (fun h => by cases h; exact vX9_isSetAt) (fun h => pv_262_264 i M h)
theorem pv_265_267 (i : Nat) (M : am_M) (h : pt_265_267 i = some M) : am_VM am_prog M := pt_or (show (bif _ then _ else _) = some M from h) (fun h => by cases h; exact vX9_many) (fun h => by cases h; exact vX9_voice)
theorem pv_264_267 (i : Nat) (M : am_M) (h : pt_264_267 i = some M) : am_VM am_prog M := pt_or (show (bif _ then _ else _) = some M from h) (fun h => by cases h; exact vX9_sumOf) (fun h => pv_265_267 i M h)
theorem pv_261_267 (i : Nat) (M : am_M) (h : pt_261_267 i = some M) : am_VM am_prog M := pt_or (show (bif _ then _ else _) = some M from h) (fun h => pv_261_264 i M h) (fun h => pv_264_267 i M h)
theorem pv_255_267 (i : Nat) (M : am_M) (h : pt_255_267 i = some M) : am_VM am_prog M := pt_or (show (bif _ then _ else _) = some M from h) (fun h => pv_255_261 i M h) (fun h => pv_261_267 i M h)
theorem pv_244_267 (i : Nat) (M : am_M) (h : pt_244_267 i = some M) : am_VM am_prog M := pt_or (show (bif _ then _ else _) = some M from h) (fun h => pv_244_255 i M h) (fun h => pv_255_267 i M h)
theorem pv_222_267 (i : Nat) (M : am_M) (h : pt_222_267 i = some M) : am_VM am_prog M := pt_or (show (bif _ then _ else _) = some M from h) (fun h => pv_222_244 i M h) (fun h => pv_244_267 i M h)
theorem pv_178_267 (i : Nat) (M : am_M) (h : pt_178_267 i = some M) : am_VM am_prog M := pt_or (show (bif _ then _ else _) = some M from h) (fun h => pv_178_222 i M h) (fun h => pv_222_267 i M h)
theorem pv_267_269 (i : Nat) (M : am_M) (h : pt_267_269 i = some M) : am_VM am_prog M := pt_or (show (bif _ then _ else _) = some M from h) (fun h => by cases h; exact vX9_row) (fun h => by cases h; exact vX9_person)
theorem pv_270_272 (i : Nat) (M : am_M) (h : pt_270_272 i = some M) : am_VM am_prog M := pt_or (show (bif _ then _ else _) = some M from h) (fun h => by cases h; exact vX9_like) (fun h => by cases h; exact vX9_set)
theorem pv_269_272 (i : Nat) (M : am_M) (h : pt_269_272 i = some M) : am_VM am_prog M := pt_or (show (bif _ then _ else _) = some M from h) (fun h => by cases h; exact vX9_likeOf) (fun h => pv_270_272 i M h)
theorem pv_267_272 (i : Nat) (M : am_M) (h : pt_267_272 i = some M) : am_VM am_prog M := pt_or (show (bif _ then _ else _) = some M from h) (fun h => pv_267_269 i M h) (fun h => pv_269_272 i M h)
theorem pv_273_275 (i : Nat) (M : am_M) (h : pt_273_275 i = some M) : am_VM am_prog M := pt_or (show (bif _ then _ else _) = some M from h) (fun h => by cases h; exact vX9_said) (fun h => by cases h; exact vX9_heardBy)
theorem pv_272_275 (i : Nat) (M : am_M) (h : pt_272_275 i = some M) : am_VM am_prog M := pt_or (show (bif _ then _ else _) = some M from h) (fun h => by cases h; exact vX9_placeOf) (fun h => pv_273_275 i M h)
theorem pv_276_278 (i : Nat) (M : am_M) (h : pt_276_278 i = some M) : am_VM am_prog M := pt_or (show (bif _ then _ else _) = some M from h) (fun h => by cases h; exact vX9_liked) (fun h => by cases h; exact vX9_goesHour)
theorem pv_275_278 (i : Nat) (M : am_M) (h : pt_275_278 i = some M) : am_VM am_prog M := pt_or (show (bif _ then _ else _) = some M from h) (fun h => by cases h; exact vX9_heard) (fun h => pv_276_278 i M h)
theorem pv_272_278 (i : Nat) (M : am_M) (h : pt_272_278 i = some M) : am_VM am_prog M := pt_or (show (bif _ then _ else _) = some M from h) (fun h => pv_272_275 i M h) (fun h => pv_275_278 i M h)
theorem pv_267_278 (i : Nat) (M : am_M) (h : pt_267_278 i = some M) : am_VM am_prog M := pt_or (show (bif _ then _ else _) = some M from h) (fun h => pv_267_272 i M h) (fun h => pv_272_278 i M h)
theorem pv_278_280 (i : Nat) (M : am_M) (h : pt_278_280 i = some M) : am_VM am_prog M := pt_or (show (bif _ then _ else _) = some M from h) (fun h => by cases h; exact vX9_hour) (fun h => by cases h; exact vX9_goesYear)
theorem pv_281_283 (i : Nat) (M : am_M) (h : pt_281_283 i = some M) : am_VM am_prog M := pt_or (show (bif _ then _ else _) = some M from h) (fun h => by cases h; exact vX9_sells) (fun h => by cases h; exact vX9_sell)
theorem pv_280_283 (i : Nat) (M : am_M) (h : pt_280_283 i = some M) : am_VM am_prog M := pt_or (show (bif _ then _ else _) = some M from h) (fun h => by cases h; exact vX9_year) (fun h => pv_281_283 i M h)
theorem pv_278_283 (i : Nat) (M : am_M) (h : pt_278_283 i = some M) : am_VM am_prog M := pt_or (show (bif _ then _ else _) = some M from h) (fun h => pv_278_280 i M h) (fun h => pv_280_283 i M h)
theorem pv_284_286 (i : Nat) (M : am_M) (h : pt_284_286 i = some M) : am_VM am_prog M := pt_or (show (bif _ then _ else _) = some M from h) (fun h => by cases h; exact vX9_give) (fun h => by cases h; exact vX9_dump)
theorem pv_283_286 (i : Nat) (M : am_M) (h : pt_283_286 i = some M) : am_VM am_prog M := pt_or (show (bif _ then _ else _) = some M from h) (fun h => by cases h; exact vX9_becomes) (fun h => pv_284_286 i M h)
theorem pv_287_289 (i : Nat) (M : am_M) (h : pt_287_289 i = some M) : am_VM am_prog M := pt_or (show (bif _ then _ else _) = some M from h) (fun h => by cases h; exact vX9_cold) (fun h => by cases h; exact vX9_flaw)
theorem pv_286_289 (i : Nat) (M : am_M) (h : pt_286_289 i = some M) : am_VM am_prog M := pt_or (show (bif _ then _ else _) = some M from h) (fun h => by cases h; exact vX9_chills) (fun h => pv_287_289 i M h)
theorem pv_283_289 (i : Nat) (M : am_M) (h : pt_283_289 i = some M) : am_VM am_prog M := pt_or (show (bif _ then _ else _) = some M from h) (fun h => pv_283_286 i M h) (fun h => pv_286_289 i M h)
theorem pv_278_289 (i : Nat) (M : am_M) (h : pt_278_289 i = some M) : am_VM am_prog M := pt_or (show (bif _ then _ else _) = some M from h) (fun h => pv_278_283 i M h) (fun h => pv_283_289 i M h)
theorem pv_267_289 (i : Nat) (M : am_M) (h : pt_267_289 i = some M) : am_VM am_prog M := pt_or (show (bif _ then _ else _) = some M from h) (fun h => pv_267_278 i M h) (fun h => pv_278_289 i M h)
theorem pv_289_291 (i : Nat) (M : am_M) (h : pt_289_291 i = some M) : am_VM am_prog M := pt_or (show (bif _ then _ else _) = some M from h) (fun h => by cases h; exact vX9_please) (fun h => by cases h; exact vX9_teach)
theorem pv_292_294 (i : Nat) (M : am_M) (h : pt_292_294 i = some M) : am_VM am_prog M := pt_or (show (bif _ then _ else _) = some M from h) (fun h => by cases h; exact vX9_saysIn) (fun h => by cases h; exact vX9_hearsIn)
theorem pv_291_294 (i : Nat) (M : am_M) (h : pt_291_294 i = some M) : am_VM am_prog M := pt_or (show (bif _ then _ else _) = some M from h) (fun h => by cases h; exact vX9_rule) (fun h => pv_292_294 i M h)
theorem pv_289_294 (i : Nat) (M : am_M) (h : pt_289_294 i = some M) : am_VM am_prog M := pt_or (show (bif _ then _ else _) = some M from h) (fun h => pv_289_291 i M h) (fun h => pv_291_294 i M h)
theorem pv_295_297 (i : Nat) (M : am_M) (h : pt_295_297 i = some M) : am_VM am_prog M := pt_or (show (bif _ then _ else _) = some M from h) (fun h => by cases h; exact vX9_gladIn) (fun h => by cases h; exact vX9_gladBy)
theorem pv_294_297 (i : Nat) (M : am_M) (h : pt_294_297 i = some M) : am_VM am_prog M := pt_or (show (bif _ then _ else _) = some M from h) (fun h => by cases h; exact vX9_gladAfter) (fun h => pv_295_297 i M h)
theorem pv_298_300 (i : Nat) (M : am_M) (h : pt_298_300 i = some M) : am_VM am_prog M := pt_or (show (bif _ then _ else _) = some M from h) (fun h => by cases h; exact vX9_diesIn) (fun h => by cases h; exact vX9_crowdOf)
theorem pv_297_300 (i : Nat) (M : am_M) (h : pt_297_300 i = some M) : am_VM am_prog M := pt_or (show (bif _ then _ else _) = some M from h) (fun h => by cases h; exact vX9_lonelyIn) (fun h => pv_298_300 i M h)
theorem pv_294_300 (i : Nat) (M : am_M) (h : pt_294_300 i = some M) : am_VM am_prog M := pt_or (show (bif _ then _ else _) = some M from h) (fun h => pv_294_297 i M h) (fun h => pv_297_300 i M h)
theorem pv_289_300 (i : Nat) (M : am_M) (h : pt_289_300 i = some M) : am_VM am_prog M := pt_or (show (bif _ then _ else _) = some M from h) (fun h => pv_289_294 i M h) (fun h => pv_294_300 i M h)
theorem pv_301_303 (i : Nat) (M : am_M) (h : pt_301_303 i = some M) : am_VM am_prog M := pt_or (show (bif _ then _ else _) = some M from h) (fun h => by cases h; exact vX9_worthOf) (fun h => by cases h; exact vX9_worth)
theorem pv_300_303 (i : Nat) (M : am_M) (h : pt_300_303 i = some M) : am_VM am_prog M := pt_or (show (bif _ then _ else _) = some M from h) (fun h => by cases h; exact vX9_crowd) (fun h => pv_301_303 i M h)
theorem pv_304_306 (i : Nat) (M : am_M) (h : pt_304_306 i = some M) : am_VM am_prog M := pt_or (show (bif _ then _ else _) = some M from h) (fun h => by cases h; exact vX9_shares) (fun h => by cases h; exact vX9_laysBest)
theorem pv_303_306 (i : Nat) (M : am_M) (h : pt_303_306 i = some M) : am_VM am_prog M := pt_or (show (bif _ then _ else _) = some M from h) (fun h => by cases h; exact vX9_laysWorths) (fun h => pv_304_306 i M h)
theorem pv_300_306 (i : Nat) (M : am_M) (h : pt_300_306 i = some M) : am_VM am_prog M := pt_or (show (bif _ then _ else _) = some M from h) (fun h => pv_300_303 i M h) (fun h => pv_303_306 i M h)
theorem pv_307_309 (i : Nat) (M : am_M) (h : pt_307_309 i = some M) : am_VM am_prog M := pt_or (show (bif _ then _ else _) = some M from h) (fun h => by cases h; exact vX9_best) (fun h => by cases h; exact vX9_bestSet)
theorem pv_306_309 (i : Nat) (M : am_M) (h : pt_306_309 i = some M) : am_VM am_prog M := pt_or (show (bif _ then _ else _) = some M from h) (fun h => by cases h; exact vX9_arePeople) (fun h => pv_307_309 i M h)
theorem pv_310_312 (i : Nat) (M : am_M) (h : pt_310_312 i = some M) : am_VM am_prog M := pt_or (show (bif _ then _ else _) = some M from h) (fun h => by cases h; exact vX9_pointsTo) (fun h => by cases h; exact vX9_goesRing)
theorem pv_309_312 (i : Nat) (M : am_M) (h : pt_309_312 i = some M) : am_VM am_prog M := pt_or (show (bif _ then _ else _) = some M from h) (fun h => by cases h; exact vX9_firstOf) (fun h => pv_310_312 i M h)
theorem pv_306_312 (i : Nat) (M : am_M) (h : pt_306_312 i = some M) : am_VM am_prog M := pt_or (show (bif _ then _ else _) = some M from h) (fun h => pv_306_309 i M h) (fun h => pv_309_312 i M h)
theorem pv_300_312 (i : Nat) (M : am_M) (h : pt_300_312 i = some M) : am_VM am_prog M := pt_or (show (bif _ then _ else _) = some M from h) (fun h => pv_300_306 i M h) (fun h => pv_306_312 i M h)
theorem pv_289_312 (i : Nat) (M : am_M) (h : pt_289_312 i = some M) : am_VM am_prog M := pt_or (show (bif _ then _ else _) = some M from h) (fun h => pv_289_300 i M h) (fun h => pv_300_312 i M h)
theorem pv_267_312 (i : Nat) (M : am_M) (h : pt_267_312 i = some M) : am_VM am_prog M := pt_or (show (bif _ then _ else _) = some M from h) (fun h => pv_267_289 i M h) (fun h => pv_289_312 i M h)
theorem pv_312_314 (i : Nat) (M : am_M) (h : pt_312_314 i = some M) : am_VM am_prog M := pt_or (show (bif _ then _ else _) = some M from h) (fun h => by cases h; exact vX9_ringFrom) (fun h => by cases h; exact vX9_laysTrades)
theorem pv_315_317 (i : Nat) (M : am_M) (h : pt_315_317 i = some M) : am_VM am_prog M := pt_or (show (bif _ then _ else _) = some M from h) (fun h => by cases h; exact vX9_trades) (fun h => by cases h; exact vX9_bestOwned)
theorem pv_314_317 (i : Nat) (M : am_M) (h : pt_314_317 i = some M) : am_VM am_prog M := pt_or (show (bif _ then _ else _) = some M from h) (fun h => by cases h; exact vX9_trade) (fun h => pv_315_317 i M h)
theorem pv_312_317 (i : Nat) (M : am_M) (h : pt_312_317 i = some M) : am_VM am_prog M := pt_or (show (bif _ then _ else _) = some M from h) (fun h => pv_312_314 i M h) (fun h => pv_314_317 i M h)
theorem pv_318_320 (i : Nat) (M : am_M) (h : pt_318_320 i = some M) : am_VM am_prog M := pt_or (show (bif _ then _ else _) = some M from h) (fun h => by cases h; exact vX9_whyNoPick) (fun h => by cases h; exact vX9_pick)
theorem pv_317_320 (i : Nat) (M : am_M) (h : pt_317_320 i = some M) : am_VM am_prog M := pt_or (show (bif _ then _ else _) = some M from h) (fun h => by cases h; exact vX9_envies) (fun h => pv_318_320 i M h)
theorem pv_321_323 (i : Nat) (M : am_M) (h : pt_321_323 i = some M) : am_VM am_prog M := pt_or (show (bif _ then _ else _) = some M from h) (fun h => by cases h; exact vX9_fitting) (fun h => by cases h; exact vX9_fits)
theorem pv_320_323 (i : Nat) (M : am_M) (h : pt_320_323 i = some M) : am_VM am_prog M := pt_or (show (bif _ then _ else _) = some M from h) (fun h => by cases h; exact vX9_whyNotFits) (fun h => pv_321_323 i M h)
theorem pv_317_323 (i : Nat) (M : am_M) (h : pt_317_323 i = some M) : am_VM am_prog M := pt_or (show (bif _ then _ else _) = some M from h) (fun h => pv_317_320 i M h) (fun h => pv_320_323 i M h)
theorem pv_312_323 (i : Nat) (M : am_M) (h : pt_312_323 i = some M) : am_VM am_prog M := pt_or (show (bif _ then _ else _) = some M from h) (fun h => pv_312_317 i M h) (fun h => pv_317_323 i M h)
theorem pv_323_325 (i : Nat) (M : am_M) (h : pt_323_325 i = some M) : am_VM am_prog M := pt_or (show (bif _ then _ else _) = some M from h) (fun h => by cases h; exact vX9_alikeIn) (fun h => by cases h; exact vX9_ask)
theorem pv_326_328 (i : Nat) (M : am_M) (h : pt_326_328 i = some M) : am_VM am_prog M := pt_or (show (bif _ then _ else _) = some M from h) (fun h => by cases h; exact vX9_allLike) (fun h => by cases h; exact vX9_peaceful)
theorem pv_325_328 (i : Nat) (M : am_M) (h : pt_325_328 i = some M) : am_VM am_prog M := pt_or (show (bif _ then _ else _) = some M from h) (fun h => by cases h; exact vX9_leastLike) (fun h => pv_326_328 i M h)
theorem pv_323_328 (i : Nat) (M : am_M) (h : pt_323_328 i = some M) : am_VM am_prog M := pt_or (show (bif _ then _ else _) = some M from h) (fun h => pv_323_325 i M h) (fun h => pv_325_328 i M h)
theorem pv_329_331 (i : Nat) (M : am_M) (h : pt_329_331 i = some M) : am_VM am_prog M := pt_or (show (bif _ then _ else _) = some M from h) (fun h => by cases h; exact vX9_peaceBy) (fun h => by cases h; exact vX9_fansOf)
theorem pv_328_331 (i : Nat) (M : am_M) (h : pt_328_331 i = some M) : am_VM am_prog M := pt_or (show (bif _ then _ else _) = some M from h) (fun h => by cases h; exact vX9_peace) (fun h => pv_329_331 i M h)
theorem pv_332_334 (i : Nat) (M : am_M) (h : pt_332_334 i = some M) : am_VM am_prog M := pt_or (show (bif _ then _ else _) = some M from h) (fun h => by cases h; exact vX9_popular) (fun h => by cases h; exact vX9_popularBy)
theorem pv_331_334 (i : Nat) (M : am_M) (h : pt_331_334 i = some M) : am_VM am_prog M := pt_or (show (bif _ then _ else _) = some M from h) (fun h => by cases h; exact vX9_popularOf) (fun h => pv_332_334 i M h)
theorem pv_328_334 (i : Nat) (M : am_M) (h : pt_328_334 i = some M) : am_VM am_prog M := pt_or (show (bif _ then _ else _) = some M from h) (fun h => pv_328_331 i M h) (fun h => pv_331_334 i M h)
theorem pv_323_334 (i : Nat) (M : am_M) (h : pt_323_334 i = some M) : am_VM am_prog M := pt_or (show (bif _ then _ else _) = some M from h) (fun h => pv_323_328 i M h) (fun h => pv_328_334 i M h)
theorem pv_312_334 (i : Nat) (M : am_M) (h : pt_312_334 i = some M) : am_VM am_prog M := pt_or (show (bif _ then _ else _) = some M from h) (fun h => pv_312_323 i M h) (fun h => pv_323_334 i M h)
theorem pv_334_336 (i : Nat) (M : am_M) (h : pt_334_336 i = some M) : am_VM am_prog M := pt_or (show (bif _ then _ else _) = some M from h) (fun h => by cases h; exact vX9_plays) (fun h => by cases h; exact vX9_whyNoGame)
theorem pv_337_339 (i : Nat) (M : am_M) (h : pt_337_339 i = some M) : am_VM am_prog M := pt_or (show (bif _ then _ else _) = some M from h) (fun h => by cases h; exact vX9_moveOf) (fun h => by cases h; exact vX9_power)
theorem pv_336_339 (i : Nat) (M : am_M) (h : pt_336_339 i = some M) : am_VM am_prog M := pt_or (show (bif _ then _ else _) = some M from h) (fun h => by cases h; exact vX9_game) (fun h => pv_337_339 i M h)
theorem pv_334_339 (i : Nat) (M : am_M) (h : pt_334_339 i = some M) : am_VM am_prog M := pt_or (show (bif _ then _ else _) = some M from h) (fun h => pv_334_336 i M h) (fun h => pv_336_339 i M h)
theorem pv_340_342 (i : Nat) (M : am_M) (h : pt_340_342 i = some M) : am_VM am_prog M := pt_or (show (bif _ then _ else _) = some M from h) (fun h => by cases h; exact vX9_warm) (fun h => by cases h; exact vX9_draw)
theorem pv_339_342 (i : Nat) (M : am_M) (h : pt_339_342 i = some M) : am_VM am_prog M := pt_or (show (bif _ then _ else _) = some M from h) (fun h => by cases h; exact vX9_alive) (fun h => pv_340_342 i M h)
theorem pv_343_345 (i : Nat) (M : am_M) (h : pt_343_345 i = some M) : am_VM am_prog M := pt_or (show (bif _ then _ else _) = some M from h) (fun h => by cases h; exact vX9_anyYears) (fun h => by cases h; exact vX9_isAny)
theorem pv_342_345 (i : Nat) (M : am_M) (h : pt_342_345 i = some M) : am_VM am_prog M := pt_or (show (bif _ then _ else _) = some M from h) (fun h => by cases h; exact vX9_anyHours) (fun h => pv_343_345 i M h)
theorem pv_339_345 (i : Nat) (M : am_M) (h : pt_339_345 i = some M) : am_VM am_prog M := pt_or (show (bif _ then _ else _) = some M from h) (fun h => pv_339_342 i M h) (fun h => pv_342_345 i M h)
theorem pv_334_345 (i : Nat) (M : am_M) (h : pt_334_345 i = some M) : am_VM am_prog M := pt_or (show (bif _ then _ else _) = some M from h) (fun h => pv_334_339 i M h) (fun h => pv_339_345 i M h)
theorem pv_346_348 (i : Nat) (M : am_M) (h : pt_346_348 i = some M) : am_VM am_prog M := pt_or (show (bif _ then _ else _) = some M from h) (fun h => by cases h; exact vX9_isSo) (fun h => by cases h; exact vX9_doOne)
theorem pv_345_348 (i : Nat) (M : am_M) (h : pt_345_348 i = some M) : am_VM am_prog M := pt_or (show (bif _ then _ else _) = some M from h) (fun h => by cases h; exact vX9_does) (fun h => pv_346_348 i M h)
theorem pv_349_351 (i : Nat) (M : am_M) (h : pt_349_351 i = some M) : am_VM am_prog M := pt_or (show (bif _ then _ else _) = some M from h) (fun h => by cases h; exact vX9_runsDials) (fun h => by cases h; exact vX9_live)
theorem pv_348_351 (i : Nat) (M : am_M) (h : pt_348_351 i = some M) : am_VM am_prog M := pt_or (show (bif _ then _ else _) = some M from h) (fun h => by cases h; exact vX9_doAll) (fun h => pv_349_351 i M h)
theorem pv_345_351 (i : Nat) (M : am_M) (h : pt_345_351 i = some M) : am_VM am_prog M := pt_or (show (bif _ then _ else _) = some M from h) (fun h => pv_345_348 i M h) (fun h => pv_348_351 i M h)
theorem pv_352_354 (i : Nat) (M : am_M) (h : pt_352_354 i = some M) : am_VM am_prog M := pt_or (show (bif _ then _ else _) = some M from h) (fun h => by cases h; exact vX9_mean) (fun h => by cases h; exact vX9_copy)
theorem pv_351_354 (i : Nat) (M : am_M) (h : pt_351_354 i = some M) : am_VM am_prog M := pt_or (show (bif _ then _ else _) = some M from h) (fun h => by cases h; exact vX9_lived) (fun h => pv_352_354 i M h)
theorem pv_355_357 (i : Nat) (M : am_M) (h : pt_355_357 i = some M) : am_VM am_prog M := pt_or (show (bif _ then _ else _) = some M from h) (fun h => by cases h; exact vX9_back) (fun h => by cases h; exact vJ6_bitCount_0f7a4)
theorem pv_354_357 (i : Nat) (M : am_M) (h : pt_354_357 i = some M) : am_VM am_prog M := pt_or (show (bif _ then _ else _) = some M from h) (fun h => by cases h; exact vX9_mark) (fun h => pv_355_357 i M h)
theorem pv_351_357 (i : Nat) (M : am_M) (h : pt_351_357 i = some M) : am_VM am_prog M := pt_or (show (bif _ then _ else _) = some M from h) (fun h => pv_351_354 i M h) (fun h => pv_354_357 i M h)
theorem pv_345_357 (i : Nat) (M : am_M) (h : pt_345_357 i = some M) : am_VM am_prog M := pt_or (show (bif _ then _ else _) = some M from h) (fun h => pv_345_351 i M h) (fun h => pv_351_357 i M h)
theorem pv_334_357 (i : Nat) (M : am_M) (h : pt_334_357 i = some M) : am_VM am_prog M := pt_or (show (bif _ then _ else _) = some M from h) (fun h => pv_334_345 i M h) (fun h => pv_345_357 i M h)
theorem pv_312_357 (i : Nat) (M : am_M) (h : pt_312_357 i = some M) : am_VM am_prog M := pt_or (show (bif _ then _ else _) = some M from h) (fun h => pv_312_334 i M h) (fun h => pv_334_357 i M h)
theorem pv_267_357 (i : Nat) (M : am_M) (h : pt_267_357 i = some M) : am_VM am_prog M := pt_or (show (bif _ then _ else _) = some M from h) (fun h => pv_267_312 i M h) (fun h => pv_312_357 i M h)
theorem pv_178_357 (i : Nat) (M : am_M) (h : pt_178_357 i = some M) : am_VM am_prog M := pt_or (show (bif _ then _ else _) = some M from h) (fun h => pv_178_267 i M h) (fun h => pv_267_357 i M h)
theorem pv_0_357 (i : Nat) (M : am_M) (h : pt_0_357 i = some M) : am_VM am_prog M := pt_or (show (bif _ then _ else _) = some M from h) (fun h => pv_0_178 i M h) (fun h => pv_178_357 i M h)
theorem am_valid : ∀ y M, am_prog y = some M → am_VM am_prog M := fun y M h => pv_0_357 y M h
