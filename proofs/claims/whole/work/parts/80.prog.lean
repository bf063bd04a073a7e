/-! printed by wip/whole/valid.py: classes, methods -/
theorem am_CL0 : am_CL 0 RX0 TX0 5 tyX0 := by
  refine ⟨by decide, rfl, rfl, lyX0, tyX0_ok, nmX0, ?_, lzX0.1, lzX0.2⟩
  intro k hk
  match k, hk with
  | 0, _ => exact Or.inr (Or.inr (Or.inl ⟨rfl, Or.inr ⟨_, rfl⟩⟩))
  | 1, _ => exact Or.inr (Or.inr (Or.inl ⟨rfl, Or.inr ⟨_, rfl⟩⟩))
  | 2, _ => exact Or.inr (Or.inr (Or.inl ⟨rfl, Or.inr ⟨_, rfl⟩⟩))
  | 3, _ => exact Or.inr (Or.inr (Or.inl ⟨rfl, Or.inr ⟨_, rfl⟩⟩))
  | 4, _ => exact Or.inr (Or.inr (Or.inl ⟨rfl, Or.inr ⟨_, rfl⟩⟩))
  | k + 5, h => exact absurd h (by omega)
theorem am_CL1 : am_CL 1 RX1 TX1 8 tyX1 := by
  refine ⟨by decide, rfl, rfl, lyX1, tyX1_ok, nmX1, ?_, lzX1.1, lzX1.2⟩
  intro k hk
  match k, hk with
  | 0, _ => exact Or.inr (Or.inr (Or.inl ⟨rfl, Or.inr ⟨_, rfl⟩⟩))
  | 1, _ => exact Or.inr (Or.inr (Or.inl ⟨rfl, Or.inr ⟨_, rfl⟩⟩))
  | 2, _ => exact Or.inr (Or.inr (Or.inl ⟨rfl, Or.inr ⟨_, rfl⟩⟩))
  | 3, _ => exact Or.inr (Or.inr (Or.inl ⟨rfl, Or.inr ⟨_, rfl⟩⟩))
  | 4, _ => exact Or.inr (Or.inr (Or.inl ⟨rfl, Or.inr ⟨_, rfl⟩⟩))
  | 5, _ => exact Or.inr (Or.inr (Or.inr ⟨rfl, rfl⟩))
  | 6, _ => exact Or.inl ⟨rfl, rfl⟩
  | 7, _ => exact Or.inl ⟨rfl, rfl⟩
  | k + 8, h => exact absurd h (by omega)
theorem am_CL2 : am_CL 2 RX2 TX2 5 tyX2 := by
  refine ⟨by decide, rfl, rfl, lyX2, tyX2_ok, nmX2, ?_, lzX2.1, lzX2.2⟩
  intro k hk
  match k, hk with
  | 0, _ => exact Or.inr (Or.inr (Or.inl ⟨rfl, Or.inl ⟨_, rfl⟩⟩))
  | 1, _ => exact Or.inr (Or.inr (Or.inl ⟨rfl, Or.inl ⟨_, rfl⟩⟩))
  | 2, _ => exact Or.inr (Or.inr (Or.inl ⟨rfl, Or.inr ⟨_, rfl⟩⟩))
  | 3, _ => exact Or.inl ⟨rfl, rfl⟩
  | 4, _ => exact Or.inr (Or.inr (Or.inl ⟨rfl, Or.inl ⟨_, rfl⟩⟩))
  | k + 5, h => exact absurd h (by omega)
theorem am_CL3 : am_CL 3 RX3 TX3 7 tyX3 := by
  refine ⟨by decide, rfl, rfl, lyX3, tyX3_ok, nmX3, ?_, lzX3.1, lzX3.2⟩
  intro k hk
  match k, hk with
  | 0, _ => exact Or.inr (Or.inr (Or.inl ⟨rfl, Or.inr ⟨_, rfl⟩⟩))
  | 1, _ => exact Or.inl ⟨rfl, rfl⟩
  | 2, _ => exact Or.inl ⟨rfl, rfl⟩
  | 3, _ => exact Or.inl ⟨rfl, rfl⟩
  | 4, _ => exact Or.inl ⟨rfl, rfl⟩
  | 5, _ => exact Or.inl ⟨rfl, rfl⟩
  | 6, _ => exact Or.inr (Or.inr (Or.inr ⟨rfl, rfl⟩))
  | k + 7, h => exact absurd h (by omega)
theorem am_CL4 : am_CL 4 RX4 TX4 12 tyX4 := by
  refine ⟨by decide, rfl, rfl, lyX4, tyX4_ok, nmX4, ?_, lzX4.1, lzX4.2⟩
  intro k hk
  match k, hk with
  | 0, _ => exact Or.inr (Or.inr (Or.inl ⟨rfl, Or.inr ⟨_, rfl⟩⟩))
  | 1, _ => exact Or.inr (Or.inr (Or.inl ⟨rfl, Or.inr ⟨_, rfl⟩⟩))
  | 2, _ => exact Or.inl ⟨rfl, rfl⟩
  | 3, _ => exact Or.inl ⟨rfl, rfl⟩
  | 4, _ => exact Or.inl ⟨rfl, rfl⟩
  | 5, _ => exact Or.inl ⟨rfl, rfl⟩
  | 6, _ => exact Or.inl ⟨rfl, rfl⟩
  | 7, _ => exact Or.inr (Or.inl ⟨rfl, rfl⟩)
  | 8, _ => exact Or.inl ⟨rfl, rfl⟩
  | 9, _ => exact Or.inl ⟨rfl, rfl⟩
  | 10, _ => exact Or.inl ⟨rfl, rfl⟩
  | 11, _ => exact Or.inl ⟨rfl, rfl⟩
  | k + 12, h => exact absurd h (by omega)
theorem am_CL5 : am_CL 5 RX5 TX5 19 tyX5 := by
  refine ⟨by decide, rfl, rfl, lyX5, tyX5_ok, nmX5, ?_, lzX5.1, lzX5.2⟩
  intro k hk
  match k, hk with
  | 0, _ => exact Or.inr (Or.inr (Or.inl ⟨rfl, Or.inr ⟨_, rfl⟩⟩))
  | 1, _ => exact Or.inr (Or.inr (Or.inl ⟨rfl, Or.inr ⟨_, rfl⟩⟩))
  | 2, _ => exact Or.inl ⟨rfl, rfl⟩
  | 3, _ => exact Or.inl ⟨rfl, rfl⟩
  | 4, _ => exact Or.inl ⟨rfl, rfl⟩
  | 5, _ => exact Or.inl ⟨rfl, rfl⟩
  | 6, _ => exact Or.inl ⟨rfl, rfl⟩
  | 7, _ => exact Or.inr (Or.inr (Or.inl ⟨rfl, Or.inr ⟨_, rfl⟩⟩))
  | 8, _ => exact Or.inr (Or.inr (Or.inl ⟨rfl, Or.inr ⟨_, rfl⟩⟩))
  | 9, _ => exact Or.inr (Or.inr (Or.inl ⟨rfl, Or.inr ⟨_, rfl⟩⟩))
  | 10, _ => exact Or.inr (Or.inr (Or.inl ⟨rfl, Or.inr ⟨_, rfl⟩⟩))
  | 11, _ => exact Or.inr (Or.inr (Or.inl ⟨rfl, Or.inr ⟨_, rfl⟩⟩))
  | 12, _ => exact Or.inr (Or.inr (Or.inl ⟨rfl, Or.inr ⟨_, rfl⟩⟩))
  | 13, _ => exact Or.inr (Or.inr (Or.inl ⟨rfl, Or.inr ⟨_, rfl⟩⟩))
  | 14, _ => exact Or.inr (Or.inr (Or.inl ⟨rfl, Or.inr ⟨_, rfl⟩⟩))
  | 15, _ => exact Or.inr (Or.inr (Or.inl ⟨rfl, Or.inr ⟨_, rfl⟩⟩))
  | 16, _ => exact Or.inr (Or.inr (Or.inl ⟨rfl, Or.inr ⟨_, rfl⟩⟩))
  | 17, _ => exact Or.inr (Or.inr (Or.inl ⟨rfl, Or.inr ⟨_, rfl⟩⟩))
  | 18, _ => exact Or.inr (Or.inr (Or.inl ⟨rfl, Or.inl ⟨_, rfl⟩⟩))
  | k + 19, h => exact absurd h (by omega)
theorem am_CL6 : am_CL 6 RX6 TX6 3 tyX6 := by
  refine ⟨by decide, rfl, rfl, lyX6, tyX6_ok, nmX6, ?_, lzX6.1, lzX6.2⟩
  intro k hk
  match k, hk with
  | 0, _ => exact Or.inr (Or.inr (Or.inl ⟨rfl, Or.inl ⟨_, rfl⟩⟩))
  | 1, _ => exact Or.inr (Or.inr (Or.inl ⟨rfl, Or.inl ⟨_, rfl⟩⟩))
  | 2, _ => exact Or.inr (Or.inr (Or.inr ⟨rfl, rfl⟩))
  | k + 3, h => exact absurd h (by omega)
theorem am_CL7 : am_CL 7 RX7 TX7 4 tyX7 := by
  refine ⟨by decide, rfl, rfl, lyX7, tyX7_ok, nmX7, ?_, lzX7.1, lzX7.2⟩
  intro k hk
  match k, hk with
  | 0, _ => exact Or.inr (Or.inr (Or.inl ⟨rfl, Or.inr ⟨_, rfl⟩⟩))
  | 1, _ => exact Or.inr (Or.inr (Or.inr ⟨rfl, rfl⟩))
  | 2, _ => exact Or.inl ⟨rfl, rfl⟩
  | 3, _ => exact Or.inl ⟨rfl, rfl⟩
  | k + 4, h => exact absurd h (by omega)
theorem am_CL8 : am_CL 8 RX8 TX8 18 tyX8 := by
  refine ⟨by decide, rfl, rfl, lyX8, tyX8_ok, nmX8, ?_, lzX8.1, lzX8.2⟩
  intro k hk
  match k, hk with
  | 0, _ => exact Or.inr (Or.inr (Or.inl ⟨rfl, Or.inr ⟨_, rfl⟩⟩))
  | 1, _ => exact Or.inr (Or.inr (Or.inl ⟨rfl, Or.inr ⟨_, rfl⟩⟩))
  | 2, _ => exact Or.inl ⟨rfl, rfl⟩
  | 3, _ => exact Or.inr (Or.inr (Or.inl ⟨rfl, Or.inl ⟨_, rfl⟩⟩))
  | 4, _ => exact Or.inr (Or.inr (Or.inl ⟨rfl, Or.inl ⟨_, rfl⟩⟩))
  | 5, _ => exact Or.inr (Or.inr (Or.inl ⟨rfl, Or.inr ⟨_, rfl⟩⟩))
  | 6, _ => exact Or.inl ⟨rfl, rfl⟩
  | 7, _ => exact Or.inr (Or.inr (Or.inl ⟨rfl, Or.inl ⟨_, rfl⟩⟩))
  | 8, _ => exact Or.inr (Or.inr (Or.inl ⟨rfl, Or.inl ⟨_, rfl⟩⟩))
  | 9, _ => exact Or.inr (Or.inr (Or.inl ⟨rfl, Or.inl ⟨_, rfl⟩⟩))
  | 10, _ => exact Or.inr (Or.inr (Or.inl ⟨rfl, Or.inl ⟨_, rfl⟩⟩))
  | 11, _ => exact Or.inr (Or.inr (Or.inl ⟨rfl, Or.inl ⟨_, rfl⟩⟩))
  | 12, _ => exact Or.inr (Or.inr (Or.inl ⟨rfl, Or.inr ⟨_, rfl⟩⟩))
  | 13, _ => exact Or.inr (Or.inr (Or.inr ⟨rfl, rfl⟩))
  | 14, _ => exact Or.inr (Or.inr (Or.inr ⟨rfl, rfl⟩))
  | 15, _ => exact Or.inl ⟨rfl, rfl⟩
  | 16, _ => exact Or.inr (Or.inl ⟨rfl, rfl⟩)
  | 17, _ => exact Or.inr (Or.inl ⟨rfl, rfl⟩)
  | k + 18, h => exact absurd h (by omega)
theorem am_CL9 : am_CL 9 RX9 TX9 42 tyX9 := by
  refine ⟨by decide, rfl, rfl, lyX9, tyX9_ok, nmX9, ?_, lzX9.1, lzX9.2⟩
  intro k hk
  match k, hk with
  | 0, _ => exact Or.inl ⟨rfl, rfl⟩
  | 1, _ => exact Or.inl ⟨rfl, rfl⟩
  | 2, _ => exact Or.inr (Or.inl ⟨rfl, rfl⟩)
  | 3, _ => exact Or.inr (Or.inl ⟨rfl, rfl⟩)
  | 4, _ => exact Or.inr (Or.inr (Or.inl ⟨rfl, Or.inr ⟨_, rfl⟩⟩))
  | 5, _ => exact Or.inr (Or.inr (Or.inl ⟨rfl, Or.inr ⟨_, rfl⟩⟩))
  | 6, _ => exact Or.inr (Or.inr (Or.inl ⟨rfl, Or.inr ⟨_, rfl⟩⟩))
  | 7, _ => exact Or.inr (Or.inr (Or.inl ⟨rfl, Or.inr ⟨_, rfl⟩⟩))
  | 8, _ => exact Or.inl ⟨rfl, rfl⟩
  | 9, _ => exact Or.inl ⟨rfl, rfl⟩
  | 10, _ => exact Or.inl ⟨rfl, rfl⟩
  | 11, _ => exact Or.inl ⟨rfl, rfl⟩
  | 12, _ => exact Or.inl ⟨rfl, rfl⟩
  | 13, _ => exact Or.inl ⟨rfl, rfl⟩
  | 14, _ => exact Or.inl ⟨rfl, rfl⟩
  | 15, _ => exact Or.inl ⟨rfl, rfl⟩
  | 16, _ => exact Or.inl ⟨rfl, rfl⟩
  | 17, _ => exact Or.inl ⟨rfl, rfl⟩
  | 18, _ => exact Or.inl ⟨rfl, rfl⟩
  | 19, _ => exact Or.inr (Or.inl ⟨rfl, rfl⟩)
  | 20, _ => exact Or.inr (Or.inr (Or.inl ⟨rfl, Or.inr ⟨_, rfl⟩⟩))
  | 21, _ => exact Or.inr (Or.inr (Or.inl ⟨rfl, Or.inr ⟨_, rfl⟩⟩))
  | 22, _ => exact Or.inr (Or.inr (Or.inl ⟨rfl, Or.inr ⟨_, rfl⟩⟩))
  | 23, _ => exact Or.inl ⟨rfl, rfl⟩
  | 24, _ => exact Or.inr (Or.inr (Or.inr ⟨rfl, rfl⟩))
  | 25, _ => exact Or.inl ⟨rfl, rfl⟩
  | 26, _ => exact Or.inr (Or.inr (Or.inl ⟨rfl, Or.inr ⟨_, rfl⟩⟩))
  | 27, _ => exact Or.inr (Or.inr (Or.inl ⟨rfl, Or.inr ⟨_, rfl⟩⟩))
  | 28, _ => exact Or.inr (Or.inr (Or.inl ⟨rfl, Or.inr ⟨_, rfl⟩⟩))
  | 29, _ => exact Or.inl ⟨rfl, rfl⟩
  | 30, _ => exact Or.inl ⟨rfl, rfl⟩
  | 31, _ => exact Or.inl ⟨rfl, rfl⟩
  | 32, _ => exact Or.inr (Or.inr (Or.inl ⟨rfl, Or.inr ⟨_, rfl⟩⟩))
  | 33, _ => exact Or.inr (Or.inr (Or.inr ⟨rfl, rfl⟩))
  | 34, _ => exact Or.inr (Or.inr (Or.inr ⟨rfl, rfl⟩))
  | 35, _ => exact Or.inl ⟨rfl, rfl⟩
  | 36, _ => exact Or.inl ⟨rfl, rfl⟩
  | 37, _ => exact Or.inl ⟨rfl, rfl⟩
  | 38, _ => exact Or.inl ⟨rfl, rfl⟩
  | 39, _ => exact Or.inl ⟨rfl, rfl⟩
  | 40, _ => exact Or.inl ⟨rfl, rfl⟩
  | 41, _ => exact Or.inl ⟨rfl, rfl⟩
  | k + 42, h => exact absurd h (by omega)
theorem am_libw : am_lib := ⟨⟨am_gd (i := 186) (by decide +kernel) (by decide +kernel), am_gd (i := 187) (by decide +kernel) (by decide +kernel)⟩, ⟨am_gd (i := 178) (by decide +kernel) (by decide +kernel), am_gd (i := 177) (by decide +kernel) (by decide +kernel)⟩, ⟨am_gd (i := 1060) (by decide +kernel) (by decide +kernel), am_gd (i := 1061) (by decide +kernel) (by decide +kernel)⟩, ⟨am_gd (i := 694) (by decide +kernel) (by decide +kernel), am_gd (i := 695) (by decide +kernel) (by decide +kernel)⟩, ⟨am_gd (i := 2139) (by decide +kernel) (by decide +kernel), am_gd (i := 2140) (by decide +kernel) (by decide +kernel)⟩, ⟨am_gd (i := 676) (by decide +kernel) (by decide +kernel), am_gd (i := 675) (by decide +kernel) (by decide +kernel)⟩, am_gd (i := 269) (by decide +kernel) (by decide +kernel), am_gd (i := 268) (by decide +kernel) (by decide +kernel), am_gd (i := 214) (by decide +kernel) (by decide +kernel)⟩
theorem mkX0_init : am_MK mX0_init 0 := ⟨by decide +kernel, am_gd (i := 507) (by decide +kernel) (by decide +kernel), lzX0.2, ⟨by decide +kernel, by decide +kernel⟩, by decide, by decide +kernel⟩
theorem mkX0_weigh : am_MK mX0_weigh 1 := ⟨by decide +kernel, am_gd (i := 1094) (by decide +kernel) (by decide +kernel), lzX0.2, ⟨by decide +kernel, by decide +kernel⟩, by decide, by decide +kernel⟩
theorem mkX0_findBest : am_MK mX0_findBest 2 := ⟨by decide +kernel, am_gd (i := 1090) (by decide +kernel) (by decide +kernel), lzX0.2, ⟨by decide +kernel, by decide +kernel⟩, by decide, by decide +kernel⟩
theorem mkX0_mostBySet : am_MK mX0_mostBySet 3 := ⟨by decide +kernel, am_gd (i := 1099) (by decide +kernel) (by decide +kernel), lzX0.2, ⟨by decide +kernel, by decide +kernel⟩, by decide, by decide +kernel⟩
theorem mkX0_bySet : am_MK mX0_bySet 3 := ⟨by decide +kernel, am_gd (i := 1103) (by decide +kernel) (by decide +kernel), lzX0.2, ⟨by decide +kernel, by decide +kernel⟩, by decide, by decide +kernel⟩
theorem mkX0_findBestSet : am_MK mX0_findBestSet 3 := ⟨by decide +kernel, am_gd (i := 1112) (by decide +kernel) (by decide +kernel), lzX0.2, ⟨by decide +kernel, by decide +kernel⟩, by decide, by decide +kernel⟩
theorem mkX0_firstBest : am_MK mX0_firstBest 3 := ⟨by decide +kernel, am_gd (i := 1117) (by decide +kernel) (by decide +kernel), lzX0.2, ⟨by decide +kernel, by decide +kernel⟩, by decide, by decide +kernel⟩
theorem mkX0_makeTrades : am_MK mX0_makeTrades 1 := ⟨by decide +kernel, am_gd (i := 1125) (by decide +kernel) (by decide +kernel), lzX0.2, ⟨by decide +kernel, by decide +kernel⟩, by decide, by decide +kernel⟩
theorem mkX0_firstSetOf : am_MK mX0_firstSetOf 2 := ⟨by decide +kernel, am_gd (i := 1128) (by decide +kernel) (by decide +kernel), lzX0.2, ⟨by decide +kernel, by decide +kernel⟩, by decide, by decide +kernel⟩
theorem mkX0_pointsTo : am_MK mX0_pointsTo 3 := ⟨by decide +kernel, am_gd (i := 1132) (by decide +kernel) (by decide +kernel), lzX0.2, ⟨by decide +kernel, by decide +kernel⟩, by decide, by decide +kernel⟩
theorem mkX0_isBetter : am_MK mX0_isBetter 3 := ⟨by decide +kernel, am_gd (i := 1136) (by decide +kernel) (by decide +kernel), lzX0.2, ⟨by decide +kernel, by decide +kernel⟩, by decide, by decide +kernel⟩
theorem mkX0_leaveInRings : am_MK mX0_leaveInRings 2 := ⟨by decide +kernel, am_gd (i := 1140) (by decide +kernel) (by decide +kernel), lzX0.2, ⟨by decide +kernel, by decide +kernel⟩, by decide, by decide +kernel⟩
theorem mkX0_isInRing : am_MK mX0_isInRing 1 := ⟨by decide +kernel, am_gd (i := 1144) (by decide +kernel) (by decide +kernel), lzX0.2, ⟨by decide +kernel, by decide +kernel⟩, by decide, by decide +kernel⟩
theorem mkX0_mostWorth : am_MK mX0_mostWorth 3 := ⟨by decide +kernel, am_gd (i := 1156) (by decide +kernel) (by decide +kernel), lzX0.2, ⟨by decide +kernel, by decide +kernel⟩, by decide, by decide +kernel⟩
theorem mkX0_findPick : am_MK mX0_findPick 3 := ⟨by decide +kernel, am_gd (i := 1172) (by decide +kernel) (by decide +kernel), lzX0.2, ⟨by decide +kernel, by decide +kernel⟩, by decide, by decide +kernel⟩
theorem mkX0_firstMost : am_MK mX0_firstMost 3 := ⟨by decide +kernel, am_gd (i := 1176) (by decide +kernel) (by decide +kernel), lzX0.2, ⟨by decide +kernel, by decide +kernel⟩, by decide, by decide +kernel⟩
theorem mkX0_playGame : am_MK mX0_playGame 4 := ⟨by decide +kernel, am_gd (i := 1262) (by decide +kernel) (by decide +kernel), lzX0.2, ⟨by decide +kernel, by decide +kernel⟩, by decide, by decide +kernel⟩
theorem mkX0_firstsBest : am_MK mX0_firstsBest 4 := ⟨by decide +kernel, am_gd (i := 1267) (by decide +kernel) (by decide +kernel), lzX0.2, ⟨by decide +kernel, by decide +kernel⟩, by decide, by decide +kernel⟩
theorem mkX0_secondsBest : am_MK mX0_secondsBest 4 := ⟨by decide +kernel, am_gd (i := 1271) (by decide +kernel) (by decide +kernel), lzX0.2, ⟨by decide +kernel, by decide +kernel⟩, by decide, by decide +kernel⟩
theorem mkX0_findMove : am_MK mX0_findMove 4 := ⟨by decide +kernel, am_gd (i := 1280) (by decide +kernel) (by decide +kernel), lzX0.2, ⟨by decide +kernel, by decide +kernel⟩, by decide, by decide +kernel⟩
theorem mkX1_init : am_MK mX1_init 0 := ⟨by decide +kernel, am_gd (i := 225) (by decide +kernel) (by decide +kernel), lzX1.2, ⟨by decide +kernel, by decide +kernel⟩, by decide, by decide +kernel⟩
theorem mkX1_clear : am_MK mX1_clear 0 := ⟨by decide +kernel, am_gd (i := 719) (by decide +kernel) (by decide +kernel), lzX1.2, ⟨by decide +kernel, by decide +kernel⟩, by decide, by decide +kernel⟩
theorem mkX1_take : am_MK mX1_take 1 := ⟨by decide +kernel, am_gd (i := 866) (by decide +kernel) (by decide +kernel), lzX1.2, ⟨by decide +kernel, by decide +kernel⟩, by decide, by decide +kernel⟩
theorem mkX2_init : am_MK mX2_init 1 := ⟨by decide +kernel, am_gd (i := 482) (by decide +kernel) (by decide +kernel), lzX2.2, ⟨by decide +kernel, by decide +kernel⟩, by decide, by decide +kernel⟩
theorem mkX2_readsFor : am_MK mX2_readsFor 1 := ⟨by decide +kernel, am_gd (i := 820) (by decide +kernel) (by decide +kernel), lzX2.2, ⟨by decide +kernel, by decide +kernel⟩, by decide, by decide +kernel⟩
theorem mkX2_readsNext : am_MK mX2_readsNext 0 := ⟨by decide +kernel, am_gd (i := 825) (by decide +kernel) (by decide +kernel), lzX2.2, ⟨by decide +kernel, by decide +kernel⟩, by decide, by decide +kernel⟩
theorem mkX2_isStep : am_MK mX2_isStep 1 := ⟨by decide +kernel, am_gd (i := 835) (by decide +kernel) (by decide +kernel), lzX2.2, ⟨by decide +kernel, by decide +kernel⟩, by decide, by decide +kernel⟩
theorem mkX2_adds : am_MK mX2_adds 1 := ⟨by decide +kernel, am_gd (i := 840) (by decide +kernel) (by decide +kernel), lzX2.2, ⟨by decide +kernel, by decide +kernel⟩, by decide, by decide +kernel⟩
theorem mkX2_readsEnd : am_MK mX2_readsEnd 0 := ⟨by decide +kernel, am_gd (i := 829) (by decide +kernel) (by decide +kernel), lzX2.2, ⟨by decide +kernel, by decide +kernel⟩, by decide, by decide +kernel⟩
theorem mkX2_readsTestWord : am_MK mX2_readsTestWord 1 := ⟨by decide +kernel, am_gd (i := 844) (by decide +kernel) (by decide +kernel), lzX2.2, ⟨by decide +kernel, by decide +kernel⟩, by decide, by decide +kernel⟩
theorem mkX2_readsRest : am_MK mX2_readsRest 1 := ⟨by decide +kernel, am_gd (i := 848) (by decide +kernel) (by decide +kernel), lzX2.2, ⟨by decide +kernel, by decide +kernel⟩, by decide, by decide +kernel⟩
theorem mkX2_readsCompares : am_MK mX2_readsCompares 1 := ⟨by decide +kernel, am_gd (i := 862) (by decide +kernel) (by decide +kernel), lzX2.2, ⟨by decide +kernel, by decide +kernel⟩, by decide, by decide +kernel⟩
theorem mkX2_readsFirst : am_MK mX2_readsFirst 2 := ⟨by decide +kernel, am_gd (i := 853) (by decide +kernel) (by decide +kernel), lzX2.2, ⟨by decide +kernel, by decide +kernel⟩, by decide, by decide +kernel⟩
theorem mkX2_readsSecond : am_MK mX2_readsSecond 2 := ⟨by decide +kernel, am_gd (i := 858) (by decide +kernel) (by decide +kernel), lzX2.2, ⟨by decide +kernel, by decide +kernel⟩, by decide, by decide +kernel⟩
theorem mkX3_init : am_MK mX3_init 0 := ⟨by decide +kernel, am_gd (i := 531) (by decide +kernel) (by decide +kernel), lzX3.2, ⟨by decide +kernel, by decide +kernel⟩, by decide, by decide +kernel⟩
theorem mkX3_play : am_MK mX3_play 2 := ⟨by decide +kernel, am_gd (i := 1304) (by decide +kernel) (by decide +kernel), lzX3.2, ⟨by decide +kernel, by decide +kernel⟩, by decide, by decide +kernel⟩
theorem mkX3_placeBehindEnd : am_MK mX3_placeBehindEnd 2 := ⟨by decide +kernel, am_gd (i := 1309) (by decide +kernel) (by decide +kernel), lzX3.2, ⟨by decide +kernel, by decide +kernel⟩, by decide, by decide +kernel⟩
theorem mkX3_placeBehindOpener : am_MK mX3_placeBehindOpener 2 := ⟨by decide +kernel, am_gd (i := 1313) (by decide +kernel) (by decide +kernel), lzX3.2, ⟨by decide +kernel, by decide +kernel⟩, by decide, by decide +kernel⟩
theorem mkX3_holds : am_MK mX3_holds 2 := ⟨by decide +kernel, am_gd (i := 1316) (by decide +kernel) (by decide +kernel), lzX3.2, ⟨by decide +kernel, by decide +kernel⟩, by decide, by decide +kernel⟩
theorem mkX3_does : am_MK mX3_does 2 := ⟨by decide +kernel, am_gd (i := 1321) (by decide +kernel) (by decide +kernel), lzX3.2, ⟨by decide +kernel, by decide +kernel⟩, by decide, by decide +kernel⟩
theorem mkX3_doesHours : am_MK mX3_doesHours 2 := ⟨by decide +kernel, am_gd (i := 1325) (by decide +kernel) (by decide +kernel), lzX3.2, ⟨by decide +kernel, by decide +kernel⟩, by decide, by decide +kernel⟩
theorem mkX3_doesYears : am_MK mX3_doesYears 2 := ⟨by decide +kernel, am_gd (i := 1331) (by decide +kernel) (by decide +kernel), lzX3.2, ⟨by decide +kernel, by decide +kernel⟩, by decide, by decide +kernel⟩
theorem mkX3_doesAny : am_MK mX3_doesAny 1 := ⟨by decide +kernel, am_gd (i := 1342) (by decide +kernel) (by decide +kernel), lzX3.2, ⟨by decide +kernel, by decide +kernel⟩, by decide, by decide +kernel⟩
theorem mkX3_draw : am_MK mX3_draw 1 := ⟨by decide +kernel, am_gd (i := 1346) (by decide +kernel) (by decide +kernel), lzX3.2, ⟨by decide +kernel, by decide +kernel⟩, by decide, by decide +kernel⟩
theorem mkX4_init : am_MK mX4_init 1 := ⟨by decide +kernel, am_gd (i := 366) (by decide +kernel) (by decide +kernel), lzX4.2, ⟨by decide +kernel, by decide +kernel⟩, by decide, by decide +kernel⟩
theorem mkX4_open : am_MK mX4_open 1 := ⟨by decide +kernel, am_gd (i := 692) (by decide +kernel) (by decide +kernel), lzX4.2, ⟨by decide +kernel, by decide +kernel⟩, by decide, by decide +kernel⟩
theorem mkX4_advance : am_MK mX4_advance 0 := ⟨by decide +kernel, am_gd (i := 699) (by decide +kernel) (by decide +kernel), lzX4.2, ⟨by decide +kernel, by decide +kernel⟩, by decide, by decide +kernel⟩
theorem mkX4_advanceWord : am_MK mX4_advanceWord 0 := ⟨by decide +kernel, am_gd (i := 703) (by decide +kernel) (by decide +kernel), lzX4.2, ⟨by decide +kernel, by decide +kernel⟩, by decide, by decide +kernel⟩
theorem mkX4_advanceNumber : am_MK mX4_advanceNumber 0 := ⟨by decide +kernel, am_gd (i := 707) (by decide +kernel) (by decide +kernel), lzX4.2, ⟨by decide +kernel, by decide +kernel⟩, by decide, by decide +kernel⟩
theorem mkX4_fail : am_MK mX4_fail 1 := ⟨by decide +kernel, am_gd (i := 731) (by decide +kernel) (by decide +kernel), lzX4.2, ⟨by decide +kernel, by decide +kernel⟩, by decide, by decide +kernel⟩
theorem mkX4_refuses : am_MK mX4_refuses 0 := ⟨by decide +kernel, am_gd (i := 740) (by decide +kernel) (by decide +kernel), lzX4.2, ⟨by decide +kernel, by decide +kernel⟩, by decide, by decide +kernel⟩
theorem mkX4_takes : am_MK mX4_takes 1 := ⟨by decide +kernel, am_gd (i := 745) (by decide +kernel) (by decide +kernel), lzX4.2, ⟨by decide +kernel, by decide +kernel⟩, by decide, by decide +kernel⟩
theorem mkX4_takesNumber : am_MK mX4_takesNumber 2 := ⟨by decide +kernel, am_gd (i := 736) (by decide +kernel) (by decide +kernel), lzX4.2, ⟨by decide +kernel, by decide +kernel⟩, by decide, by decide +kernel⟩
theorem mkX4_isNameOf : am_MK mX4_isNameOf 2 := ⟨by decide +kernel, am_gd (i := 781) (by decide +kernel) (by decide +kernel), lzX4.2, ⟨by decide +kernel, by decide +kernel⟩, by decide, by decide +kernel⟩
theorem mkX4_takesName : am_MK mX4_takesName 2 := ⟨by decide +kernel, am_gd (i := 798) (by decide +kernel) (by decide +kernel), lzX4.2, ⟨by decide +kernel, by decide +kernel⟩, by decide, by decide +kernel⟩
theorem mkX4_takesNewName : am_MK mX4_takesNewName 2 := ⟨by decide +kernel, am_gd (i := 757) (by decide +kernel) (by decide +kernel), lzX4.2, ⟨by decide +kernel, by decide +kernel⟩, by decide, by decide +kernel⟩
theorem mkX5_init : am_MK mX5_init 0 := ⟨by decide +kernel, am_gd (i := 219) (by decide +kernel) (by decide +kernel), lzX5.2, ⟨by decide +kernel, by decide +kernel⟩, by decide, by decide +kernel⟩
theorem mkX5_clear : am_MK mX5_clear 0 := ⟨by decide +kernel, am_gd (i := 715) (by decide +kernel) (by decide +kernel), lzX5.2, ⟨by decide +kernel, by decide +kernel⟩, by decide, by decide +kernel⟩
theorem mkX5_take : am_MK mX5_take 1 := ⟨by decide +kernel, am_gd (i := 1359) (by decide +kernel) (by decide +kernel), lzX5.2, ⟨by decide +kernel, by decide +kernel⟩, by decide, by decide +kernel⟩
theorem mkX5_find : am_MK mX5_find 2 := ⟨by decide +kernel, am_gd (i := 765) (by decide +kernel) (by decide +kernel), lzX5.2, ⟨by decide +kernel, by decide +kernel⟩, by decide, by decide +kernel⟩
theorem mkX5_isTaken : am_MK mX5_isTaken 1 := ⟨by decide +kernel, am_gd (i := 761) (by decide +kernel) (by decide +kernel), lzX5.2, ⟨by decide +kernel, by decide +kernel⟩, by decide, by decide +kernel⟩
theorem mkX5_isFull : am_MK mX5_isFull 1 := ⟨by decide +kernel, am_gd (i := 753) (by decide +kernel) (by decide +kernel), lzX5.2, ⟨by decide +kernel, by decide +kernel⟩, by decide, by decide +kernel⟩
theorem mkX5_add : am_MK mX5_add 2 := ⟨by decide +kernel, am_gd (i := 769) (by decide +kernel) (by decide +kernel), lzX5.2, ⟨by decide +kernel, by decide +kernel⟩, by decide, by decide +kernel⟩
theorem mkX5_addToRow : am_MK mX5_addToRow 2 := ⟨by decide +kernel, am_gd (i := 786) (by decide +kernel) (by decide +kernel), lzX5.2, ⟨by decide +kernel, by decide +kernel⟩, by decide, by decide +kernel⟩
theorem mkX5_setsOf : am_MK mX5_setsOf 1 := ⟨by decide +kernel, am_gd (i := 879) (by decide +kernel) (by decide +kernel), lzX5.2, ⟨by decide +kernel, by decide +kernel⟩, by decide, by decide +kernel⟩
theorem mkX5_voicesIn : am_MK mX5_voicesIn 1 := ⟨by decide +kernel, am_gd (i := 935) (by decide +kernel) (by decide +kernel), lzX5.2, ⟨by decide +kernel, by decide +kernel⟩, by decide, by decide +kernel⟩
theorem mkX5_voicesOf : am_MK mX5_voicesOf 1 := ⟨by decide +kernel, am_gd (i := 931) (by decide +kernel) (by decide +kernel), lzX5.2, ⟨by decide +kernel, by decide +kernel⟩, by decide, by decide +kernel⟩
theorem mkX5_hearersOf : am_MK mX5_hearersOf 1 := ⟨by decide +kernel, am_gd (i := 1069) (by decide +kernel) (by decide +kernel), lzX5.2, ⟨by decide +kernel, by decide +kernel⟩, by decide, by decide +kernel⟩
theorem mkX5_coinsOfAll : am_MK mX5_coinsOfAll 0 := ⟨by decide +kernel, am_gd (i := 883) (by decide +kernel) (by decide +kernel), lzX5.2, ⟨by decide +kernel, by decide +kernel⟩, by decide, by decide +kernel⟩
theorem mkX5_gladOfAll : am_MK mX5_gladOfAll 0 := ⟨by decide +kernel, am_gd (i := 887) (by decide +kernel) (by decide +kernel), lzX5.2, ⟨by decide +kernel, by decide +kernel⟩, by decide, by decide +kernel⟩
theorem mkX5_isLiving : am_MK mX5_isLiving 1 := ⟨by decide +kernel, am_gd (i := 959) (by decide +kernel) (by decide +kernel), lzX5.2, ⟨by decide +kernel, by decide +kernel⟩, by decide, by decide +kernel⟩
theorem mkX5_hasCold : am_MK mX5_hasCold 1 := ⟨by decide +kernel, am_gd (i := 997) (by decide +kernel) (by decide +kernel), lzX5.2, ⟨by decide +kernel, by decide +kernel⟩, by decide, by decide +kernel⟩
theorem mkX5_placedAt : am_MK mX5_placedAt 2 := ⟨by decide +kernel, am_gd (i := 1030) (by decide +kernel) (by decide +kernel), lzX5.2, ⟨by decide +kernel, by decide +kernel⟩, by decide, by decide +kernel⟩
theorem mkX5_saysAt : am_MK mX5_saysAt 2 := ⟨by decide +kernel, am_gd (i := 1026) (by decide +kernel) (by decide +kernel), lzX5.2, ⟨by decide +kernel, by decide +kernel⟩, by decide, by decide +kernel⟩
theorem mkX5_heardAt : am_MK mX5_heardAt 2 := ⟨by decide +kernel, am_gd (i := 939) (by decide +kernel) (by decide +kernel), lzX5.2, ⟨by decide +kernel, by decide +kernel⟩, by decide, by decide +kernel⟩
theorem mkX5_joyBy : am_MK mX5_joyBy 2 := ⟨by decide +kernel, am_gd (i := 943) (by decide +kernel) (by decide +kernel), lzX5.2, ⟨by decide +kernel, by decide +kernel⟩, by decide, by decide +kernel⟩
theorem mkX5_joyAhead : am_MK mX5_joyAhead 3 := ⟨by decide +kernel, am_gd (i := 1044) (by decide +kernel) (by decide +kernel), lzX5.2, ⟨by decide +kernel, by decide +kernel⟩, by decide, by decide +kernel⟩
theorem mkX5_worthTo : am_MK mX5_worthTo 2 := ⟨by decide +kernel, am_gd (i := 1077) (by decide +kernel) (by decide +kernel), lzX5.2, ⟨by decide +kernel, by decide +kernel⟩, by decide, by decide +kernel⟩
theorem mkX5_hasHours : am_MK mX5_hasHours 1 := ⟨by decide +kernel, am_gd (i := 923) (by decide +kernel) (by decide +kernel), lzX5.2, ⟨by decide +kernel, by decide +kernel⟩, by decide, by decide +kernel⟩
theorem mkX5_hasYears : am_MK mX5_hasYears 1 := ⟨by decide +kernel, am_gd (i := 951) (by decide +kernel) (by decide +kernel), lzX5.2, ⟨by decide +kernel, by decide +kernel⟩, by decide, by decide +kernel⟩
theorem mkX5_passHours : am_MK mX5_passHours 1 := ⟨by decide +kernel, am_gd (i := 927) (by decide +kernel) (by decide +kernel), lzX5.2, ⟨by decide +kernel, by decide +kernel⟩, by decide, by decide +kernel⟩
theorem mkX5_passYears : am_MK mX5_passYears 1 := ⟨by decide +kernel, am_gd (i := 955) (by decide +kernel) (by decide +kernel), lzX5.2, ⟨by decide +kernel, by decide +kernel⟩, by decide, by decide +kernel⟩
theorem mkX5_makesSale : am_MK mX5_makesSale 3 := ⟨by decide +kernel, am_gd (i := 967) (by decide +kernel) (by decide +kernel), lzX5.2, ⟨by decide +kernel, by decide +kernel⟩, by decide, by decide +kernel⟩
theorem mkX5_makesGift : am_MK mX5_makesGift 2 := ⟨by decide +kernel, am_gd (i := 975) (by decide +kernel) (by decide +kernel), lzX5.2, ⟨by decide +kernel, by decide +kernel⟩, by decide, by decide +kernel⟩
theorem mkX5_catchesCold : am_MK mX5_catchesCold 1 := ⟨by decide +kernel, am_gd (i := 993) (by decide +kernel) (by decide +kernel), lzX5.2, ⟨by decide +kernel, by decide +kernel⟩, by decide, by decide +kernel⟩
theorem mkX5_getsWell : am_MK mX5_getsWell 1 := ⟨by decide +kernel, am_gd (i := 1001) (by decide +kernel) (by decide +kernel), lzX5.2, ⟨by decide +kernel, by decide +kernel⟩, by decide, by decide +kernel⟩
theorem mkX5_voicesThatFit : am_MK mX5_voicesThatFit 2 := ⟨by decide +kernel, am_gd (i := 1190) (by decide +kernel) (by decide +kernel), lzX5.2, ⟨by decide +kernel, by decide +kernel⟩, by decide, by decide +kernel⟩
theorem mkX5_hourThatParts : am_MK mX5_hourThatParts 1 := ⟨by decide +kernel, am_gd (i := 1198) (by decide +kernel) (by decide +kernel), lzX5.2, ⟨by decide +kernel, by decide +kernel⟩, by decide, by decide +kernel⟩
theorem mkX5_mostWithOne : am_MK mX5_mostWithOne 2 := ⟨by decide +kernel, am_gd (i := 1202) (by decide +kernel) (by decide +kernel), lzX5.2, ⟨by decide +kernel, by decide +kernel⟩, by decide, by decide +kernel⟩
theorem mkX5_leastLike : am_MK mX5_leastLike 2 := ⟨by decide +kernel, am_gd (i := 1219) (by decide +kernel) (by decide +kernel), lzX5.2, ⟨by decide +kernel, by decide +kernel⟩, by decide, by decide +kernel⟩
theorem mkX5_likeOfAll : am_MK mX5_likeOfAll 2 := ⟨by decide +kernel, am_gd (i := 1224) (by decide +kernel) (by decide +kernel), lzX5.2, ⟨by decide +kernel, by decide +kernel⟩, by decide, by decide +kernel⟩
theorem mkX5_subjectOfPeace : am_MK mX5_subjectOfPeace 1 := ⟨by decide +kernel, am_gd (i := 1215) (by decide +kernel) (by decide +kernel), lzX5.2, ⟨by decide +kernel, by decide +kernel⟩, by decide, by decide +kernel⟩
theorem mkX5_fansAmong : am_MK mX5_fansAmong 2 := ⟨by decide +kernel, am_gd (i := 1245) (by decide +kernel) (by decide +kernel), lzX5.2, ⟨by decide +kernel, by decide +kernel⟩, by decide, by decide +kernel⟩
theorem mkX5_popularAmong : am_MK mX5_popularAmong 1 := ⟨by decide +kernel, am_gd (i := 1241) (by decide +kernel) (by decide +kernel), lzX5.2, ⟨by decide +kernel, by decide +kernel⟩, by decide, by decide +kernel⟩
theorem mkX6_init : am_MK mX6_init 1 := ⟨by decide +kernel, am_gd (i := 466) (by decide +kernel) (by decide +kernel), lzX6.2, ⟨by decide +kernel, by decide +kernel⟩, by decide, by decide +kernel⟩
theorem mkX6_readsInto : am_MK mX6_readsInto 1 := ⟨by decide +kernel, am_gd (i := 711) (by decide +kernel) (by decide +kernel), lzX6.2, ⟨by decide +kernel, by decide +kernel⟩, by decide, by decide +kernel⟩
theorem mkX6_readsPart : am_MK mX6_readsPart 0 := ⟨by decide +kernel, am_gd (i := 723) (by decide +kernel) (by decide +kernel), lzX6.2, ⟨by decide +kernel, by decide +kernel⟩, by decide, by decide +kernel⟩
theorem mkX6_readsNew : am_MK mX6_readsNew 1 := ⟨by decide +kernel, am_gd (i := 749) (by decide +kernel) (by decide +kernel), lzX6.2, ⟨by decide +kernel, by decide +kernel⟩, by decide, by decide +kernel⟩
theorem mkX6_readsOdds : am_MK mX6_readsOdds 0 := ⟨by decide +kernel, am_gd (i := 727) (by decide +kernel) (by decide +kernel), lzX6.2, ⟨by decide +kernel, by decide +kernel⟩, by decide, by decide +kernel⟩
theorem mkX6_readsVoice : am_MK mX6_readsVoice 1 := ⟨by decide +kernel, am_gd (i := 773) (by decide +kernel) (by decide +kernel), lzX6.2, ⟨by decide +kernel, by decide +kernel⟩, by decide, by decide +kernel⟩
theorem mkX6_readsRow : am_MK mX6_readsRow 1 := ⟨by decide +kernel, am_gd (i := 777) (by decide +kernel) (by decide +kernel), lzX6.2, ⟨by decide +kernel, by decide +kernel⟩, by decide, by decide +kernel⟩
theorem mkX6_readsPerson : am_MK mX6_readsPerson 1 := ⟨by decide +kernel, am_gd (i := 790) (by decide +kernel) (by decide +kernel), lzX6.2, ⟨by decide +kernel, by decide +kernel⟩, by decide, by decide +kernel⟩
theorem mkX6_readsLikes : am_MK mX6_readsLikes 0 := ⟨by decide +kernel, am_gd (i := 794) (by decide +kernel) (by decide +kernel), lzX6.2, ⟨by decide +kernel, by decide +kernel⟩, by decide, by decide +kernel⟩
theorem mkX6_readsSet : am_MK mX6_readsSet 1 := ⟨by decide +kernel, am_gd (i := 803) (by decide +kernel) (by decide +kernel), lzX6.2, ⟨by decide +kernel, by decide +kernel⟩, by decide, by decide +kernel⟩
theorem mkX6_readsFlaw : am_MK mX6_readsFlaw 1 := ⟨by decide +kernel, am_gd (i := 807) (by decide +kernel) (by decide +kernel), lzX6.2, ⟨by decide +kernel, by decide +kernel⟩, by decide, by decide +kernel⟩
theorem mkX7_init : am_MK mX7_init 0 := ⟨by decide +kernel, am_gd (i := 193) (by decide +kernel) (by decide +kernel), lzX7.2, ⟨by decide +kernel, by decide +kernel⟩, by decide, by decide +kernel⟩
theorem mkX7_lay : am_MK mX7_lay 2 := ⟨by decide +kernel, am_gd (i := 641) (by decide +kernel) (by decide +kernel), lzX7.2, ⟨by decide +kernel, by decide +kernel⟩, by decide, by decide +kernel⟩
theorem mkX7_hasRun : am_MK mX7_hasRun 2 := ⟨by decide +kernel, am_gd (i := 657) (by decide +kernel) (by decide +kernel), lzX7.2, ⟨by decide +kernel, by decide +kernel⟩, by decide, by decide +kernel⟩
theorem mkX7_put : am_MK mX7_put 2 := ⟨by decide +kernel, am_gd (i := 661) (by decide +kernel) (by decide +kernel), lzX7.2, ⟨by decide +kernel, by decide +kernel⟩, by decide, by decide +kernel⟩
theorem mkX8_init : am_MK mX8_init 0 := ⟨by decide +kernel, am_gd (i := 184) (by decide +kernel) (by decide +kernel), lzX8.2, ⟨by decide +kernel, by decide +kernel⟩, by decide, by decide +kernel⟩
theorem mkX8_status : am_MK mX8_status 0 := ⟨by decide +kernel, am_gd (i := 618) (by decide +kernel) (by decide +kernel), lzX8.2, ⟨by decide +kernel, by decide +kernel⟩, by decide, by decide +kernel⟩
theorem mkX8_top : am_MK mX8_top 0 := ⟨by decide +kernel, am_gd (i := 622) (by decide +kernel) (by decide +kernel), lzX8.2, ⟨by decide +kernel, by decide +kernel⟩, by decide, by decide +kernel⟩
theorem mkX8_bottom : am_MK mX8_bottom 0 := ⟨by decide +kernel, am_gd (i := 626) (by decide +kernel) (by decide +kernel), lzX8.2, ⟨by decide +kernel, by decide +kernel⟩, by decide, by decide +kernel⟩
theorem mkX8_tray : am_MK mX8_tray 3 := ⟨by decide +kernel, am_gd (i := 630) (by decide +kernel) (by decide +kernel), lzX8.2, ⟨by decide +kernel, by decide +kernel⟩, by decide, by decide +kernel⟩
theorem mkX8_write : am_MK mX8_write 3 := ⟨by decide +kernel, am_gd (i := 649) (by decide +kernel) (by decide +kernel), lzX8.2, ⟨by decide +kernel, by decide +kernel⟩, by decide, by decide +kernel⟩
theorem mkX8_read : am_MK mX8_read 2 := ⟨by decide +kernel, am_gd (i := 665) (by decide +kernel) (by decide +kernel), lzX8.2, ⟨by decide +kernel, by decide +kernel⟩, by decide, by decide +kernel⟩
theorem mkX8_pour : am_MK mX8_pour 5 := ⟨by decide +kernel, am_gd (i := 673) (by decide +kernel) (by decide +kernel), lzX8.2, ⟨by decide +kernel, by decide +kernel⟩, by decide, by decide +kernel⟩
theorem mkX8_isTray : am_MK mX8_isTray 1 := ⟨by decide +kernel, am_gd (i := 633) (by decide +kernel) (by decide +kernel), lzX8.2, ⟨by decide +kernel, by decide +kernel⟩, by decide, by decide +kernel⟩
theorem mkX8_placeStatus : am_MK mX8_placeStatus 2 := ⟨by decide +kernel, am_gd (i := 653) (by decide +kernel) (by decide +kernel), lzX8.2, ⟨by decide +kernel, by decide +kernel⟩, by decide, by decide +kernel⟩
theorem mkX8_runStatus : am_MK mX8_runStatus 2 := ⟨by decide +kernel, am_gd (i := 1164) (by decide +kernel) (by decide +kernel), lzX8.2, ⟨by decide +kernel, by decide +kernel⟩, by decide, by decide +kernel⟩
theorem mkX8_feed : am_MK mX8_feed 5 := ⟨by decide +kernel, am_gd (i := 680) (by decide +kernel) (by decide +kernel), lzX8.2, ⟨by decide +kernel, by decide +kernel⟩, by decide, by decide +kernel⟩
theorem mkX8_feedFour : am_MK mX8_feedFour 1 := ⟨by decide +kernel, am_gd (i := 684) (by decide +kernel) (by decide +kernel), lzX8.2, ⟨by decide +kernel, by decide +kernel⟩, by decide, by decide +kernel⟩
theorem mkX8_town : am_MK mX8_town 1 := ⟨by decide +kernel, am_gd (i := 688) (by decide +kernel) (by decide +kernel), lzX8.2, ⟨by decide +kernel, by decide +kernel⟩, by decide, by decide +kernel⟩
theorem mkX8_dials : am_MK mX8_dials 1 := ⟨by decide +kernel, am_gd (i := 816) (by decide +kernel) (by decide +kernel), lzX8.2, ⟨by decide +kernel, by decide +kernel⟩, by decide, by decide +kernel⟩
theorem mkX8_fault : am_MK mX8_fault 1 := ⟨by decide +kernel, am_gd (i := 871) (by decide +kernel) (by decide +kernel), lzX8.2, ⟨by decide +kernel, by decide +kernel⟩, by decide, by decide +kernel⟩
theorem mkX8_many : am_MK mX8_many 1 := ⟨by decide +kernel, am_gd (i := 875) (by decide +kernel) (by decide +kernel), lzX8.2, ⟨by decide +kernel, by decide +kernel⟩, by decide, by decide +kernel⟩
theorem mkX8_voice : am_MK mX8_voice 2 := ⟨by decide +kernel, am_gd (i := 891) (by decide +kernel) (by decide +kernel), lzX8.2, ⟨by decide +kernel, by decide +kernel⟩, by decide, by decide +kernel⟩
theorem mkX8_row : am_MK mX8_row 2 := ⟨by decide +kernel, am_gd (i := 899) (by decide +kernel) (by decide +kernel), lzX8.2, ⟨by decide +kernel, by decide +kernel⟩, by decide, by decide +kernel⟩
theorem mkX8_person : am_MK mX8_person 2 := ⟨by decide +kernel, am_gd (i := 903) (by decide +kernel) (by decide +kernel), lzX8.2, ⟨by decide +kernel, by decide +kernel⟩, by decide, by decide +kernel⟩
theorem mkX8_like : am_MK mX8_like 2 := ⟨by decide +kernel, am_gd (i := 907) (by decide +kernel) (by decide +kernel), lzX8.2, ⟨by decide +kernel, by decide +kernel⟩, by decide, by decide +kernel⟩
theorem mkX8_set : am_MK mX8_set 2 := ⟨by decide +kernel, am_gd (i := 911) (by decide +kernel) (by decide +kernel), lzX8.2, ⟨by decide +kernel, by decide +kernel⟩, by decide, by decide +kernel⟩
theorem mkX8_hour : am_MK mX8_hour 1 := ⟨by decide +kernel, am_gd (i := 919) (by decide +kernel) (by decide +kernel), lzX8.2, ⟨by decide +kernel, by decide +kernel⟩, by decide, by decide +kernel⟩
theorem mkX8_year : am_MK mX8_year 1 := ⟨by decide +kernel, am_gd (i := 947) (by decide +kernel) (by decide +kernel), lzX8.2, ⟨by decide +kernel, by decide +kernel⟩, by decide, by decide +kernel⟩
theorem mkX8_sell : am_MK mX8_sell 3 := ⟨by decide +kernel, am_gd (i := 963) (by decide +kernel) (by decide +kernel), lzX8.2, ⟨by decide +kernel, by decide +kernel⟩, by decide, by decide +kernel⟩
theorem mkX8_give : am_MK mX8_give 2 := ⟨by decide +kernel, am_gd (i := 971) (by decide +kernel) (by decide +kernel), lzX8.2, ⟨by decide +kernel, by decide +kernel⟩, by decide, by decide +kernel⟩
theorem mkX8_dump : am_MK mX8_dump 1 := ⟨by decide +kernel, am_gd (i := 985) (by decide +kernel) (by decide +kernel), lzX8.2, ⟨by decide +kernel, by decide +kernel⟩, by decide, by decide +kernel⟩
theorem mkX8_cold : am_MK mX8_cold 2 := ⟨by decide +kernel, am_gd (i := 989) (by decide +kernel) (by decide +kernel), lzX8.2, ⟨by decide +kernel, by decide +kernel⟩, by decide, by decide +kernel⟩
theorem mkX8_flaw : am_MK mX8_flaw 2 := ⟨by decide +kernel, am_gd (i := 1005) (by decide +kernel) (by decide +kernel), lzX8.2, ⟨by decide +kernel, by decide +kernel⟩, by decide, by decide +kernel⟩
theorem mkX8_please : am_MK mX8_please 3 := ⟨by decide +kernel, am_gd (i := 1009) (by decide +kernel) (by decide +kernel), lzX8.2, ⟨by decide +kernel, by decide +kernel⟩, by decide, by decide +kernel⟩
theorem mkX8_teach : am_MK mX8_teach 2 := ⟨by decide +kernel, am_gd (i := 1013) (by decide +kernel) (by decide +kernel), lzX8.2, ⟨by decide +kernel, by decide +kernel⟩, by decide, by decide +kernel⟩
theorem mkX8_rule : am_MK mX8_rule 1 := ⟨by decide +kernel, am_gd (i := 1018) (by decide +kernel) (by decide +kernel), lzX8.2, ⟨by decide +kernel, by decide +kernel⟩, by decide, by decide +kernel⟩
theorem mkX8_saysIn : am_MK mX8_saysIn 2 := ⟨by decide +kernel, am_gd (i := 1022) (by decide +kernel) (by decide +kernel), lzX8.2, ⟨by decide +kernel, by decide +kernel⟩, by decide, by decide +kernel⟩
theorem mkX8_hearsIn : am_MK mX8_hearsIn 2 := ⟨by decide +kernel, am_gd (i := 1034) (by decide +kernel) (by decide +kernel), lzX8.2, ⟨by decide +kernel, by decide +kernel⟩, by decide, by decide +kernel⟩
theorem mkX8_gladIn : am_MK mX8_gladIn 2 := ⟨by decide +kernel, am_gd (i := 1040) (by decide +kernel) (by decide +kernel), lzX8.2, ⟨by decide +kernel, by decide +kernel⟩, by decide, by decide +kernel⟩
theorem mkX8_gladBy : am_MK mX8_gladBy 2 := ⟨by decide +kernel, am_gd (i := 1048) (by decide +kernel) (by decide +kernel), lzX8.2, ⟨by decide +kernel, by decide +kernel⟩, by decide, by decide +kernel⟩
theorem mkX8_lonelyIn : am_MK mX8_lonelyIn 1 := ⟨by decide +kernel, am_gd (i := 1053) (by decide +kernel) (by decide +kernel), lzX8.2, ⟨by decide +kernel, by decide +kernel⟩, by decide, by decide +kernel⟩
theorem mkX8_diesIn : am_MK mX8_diesIn 1 := ⟨by decide +kernel, am_gd (i := 1057) (by decide +kernel) (by decide +kernel), lzX8.2, ⟨by decide +kernel, by decide +kernel⟩, by decide, by decide +kernel⟩
theorem mkX8_crowd : am_MK mX8_crowd 1 := ⟨by decide +kernel, am_gd (i := 1065) (by decide +kernel) (by decide +kernel), lzX8.2, ⟨by decide +kernel, by decide +kernel⟩, by decide, by decide +kernel⟩
theorem mkX8_worth : am_MK mX8_worth 2 := ⟨by decide +kernel, am_gd (i := 1073) (by decide +kernel) (by decide +kernel), lzX8.2, ⟨by decide +kernel, by decide +kernel⟩, by decide, by decide +kernel⟩
theorem mkX8_best : am_MK mX8_best 1 := ⟨by decide +kernel, am_gd (i := 1082) (by decide +kernel) (by decide +kernel), lzX8.2, ⟨by decide +kernel, by decide +kernel⟩, by decide, by decide +kernel⟩
theorem mkX8_bestSet : am_MK mX8_bestSet 2 := ⟨by decide +kernel, am_gd (i := 1108) (by decide +kernel) (by decide +kernel), lzX8.2, ⟨by decide +kernel, by decide +kernel⟩, by decide, by decide +kernel⟩
theorem mkX8_trade : am_MK mX8_trade 1 := ⟨by decide +kernel, am_gd (i := 1121) (by decide +kernel) (by decide +kernel), lzX8.2, ⟨by decide +kernel, by decide +kernel⟩, by decide, by decide +kernel⟩
theorem mkX8_trades : am_MK mX8_trades 0 := ⟨by decide +kernel, am_gd (i := 1148) (by decide +kernel) (by decide +kernel), lzX8.2, ⟨by decide +kernel, by decide +kernel⟩, by decide, by decide +kernel⟩
theorem mkX8_envies : am_MK mX8_envies 2 := ⟨by decide +kernel, am_gd (i := 1152) (by decide +kernel) (by decide +kernel), lzX8.2, ⟨by decide +kernel, by decide +kernel⟩, by decide, by decide +kernel⟩
theorem mkX8_pick : am_MK mX8_pick 3 := ⟨by decide +kernel, am_gd (i := 1160) (by decide +kernel) (by decide +kernel), lzX8.2, ⟨by decide +kernel, by decide +kernel⟩, by decide, by decide +kernel⟩
theorem mkX8_isSetOfPeople : am_MK mX8_isSetOfPeople 1 := ⟨by decide +kernel, am_gd (i := 1086) (by decide +kernel) (by decide +kernel), lzX8.2, ⟨by decide +kernel, by decide +kernel⟩, by decide, by decide +kernel⟩
theorem mkX8_isRowOfPeople : am_MK mX8_isRowOfPeople 2 := ⟨by decide +kernel, am_gd (i := 1168) (by decide +kernel) (by decide +kernel), lzX8.2, ⟨by decide +kernel, by decide +kernel⟩, by decide, by decide +kernel⟩
theorem mkX8_fits : am_MK mX8_fits 2 := ⟨by decide +kernel, am_gd (i := 1180) (by decide +kernel) (by decide +kernel), lzX8.2, ⟨by decide +kernel, by decide +kernel⟩, by decide, by decide +kernel⟩
theorem mkX8_ask : am_MK mX8_ask 2 := ⟨by decide +kernel, am_gd (i := 1194) (by decide +kernel) (by decide +kernel), lzX8.2, ⟨by decide +kernel, by decide +kernel⟩, by decide, by decide +kernel⟩
theorem mkX8_twosStatus : am_MK mX8_twosStatus 2 := ⟨by decide +kernel, am_gd (i := 1184) (by decide +kernel) (by decide +kernel), lzX8.2, ⟨by decide +kernel, by decide +kernel⟩, by decide, by decide +kernel⟩
theorem mkX8_peace : am_MK mX8_peace 1 := ⟨by decide +kernel, am_gd (i := 1207) (by decide +kernel) (by decide +kernel), lzX8.2, ⟨by decide +kernel, by decide +kernel⟩, by decide, by decide +kernel⟩
theorem mkX8_peaceBy : am_MK mX8_peaceBy 1 := ⟨by decide +kernel, am_gd (i := 1228) (by decide +kernel) (by decide +kernel), lzX8.2, ⟨by decide +kernel, by decide +kernel⟩, by decide, by decide +kernel⟩
theorem mkX8_peaceStatus : am_MK mX8_peaceStatus 1 := ⟨by decide +kernel, am_gd (i := 1211) (by decide +kernel) (by decide +kernel), lzX8.2, ⟨by decide +kernel, by decide +kernel⟩, by decide, by decide +kernel⟩
theorem mkX8_popular : am_MK mX8_popular 1 := ⟨by decide +kernel, am_gd (i := 1233) (by decide +kernel) (by decide +kernel), lzX8.2, ⟨by decide +kernel, by decide +kernel⟩, by decide, by decide +kernel⟩
theorem mkX8_popularBy : am_MK mX8_popularBy 1 := ⟨by decide +kernel, am_gd (i := 1249) (by decide +kernel) (by decide +kernel), lzX8.2, ⟨by decide +kernel, by decide +kernel⟩, by decide, by decide +kernel⟩
theorem mkX8_popularStatus : am_MK mX8_popularStatus 1 := ⟨by decide +kernel, am_gd (i := 1237) (by decide +kernel) (by decide +kernel), lzX8.2, ⟨by decide +kernel, by decide +kernel⟩, by decide, by decide +kernel⟩
theorem mkX8_game : am_MK mX8_game 3 := ⟨by decide +kernel, am_gd (i := 1254) (by decide +kernel) (by decide +kernel), lzX8.2, ⟨by decide +kernel, by decide +kernel⟩, by decide, by decide +kernel⟩
theorem mkX8_moveOf : am_MK mX8_moveOf 3 := ⟨by decide +kernel, am_gd (i := 1276) (by decide +kernel) (by decide +kernel), lzX8.2, ⟨by decide +kernel, by decide +kernel⟩, by decide, by decide +kernel⟩
theorem mkX8_gameStatus : am_MK mX8_gameStatus 3 := ⟨by decide +kernel, am_gd (i := 1258) (by decide +kernel) (by decide +kernel), lzX8.2, ⟨by decide +kernel, by decide +kernel⟩, by decide, by decide +kernel⟩
theorem mkX8_alive : am_MK mX8_alive 2 := ⟨by decide +kernel, am_gd (i := 1285) (by decide +kernel) (by decide +kernel), lzX8.2, ⟨by decide +kernel, by decide +kernel⟩, by decide, by decide +kernel⟩
theorem mkX8_warm : am_MK mX8_warm 1 := ⟨by decide +kernel, am_gd (i := 1296) (by decide +kernel) (by decide +kernel), lzX8.2, ⟨by decide +kernel, by decide +kernel⟩, by decide, by decide +kernel⟩
theorem mkX8_power : am_MK mX8_power 2 := ⟨by decide +kernel, am_gd (i := 1288) (by decide +kernel) (by decide +kernel), lzX8.2, ⟨by decide +kernel, by decide +kernel⟩, by decide, by decide +kernel⟩
theorem mkX8_tell : am_MK mX8_tell 2 := ⟨by decide +kernel, am_gd (i := 1292) (by decide +kernel) (by decide +kernel), lzX8.2, ⟨by decide +kernel, by decide +kernel⟩, by decide, by decide +kernel⟩
theorem mkX8_live : am_MK mX8_live 1 := ⟨by decide +kernel, am_gd (i := 1300) (by decide +kernel) (by decide +kernel), lzX8.2, ⟨by decide +kernel, by decide +kernel⟩, by decide, by decide +kernel⟩
theorem mkX8_lived : am_MK mX8_lived 1 := ⟨by decide +kernel, am_gd (i := 1351) (by decide +kernel) (by decide +kernel), lzX8.2, ⟨by decide +kernel, by decide +kernel⟩, by decide, by decide +kernel⟩
theorem mkX8_mean : am_MK mX8_mean 2 := ⟨by decide +kernel, am_gd (i := 1355) (by decide +kernel) (by decide +kernel), lzX8.2, ⟨by decide +kernel, by decide +kernel⟩, by decide, by decide +kernel⟩
theorem mkX8_mark : am_MK mX8_mark 0 := ⟨by decide +kernel, am_gd (i := 1365) (by decide +kernel) (by decide +kernel), lzX8.2, ⟨by decide +kernel, by decide +kernel⟩, by decide, by decide +kernel⟩
theorem mkX8_back : am_MK mX8_back 0 := ⟨by decide +kernel, am_gd (i := 1369) (by decide +kernel) (by decide +kernel), lzX8.2, ⟨by decide +kernel, by decide +kernel⟩, by decide, by decide +kernel⟩
theorem mkX8_has : am_MK mX8_has 2 := ⟨by decide +kernel, am_gd (i := 895) (by decide +kernel) (by decide +kernel), lzX8.2, ⟨by decide +kernel, by decide +kernel⟩, by decide, by decide +kernel⟩
theorem mkX8_answer : am_MK mX8_answer 1 := ⟨by decide +kernel, am_gd (i := 812) (by decide +kernel) (by decide +kernel), lzX8.2, ⟨by decide +kernel, by decide +kernel⟩, by decide, by decide +kernel⟩
theorem mkX8_answerIfAny : am_MK mX8_answerIfAny 1 := ⟨by decide +kernel, am_gd (i := 915) (by decide +kernel) (by decide +kernel), lzX8.2, ⟨by decide +kernel, by decide +kernel⟩, by decide, by decide +kernel⟩
theorem mkX8_refuse : am_MK mX8_refuse 1 := ⟨by decide +kernel, am_gd (i := 669) (by decide +kernel) (by decide +kernel), lzX8.2, ⟨by decide +kernel, by decide +kernel⟩, by decide, by decide +kernel⟩
theorem mkX8_agree : am_MK mX8_agree 0 := ⟨by decide +kernel, am_gd (i := 645) (by decide +kernel) (by decide +kernel), lzX8.2, ⟨by decide +kernel, by decide +kernel⟩, by decide, by decide +kernel⟩
theorem mkX8_deny : am_MK mX8_deny 1 := ⟨by decide +kernel, am_gd (i := 637) (by decide +kernel) (by decide +kernel), lzX8.2, ⟨by decide +kernel, by decide +kernel⟩, by decide, by decide +kernel⟩
theorem mkX9_init : am_MK mX9_init 0 := ⟨by decide +kernel, am_gd (i := 1374) (by decide +kernel) (by decide +kernel), lzX9.2, ⟨by decide +kernel, by decide +kernel⟩, by decide, by decide +kernel⟩
theorem mkX9_status : am_MK mX9_status 0 := ⟨by decide +kernel, am_gd (i := 1510) (by decide +kernel) (by decide +kernel), lzX9.2, ⟨by decide +kernel, by decide +kernel⟩, by decide, by decide +kernel⟩
theorem mkX9_top : am_MK mX9_top 0 := ⟨by decide +kernel, am_gd (i := 1514) (by decide +kernel) (by decide +kernel), lzX9.2, ⟨by decide +kernel, by decide +kernel⟩, by decide, by decide +kernel⟩
theorem mkX9_bottom : am_MK mX9_bottom 0 := ⟨by decide +kernel, am_gd (i := 1518) (by decide +kernel) (by decide +kernel), lzX9.2, ⟨by decide +kernel, by decide +kernel⟩, by decide, by decide +kernel⟩
theorem mkX9_refuse : am_MK mX9_refuse 1 := ⟨by decide +kernel, am_gd (i := 1783) (by decide +kernel) (by decide +kernel), lzX9.2, ⟨by decide +kernel, by decide +kernel⟩, by decide, by decide +kernel⟩
theorem mkX9_no : am_MK mX9_no 1 := ⟨by decide +kernel, am_gd (i := 1526) (by decide +kernel) (by decide +kernel), lzX9.2, ⟨by decide +kernel, by decide +kernel⟩, by decide, by decide +kernel⟩
theorem mkX9_isIn : am_MK mX9_isIn 3 := ⟨by decide +kernel, am_gd (i := 1624) (by decide +kernel) (by decide +kernel), lzX9.2, ⟨by decide +kernel, by decide +kernel⟩, by decide, by decide +kernel⟩
theorem mkX9_fraction : am_MK mX9_fraction 2 := ⟨by decide +kernel, am_gd (i := 2137) (by decide +kernel) (by decide +kernel), lzX9.2, ⟨by decide +kernel, by decide +kernel⟩, by decide, by decide +kernel⟩
theorem mkX9_cut : am_MK mX9_cut 2 := ⟨by decide +kernel, am_gd (i := 1541) (by decide +kernel) (by decide +kernel), lzX9.2, ⟨by decide +kernel, by decide +kernel⟩, by decide, by decide +kernel⟩
theorem mkX9_tray : am_MK mX9_tray 3 := ⟨by decide +kernel, am_gd (i := 1522) (by decide +kernel) (by decide +kernel), lzX9.2, ⟨by decide +kernel, by decide +kernel⟩, by decide, by decide +kernel⟩
theorem mkX9_trayed : am_MK mX9_trayed 1 := ⟨by decide +kernel, am_gd (i := 1538) (by decide +kernel) (by decide +kernel), lzX9.2, ⟨by decide +kernel, by decide +kernel⟩, by decide, by decide +kernel⟩
theorem mkX9_placed : am_MK mX9_placed 2 := ⟨by decide +kernel, am_gd (i := 1534) (by decide +kernel) (by decide +kernel), lzX9.2, ⟨by decide +kernel, by decide +kernel⟩, by decide, by decide +kernel⟩
theorem mkX9_write : am_MK mX9_write 3 := ⟨by decide +kernel, am_gd (i := 1530) (by decide +kernel) (by decide +kernel), lzX9.2, ⟨by decide +kernel, by decide +kernel⟩, by decide, by decide +kernel⟩
theorem mkX9_read : am_MK mX9_read 2 := ⟨by decide +kernel, am_gd (i := 1545) (by decide +kernel) (by decide +kernel), lzX9.2, ⟨by decide +kernel, by decide +kernel⟩, by decide, by decide +kernel⟩
theorem mkX9_pour : am_MK mX9_pour 5 := ⟨by decide +kernel, am_gd (i := 1550) (by decide +kernel) (by decide +kernel), lzX9.2, ⟨by decide +kernel, by decide +kernel⟩, by decide, by decide +kernel⟩
theorem mkX9_numberOf : am_MK mX9_numberOf 2 := ⟨by decide +kernel, am_gd (i := 2051) (by decide +kernel) (by decide +kernel), lzX9.2, ⟨by decide +kernel, by decide +kernel⟩, by decide, by decide +kernel⟩
theorem mkX9_isTray : am_MK mX9_isTray 1 := ⟨by decide +kernel, am_gd (i := 2046) (by decide +kernel) (by decide +kernel), lzX9.2, ⟨by decide +kernel, by decide +kernel⟩, by decide, by decide +kernel⟩
theorem mkX9_has : am_MK mX9_has 2 := ⟨by decide +kernel, am_gd (i := 1870) (by decide +kernel) (by decide +kernel), lzX9.2, ⟨by decide +kernel, by decide +kernel⟩, by decide, by decide +kernel⟩
theorem mkX9_sizeOf : am_MK mX9_sizeOf 1 := ⟨by decide +kernel, am_gd (i := 1898) (by decide +kernel) (by decide +kernel), lzX9.2, ⟨by decide +kernel, by decide +kernel⟩, by decide, by decide +kernel⟩
theorem mkX9_look2 : am_MK mX9_look2 1 := ⟨by decide +kernel, am_gd (i := 1578) (by decide +kernel) (by decide +kernel), lzX9.2, ⟨by decide +kernel, by decide +kernel⟩, by decide, by decide +kernel⟩
theorem mkX9_isLetter : am_MK mX9_isLetter 1 := ⟨by decide +kernel, am_gd (i := 1581) (by decide +kernel) (by decide +kernel), lzX9.2, ⟨by decide +kernel, by decide +kernel⟩, by decide, by decide +kernel⟩
theorem mkX9_isDigit : am_MK mX9_isDigit 1 := ⟨by decide +kernel, am_gd (i := 1586) (by decide +kernel) (by decide +kernel), lzX9.2, ⟨by decide +kernel, by decide +kernel⟩, by decide, by decide +kernel⟩
theorem mkX9_isSignByte : am_MK mX9_isSignByte 1 := ⟨by decide +kernel, am_gd (i := 1590) (by decide +kernel) (by decide +kernel), lzX9.2, ⟨by decide +kernel, by decide +kernel⟩, by decide, by decide +kernel⟩
theorem mkX9_advance : am_MK mX9_advance 0 := ⟨by decide +kernel, am_gd (i := 1574) (by decide +kernel) (by decide +kernel), lzX9.2, ⟨by decide +kernel, by decide +kernel⟩, by decide, by decide +kernel⟩
theorem mkX9_isSign : am_MK mX9_isSign 1 := ⟨by decide +kernel, am_gd (i := 1750) (by decide +kernel) (by decide +kernel), lzX9.2, ⟨by decide +kernel, by decide +kernel⟩, by decide, by decide +kernel⟩
theorem mkX9_spelled : am_MK mX9_spelled 6 := ⟨by decide +kernel, am_gd (i := 1601) (by decide +kernel) (by decide +kernel), lzX9.2, ⟨by decide +kernel, by decide +kernel⟩, by decide, by decide +kernel⟩
theorem mkX9_isWord : am_MK mX9_isWord 1 := ⟨by decide +kernel, am_gd (i := 1605) (by decide +kernel) (by decide +kernel), lzX9.2, ⟨by decide +kernel, by decide +kernel⟩, by decide, by decide +kernel⟩
theorem mkX9_isOdds : am_MK mX9_isOdds 0 := ⟨by decide +kernel, am_gd (i := 1598) (by decide +kernel) (by decide +kernel), lzX9.2, ⟨by decide +kernel, by decide +kernel⟩, by decide, by decide +kernel⟩
theorem mkX9_isSubject : am_MK mX9_isSubject 0 := ⟨by decide +kernel, am_gd (i := 1628) (by decide +kernel) (by decide +kernel), lzX9.2, ⟨by decide +kernel, by decide +kernel⟩, by decide, by decide +kernel⟩
theorem mkX9_isVoice : am_MK mX9_isVoice 0 := ⟨by decide +kernel, am_gd (i := 1649) (by decide +kernel) (by decide +kernel), lzX9.2, ⟨by decide +kernel, by decide +kernel⟩, by decide, by decide +kernel⟩
theorem mkX9_isAge : am_MK mX9_isAge 0 := ⟨by decide +kernel, am_gd (i := 1653) (by decide +kernel) (by decide +kernel), lzX9.2, ⟨by decide +kernel, by decide +kernel⟩, by decide, by decide +kernel⟩
theorem mkX9_isLife : am_MK mX9_isLife 0 := ⟨by decide +kernel, am_gd (i := 1657) (by decide +kernel) (by decide +kernel), lzX9.2, ⟨by decide +kernel, by decide +kernel⟩, by decide, by decide +kernel⟩
theorem mkX9_isSays : am_MK mX9_isSays 0 := ⟨by decide +kernel, am_gd (i := 1661) (by decide +kernel) (by decide +kernel), lzX9.2, ⟨by decide +kernel, by decide +kernel⟩, by decide, by decide +kernel⟩
theorem mkX9_isPerson : am_MK mX9_isPerson 0 := ⟨by decide +kernel, am_gd (i := 1665) (by decide +kernel) (by decide +kernel), lzX9.2, ⟨by decide +kernel, by decide +kernel⟩, by decide, by decide +kernel⟩
theorem mkX9_isCoins : am_MK mX9_isCoins 0 := ⟨by decide +kernel, am_gd (i := 1669) (by decide +kernel) (by decide +kernel), lzX9.2, ⟨by decide +kernel, by decide +kernel⟩, by decide, by decide +kernel⟩
theorem mkX9_isLikes : am_MK mX9_isLikes 0 := ⟨by decide +kernel, am_gd (i := 1673) (by decide +kernel) (by decide +kernel), lzX9.2, ⟨by decide +kernel, by decide +kernel⟩, by decide, by decide +kernel⟩
theorem mkX9_isSet : am_MK mX9_isSet 0 := ⟨by decide +kernel, am_gd (i := 1677) (by decide +kernel) (by decide +kernel), lzX9.2, ⟨by decide +kernel, by decide +kernel⟩, by decide, by decide +kernel⟩
theorem mkX9_isGets : am_MK mX9_isGets 0 := ⟨by decide +kernel, am_gd (i := 1681) (by decide +kernel) (by decide +kernel), lzX9.2, ⟨by decide +kernel, by decide +kernel⟩, by decide, by decide +kernel⟩
theorem mkX9_isFlaw : am_MK mX9_isFlaw 0 := ⟨by decide +kernel, am_gd (i := 1685) (by decide +kernel) (by decide +kernel), lzX9.2, ⟨by decide +kernel, by decide +kernel⟩, by decide, by decide +kernel⟩
theorem mkX9_isFor : am_MK mX9_isFor 0 := ⟨by decide +kernel, am_gd (i := 1689) (by decide +kernel) (by decide +kernel), lzX9.2, ⟨by decide +kernel, by decide +kernel⟩, by decide, by decide +kernel⟩
theorem mkX9_stepWord : am_MK mX9_stepWord 0 := ⟨by decide +kernel, am_gd (i := 1693) (by decide +kernel) (by decide +kernel), lzX9.2, ⟨by decide +kernel, by decide +kernel⟩, by decide, by decide +kernel⟩
theorem mkX9_testWord : am_MK mX9_testWord 0 := ⟨by decide +kernel, am_gd (i := 1697) (by decide +kernel) (by decide +kernel), lzX9.2, ⟨by decide +kernel, by decide +kernel⟩, by decide, by decide +kernel⟩
theorem mkX9_isEnd : am_MK mX9_isEnd 0 := ⟨by decide +kernel, am_gd (i := 1701) (by decide +kernel) (by decide +kernel), lzX9.2, ⟨by decide +kernel, by decide +kernel⟩, by decide, by decide +kernel⟩
theorem mkX9_isKept : am_MK mX9_isKept 0 := ⟨by decide +kernel, am_gd (i := 1645) (by decide +kernel) (by decide +kernel), lzX9.2, ⟨by decide +kernel, by decide +kernel⟩, by decide, by decide +kernel⟩
theorem mkX9_isName : am_MK mX9_isName 0 := ⟨by decide +kernel, am_gd (i := 1641) (by decide +kernel) (by decide +kernel), lzX9.2, ⟨by decide +kernel, by decide +kernel⟩, by decide, by decide +kernel⟩
theorem mkX9_fail : am_MK mX9_fail 2 := ⟨by decide +kernel, am_gd (i := 1613) (by decide +kernel) (by decide +kernel), lzX9.2, ⟨by decide +kernel, by decide +kernel⟩, by decide, by decide +kernel⟩
theorem mkX9_amiss : am_MK mX9_amiss 0 := ⟨by decide +kernel, am_gd (i := 1621) (by decide +kernel) (by decide +kernel), lzX9.2, ⟨by decide +kernel, by decide +kernel⟩, by decide, by decide +kernel⟩
theorem mkX9_must : am_MK mX9_must 1 := ⟨by decide +kernel, am_gd (i := 1721) (by decide +kernel) (by decide +kernel), lzX9.2, ⟨by decide +kernel, by decide +kernel⟩, by decide, by decide +kernel⟩
theorem mkX9_count : am_MK mX9_count 2 := ⟨by decide +kernel, am_gd (i := 1617) (by decide +kernel) (by decide +kernel), lzX9.2, ⟨by decide +kernel, by decide +kernel⟩, by decide, by decide +kernel⟩
theorem mkX9_behindWord : am_MK mX9_behindWord 3 := ⟨by decide +kernel, am_gd (i := 1717) (by decide +kernel) (by decide +kernel), lzX9.2, ⟨by decide +kernel, by decide +kernel⟩, by decide, by decide +kernel⟩
theorem mkX9_perhaps : am_MK mX9_perhaps 1 := ⟨by decide +kernel, am_gd (i := 1734) (by decide +kernel) (by decide +kernel), lzX9.2, ⟨by decide +kernel, by decide +kernel⟩, by decide, by decide +kernel⟩
theorem mkX9_feed : am_MK mX9_feed 5 := ⟨by decide +kernel, am_gd (i := 1554) (by decide +kernel) (by decide +kernel), lzX9.2, ⟨by decide +kernel, by decide +kernel⟩, by decide, by decide +kernel⟩
theorem mkX9_lay : am_MK mX9_lay 1 := ⟨by decide +kernel, am_gd (i := 1558) (by decide +kernel) (by decide +kernel), lzX9.2, ⟨by decide +kernel, by decide +kernel⟩, by decide, by decide +kernel⟩
theorem mkX9_starts : am_MK mX9_starts 2 := ⟨by decide +kernel, am_gd (i := 1570) (by decide +kernel) (by decide +kernel), lzX9.2, ⟨by decide +kernel, by decide +kernel⟩, by decide, by decide +kernel⟩
theorem mkX9_isWell : am_MK mX9_isWell 0 := ⟨by decide +kernel, am_gd (i := 1754) (by decide +kernel) (by decide +kernel), lzX9.2, ⟨by decide +kernel, by decide +kernel⟩, by decide, by decide +kernel⟩
theorem mkX9_fault : am_MK mX9_fault 1 := ⟨by decide +kernel, am_gd (i := 1562) (by decide +kernel) (by decide +kernel), lzX9.2, ⟨by decide +kernel, by decide +kernel⟩, by decide, by decide +kernel⟩
theorem mkX9_empties : am_MK mX9_empties 1 := ⟨by decide +kernel, am_gd (i := 1379) (by decide +kernel) (by decide +kernel), lzX9.2, ⟨by decide +kernel, by decide +kernel⟩, by decide, by decide +kernel⟩
theorem mkX9_named : am_MK mX9_named 2 := ⟨by decide +kernel, am_gd (i := 1709) (by decide +kernel) (by decide +kernel), lzX9.2, ⟨by decide +kernel, by decide +kernel⟩, by decide, by decide +kernel⟩
theorem mkX9_isTaken : am_MK mX9_isTaken 0 := ⟨by decide +kernel, am_gd (i := 1705) (by decide +kernel) (by decide +kernel), lzX9.2, ⟨by decide +kernel, by decide +kernel⟩, by decide, by decide +kernel⟩
theorem mkX9_readNew : am_MK mX9_readNew 1 := ⟨by decide +kernel, am_gd (i := 1637) (by decide +kernel) (by decide +kernel), lzX9.2, ⟨by decide +kernel, by decide +kernel⟩, by decide, by decide +kernel⟩
theorem mkX9_told : am_MK mX9_told 2 := ⟨by decide +kernel, am_gd (i := 1725) (by decide +kernel) (by decide +kernel), lzX9.2, ⟨by decide +kernel, by decide +kernel⟩, by decide, by decide +kernel⟩
theorem mkX9_readTold : am_MK mX9_readTold 2 := ⟨by decide +kernel, am_gd (i := 1742) (by decide +kernel) (by decide +kernel), lzX9.2, ⟨by decide +kernel, by decide +kernel⟩, by decide, by decide +kernel⟩
theorem mkX9_readOdds : am_MK mX9_readOdds 0 := ⟨by decide +kernel, am_gd (i := 1609) (by decide +kernel) (by decide +kernel), lzX9.2, ⟨by decide +kernel, by decide +kernel⟩, by decide, by decide +kernel⟩
theorem mkX9_readSubject : am_MK mX9_readSubject 0 := ⟨by decide +kernel, am_gd (i := 1633) (by decide +kernel) (by decide +kernel), lzX9.2, ⟨by decide +kernel, by decide +kernel⟩, by decide, by decide +kernel⟩
theorem mkX9_readVoice : am_MK mX9_readVoice 0 := ⟨by decide +kernel, am_gd (i := 1713) (by decide +kernel) (by decide +kernel), lzX9.2, ⟨by decide +kernel, by decide +kernel⟩, by decide, by decide +kernel⟩
theorem mkX9_readPerson : am_MK mX9_readPerson 0 := ⟨by decide +kernel, am_gd (i := 1730) (by decide +kernel) (by decide +kernel), lzX9.2, ⟨by decide +kernel, by decide +kernel⟩, by decide, by decide +kernel⟩
theorem mkX9_readLikes : am_MK mX9_readLikes 0 := ⟨by decide +kernel, am_gd (i := 1738) (by decide +kernel) (by decide +kernel), lzX9.2, ⟨by decide +kernel, by decide +kernel⟩, by decide, by decide +kernel⟩
theorem mkX9_readSet : am_MK mX9_readSet 0 := ⟨by decide +kernel, am_gd (i := 1746) (by decide +kernel) (by decide +kernel), lzX9.2, ⟨by decide +kernel, by decide +kernel⟩, by decide, by decide +kernel⟩
theorem mkX9_readPart : am_MK mX9_readPart 0 := ⟨by decide +kernel, am_gd (i := 1594) (by decide +kernel) (by decide +kernel), lzX9.2, ⟨by decide +kernel, by decide +kernel⟩, by decide, by decide +kernel⟩
theorem mkX9_town : am_MK mX9_town 1 := ⟨by decide +kernel, am_gd (i := 1566) (by decide +kernel) (by decide +kernel), lzX9.2, ⟨by decide +kernel, by decide +kernel⟩, by decide, by decide +kernel⟩
theorem mkX9_readTest : am_MK mX9_readTest 1 := ⟨by decide +kernel, am_gd (i := 1774) (by decide +kernel) (by decide +kernel), lzX9.2, ⟨by decide +kernel, by decide +kernel⟩, by decide, by decide +kernel⟩
theorem mkX9_readRest : am_MK mX9_readRest 1 := ⟨by decide +kernel, am_gd (i := 1770) (by decide +kernel) (by decide +kernel), lzX9.2, ⟨by decide +kernel, by decide +kernel⟩, by decide, by decide +kernel⟩
theorem mkX9_readStep : am_MK mX9_readStep 1 := ⟨by decide +kernel, am_gd (i := 1766) (by decide +kernel) (by decide +kernel), lzX9.2, ⟨by decide +kernel, by decide +kernel⟩, by decide, by decide +kernel⟩
theorem mkX9_dials : am_MK mX9_dials 1 := ⟨by decide +kernel, am_gd (i := 1762) (by decide +kernel) (by decide +kernel), lzX9.2, ⟨by decide +kernel, by decide +kernel⟩, by decide, by decide +kernel⟩
theorem mkX9_isSubjectAt : am_MK mX9_isSubjectAt 1 := ⟨by decide +kernel, am_gd (i := 1825) (by decide +kernel) (by decide +kernel), lzX9.2, ⟨by decide +kernel, by decide +kernel⟩, by decide, by decide +kernel⟩
theorem mkX9_isVoiceAt : am_MK mX9_isVoiceAt 1 := ⟨by decide +kernel, am_gd (i := 1803) (by decide +kernel) (by decide +kernel), lzX9.2, ⟨by decide +kernel, by decide +kernel⟩, by decide, by decide +kernel⟩
theorem mkX9_isPersonAt : am_MK mX9_isPersonAt 1 := ⟨by decide +kernel, am_gd (i := 1816) (by decide +kernel) (by decide +kernel), lzX9.2, ⟨by decide +kernel, by decide +kernel⟩, by decide, by decide +kernel⟩
theorem mkX9_isSetAt : am_MK mX9_isSetAt 1 := ⟨by decide +kernel, am_gd (i := 1837) (by decide +kernel) (by decide +kernel), lzX9.2, ⟨by decide +kernel, by decide +kernel⟩, by decide, by decide +kernel⟩
theorem mkX9_ownedBy : am_MK mX9_ownedBy 1 := ⟨by decide +kernel, am_gd (i := 1791) (by decide +kernel) (by decide +kernel), lzX9.2, ⟨by decide +kernel, by decide +kernel⟩, by decide, by decide +kernel⟩
theorem mkX9_voicesBy : am_MK mX9_voicesBy 1 := ⟨by decide +kernel, am_gd (i := 1787) (by decide +kernel) (by decide +kernel), lzX9.2, ⟨by decide +kernel, by decide +kernel⟩, by decide, by decide +kernel⟩
theorem mkX9_sumOf : am_MK mX9_sumOf 1 := ⟨by decide +kernel, am_gd (i := 1795) (by decide +kernel) (by decide +kernel), lzX9.2, ⟨by decide +kernel, by decide +kernel⟩, by decide, by decide +kernel⟩
theorem mkX9_many : am_MK mX9_many 1 := ⟨by decide +kernel, am_gd (i := 1778) (by decide +kernel) (by decide +kernel), lzX9.2, ⟨by decide +kernel, by decide +kernel⟩, by decide, by decide +kernel⟩
theorem mkX9_voice : am_MK mX9_voice 2 := ⟨by decide +kernel, am_gd (i := 1799) (by decide +kernel) (by decide +kernel), lzX9.2, ⟨by decide +kernel, by decide +kernel⟩, by decide, by decide +kernel⟩
theorem mkX9_row : am_MK mX9_row 2 := ⟨by decide +kernel, am_gd (i := 1808) (by decide +kernel) (by decide +kernel), lzX9.2, ⟨by decide +kernel, by decide +kernel⟩, by decide, by decide +kernel⟩
theorem mkX9_person : am_MK mX9_person 2 := ⟨by decide +kernel, am_gd (i := 1812) (by decide +kernel) (by decide +kernel), lzX9.2, ⟨by decide +kernel, by decide +kernel⟩, by decide, by decide +kernel⟩
theorem mkX9_likeOf : am_MK mX9_likeOf 2 := ⟨by decide +kernel, am_gd (i := 1829) (by decide +kernel) (by decide +kernel), lzX9.2, ⟨by decide +kernel, by decide +kernel⟩, by decide, by decide +kernel⟩
theorem mkX9_like : am_MK mX9_like 2 := ⟨by decide +kernel, am_gd (i := 1821) (by decide +kernel) (by decide +kernel), lzX9.2, ⟨by decide +kernel, by decide +kernel⟩, by decide, by decide +kernel⟩
theorem mkX9_set : am_MK mX9_set 2 := ⟨by decide +kernel, am_gd (i := 1833) (by decide +kernel) (by decide +kernel), lzX9.2, ⟨by decide +kernel, by decide +kernel⟩, by decide, by decide +kernel⟩
theorem mkX9_placeOf : am_MK mX9_placeOf 2 := ⟨by decide +kernel, am_gd (i := 1863) (by decide +kernel) (by decide +kernel), lzX9.2, ⟨by decide +kernel, by decide +kernel⟩, by decide, by decide +kernel⟩
theorem mkX9_said : am_MK mX9_said 2 := ⟨by decide +kernel, am_gd (i := 1859) (by decide +kernel) (by decide +kernel), lzX9.2, ⟨by decide +kernel, by decide +kernel⟩, by decide, by decide +kernel⟩
theorem mkX9_heardBy : am_MK mX9_heardBy 2 := ⟨by decide +kernel, am_gd (i := 1855) (by decide +kernel) (by decide +kernel), lzX9.2, ⟨by decide +kernel, by decide +kernel⟩, by decide, by decide +kernel⟩
theorem mkX9_heard : am_MK mX9_heard 2 := ⟨by decide +kernel, am_gd (i := 1851) (by decide +kernel) (by decide +kernel), lzX9.2, ⟨by decide +kernel, by decide +kernel⟩, by decide, by decide +kernel⟩
theorem mkX9_liked : am_MK mX9_liked 2 := ⟨by decide +kernel, am_gd (i := 1867) (by decide +kernel) (by decide +kernel), lzX9.2, ⟨by decide +kernel, by decide +kernel⟩, by decide, by decide +kernel⟩
theorem mkX9_goesHour : am_MK mX9_goesHour 0 := ⟨by decide +kernel, am_gd (i := 1847) (by decide +kernel) (by decide +kernel), lzX9.2, ⟨by decide +kernel, by decide +kernel⟩, by decide, by decide +kernel⟩
theorem mkX9_hour : am_MK mX9_hour 1 := ⟨by decide +kernel, am_gd (i := 1842) (by decide +kernel) (by decide +kernel), lzX9.2, ⟨by decide +kernel, by decide +kernel⟩, by decide, by decide +kernel⟩
theorem mkX9_goesYear : am_MK mX9_goesYear 0 := ⟨by decide +kernel, am_gd (i := 1878) (by decide +kernel) (by decide +kernel), lzX9.2, ⟨by decide +kernel, by decide +kernel⟩, by decide, by decide +kernel⟩
theorem mkX9_year : am_MK mX9_year 1 := ⟨by decide +kernel, am_gd (i := 1874) (by decide +kernel) (by decide +kernel), lzX9.2, ⟨by decide +kernel, by decide +kernel⟩, by decide, by decide +kernel⟩
theorem mkX9_sells : am_MK mX9_sells 3 := ⟨by decide +kernel, am_gd (i := 1887) (by decide +kernel) (by decide +kernel), lzX9.2, ⟨by decide +kernel, by decide +kernel⟩, by decide, by decide +kernel⟩
theorem mkX9_sell : am_MK mX9_sell 3 := ⟨by decide +kernel, am_gd (i := 1882) (by decide +kernel) (by decide +kernel), lzX9.2, ⟨by decide +kernel, by decide +kernel⟩, by decide, by decide +kernel⟩
theorem mkX9_becomes : am_MK mX9_becomes 2 := ⟨by decide +kernel, am_gd (i := 1895) (by decide +kernel) (by decide +kernel), lzX9.2, ⟨by decide +kernel, by decide +kernel⟩, by decide, by decide +kernel⟩
theorem mkX9_give : am_MK mX9_give 2 := ⟨by decide +kernel, am_gd (i := 1891) (by decide +kernel) (by decide +kernel), lzX9.2, ⟨by decide +kernel, by decide +kernel⟩, by decide, by decide +kernel⟩
theorem mkX9_dump : am_MK mX9_dump 1 := ⟨by decide +kernel, am_gd (i := 1902) (by decide +kernel) (by decide +kernel), lzX9.2, ⟨by decide +kernel, by decide +kernel⟩, by decide, by decide +kernel⟩
theorem mkX9_chills : am_MK mX9_chills 2 := ⟨by decide +kernel, am_gd (i := 1910) (by decide +kernel) (by decide +kernel), lzX9.2, ⟨by decide +kernel, by decide +kernel⟩, by decide, by decide +kernel⟩
theorem mkX9_cold : am_MK mX9_cold 2 := ⟨by decide +kernel, am_gd (i := 1906) (by decide +kernel) (by decide +kernel), lzX9.2, ⟨by decide +kernel, by decide +kernel⟩, by decide, by decide +kernel⟩
theorem mkX9_flaw : am_MK mX9_flaw 2 := ⟨by decide +kernel, am_gd (i := 1914) (by decide +kernel) (by decide +kernel), lzX9.2, ⟨by decide +kernel, by decide +kernel⟩, by decide, by decide +kernel⟩
theorem mkX9_please : am_MK mX9_please 3 := ⟨by decide +kernel, am_gd (i := 1918) (by decide +kernel) (by decide +kernel), lzX9.2, ⟨by decide +kernel, by decide +kernel⟩, by decide, by decide +kernel⟩
theorem mkX9_teach : am_MK mX9_teach 2 := ⟨by decide +kernel, am_gd (i := 1923) (by decide +kernel) (by decide +kernel), lzX9.2, ⟨by decide +kernel, by decide +kernel⟩, by decide, by decide +kernel⟩
theorem mkX9_rule : am_MK mX9_rule 1 := ⟨by decide +kernel, am_gd (i := 1927) (by decide +kernel) (by decide +kernel), lzX9.2, ⟨by decide +kernel, by decide +kernel⟩, by decide, by decide +kernel⟩
theorem mkX9_saysIn : am_MK mX9_saysIn 2 := ⟨by decide +kernel, am_gd (i := 1932) (by decide +kernel) (by decide +kernel), lzX9.2, ⟨by decide +kernel, by decide +kernel⟩, by decide, by decide +kernel⟩
theorem mkX9_hearsIn : am_MK mX9_hearsIn 2 := ⟨by decide +kernel, am_gd (i := 1936) (by decide +kernel) (by decide +kernel), lzX9.2, ⟨by decide +kernel, by decide +kernel⟩, by decide, by decide +kernel⟩
theorem mkX9_gladAfter : am_MK mX9_gladAfter 2 := ⟨by decide +kernel, am_gd (i := 1945) (by decide +kernel) (by decide +kernel), lzX9.2, ⟨by decide +kernel, by decide +kernel⟩, by decide, by decide +kernel⟩
theorem mkX9_gladIn : am_MK mX9_gladIn 2 := ⟨by decide +kernel, am_gd (i := 1940) (by decide +kernel) (by decide +kernel), lzX9.2, ⟨by decide +kernel, by decide +kernel⟩, by decide, by decide +kernel⟩
theorem mkX9_gladBy : am_MK mX9_gladBy 2 := ⟨by decide +kernel, am_gd (i := 1949) (by decide +kernel) (by decide +kernel), lzX9.2, ⟨by decide +kernel, by decide +kernel⟩, by decide, by decide +kernel⟩
theorem mkX9_lonelyIn : am_MK mX9_lonelyIn 1 := ⟨by decide +kernel, am_gd (i := 1954) (by decide +kernel) (by decide +kernel), lzX9.2, ⟨by decide +kernel, by decide +kernel⟩, by decide, by decide +kernel⟩
theorem mkX9_diesIn : am_MK mX9_diesIn 1 := ⟨by decide +kernel, am_gd (i := 1958) (by decide +kernel) (by decide +kernel), lzX9.2, ⟨by decide +kernel, by decide +kernel⟩, by decide, by decide +kernel⟩
theorem mkX9_crowdOf : am_MK mX9_crowdOf 1 := ⟨by decide +kernel, am_gd (i := 1966) (by decide +kernel) (by decide +kernel), lzX9.2, ⟨by decide +kernel, by decide +kernel⟩, by decide, by decide +kernel⟩
theorem mkX9_crowd : am_MK mX9_crowd 1 := ⟨by decide +kernel, am_gd (i := 1962) (by decide +kernel) (by decide +kernel), lzX9.2, ⟨by decide +kernel, by decide +kernel⟩, by decide, by decide +kernel⟩
theorem mkX9_worthOf : am_MK mX9_worthOf 2 := ⟨by decide +kernel, am_gd (i := 1974) (by decide +kernel) (by decide +kernel), lzX9.2, ⟨by decide +kernel, by decide +kernel⟩, by decide, by decide +kernel⟩
theorem mkX9_worth : am_MK mX9_worth 2 := ⟨by decide +kernel, am_gd (i := 1970) (by decide +kernel) (by decide +kernel), lzX9.2, ⟨by decide +kernel, by decide +kernel⟩, by decide, by decide +kernel⟩
theorem mkX9_laysWorths : am_MK mX9_laysWorths 0 := ⟨by decide +kernel, am_gd (i := 1990) (by decide +kernel) (by decide +kernel), lzX9.2, ⟨by decide +kernel, by decide +kernel⟩, by decide, by decide +kernel⟩
theorem mkX9_shares : am_MK mX9_shares 4 := ⟨by decide +kernel, am_gd (i := 1994) (by decide +kernel) (by decide +kernel), lzX9.2, ⟨by decide +kernel, by decide +kernel⟩, by decide, by decide +kernel⟩
theorem mkX9_laysBest : am_MK mX9_laysBest 1 := ⟨by decide +kernel, am_gd (i := 1986) (by decide +kernel) (by decide +kernel), lzX9.2, ⟨by decide +kernel, by decide +kernel⟩, by decide, by decide +kernel⟩
theorem mkX9_arePeople : am_MK mX9_arePeople 1 := ⟨by decide +kernel, am_gd (i := 1982) (by decide +kernel) (by decide +kernel), lzX9.2, ⟨by decide +kernel, by decide +kernel⟩, by decide, by decide +kernel⟩
theorem mkX9_best : am_MK mX9_best 1 := ⟨by decide +kernel, am_gd (i := 1978) (by decide +kernel) (by decide +kernel), lzX9.2, ⟨by decide +kernel, by decide +kernel⟩, by decide, by decide +kernel⟩
theorem mkX9_bestSet : am_MK mX9_bestSet 2 := ⟨by decide +kernel, am_gd (i := 1998) (by decide +kernel) (by decide +kernel), lzX9.2, ⟨by decide +kernel, by decide +kernel⟩, by decide, by decide +kernel⟩
theorem mkX9_firstOf : am_MK mX9_firstOf 1 := ⟨by decide +kernel, am_gd (i := 2010) (by decide +kernel) (by decide +kernel), lzX9.2, ⟨by decide +kernel, by decide +kernel⟩, by decide, by decide +kernel⟩
theorem mkX9_pointsTo : am_MK mX9_pointsTo 1 := ⟨by decide +kernel, am_gd (i := 2018) (by decide +kernel) (by decide +kernel), lzX9.2, ⟨by decide +kernel, by decide +kernel⟩, by decide, by decide +kernel⟩
theorem mkX9_goesRing : am_MK mX9_goesRing 1 := ⟨by decide +kernel, am_gd (i := 2022) (by decide +kernel) (by decide +kernel), lzX9.2, ⟨by decide +kernel, by decide +kernel⟩, by decide, by decide +kernel⟩
theorem mkX9_ringFrom : am_MK mX9_ringFrom 1 := ⟨by decide +kernel, am_gd (i := 2014) (by decide +kernel) (by decide +kernel), lzX9.2, ⟨by decide +kernel, by decide +kernel⟩, by decide, by decide +kernel⟩
theorem mkX9_laysTrades : am_MK mX9_laysTrades 0 := ⟨by decide +kernel, am_gd (i := 2006) (by decide +kernel) (by decide +kernel), lzX9.2, ⟨by decide +kernel, by decide +kernel⟩, by decide, by decide +kernel⟩
theorem mkX9_trade : am_MK mX9_trade 1 := ⟨by decide +kernel, am_gd (i := 2002) (by decide +kernel) (by decide +kernel), lzX9.2, ⟨by decide +kernel, by decide +kernel⟩, by decide, by decide +kernel⟩
theorem mkX9_trades : am_MK mX9_trades 0 := ⟨by decide +kernel, am_gd (i := 2026) (by decide +kernel) (by decide +kernel), lzX9.2, ⟨by decide +kernel, by decide +kernel⟩, by decide, by decide +kernel⟩
theorem mkX9_bestOwned : am_MK mX9_bestOwned 2 := ⟨by decide +kernel, am_gd (i := 2034) (by decide +kernel) (by decide +kernel), lzX9.2, ⟨by decide +kernel, by decide +kernel⟩, by decide, by decide +kernel⟩
theorem mkX9_envies : am_MK mX9_envies 2 := ⟨by decide +kernel, am_gd (i := 2030) (by decide +kernel) (by decide +kernel), lzX9.2, ⟨by decide +kernel, by decide +kernel⟩, by decide, by decide +kernel⟩
theorem mkX9_whyNoPick : am_MK mX9_whyNoPick 2 := ⟨by decide +kernel, am_gd (i := 2042) (by decide +kernel) (by decide +kernel), lzX9.2, ⟨by decide +kernel, by decide +kernel⟩, by decide, by decide +kernel⟩
theorem mkX9_pick : am_MK mX9_pick 3 := ⟨by decide +kernel, am_gd (i := 2038) (by decide +kernel) (by decide +kernel), lzX9.2, ⟨by decide +kernel, by decide +kernel⟩, by decide, by decide +kernel⟩
theorem mkX9_whyNotFits : am_MK mX9_whyNotFits 2 := ⟨by decide +kernel, am_gd (i := 2059) (by decide +kernel) (by decide +kernel), lzX9.2, ⟨by decide +kernel, by decide +kernel⟩, by decide, by decide +kernel⟩
theorem mkX9_fitting : am_MK mX9_fitting 2 := ⟨by decide +kernel, am_gd (i := 2063) (by decide +kernel) (by decide +kernel), lzX9.2, ⟨by decide +kernel, by decide +kernel⟩, by decide, by decide +kernel⟩
theorem mkX9_fits : am_MK mX9_fits 2 := ⟨by decide +kernel, am_gd (i := 2055) (by decide +kernel) (by decide +kernel), lzX9.2, ⟨by decide +kernel, by decide +kernel⟩, by decide, by decide +kernel⟩
theorem mkX9_alikeIn : am_MK mX9_alikeIn 2 := ⟨by decide +kernel, am_gd (i := 2071) (by decide +kernel) (by decide +kernel), lzX9.2, ⟨by decide +kernel, by decide +kernel⟩, by decide, by decide +kernel⟩
theorem mkX9_ask : am_MK mX9_ask 2 := ⟨by decide +kernel, am_gd (i := 2067) (by decide +kernel) (by decide +kernel), lzX9.2, ⟨by decide +kernel, by decide +kernel⟩, by decide, by decide +kernel⟩
theorem mkX9_leastLike : am_MK mX9_leastLike 2 := ⟨by decide +kernel, am_gd (i := 2083) (by decide +kernel) (by decide +kernel), lzX9.2, ⟨by decide +kernel, by decide +kernel⟩, by decide, by decide +kernel⟩
theorem mkX9_allLike : am_MK mX9_allLike 2 := ⟨by decide +kernel, am_gd (i := 2088) (by decide +kernel) (by decide +kernel), lzX9.2, ⟨by decide +kernel, by decide +kernel⟩, by decide, by decide +kernel⟩
theorem mkX9_peaceful : am_MK mX9_peaceful 1 := ⟨by decide +kernel, am_gd (i := 2079) (by decide +kernel) (by decide +kernel), lzX9.2, ⟨by decide +kernel, by decide +kernel⟩, by decide, by decide +kernel⟩
theorem mkX9_peace : am_MK mX9_peace 1 := ⟨by decide +kernel, am_gd (i := 2075) (by decide +kernel) (by decide +kernel), lzX9.2, ⟨by decide +kernel, by decide +kernel⟩, by decide, by decide +kernel⟩
theorem mkX9_peaceBy : am_MK mX9_peaceBy 1 := ⟨by decide +kernel, am_gd (i := 2092) (by decide +kernel) (by decide +kernel), lzX9.2, ⟨by decide +kernel, by decide +kernel⟩, by decide, by decide +kernel⟩
theorem mkX9_fansOf : am_MK mX9_fansOf 2 := ⟨by decide +kernel, am_gd (i := 2104) (by decide +kernel) (by decide +kernel), lzX9.2, ⟨by decide +kernel, by decide +kernel⟩, by decide, by decide +kernel⟩
theorem mkX9_popularOf : am_MK mX9_popularOf 1 := ⟨by decide +kernel, am_gd (i := 2100) (by decide +kernel) (by decide +kernel), lzX9.2, ⟨by decide +kernel, by decide +kernel⟩, by decide, by decide +kernel⟩
theorem mkX9_popular : am_MK mX9_popular 1 := ⟨by decide +kernel, am_gd (i := 2096) (by decide +kernel) (by decide +kernel), lzX9.2, ⟨by decide +kernel, by decide +kernel⟩, by decide, by decide +kernel⟩
theorem mkX9_popularBy : am_MK mX9_popularBy 1 := ⟨by decide +kernel, am_gd (i := 2108) (by decide +kernel) (by decide +kernel), lzX9.2, ⟨by decide +kernel, by decide +kernel⟩, by decide, by decide +kernel⟩
theorem mkX9_plays : am_MK mX9_plays 5 := ⟨by decide +kernel, am_gd (i := 2121) (by decide +kernel) (by decide +kernel), lzX9.2, ⟨by decide +kernel, by decide +kernel⟩, by decide, by decide +kernel⟩
theorem mkX9_whyNoGame : am_MK mX9_whyNoGame 4 := ⟨by decide +kernel, am_gd (i := 2116) (by decide +kernel) (by decide +kernel), lzX9.2, ⟨by decide +kernel, by decide +kernel⟩, by decide, by decide +kernel⟩
theorem mkX9_game : am_MK mX9_game 3 := ⟨by decide +kernel, am_gd (i := 2112) (by decide +kernel) (by decide +kernel), lzX9.2, ⟨by decide +kernel, by decide +kernel⟩, by decide, by decide +kernel⟩
theorem mkX9_moveOf : am_MK mX9_moveOf 3 := ⟨by decide +kernel, am_gd (i := 2125) (by decide +kernel) (by decide +kernel), lzX9.2, ⟨by decide +kernel, by decide +kernel⟩, by decide, by decide +kernel⟩
theorem mkX9_power : am_MK mX9_power 2 := ⟨by decide +kernel, am_gd (i := 2133) (by decide +kernel) (by decide +kernel), lzX9.2, ⟨by decide +kernel, by decide +kernel⟩, by decide, by decide +kernel⟩
theorem mkX9_alive : am_MK mX9_alive 2 := ⟨by decide +kernel, am_gd (i := 2129) (by decide +kernel) (by decide +kernel), lzX9.2, ⟨by decide +kernel, by decide +kernel⟩, by decide, by decide +kernel⟩
theorem mkX9_warm : am_MK mX9_warm 1 := ⟨by decide +kernel, am_gd (i := 2144) (by decide +kernel) (by decide +kernel), lzX9.2, ⟨by decide +kernel, by decide +kernel⟩, by decide, by decide +kernel⟩
theorem mkX9_draw : am_MK mX9_draw 1 := ⟨by decide +kernel, am_gd (i := 2180) (by decide +kernel) (by decide +kernel), lzX9.2, ⟨by decide +kernel, by decide +kernel⟩, by decide, by decide +kernel⟩
theorem mkX9_anyHours : am_MK mX9_anyHours 1 := ⟨by decide +kernel, am_gd (i := 2168) (by decide +kernel) (by decide +kernel), lzX9.2, ⟨by decide +kernel, by decide +kernel⟩, by decide, by decide +kernel⟩
theorem mkX9_anyYears : am_MK mX9_anyYears 1 := ⟨by decide +kernel, am_gd (i := 2172) (by decide +kernel) (by decide +kernel), lzX9.2, ⟨by decide +kernel, by decide +kernel⟩, by decide, by decide +kernel⟩
theorem mkX9_isAny : am_MK mX9_isAny 0 := ⟨by decide +kernel, am_gd (i := 2176) (by decide +kernel) (by decide +kernel), lzX9.2, ⟨by decide +kernel, by decide +kernel⟩, by decide, by decide +kernel⟩
theorem mkX9_does : am_MK mX9_does 1 := ⟨by decide +kernel, am_gd (i := 2164) (by decide +kernel) (by decide +kernel), lzX9.2, ⟨by decide +kernel, by decide +kernel⟩, by decide, by decide +kernel⟩
theorem mkX9_isSo : am_MK mX9_isSo 1 := ⟨by decide +kernel, am_gd (i := 2185) (by decide +kernel) (by decide +kernel), lzX9.2, ⟨by decide +kernel, by decide +kernel⟩, by decide, by decide +kernel⟩
theorem mkX9_doOne : am_MK mX9_doOne 1 := ⟨by decide +kernel, am_gd (i := 2160) (by decide +kernel) (by decide +kernel), lzX9.2, ⟨by decide +kernel, by decide +kernel⟩, by decide, by decide +kernel⟩
theorem mkX9_doAll : am_MK mX9_doAll 2 := ⟨by decide +kernel, am_gd (i := 2156) (by decide +kernel) (by decide +kernel), lzX9.2, ⟨by decide +kernel, by decide +kernel⟩, by decide, by decide +kernel⟩
theorem mkX9_runsDials : am_MK mX9_runsDials 1 := ⟨by decide +kernel, am_gd (i := 2152) (by decide +kernel) (by decide +kernel), lzX9.2, ⟨by decide +kernel, by decide +kernel⟩, by decide, by decide +kernel⟩
theorem mkX9_live : am_MK mX9_live 1 := ⟨by decide +kernel, am_gd (i := 2148) (by decide +kernel) (by decide +kernel), lzX9.2, ⟨by decide +kernel, by decide +kernel⟩, by decide, by decide +kernel⟩
theorem mkX9_lived : am_MK mX9_lived 1 := ⟨by decide +kernel, am_gd (i := 2189) (by decide +kernel) (by decide +kernel), lzX9.2, ⟨by decide +kernel, by decide +kernel⟩, by decide, by decide +kernel⟩
theorem mkX9_mean : am_MK mX9_mean 2 := ⟨by decide +kernel, am_gd (i := 2193) (by decide +kernel) (by decide +kernel), lzX9.2, ⟨by decide +kernel, by decide +kernel⟩, by decide, by decide +kernel⟩
theorem mkX9_copy : am_MK mX9_copy 2 := ⟨by decide +kernel, am_gd (i := 1758) (by decide +kernel) (by decide +kernel), lzX9.2, ⟨by decide +kernel, by decide +kernel⟩, by decide, by decide +kernel⟩
theorem mkX9_mark : am_MK mX9_mark 0 := ⟨by decide +kernel, am_gd (i := 2197) (by decide +kernel) (by decide +kernel), lzX9.2, ⟨by decide +kernel, by decide +kernel⟩, by decide, by decide +kernel⟩
theorem mkX9_back : am_MK mX9_back 0 := ⟨by decide +kernel, am_gd (i := 2201) (by decide +kernel) (by decide +kernel), lzX9.2, ⟨by decide +kernel, by decide +kernel⟩, by decide, by decide +kernel⟩
theorem mkJ6_bitCount_0f7a4 : am_MK mJ6_bitCount_0f7a4 1 := ⟨by decide +kernel, am_gd (i := 978) (by decide +kernel) (by decide +kernel), am_gd (i := 179) (by decide +kernel) (by decide +kernel), ⟨by decide +kernel, by decide +kernel⟩, by decide, by decide +kernel⟩
