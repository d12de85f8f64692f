theorem ufX0 : ∀ w ∈ u_ws RX0 TX0 3, w ∈ UU := by
  intro w hw
  obtain ⟨k, hk, rfl⟩ := List.mem_map.mp hw
  have hk := List.mem_range.mp hk
  match k, hk with
  | 0, _ => exact uu_1 (i := 38) rfl rfl
  | 1, _ => exact uu_1 (i := 40) rfl rfl
  | 2, _ => exact uu_1 (i := 42) rfl rfl
  | k + 3, h => exact absurd h (by omega)
theorem ufX1 : ∀ w ∈ u_ws RX1 TX1 5, w ∈ UU := by
  intro w hw
  obtain ⟨k, hk, rfl⟩ := List.mem_map.mp hw
  have hk := List.mem_range.mp hk
  match k, hk with
  | 0, _ => exact uu_1 (i := 78) rfl rfl
  | 1, _ => exact uu_1 (i := 80) rfl rfl
  | 2, _ => exact uu_1 (i := 82) rfl rfl
  | 3, _ => exact uu_1 (i := 84) rfl rfl
  | 4, _ => exact uu_1 (i := 86) rfl rfl
  | k + 5, h => exact absurd h (by omega)
theorem ufX2 : ∀ w ∈ u_ws RX2 TX2 2, w ∈ UU := by
  intro w hw
  obtain ⟨k, hk, rfl⟩ := List.mem_map.mp hw
  have hk := List.mem_range.mp hk
  match k, hk with
  | 0, _ => exact uu_1 (i := 57) rfl rfl
  | 1, _ => exact uu_1 (i := 59) rfl rfl
  | k + 2, h => exact absurd h (by omega)
theorem ufX3 : ∀ w ∈ u_ws RX3 TX3 4, w ∈ UU := by
  intro w hw
  obtain ⟨k, hk, rfl⟩ := List.mem_map.mp hw
  have hk := List.mem_range.mp hk
  match k, hk with
  | 0, _ => exact uu_1 (i := 143) rfl rfl
  | 1, _ => exact uu_1 (i := 145) rfl rfl
  | 2, _ => exact uu_1 (i := 147) rfl rfl
  | 3, _ => exact uu_1 (i := 149) rfl rfl
  | k + 4, h => exact absurd h (by omega)
theorem ufX4 : ∀ w ∈ u_ws RX4 TX4 10, w ∈ UU := by
  intro w hw
  obtain ⟨k, hk, rfl⟩ := List.mem_map.mp hw
  have hk := List.mem_range.mp hk
  match k, hk with
  | 0, _ => exact uu_1 (i := 112) rfl rfl
  | 1, _ => exact uu_1 (i := 114) rfl rfl
  | 2, _ => exact uu_1 (i := 116) rfl rfl
  | 3, _ => exact uu_1 (i := 118) rfl rfl
  | 4, _ => exact uu_1 (i := 120) rfl rfl
  | 5, _ => exact uu_1 (i := 122) rfl rfl
  | 6, _ => exact uu_1 (i := 124) rfl rfl
  | 7, _ => exact uu_1 (i := 126) rfl rfl
  | 8, _ => exact uu_1 (i := 128) rfl rfl
  | 9, _ => exact uu_1 (i := 130) rfl rfl
  | k + 10, h => exact absurd h (by omega)
theorem ufX5 : ∀ w ∈ u_ws RX5 TX5 6, w ∈ UU := by
  intro w hw
  obtain ⟨k, hk, rfl⟩ := List.mem_map.mp hw
  have hk := List.mem_range.mp hk
  match k, hk with
  | 0, _ => exact uu_1 (i := 158) rfl rfl
  | 1, _ => exact uu_1 (i := 160) rfl rfl
  | 2, _ => exact uu_1 (i := 162) rfl rfl
  | 3, _ => exact uu_1 (i := 164) rfl rfl
  | 4, _ => exact uu_1 (i := 166) rfl rfl
  | 5, _ => exact uu_1 (i := 168) rfl rfl
  | k + 6, h => exact absurd h (by omega)
theorem ufX6 : ∀ w ∈ u_ws RX6 TX6 25, w ∈ UU := by
  intro w hw
  obtain ⟨k, hk, rfl⟩ := List.mem_map.mp hw
  have hk := List.mem_range.mp hk
  match k, hk with
  | 0, _ => exact uu_3 (i := 206) rfl rfl
  | 1, _ => exact uu_3 (i := 208) rfl rfl
  | 2, _ => exact uu_3 (i := 210) rfl rfl
  | 3, _ => exact uu_3 (i := 212) rfl rfl
  | 4, _ => exact uu_3 (i := 214) rfl rfl
  | 5, _ => exact uu_3 (i := 216) rfl rfl
  | 6, _ => exact uu_3 (i := 218) rfl rfl
  | 7, _ => exact uu_3 (i := 220) rfl rfl
  | 8, _ => exact uu_3 (i := 222) rfl rfl
  | 9, _ => exact uu_3 (i := 224) rfl rfl
  | 10, _ => exact uu_3 (i := 226) rfl rfl
  | 11, _ => exact uu_3 (i := 228) rfl rfl
  | 12, _ => exact uu_3 (i := 230) rfl rfl
  | 13, _ => exact uu_3 (i := 232) rfl rfl
  | 14, _ => exact uu_3 (i := 234) rfl rfl
  | 15, _ => exact uu_3 (i := 236) rfl rfl
  | 16, _ => exact uu_3 (i := 238) rfl rfl
  | 17, _ => exact uu_4 (i := 0) rfl rfl
  | 18, _ => exact uu_4 (i := 2) rfl rfl
  | 19, _ => exact uu_4 (i := 4) rfl rfl
  | 20, _ => exact uu_4 (i := 6) rfl rfl
  | 21, _ => exact uu_4 (i := 8) rfl rfl
  | 22, _ => exact uu_4 (i := 10) rfl rfl
  | 23, _ => exact uu_4 (i := 12) rfl rfl
  | 24, _ => exact uu_4 (i := 14) rfl rfl
  | k + 25, h => exact absurd h (by omega)
theorem fl_X0_9 : FLk RX0 9 0 0 := ⟨RX0, TX0, 3, rfl, by decide, ufX0, uu_1 (i := 32) rfl rfl⟩
theorem fp_X0_9 : FPk RX0 9 0 0 .int := ⟨RX0, TX0, 3, tyX0, rfl, by decide, ufX0, uu_1 (i := 32) rfl rfl, tyX0_ok, nmX0, rfl, by decide +kernel⟩
theorem fl_X0_15 : FLk RX0 15 0 1 := ⟨RX0, TX0, 3, rfl, by decide, ufX0, uu_1 (i := 35) rfl rfl⟩
theorem fp_X0_15 : FPk RX0 15 0 1 .int := ⟨RX0, TX0, 3, tyX0, rfl, by decide, ufX0, uu_1 (i := 35) rfl rfl, tyX0_ok, nmX0, rfl, by decide +kernel⟩
theorem fl_X0_20 : FLk RX0 20 0 2 := ⟨RX0, TX0, 3, rfl, by decide, ufX0, uu_1 (i := 37) rfl rfl⟩
theorem cw_X0_23 : CWV RX0 23 RX0 yX0_open cX0_open 2 (some .int) 1 := ⟨uu_2 (i := 104) rfl rfl, uu_2 (i := 18) rfl rfl, uu_2 (i := 19) rfl rfl, uu_1 (i := 2) rfl rfl, uu_2 (i := 20) rfl rfl, by decide +kernel⟩
theorem cw_X0_27 : CWV RX0 27 RX0 yX0_openSet cX0_openSet 1 (some .int) 0 := ⟨uu_2 (i := 100) rfl rfl, uu_2 (i := 101) rfl rfl, uu_2 (i := 102) rfl rfl, uu_1 (i := 2) rfl rfl, uu_2 (i := 103) rfl rfl, by decide +kernel⟩
theorem cs_X0_31 : CWS RX0 31 yJ6_bitCount_0f7a4 cJ6_bitCount_0f7a4 1 (some .int) 1 := ⟨uu_2 (i := 105) rfl rfl, uu_2 (i := 42) rfl rfl, uu_1 (i := 9) rfl rfl, uu_2 (i := 43) rfl rfl, by decide +kernel⟩
theorem cw_X0_36 : CWV RX0 36 RX0 yX0_openCells cX0_openCells 1 (some .int) 0 := ⟨uu_2 (i := 96) rfl rfl, uu_2 (i := 97) rfl rfl, uu_2 (i := 98) rfl rfl, uu_1 (i := 2) rfl rfl, uu_2 (i := 99) rfl rfl, by decide +kernel⟩
theorem cm_X0_39 : CMm RX0 39 Lib.Math.min.name Lib.Math.min.code := ⟨uu_1 (i := 229) rfl rfl, uu_1 (i := 230) rfl rfl, uu_1 (i := 8) rfl rfl, uu_1 (i := 231) rfl rfl⟩
theorem cw_X0_45 : CWV RX0 45 RX0 yX0_agedChance cX0_agedChance 3 (some .int) 2 := ⟨uu_2 (i := 12) rfl rfl, uu_1 (i := 226) rfl rfl, uu_1 (i := 227) rfl rfl, uu_1 (i := 2) rfl rfl, uu_1 (i := 228) rfl rfl, by decide +kernel⟩
theorem cw_X0_48 : CWV RX0 48 RX0 yX0_isMasked cX0_isMasked 2 (some .boolean) 1 := ⟨uu_2 (i := 151) rfl rfl, uu_1 (i := 222) rfl rfl, uu_1 (i := 223) rfl rfl, uu_1 (i := 2) rfl rfl, uu_1 (i := 224) rfl rfl, by decide +kernel⟩
theorem cw_X0_52 : CWV RX0 52 RX0 yX0_mateOf cX0_mateOf 4 (some .int) 1 := ⟨uu_2 (i := 166) rfl rfl, uu_2 (i := 168) rfl rfl, uu_0 (i := 7) rfl rfl, uu_1 (i := 2) rfl rfl, uu_2 (i := 169) rfl rfl, by decide +kernel⟩
theorem cs_X0_55 : CWS RX0 55 yX0_expectedOfTwo cX0_expectedOfTwo 2 (some .int) 2 := ⟨uu_2 (i := 190) rfl rfl, uu_2 (i := 191) rfl rfl, uu_1 (i := 2) rfl rfl, uu_2 (i := 192) rfl rfl, by decide +kernel⟩
theorem cs_X0_58 : CWS RX0 58 yJ6_numberOfLeadingZeros_0f7a4 cJ6_numberOfLeadingZeros_0f7a4 2 (some .int) 1 := ⟨uu_2 (i := 170) rfl rfl, uu_2 (i := 171) rfl rfl, uu_1 (i := 9) rfl rfl, uu_2 (i := 172) rfl rfl, by decide +kernel⟩
theorem fl_X1_7 : FLk RX1 7 1 0 := ⟨RX1, TX1, 5, rfl, by decide, ufX1, uu_1 (i := 68) rfl rfl⟩
theorem fp_X1_7 : FPk RX1 7 1 0 .int := ⟨RX1, TX1, 5, tyX1, rfl, by decide, ufX1, uu_1 (i := 68) rfl rfl, tyX1_ok, nmX1, rfl, by decide +kernel⟩
theorem fl_X1_13 : FLk RX1 13 1 1 := ⟨RX1, TX1, 5, rfl, by decide, ufX1, uu_1 (i := 70) rfl rfl⟩
theorem fl_X1_17 : FLk RX1 17 1 2 := ⟨RX1, TX1, 5, rfl, by decide, ufX1, uu_1 (i := 72) rfl rfl⟩
theorem fl_X1_21 : FLk RX1 21 1 3 := ⟨RX1, TX1, 5, rfl, by decide, ufX1, uu_1 (i := 74) rfl rfl⟩
theorem fl_X1_24 : FLk RX1 24 1 4 := ⟨RX1, TX1, 5, rfl, by decide, ufX1, uu_1 (i := 76) rfl rfl⟩
theorem cs_X1_27 : CWS RX1 27 yJ6_bitCount_0f7a4 cJ6_bitCount_0f7a4 1 (some .int) 1 := ⟨uu_3 (i := 32) rfl rfl, uu_2 (i := 42) rfl rfl, uu_1 (i := 9) rfl rfl, uu_2 (i := 43) rfl rfl, by decide +kernel⟩
theorem cw_X1_33 : CWV RX1 33 RX1 yX1_nearest cX1_nearest 7 (some .int) 2 := ⟨uu_3 (i := 41) rfl rfl, uu_3 (i := 29) rfl rfl, uu_3 (i := 30) rfl rfl, uu_1 (i := 4) rfl rfl, uu_3 (i := 31) rfl rfl, by decide +kernel⟩
theorem cm_X1_39 : CMm RX1 39 Lib.Math.min.name Lib.Math.min.code := ⟨uu_3 (i := 50) rfl rfl, uu_1 (i := 230) rfl rfl, uu_1 (i := 8) rfl rfl, uu_1 (i := 231) rfl rfl⟩
theorem fl_X2_7 : FLk RX2 7 2 0 := ⟨RX2, TX2, 2, rfl, by decide, ufX2, uu_1 (i := 52) rfl rfl⟩
theorem fp_X2_7 : FPk RX2 7 2 0 .int := ⟨RX2, TX2, 2, tyX2, rfl, by decide, ufX2, uu_1 (i := 52) rfl rfl, tyX2_ok, nmX2, rfl, by decide +kernel⟩
theorem fl_X2_13 : FLk RX2 13 2 1 := ⟨RX2, TX2, 2, rfl, by decide, ufX2, uu_1 (i := 54) rfl rfl⟩
theorem cw_X2_17 : CWV RX2 17 RX2 yX2_keys cX2_keys 1 (some .int) 0 := ⟨uu_2 (i := 25) rfl rfl, uu_2 (i := 26) rfl rfl, uu_2 (i := 27) rfl rfl, uu_1 (i := 3) rfl rfl, uu_2 (i := 28) rfl rfl, by decide +kernel⟩
theorem cs_X2_21 : CWS RX2 21 yJ6_bitCount_0f7a4 cJ6_bitCount_0f7a4 1 (some .int) 1 := ⟨uu_2 (i := 41) rfl rfl, uu_2 (i := 42) rfl rfl, uu_1 (i := 9) rfl rfl, uu_2 (i := 43) rfl rfl, by decide +kernel⟩
theorem cw_X2_27 : CWV RX2 27 RX2 yX2_nearestKey cX2_nearestKey 7 (some .int) 1 := ⟨uu_2 (i := 71) rfl rfl, uu_2 (i := 60) rfl rfl, uu_2 (i := 61) rfl rfl, uu_1 (i := 3) rfl rfl, uu_2 (i := 62) rfl rfl, by decide +kernel⟩
theorem fl_X3_11 : FLk RX3 11 3 2 := ⟨RX3, TX3, 4, rfl, by decide, ufX3, uu_1 (i := 141) rfl rfl⟩
theorem fl_X3_17 : FLk RX3 17 3 3 := ⟨RX3, TX3, 4, rfl, by decide, ufX3, uu_1 (i := 142) rfl rfl⟩
theorem fl_X3_20 : FLk RX3 20 3 0 := ⟨RX3, TX3, 4, rfl, by decide, ufX3, uu_1 (i := 139) rfl rfl⟩
theorem fl_X3_24 : FLk RX3 24 3 1 := ⟨RX3, TX3, 4, rfl, by decide, ufX3, uu_1 (i := 140) rfl rfl⟩
theorem cw_X3_28 : CWV RX3 28 RX3 yX3_growTo cX3_growTo 5 (none) 1 := ⟨uu_2 (i := 122) rfl rfl, uu_2 (i := 124) rfl rfl, uu_0 (i := 4) rfl rfl, uu_1 (i := 6) rfl rfl, uu_2 (i := 125) rfl rfl, by decide +kernel⟩
theorem cw_X3_32 : CWV RX3 32 RX2 yX2_isKey cX2_isKey 2 (some .boolean) 1 := ⟨uu_2 (i := 128) rfl rfl, uu_2 (i := 52) rfl rfl, uu_2 (i := 53) rfl rfl, uu_1 (i := 3) rfl rfl, uu_2 (i := 54) rfl rfl, by decide +kernel⟩
theorem fl_X3_38 : FLk RX3 38 2 1 := ⟨RX2, TX2, 2, rfl, by decide, ufX2, uu_1 (i := 55) rfl rfl⟩
theorem cw_X3_41 : CWV RX3 41 RX0 yX0_allWays cX0_allWays 1 (some .long) 0 := ⟨uu_2 (i := 129) rfl rfl, uu_2 (i := 93) rfl rfl, uu_2 (i := 94) rfl rfl, uu_1 (i := 2) rfl rfl, uu_2 (i := 95) rfl rfl, by decide +kernel⟩
theorem cs_X3_45 : CWS RX3 45 yX3_harmless cX3_harmless 9 (some .long) 5 := ⟨uu_2 (i := 130) rfl rfl, uu_2 (i := 131) rfl rfl, uu_1 (i := 6) rfl rfl, uu_2 (i := 132) rfl rfl, by decide +kernel⟩
theorem fl_X3_49 : FLk RX3 49 0 0 := ⟨RX0, TX0, 3, rfl, by decide, ufX0, uu_1 (i := 34) rfl rfl⟩
theorem cw_X3_53 : CWV RX3 53 RX0 yX0_isMasked cX0_isMasked 2 (some .boolean) 1 := ⟨uu_2 (i := 126) rfl rfl, uu_1 (i := 222) rfl rfl, uu_1 (i := 223) rfl rfl, uu_1 (i := 2) rfl rfl, uu_1 (i := 224) rfl rfl, by decide +kernel⟩
theorem cw_X3_56 : CWV RX3 56 RX0 yX0_agedChance cX0_agedChance 3 (some .int) 2 := ⟨uu_2 (i := 127) rfl rfl, uu_1 (i := 226) rfl rfl, uu_1 (i := 227) rfl rfl, uu_1 (i := 2) rfl rfl, uu_1 (i := 228) rfl rfl, by decide +kernel⟩
theorem cw_X3_60 : CWV RX3 60 RX2 yX2_nearestKey cX2_nearestKey 7 (some .int) 1 := ⟨uu_2 (i := 133) rfl rfl, uu_2 (i := 60) rfl rfl, uu_2 (i := 61) rfl rfl, uu_1 (i := 3) rfl rfl, uu_2 (i := 62) rfl rfl, by decide +kernel⟩
theorem fl_X4_9 : FLk RX4 9 4 0 := ⟨RX4, TX4, 10, rfl, by decide, ufX4, uu_1 (i := 96) rfl rfl⟩
theorem fp_X4_9 : FPk RX4 9 4 0 .int := ⟨RX4, TX4, 10, tyX4, rfl, by decide, ufX4, uu_1 (i := 96) rfl rfl, tyX4_ok, nmX4, rfl, by decide +kernel⟩
theorem fl_X4_13 : FLk RX4 13 4 1 := ⟨RX4, TX4, 10, rfl, by decide, ufX4, uu_1 (i := 98) rfl rfl⟩
theorem fl_X4_17 : FLk RX4 17 4 2 := ⟨RX4, TX4, 10, rfl, by decide, ufX4, uu_1 (i := 100) rfl rfl⟩
theorem fl_X4_21 : FLk RX4 21 4 3 := ⟨RX4, TX4, 10, rfl, by decide, ufX4, uu_1 (i := 102) rfl rfl⟩
theorem fl_X4_24 : FLk RX4 24 4 4 := ⟨RX4, TX4, 10, rfl, by decide, ufX4, uu_1 (i := 104) rfl rfl⟩
theorem fp_X4_24 : FPk RX4 24 4 4 .boolean := ⟨RX4, TX4, 10, tyX4, rfl, by decide, ufX4, uu_1 (i := 104) rfl rfl, tyX4_ok, nmX4, rfl, by decide +kernel⟩
theorem fl_X4_28 : FLk RX4 28 4 5 := ⟨RX4, TX4, 10, rfl, by decide, ufX4, uu_1 (i := 105) rfl rfl⟩
theorem fp_X4_28 : FPk RX4 28 4 5 .int := ⟨RX4, TX4, 10, tyX4, rfl, by decide, ufX4, uu_1 (i := 105) rfl rfl, tyX4_ok, nmX4, rfl, by decide +kernel⟩
theorem fl_X4_31 : FLk RX4 31 4 6 := ⟨RX4, TX4, 10, rfl, by decide, ufX4, uu_1 (i := 107) rfl rfl⟩
theorem fl_X4_34 : FLk RX4 34 4 7 := ⟨RX4, TX4, 10, rfl, by decide, ufX4, uu_1 (i := 109) rfl rfl⟩
theorem fl_X4_37 : FLk RX4 37 4 8 := ⟨RX4, TX4, 10, rfl, by decide, ufX4, uu_1 (i := 110) rfl rfl⟩
theorem fl_X4_40 : FLk RX4 40 4 9 := ⟨RX4, TX4, 10, rfl, by decide, ufX4, uu_1 (i := 111) rfl rfl⟩
theorem cw_X4_43 : CWV RX4 43 RX4 yX4_survey cX4_survey 4 (none) 0 := ⟨uu_3 (i := 10) rfl rfl, uu_2 (i := 212) rfl rfl, uu_2 (i := 213) rfl rfl, uu_1 (i := 5) rfl rfl, uu_2 (i := 214) rfl rfl, by decide +kernel⟩
theorem cm_X4_46 : CMm RX4 46 Lib.Math.max.name Lib.Math.max.code := ⟨uu_2 (i := 223) rfl rfl, uu_2 (i := 224) rfl rfl, uu_1 (i := 8) rfl rfl, uu_2 (i := 225) rfl rfl⟩
theorem cw_X4_52 : CWV RX4 52 RX4 yX4_weigh cX4_weigh 7 (none) 1 := ⟨uu_2 (i := 215) rfl rfl, uu_2 (i := 217) rfl rfl, uu_0 (i := 8) rfl rfl, uu_1 (i := 5) rfl rfl, uu_2 (i := 218) rfl rfl, by decide +kernel⟩
theorem cw_X4_56 : CWV RX4 56 RX4 yX4_leastLimit cX4_leastLimit 3 (some .int) 0 := ⟨uu_2 (i := 219) rfl rfl, uu_2 (i := 221) rfl rfl, uu_0 (i := 9) rfl rfl, uu_1 (i := 5) rfl rfl, uu_2 (i := 222) rfl rfl, by decide +kernel⟩
theorem cw_X4_60 : CWV RX4 60 RX4 yX4_greatestLimit cX4_greatestLimit 3 (some .int) 0 := ⟨uu_2 (i := 226) rfl rfl, uu_2 (i := 228) rfl rfl, uu_0 (i := 10) rfl rfl, uu_1 (i := 5) rfl rfl, uu_2 (i := 229) rfl rfl, by decide +kernel⟩
theorem cw_X4_63 : CWV RX4 63 RX4 yX4_countPlanes cX4_countPlanes 5 (none) 2 := ⟨uu_2 (i := 231) rfl rfl, uu_2 (i := 233) rfl rfl, uu_0 (i := 11) rfl rfl, uu_1 (i := 5) rfl rfl, uu_2 (i := 234) rfl rfl, by decide +kernel⟩
theorem cm_X4_67 : CMm RX4 67 Lib.Math.min.name Lib.Math.min.code := ⟨uu_2 (i := 230) rfl rfl, uu_1 (i := 230) rfl rfl, uu_1 (i := 8) rfl rfl, uu_1 (i := 231) rfl rfl⟩
theorem ac_X4_70 : Cond.methodLink RX4 70 arraycopyName ∈ UU ∧ Cond.native arraycopyName ∈ UU ∧ Cond.static arraycopyName ∈ UU ∧ Cond.initialized "java/lang/System" ∈ UU := ⟨uu_2 (i := 235) rfl rfl, uu_2 (i := 237) rfl rfl, uu_2 (i := 236) rfl rfl, uu_1 (i := 15) rfl rfl⟩
theorem fl_X5_10 : FLk RX5 10 5 0 := ⟨RX5, TX5, 6, rfl, by decide, ufX5, uu_1 (i := 152) rfl rfl⟩
theorem fl_X5_19 : FLk RX5 19 5 1 := ⟨RX5, TX5, 6, rfl, by decide, ufX5, uu_1 (i := 153) rfl rfl⟩
theorem fl_X5_26 : FLk RX5 26 5 2 := ⟨RX5, TX5, 6, rfl, by decide, ufX5, uu_1 (i := 154) rfl rfl⟩
theorem fl_X5_33 : FLk RX5 33 5 3 := ⟨RX5, TX5, 6, rfl, by decide, ufX5, uu_1 (i := 155) rfl rfl⟩
theorem fl_X5_42 : FLk RX5 42 5 4 := ⟨RX5, TX5, 6, rfl, by decide, ufX5, uu_1 (i := 156) rfl rfl⟩
theorem fl_X5_46 : FLk RX5 46 5 5 := ⟨RX5, TX5, 6, rfl, by decide, ufX5, uu_1 (i := 157) rfl rfl⟩
theorem cw_X5_50 : CWV RX5 50 RX5 yX5_refuse cX5_refuse 2 (some .int) 1 := ⟨uu_1 (i := 175) rfl rfl, uu_1 (i := 177) rfl rfl, uu_0 (i := 0) rfl rfl, uu_1 (i := 1) rfl rfl, uu_1 (i := 178) rfl rfl, by decide +kernel⟩
theorem fl_X5_54 : FLk RX5 54 0 0 := ⟨RX0, TX0, 3, rfl, by decide, ufX0, uu_1 (i := 33) rfl rfl⟩
theorem fp_X5_54 : FPk RX5 54 0 0 .int := ⟨RX0, TX0, 3, tyX0, rfl, by decide, ufX0, uu_1 (i := 33) rfl rfl, tyX0_ok, nmX0, rfl, by decide +kernel⟩
theorem fl_X5_58 : FLk RX5 58 0 1 := ⟨RX0, TX0, 3, rfl, by decide, ufX0, uu_1 (i := 36) rfl rfl⟩
theorem fp_X5_58 : FPk RX5 58 0 1 .int := ⟨RX0, TX0, 3, tyX0, rfl, by decide, ufX0, uu_1 (i := 36) rfl rfl, tyX0_ok, nmX0, rfl, by decide +kernel⟩
theorem cw_X5_61 : CWV RX5 61 RX2 yX2_dropRows cX2_dropRows 1 (none) 0 := ⟨uu_1 (i := 179) rfl rfl, uu_1 (i := 180) rfl rfl, uu_1 (i := 181) rfl rfl, uu_1 (i := 3) rfl rfl, uu_1 (i := 182) rfl rfl, by decide +kernel⟩
theorem cw_X5_64 : CWV RX5 64 RX1 yX1_dropAll cX1_dropAll 1 (none) 0 := ⟨uu_1 (i := 183) rfl rfl, uu_1 (i := 184) rfl rfl, uu_1 (i := 185) rfl rfl, uu_1 (i := 4) rfl rfl, uu_1 (i := 186) rfl rfl, by decide +kernel⟩
theorem cw_X5_67 : CWV RX5 67 RX0 yX0_isWord cX0_isWord 2 (some .boolean) 1 := ⟨uu_1 (i := 191) rfl rfl, uu_1 (i := 192) rfl rfl, uu_1 (i := 193) rfl rfl, uu_1 (i := 2) rfl rfl, uu_1 (i := 194) rfl rfl, by decide +kernel⟩
theorem fl_X5_71 : FLk RX5 71 1 0 := ⟨RX1, TX1, 5, rfl, by decide, ufX1, uu_1 (i := 69) rfl rfl⟩
theorem cw_X5_74 : CWV RX5 74 RX1 yX1_add cX1_add 3 (some .int) 1 := ⟨uu_1 (i := 195) rfl rfl, uu_1 (i := 196) rfl rfl, uu_1 (i := 197) rfl rfl, uu_1 (i := 4) rfl rfl, uu_1 (i := 198) rfl rfl, by decide +kernel⟩
theorem cs_X5_77 : CWS RX5 77 yX0_leastOf cX0_leastOf 1 (some .int) 1 := ⟨uu_1 (i := 203) rfl rfl, uu_1 (i := 204) rfl rfl, uu_1 (i := 2) rfl rfl, uu_1 (i := 205) rfl rfl, by decide +kernel⟩
theorem cs_X5_80 : CWS RX5 80 yX0_greatestOf cX0_greatestOf 1 (some .int) 1 := ⟨uu_1 (i := 206) rfl rfl, uu_1 (i := 207) rfl rfl, uu_1 (i := 2) rfl rfl, uu_1 (i := 208) rfl rfl, by decide +kernel⟩
theorem cw_X5_83 : CWV RX5 83 RX0 yX0_change cX0_change 5 (some .int) 3 := ⟨uu_1 (i := 209) rfl rfl, uu_1 (i := 210) rfl rfl, uu_1 (i := 211) rfl rfl, uu_1 (i := 2) rfl rfl, uu_1 (i := 212) rfl rfl, by decide +kernel⟩
theorem cw_X5_87 : CWV RX5 87 RX0 yX0_isCell cX0_isCell 2 (some .boolean) 1 := ⟨uu_1 (i := 217) rfl rfl, uu_1 (i := 218) rfl rfl, uu_1 (i := 219) rfl rfl, uu_1 (i := 2) rfl rfl, uu_1 (i := 220) rfl rfl, by decide +kernel⟩
theorem cw_X5_90 : CWV RX5 90 RX0 yX0_isMasked cX0_isMasked 2 (some .boolean) 1 := ⟨uu_1 (i := 221) rfl rfl, uu_1 (i := 222) rfl rfl, uu_1 (i := 223) rfl rfl, uu_1 (i := 2) rfl rfl, uu_1 (i := 224) rfl rfl, by decide +kernel⟩
theorem cw_X5_93 : CWV RX5 93 RX0 yX0_agedChance cX0_agedChance 3 (some .int) 2 := ⟨uu_1 (i := 225) rfl rfl, uu_1 (i := 226) rfl rfl, uu_1 (i := 227) rfl rfl, uu_1 (i := 2) rfl rfl, uu_1 (i := 228) rfl rfl, by decide +kernel⟩
theorem cw_X5_97 : CWV RX5 97 RX5 yX5_leaveOut cX5_leaveOut 2 (none) 1 := ⟨uu_1 (i := 236) rfl rfl, uu_1 (i := 238) rfl rfl, uu_0 (i := 1) rfl rfl, uu_1 (i := 1) rfl rfl, uu_1 (i := 239) rfl rfl, by decide +kernel⟩
theorem cw_X5_101 : CWV RX5 101 RX0 yX0_likelierThan cX0_likelierThan 5 (some .int) 2 := ⟨uu_2 (i := 8) rfl rfl, uu_2 (i := 9) rfl rfl, uu_2 (i := 10) rfl rfl, uu_1 (i := 2) rfl rfl, uu_2 (i := 11) rfl rfl, by decide +kernel⟩
theorem cw_X5_104 : CWV RX5 104 RX0 yX0_open cX0_open 2 (some .int) 1 := ⟨uu_2 (i := 17) rfl rfl, uu_2 (i := 18) rfl rfl, uu_2 (i := 19) rfl rfl, uu_1 (i := 2) rfl rfl, uu_2 (i := 20) rfl rfl, by decide +kernel⟩
theorem cw_X5_107 : CWV RX5 107 RX2 yX2_holds cX2_holds 3 (some .boolean) 1 := ⟨uu_2 (i := 21) rfl rfl, uu_2 (i := 22) rfl rfl, uu_2 (i := 23) rfl rfl, uu_1 (i := 3) rfl rfl, uu_2 (i := 24) rfl rfl, by decide +kernel⟩
theorem fl_X5_110 : FLk RX5 110 2 0 := ⟨RX2, TX2, 2, rfl, by decide, ufX2, uu_1 (i := 53) rfl rfl⟩
theorem cw_X5_113 : CWV RX5 113 RX2 yX2_addRow cX2_addRow 4 (none) 1 := ⟨uu_2 (i := 29) rfl rfl, uu_2 (i := 30) rfl rfl, uu_2 (i := 31) rfl rfl, uu_1 (i := 3) rfl rfl, uu_2 (i := 32) rfl rfl, by decide +kernel⟩
theorem cw_X5_116 : CWV RX5 116 RX1 yX1_dropHelp cX1_dropHelp 2 (none) 0 := ⟨uu_2 (i := 0) rfl rfl, uu_2 (i := 1) rfl rfl, uu_2 (i := 2) rfl rfl, uu_1 (i := 4) rfl rfl, uu_2 (i := 3) rfl rfl, by decide +kernel⟩
theorem cw_X5_119 : CWV RX5 119 RX2 yX2_fewestBits cX2_fewestBits 4 (some .int) 0 := ⟨uu_2 (i := 37) rfl rfl, uu_2 (i := 38) rfl rfl, uu_2 (i := 39) rfl rfl, uu_1 (i := 3) rfl rfl, uu_2 (i := 40) rfl rfl, by decide +kernel⟩
theorem cw_X5_123 : CWV RX5 123 RX2 yX2_isKey cX2_isKey 2 (some .boolean) 1 := ⟨uu_2 (i := 51) rfl rfl, uu_2 (i := 52) rfl rfl, uu_2 (i := 53) rfl rfl, uu_1 (i := 3) rfl rfl, uu_2 (i := 54) rfl rfl, by decide +kernel⟩
theorem fl_X5_126 : FLk RX5 126 2 1 := ⟨RX2, TX2, 2, rfl, by decide, ufX2, uu_1 (i := 56) rfl rfl⟩
theorem cw_X5_129 : CWV RX5 129 RX2 yX2_nearestKey cX2_nearestKey 7 (some .int) 1 := ⟨uu_2 (i := 59) rfl rfl, uu_2 (i := 60) rfl rfl, uu_2 (i := 61) rfl rfl, uu_1 (i := 3) rfl rfl, uu_2 (i := 62) rfl rfl, by decide +kernel⟩
theorem cw_X5_132 : CWV RX5 132 RX2 yX2_hasOneNearest cX2_hasOneNearest 5 (some .boolean) 1 := ⟨uu_2 (i := 67) rfl rfl, uu_2 (i := 68) rfl rfl, uu_2 (i := 69) rfl rfl, uu_1 (i := 3) rfl rfl, uu_2 (i := 70) rfl rfl, by decide +kernel⟩
theorem cw_X5_135 : CWV RX5 135 RX1 yX1_isChip cX1_isChip 2 (some .boolean) 1 := ⟨uu_2 (i := 76) rfl rfl, uu_2 (i := 77) rfl rfl, uu_2 (i := 78) rfl rfl, uu_1 (i := 4) rfl rfl, uu_2 (i := 79) rfl rfl, by decide +kernel⟩
theorem fl_X5_138 : FLk RX5 138 1 1 := ⟨RX1, TX1, 5, rfl, by decide, ufX1, uu_1 (i := 71) rfl rfl⟩
theorem cw_X5_141 : CWV RX5 141 RX1 yX1_giveHelp cX1_giveHelp 4 (none) 3 := ⟨uu_2 (i := 80) rfl rfl, uu_2 (i := 81) rfl rfl, uu_2 (i := 82) rfl rfl, uu_1 (i := 4) rfl rfl, uu_2 (i := 83) rfl rfl, by decide +kernel⟩
theorem fl_X5_145 : FLk RX5 145 1 2 := ⟨RX1, TX1, 5, rfl, by decide, ufX1, uu_1 (i := 73) rfl rfl⟩
theorem fl_X5_149 : FLk RX5 149 1 3 := ⟨RX1, TX1, 5, rfl, by decide, ufX1, uu_1 (i := 75) rfl rfl⟩
theorem fl_X5_164 : FLk RX5 164 1 4 := ⟨RX1, TX1, 5, rfl, by decide, ufX1, uu_1 (i := 77) rfl rfl⟩
theorem cw_X5_167 : CWV RX5 167 RX3 yX3_harmful cX3_harmful 4 (some .long) 2 := ⟨uu_2 (i := 118) rfl rfl, uu_2 (i := 119) rfl rfl, uu_2 (i := 120) rfl rfl, uu_1 (i := 6) rfl rfl, uu_2 (i := 121) rfl rfl, by decide +kernel⟩
theorem cw_X5_171 : CWV RX5 171 RX0 yX0_allWays cX0_allWays 1 (some .long) 0 := ⟨uu_2 (i := 92) rfl rfl, uu_2 (i := 93) rfl rfl, uu_2 (i := 94) rfl rfl, uu_1 (i := 2) rfl rfl, uu_2 (i := 95) rfl rfl, by decide +kernel⟩
theorem cw_X5_175 : CWV RX5 175 RX5 yX5_firstAgeAbove cX5_firstAgeAbove 7 (some .int) 2 := ⟨uu_2 (i := 110) rfl rfl, uu_2 (i := 112) rfl rfl, uu_0 (i := 2) rfl rfl, uu_1 (i := 1) rfl rfl, uu_2 (i := 113) rfl rfl, by decide +kernel⟩
theorem cw_X5_178 : CWV RX5 178 RX5 yX5_likeliestKey cX5_likeliestKey 8 (some .int) 1 := ⟨uu_2 (i := 139) rfl rfl, uu_2 (i := 141) rfl rfl, uu_0 (i := 5) rfl rfl, uu_1 (i := 1) rfl rfl, uu_2 (i := 142) rfl rfl, by decide +kernel⟩
theorem cw_X5_183 : CWV RX5 183 RX5 yX5_waysOfAllKeys cX5_waysOfAllKeys 5 (some .long) 1 := ⟨uu_3 (i := 171) rfl rfl, uu_3 (i := 173) rfl rfl, uu_0 (i := 13) rfl rfl, uu_1 (i := 1) rfl rfl, uu_3 (i := 174) rfl rfl, by decide +kernel⟩
theorem cw_X5_187 : CWV RX5 187 RX5 yX5_waysOfKey cX5_waysOfKey 3 (some .long) 2 := ⟨uu_2 (i := 143) rfl rfl, uu_2 (i := 145) rfl rfl, uu_0 (i := 6) rfl rfl, uu_1 (i := 1) rfl rfl, uu_2 (i := 146) rfl rfl, by decide +kernel⟩
theorem cw_X5_190 : CWV RX5 190 RX0 yX0_openCells cX0_openCells 1 (some .int) 0 := ⟨uu_2 (i := 157) rfl rfl, uu_2 (i := 97) rfl rfl, uu_2 (i := 98) rfl rfl, uu_1 (i := 2) rfl rfl, uu_2 (i := 99) rfl rfl, by decide +kernel⟩
theorem cw_X5_193 : CWV RX5 193 RX0 yX0_evenBitsLedByOne cX0_evenBitsLedByOne 5 (some .int) 1 := ⟨uu_2 (i := 162) rfl rfl, uu_2 (i := 163) rfl rfl, uu_2 (i := 164) rfl rfl, uu_1 (i := 2) rfl rfl, uu_2 (i := 165) rfl rfl, by decide +kernel⟩
theorem cs_X5_196 : CWS RX5 196 yJ6_highestOneBit_0f7a4 cJ6_highestOneBit_0f7a4 1 (some .int) 1 := ⟨uu_2 (i := 174) rfl rfl, uu_2 (i := 175) rfl rfl, uu_1 (i := 9) rfl rfl, uu_2 (i := 176) rfl rfl, by decide +kernel⟩
theorem cs_X5_201 : CWS RX5 201 yJ6_numberOfTrailingZeros_0f7a4 cJ6_numberOfTrailingZeros_0f7a4 2 (some .int) 1 := ⟨uu_2 (i := 179) rfl rfl, uu_2 (i := 180) rfl rfl, uu_1 (i := 9) rfl rfl, uu_2 (i := 181) rfl rfl, by decide +kernel⟩
theorem cw_X5_204 : CWV RX5 204 RX0 yX0_expectedEvenBits cX0_expectedEvenBits 4 (some .int) 0 := ⟨uu_2 (i := 186) rfl rfl, uu_2 (i := 187) rfl rfl, uu_2 (i := 188) rfl rfl, uu_1 (i := 2) rfl rfl, uu_2 (i := 189) rfl rfl, by decide +kernel⟩
theorem cs_X5_207 : CWS RX5 207 yX4_isQuestion cX4_isQuestion 1 (some .boolean) 1 := ⟨uu_2 (i := 197) rfl rfl, uu_2 (i := 198) rfl rfl, uu_1 (i := 5) rfl rfl, uu_2 (i := 199) rfl rfl, by decide +kernel⟩
theorem cs_X5_210 : CWS RX5 210 yX4_isAnswer cX4_isAnswer 1 (some .boolean) 1 := ⟨uu_2 (i := 200) rfl rfl, uu_2 (i := 201) rfl rfl, uu_1 (i := 5) rfl rfl, uu_2 (i := 202) rfl rfl, by decide +kernel⟩
theorem fl_X5_213 : FLk RX5 213 4 1 := ⟨RX4, TX4, 10, rfl, by decide, ufX4, uu_1 (i := 99) rfl rfl⟩
theorem fl_X5_216 : FLk RX5 216 4 2 := ⟨RX4, TX4, 10, rfl, by decide, ufX4, uu_1 (i := 101) rfl rfl⟩
theorem cw_X5_219 : CWV RX5 219 RX4 yX4_keep cX4_keep 3 (none) 2 := ⟨uu_2 (i := 203) rfl rfl, uu_2 (i := 204) rfl rfl, uu_2 (i := 205) rfl rfl, uu_1 (i := 5) rfl rfl, uu_2 (i := 206) rfl rfl, by decide +kernel⟩
theorem fl_X5_223 : FLk RX5 223 4 0 := ⟨RX4, TX4, 10, rfl, by decide, ufX4, uu_1 (i := 97) rfl rfl⟩
theorem cw_X5_224 : CWV RX5 224 RX4 yX4_survey cX4_survey 4 (none) 0 := ⟨uu_2 (i := 211) rfl rfl, uu_2 (i := 212) rfl rfl, uu_2 (i := 213) rfl rfl, uu_1 (i := 5) rfl rfl, uu_2 (i := 214) rfl rfl, by decide +kernel⟩
theorem fl_X5_227 : FLk RX5 227 4 5 := ⟨RX4, TX4, 10, rfl, by decide, ufX4, uu_1 (i := 106) rfl rfl⟩
theorem fl_X5_230 : FLk RX5 230 4 6 := ⟨RX4, TX4, 10, rfl, by decide, ufX4, uu_1 (i := 108) rfl rfl⟩
theorem cw_X5_233 : CWV RX5 233 RX4 yX4_foretell cX4_foretell 2 (some .int) 1 := ⟨uu_3 (i := 6) rfl rfl, uu_3 (i := 7) rfl rfl, uu_3 (i := 8) rfl rfl, uu_1 (i := 5) rfl rfl, uu_3 (i := 9) rfl rfl, by decide +kernel⟩
theorem cw_X5_236 : CWV RX5 236 RX4 yX4_halvingQuestion cX4_halvingQuestion 5 (some .int) 0 := ⟨uu_3 (i := 15) rfl rfl, uu_3 (i := 16) rfl rfl, uu_3 (i := 17) rfl rfl, uu_1 (i := 5) rfl rfl, uu_3 (i := 18) rfl rfl, by decide +kernel⟩
theorem fl_X5_239 : FLk RX5 239 4 3 := ⟨RX4, TX4, 10, rfl, by decide, ufX4, uu_1 (i := 103) rfl rfl⟩
theorem cw_X5_242 : CWV RX5 242 RX0 yX0_openSet cX0_openSet 1 (some .int) 0 := ⟨uu_3 (i := 27) rfl rfl, uu_2 (i := 101) rfl rfl, uu_2 (i := 102) rfl rfl, uu_1 (i := 2) rfl rfl, uu_2 (i := 103) rfl rfl, by decide +kernel⟩
theorem cw_X5_245 : CWV RX5 245 RX1 yX1_nearest cX1_nearest 7 (some .int) 2 := ⟨uu_3 (i := 28) rfl rfl, uu_3 (i := 29) rfl rfl, uu_3 (i := 30) rfl rfl, uu_1 (i := 4) rfl rfl, uu_3 (i := 31) rfl rfl, by decide +kernel⟩
theorem cw_X5_248 : CWV RX5 248 RX1 yX1_hasLoneNearest cX1_hasLoneNearest 6 (some .boolean) 2 := ⟨uu_3 (i := 37) rfl rfl, uu_3 (i := 38) rfl rfl, uu_3 (i := 39) rfl rfl, uu_1 (i := 4) rfl rfl, uu_3 (i := 40) rfl rfl, by decide +kernel⟩
theorem cw_X5_252 : CWV RX5 252 RX1 yX1_fewestApart cX1_fewestApart 5 (some .int) 1 := ⟨uu_3 (i := 46) rfl rfl, uu_3 (i := 47) rfl rfl, uu_3 (i := 48) rfl rfl, uu_1 (i := 4) rfl rfl, uu_3 (i := 49) rfl rfl, by decide +kernel⟩
theorem cw_X5_255 : CWV RX5 255 RX1 yX1_onesAt cX1_onesAt 4 (some .int) 1 := ⟨uu_3 (i := 55) rfl rfl, uu_3 (i := 56) rfl rfl, uu_3 (i := 57) rfl rfl, uu_1 (i := 4) rfl rfl, uu_3 (i := 58) rfl rfl, by decide +kernel⟩
theorem cw_X5_258 : CWV RX5 258 RX1 yX1_withHelp cX1_withHelp 3 (some .int) 0 := ⟨uu_3 (i := 63) rfl rfl, uu_3 (i := 64) rfl rfl, uu_3 (i := 65) rfl rfl, uu_1 (i := 4) rfl rfl, uu_3 (i := 66) rfl rfl, by decide +kernel⟩
theorem cw_X5_261 : CWV RX5 261 RX4 yX4_usedOnes cX4_usedOnes 3 (some .int) 0 := ⟨uu_3 (i := 67) rfl rfl, uu_3 (i := 68) rfl rfl, uu_3 (i := 69) rfl rfl, uu_1 (i := 5) rfl rfl, uu_3 (i := 70) rfl rfl, by decide +kernel⟩
theorem cw_X5_264 : CWV RX5 264 RX5 yX5_failsAbove cX5_failsAbove 4 (some .boolean) 3 := ⟨uu_2 (i := 114) rfl rfl, uu_2 (i := 116) rfl rfl, uu_0 (i := 3) rfl rfl, uu_1 (i := 1) rfl rfl, uu_2 (i := 117) rfl rfl, by decide +kernel⟩
theorem cn_X5_268 : Cond.constantLong RX5 268 (8) ∈ UU := uu_2 (i := 134) rfl rfl
theorem cw_X5_270 : CWV RX5 270 RX2 yX2_keys cX2_keys 1 (some .int) 0 := ⟨uu_2 (i := 152) rfl rfl, uu_2 (i := 26) rfl rfl, uu_2 (i := 27) rfl rfl, uu_1 (i := 3) rfl rfl, uu_2 (i := 28) rfl rfl, by decide +kernel⟩
theorem cw_X5_273 : CWV RX5 273 RX0 yX0_waysToBe cX0_waysToBe 6 (some .long) 1 := ⟨uu_2 (i := 147) rfl rfl, uu_2 (i := 148) rfl rfl, uu_2 (i := 149) rfl rfl, uu_1 (i := 2) rfl rfl, uu_2 (i := 150) rfl rfl, by decide +kernel⟩
theorem fl_X6_7 : FLk RX6 7 6 0 := ⟨RX6, TX6, 25, rfl, by decide, ufX6, uu_3 (i := 181) rfl rfl⟩
theorem fl_X6_13 : FLk RX6 13 6 1 := ⟨RX6, TX6, 25, rfl, by decide, ufX6, uu_3 (i := 182) rfl rfl⟩
theorem fl_X6_16 : FLk RX6 16 6 2 := ⟨RX6, TX6, 25, rfl, by decide, ufX6, uu_3 (i := 183) rfl rfl⟩
theorem fl_X6_19 : FLk RX6 19 6 3 := ⟨RX6, TX6, 25, rfl, by decide, ufX6, uu_3 (i := 184) rfl rfl⟩
theorem fl_X6_22 : FLk RX6 22 6 4 := ⟨RX6, TX6, 25, rfl, by decide, ufX6, uu_3 (i := 185) rfl rfl⟩
theorem fl_X6_25 : FLk RX6 25 6 5 := ⟨RX6, TX6, 25, rfl, by decide, ufX6, uu_3 (i := 186) rfl rfl⟩
theorem fl_X6_28 : FLk RX6 28 6 6 := ⟨RX6, TX6, 25, rfl, by decide, ufX6, uu_3 (i := 187) rfl rfl⟩
theorem fl_X6_31 : FLk RX6 31 6 7 := ⟨RX6, TX6, 25, rfl, by decide, ufX6, uu_3 (i := 188) rfl rfl⟩
theorem fl_X6_34 : FLk RX6 34 6 8 := ⟨RX6, TX6, 25, rfl, by decide, ufX6, uu_3 (i := 189) rfl rfl⟩
theorem fl_X6_37 : FLk RX6 37 6 9 := ⟨RX6, TX6, 25, rfl, by decide, ufX6, uu_3 (i := 190) rfl rfl⟩
theorem fl_X6_41 : FLk RX6 41 6 10 := ⟨RX6, TX6, 25, rfl, by decide, ufX6, uu_3 (i := 191) rfl rfl⟩
theorem fl_X6_44 : FLk RX6 44 6 11 := ⟨RX6, TX6, 25, rfl, by decide, ufX6, uu_3 (i := 192) rfl rfl⟩
theorem fp_X6_44 : FPk RX6 44 6 11 .int := ⟨RX6, TX6, 25, tyX6, rfl, by decide, ufX6, uu_3 (i := 192) rfl rfl, tyX6_ok, nmX6, rfl, by decide +kernel⟩
theorem fl_X6_48 : FLk RX6 48 6 16 := ⟨RX6, TX6, 25, rfl, by decide, ufX6, uu_3 (i := 197) rfl rfl⟩
theorem fl_X6_51 : FLk RX6 51 6 17 := ⟨RX6, TX6, 25, rfl, by decide, ufX6, uu_3 (i := 198) rfl rfl⟩
theorem fl_X6_54 : FLk RX6 54 6 18 := ⟨RX6, TX6, 25, rfl, by decide, ufX6, uu_3 (i := 199) rfl rfl⟩
theorem fl_X6_57 : FLk RX6 57 6 20 := ⟨RX6, TX6, 25, rfl, by decide, ufX6, uu_3 (i := 201) rfl rfl⟩
theorem fl_X6_61 : FLk RX6 61 6 22 := ⟨RX6, TX6, 25, rfl, by decide, ufX6, uu_3 (i := 203) rfl rfl⟩
theorem fl_X6_64 : FLk RX6 64 6 23 := ⟨RX6, TX6, 25, rfl, by decide, ufX6, uu_3 (i := 204) rfl rfl⟩
theorem fl_X6_67 : FLk RX6 67 6 24 := ⟨RX6, TX6, 25, rfl, by decide, ufX6, uu_3 (i := 205) rfl rfl⟩
theorem fl_X6_70 : FLk RX6 70 6 15 := ⟨RX6, TX6, 25, rfl, by decide, ufX6, uu_3 (i := 196) rfl rfl⟩
theorem fp_X6_70 : FPk RX6 70 6 15 .int := ⟨RX6, TX6, 25, tyX6, rfl, by decide, ufX6, uu_3 (i := 196) rfl rfl, tyX6_ok, nmX6, rfl, by decide +kernel⟩
theorem cs_X6_73 : CWS RX6 73 yX6_isIn cX6_isIn 2 (some .boolean) 2 := ⟨uu_4 (i := 49) rfl rfl, uu_4 (i := 50) rfl rfl, uu_1 (i := 7) rfl rfl, uu_4 (i := 51) rfl rfl, by decide +kernel⟩
theorem fl_X6_77 : FLk RX6 77 6 13 := ⟨RX6, TX6, 25, rfl, by decide, ufX6, uu_3 (i := 194) rfl rfl⟩
theorem fl_X6_80 : FLk RX6 80 6 14 := ⟨RX6, TX6, 25, rfl, by decide, ufX6, uu_3 (i := 195) rfl rfl⟩
theorem fp_X6_80 : FPk RX6 80 6 14 .int := ⟨RX6, TX6, 25, tyX6, rfl, by decide, ufX6, uu_3 (i := 195) rfl rfl, tyX6_ok, nmX6, rfl, by decide +kernel⟩
theorem cw_X6_83 : CWV RX6 83 RX6 yX6_noHelp cX6_noHelp 2 (none) 0 := ⟨uu_4 (i := 37) rfl rfl, uu_4 (i := 39) rfl rfl, uu_0 (i := 16) rfl rfl, uu_1 (i := 7) rfl rfl, uu_4 (i := 40) rfl rfl, by decide +kernel⟩
theorem fl_X6_86 : FLk RX6 86 6 19 := ⟨RX6, TX6, 25, rfl, by decide, ufX6, uu_3 (i := 200) rfl rfl⟩
theorem fp_X6_86 : FPk RX6 86 6 19 .boolean := ⟨RX6, TX6, 25, tyX6, rfl, by decide, ufX6, uu_3 (i := 200) rfl rfl, tyX6_ok, nmX6, rfl, by decide +kernel⟩
theorem cs_X6_90 : CWS RX6 90 yX6_wrong cX6_wrong 3 (some .int) 3 := ⟨uu_4 (i := 26) rfl rfl, uu_4 (i := 27) rfl rfl, uu_1 (i := 7) rfl rfl, uu_4 (i := 28) rfl rfl, by decide +kernel⟩
theorem cw_X6_94 : CWV RX6 94 RX6 yX6_refuse cX6_refuse 2 (some .int) 1 := ⟨uu_4 (i := 29) rfl rfl, uu_4 (i := 31) rfl rfl, uu_0 (i := 14) rfl rfl, uu_1 (i := 7) rfl rfl, uu_4 (i := 32) rfl rfl, by decide +kernel⟩
theorem fl_X6_98 : FLk RX6 98 6 12 := ⟨RX6, TX6, 25, rfl, by decide, ufX6, uu_3 (i := 193) rfl rfl⟩
theorem fp_X6_98 : FPk RX6 98 6 12 .int := ⟨RX6, TX6, 25, tyX6, rfl, by decide, ufX6, uu_3 (i := 193) rfl rfl, tyX6_ok, nmX6, rfl, by decide +kernel⟩
theorem fp_X6_77 : FPk RX6 77 6 13 .int := ⟨RX6, TX6, 25, tyX6, rfl, by decide, ufX6, uu_3 (i := 194) rfl rfl, tyX6_ok, nmX6, rfl, by decide +kernel⟩
theorem cw_X6_101 : CWV RX6 101 RX6 yX6_noRows cX6_noRows 1 (none) 0 := ⟨uu_4 (i := 33) rfl rfl, uu_4 (i := 35) rfl rfl, uu_0 (i := 15) rfl rfl, uu_1 (i := 7) rfl rfl, uu_4 (i := 36) rfl rfl, by decide +kernel⟩
theorem cw_X6_104 : CWV RX6 104 RX6 yX6_isWord cX6_isWord 2 (some .boolean) 1 := ⟨uu_4 (i := 45) rfl rfl, uu_4 (i := 47) rfl rfl, uu_0 (i := 17) rfl rfl, uu_1 (i := 7) rfl rfl, uu_4 (i := 48) rfl rfl, by decide +kernel⟩
theorem cm_X6_108 : CMm RX6 108 Lib.Math.min.name Lib.Math.min.code := ⟨uu_4 (i := 68) rfl rfl, uu_1 (i := 230) rfl rfl, uu_1 (i := 8) rfl rfl, uu_1 (i := 231) rfl rfl⟩
theorem cw_X6_114 : CWV RX6 114 RX6 yX6_worn cX6_worn 3 (some .int) 2 := ⟨uu_4 (i := 64) rfl rfl, uu_4 (i := 66) rfl rfl, uu_0 (i := 19) rfl rfl, uu_1 (i := 7) rfl rfl, uu_4 (i := 67) rfl rfl, by decide +kernel⟩
theorem cw_X6_117 : CWV RX6 117 RX6 yX6_chanceOf cX6_chanceOf 3 (some .int) 2 := ⟨uu_4 (i := 60) rfl rfl, uu_4 (i := 62) rfl rfl, uu_0 (i := 18) rfl rfl, uu_1 (i := 7) rfl rfl, uu_4 (i := 63) rfl rfl, by decide +kernel⟩
theorem cw_X6_120 : CWV RX6 120 RX6 yX6_masks cX6_masks 2 (none) 1 := ⟨uu_4 (i := 73) rfl rfl, uu_4 (i := 75) rfl rfl, uu_0 (i := 20) rfl rfl, uu_1 (i := 7) rfl rfl, uu_4 (i := 76) rfl rfl, by decide +kernel⟩
theorem cw_X6_124 : CWV RX6 124 RX6 yX6_open cX6_open 1 (some .int) 0 := ⟨uu_4 (i := 85) rfl rfl, uu_4 (i := 87) rfl rfl, uu_0 (i := 21) rfl rfl, uu_1 (i := 7) rfl rfl, uu_4 (i := 88) rfl rfl, by decide +kernel⟩
theorem cw_X6_128 : CWV RX6 128 RX6 yX6_codewordOf cX6_codewordOf 4 (some .int) 1 := ⟨uu_4 (i := 89) rfl rfl, uu_4 (i := 91) rfl rfl, uu_0 (i := 22) rfl rfl, uu_1 (i := 7) rfl rfl, uu_4 (i := 92) rfl rfl, by decide +kernel⟩
theorem cs_X6_131 : CWS RX6 131 yX6_bits cX6_bits 3 (some .int) 1 := ⟨uu_4 (i := 97) rfl rfl, uu_4 (i := 98) rfl rfl, uu_1 (i := 7) rfl rfl, uu_4 (i := 99) rfl rfl, by decide +kernel⟩
theorem cw_X6_134 : CWV RX6 134 RX6 yX6_isKey cX6_isKey 2 (some .boolean) 1 := ⟨uu_4 (i := 104) rfl rfl, uu_4 (i := 106) rfl rfl, uu_0 (i := 23) rfl rfl, uu_1 (i := 7) rfl rfl, uu_4 (i := 107) rfl rfl, by decide +kernel⟩
theorem cw_X6_137 : CWV RX6 137 RX6 yX6_makes cX6_makes 5 (none) 0 := ⟨uu_4 (i := 112) rfl rfl, uu_4 (i := 114) rfl rfl, uu_0 (i := 24) rfl rfl, uu_1 (i := 7) rfl rfl, uu_4 (i := 115) rfl rfl, by decide +kernel⟩
theorem cw_X6_140 : CWV RX6 140 RX6 yX6_isChip cX6_isChip 2 (some .boolean) 1 := ⟨uu_4 (i := 124) rfl rfl, uu_4 (i := 126) rfl rfl, uu_0 (i := 25) rfl rfl, uu_1 (i := 7) rfl rfl, uu_4 (i := 127) rfl rfl, by decide +kernel⟩
theorem cw_X6_143 : CWV RX6 143 RX6 yX6_raises cX6_raises 2 (some .int) 1 := ⟨uu_4 (i := 136) rfl rfl, uu_4 (i := 138) rfl rfl, uu_0 (i := 26) rfl rfl, uu_1 (i := 7) rfl rfl, uu_4 (i := 139) rfl rfl, by decide +kernel⟩
theorem cw_X6_146 : CWV RX6 146 RX6 yX6_failOf cX6_failOf 8 (some .long) 2 := ⟨uu_4 (i := 140) rfl rfl, uu_4 (i := 142) rfl rfl, uu_0 (i := 27) rfl rfl, uu_1 (i := 7) rfl rfl, uu_4 (i := 143) rfl rfl, by decide +kernel⟩
theorem cw_X6_150 : CWV RX6 150 RX6 yX6_allOf cX6_allOf 1 (some .long) 0 := ⟨uu_4 (i := 148) rfl rfl, uu_4 (i := 150) rfl rfl, uu_0 (i := 28) rfl rfl, uu_1 (i := 7) rfl rfl, uu_4 (i := 151) rfl rfl, by decide +kernel⟩
theorem cn_X6_154 : Cond.constantLong RX6 154 (8) ∈ UU := uu_4 (i := 156) rfl rfl
theorem cw_X6_156 : CWV RX6 156 RX6 yX6_weightOf cX6_weightOf 5 (some .long) 1 := ⟨uu_4 (i := 165) rfl rfl, uu_4 (i := 167) rfl rfl, uu_0 (i := 30) rfl rfl, uu_1 (i := 7) rfl rfl, uu_4 (i := 168) rfl rfl, by decide +kernel⟩
theorem cw_X6_160 : CWV RX6 160 RX6 yX6_bestGuess cX6_bestGuess 4 (some .int) 1 := ⟨uu_4 (i := 161) rfl rfl, uu_4 (i := 163) rfl rfl, uu_0 (i := 29) rfl rfl, uu_1 (i := 7) rfl rfl, uu_4 (i := 164) rfl rfl, by decide +kernel⟩
theorem cw_X6_163 : CWV RX6 163 RX6 yX6_openAt cX6_openAt 4 (some .int) 1 := ⟨uu_4 (i := 181) rfl rfl, uu_4 (i := 183) rfl rfl, uu_0 (i := 31) rfl rfl, uu_1 (i := 7) rfl rfl, uu_4 (i := 184) rfl rfl, by decide +kernel⟩
theorem fl_X6_166 : FLk RX6 166 6 21 := ⟨RX6, TX6, 25, rfl, by decide, ufX6, uu_3 (i := 202) rfl rfl⟩
theorem fp_X6_166 : FPk RX6 166 6 21 .int := ⟨RX6, TX6, 25, tyX6, rfl, by decide, ufX6, uu_3 (i := 202) rfl rfl, tyX6_ok, nmX6, rfl, by decide +kernel⟩
theorem cw_X6_169 : CWV RX6 169 RX6 yX6_isPlane cX6_isPlane 4 (some .boolean) 1 := ⟨uu_4 (i := 205) rfl rfl, uu_4 (i := 207) rfl rfl, uu_0 (i := 34) rfl rfl, uu_1 (i := 7) rfl rfl, uu_4 (i := 208) rfl rfl, by decide +kernel⟩
theorem cw_X6_172 : CWV RX6 172 RX6 yX6_adds cX6_adds 3 (none) 1 := ⟨uu_4 (i := 213) rfl rfl, uu_4 (i := 215) rfl rfl, uu_0 (i := 36) rfl rfl, uu_1 (i := 7) rfl rfl, uu_4 (i := 216) rfl rfl, by decide +kernel⟩
theorem cw_X6_175 : CWV RX6 175 RX6 yX6_says cX6_says 5 (some .int) 2 := ⟨uu_4 (i := 209) rfl rfl, uu_4 (i := 211) rfl rfl, uu_0 (i := 35) rfl rfl, uu_1 (i := 7) rfl rfl, uu_4 (i := 212) rfl rfl, by decide +kernel⟩
theorem cw_X6_178 : CWV RX6 178 RX6 yX6_pairs cX6_pairs 3 (some .int) 0 := ⟨uu_4 (i := 193) rfl rfl, uu_4 (i := 195) rfl rfl, uu_0 (i := 32) rfl rfl, uu_1 (i := 7) rfl rfl, uu_4 (i := 196) rfl rfl, by decide +kernel⟩
theorem cw_X6_181 : CWV RX6 181 RX6 yX6_findPlanes cX6_findPlanes 3 (none) 0 := ⟨uu_4 (i := 201) rfl rfl, uu_4 (i := 203) rfl rfl, uu_0 (i := 33) rfl rfl, uu_1 (i := 7) rfl rfl, uu_4 (i := 204) rfl rfl, by decide +kernel⟩
theorem cm_X6_184 : CMm RX6 184 Lib.Math.max.name Lib.Math.max.code := ⟨uu_4 (i := 229) rfl rfl, uu_2 (i := 224) rfl rfl, uu_1 (i := 8) rfl rfl, uu_2 (i := 225) rfl rfl⟩
theorem cw_X6_187 : CWV RX6 187 RX6 yX6_far cX6_far 3 (some .int) 2 := ⟨uu_5 (i := 2) rfl rfl, uu_5 (i := 4) rfl rfl, uu_0 (i := 38) rfl rfl, uu_1 (i := 7) rfl rfl, uu_5 (i := 5) rfl rfl, by decide +kernel⟩
theorem cw_X6_190 : CWV RX6 190 RX6 yX6_whoseOf cX6_whoseOf 4 (some .int) 1 := ⟨uu_4 (i := 238) rfl rfl, uu_5 (i := 0) rfl rfl, uu_0 (i := 37) rfl rfl, uu_1 (i := 7) rfl rfl, uu_5 (i := 1) rfl rfl, by decide +kernel⟩
theorem cn_J6_127 : Cond.constant RJ6 127 (-2147483648) ∈ UU := uu_2 (i := 177) rfl rfl
theorem cs_J6_51 : CWS RJ6 51 yJ6_numberOfLeadingZeros_0f7a4 cJ6_numberOfLeadingZeros_0f7a4 2 (some .int) 1 := ⟨uu_2 (i := 178) rfl rfl, uu_2 (i := 171) rfl rfl, uu_1 (i := 9) rfl rfl, uu_2 (i := 172) rfl rfl, by decide +kernel⟩
theorem cn_J6_264 : Cond.constant RJ6 264 (65536) ∈ UU := uu_2 (i := 173) rfl rfl
theorem cn_J6_265 : Cond.constant RJ6 265 (1431655765) ∈ UU := uu_2 (i := 44) rfl rfl
theorem cn_J6_266 : Cond.constant RJ6 266 (858993459) ∈ UU := uu_2 (i := 45) rfl rfl
theorem cn_J6_267 : Cond.constant RJ6 267 (252645135) ∈ UU := uu_2 (i := 46) rfl rfl
theorem cw_L_7 : CWV RL 7 RX5 yX5_fail cX5_fail 3 (some .long) 2 := ⟨uu_3 (i := 76) rfl rfl, uu_3 (i := 77) rfl rfl, uu_3 (i := 78) rfl rfl, uu_1 (i := 1) rfl rfl, uu_3 (i := 79) rfl rfl, by decide +kernel⟩
theorem cw_L_17 : CWV RL 17 RX5 yX5_weight cX5_weight 3 (some .long) 2 := ⟨uu_3 (i := 166) rfl rfl, uu_3 (i := 167) rfl rfl, uu_3 (i := 168) rfl rfl, uu_1 (i := 1) rfl rfl, uu_3 (i := 169) rfl rfl, by decide +kernel⟩
theorem cw_L_25 : CWV RL 25 RX5 yX5_cells cX5_cells 3 (some .int) 1 := ⟨uu_1 (i := 171) rfl rfl, uu_1 (i := 172) rfl rfl, uu_1 (i := 173) rfl rfl, uu_1 (i := 1) rfl rfl, uu_1 (i := 174) rfl rfl, by decide +kernel⟩
theorem cw_L_29 : CWV RL 29 RX6 yX6_cells cX6_cells 4 (some .int) 1 := ⟨uu_4 (i := 22) rfl rfl, uu_4 (i := 23) rfl rfl, uu_4 (i := 24) rfl rfl, uu_1 (i := 7) rfl rfl, uu_4 (i := 25) rfl rfl, by decide +kernel⟩
theorem cw_L_30 : CWV RL 30 RX5 yX5_chip cX5_chip 2 (some .int) 1 := ⟨uu_1 (i := 187) rfl rfl, uu_1 (i := 188) rfl rfl, uu_1 (i := 189) rfl rfl, uu_1 (i := 1) rfl rfl, uu_1 (i := 190) rfl rfl, by decide +kernel⟩
theorem cw_L_33 : CWV RL 33 RX6 yX6_chip cX6_chip 2 (some .int) 1 := ⟨uu_4 (i := 41) rfl rfl, uu_4 (i := 42) rfl rfl, uu_4 (i := 43) rfl rfl, uu_1 (i := 7) rfl rfl, uu_4 (i := 44) rfl rfl, by decide +kernel⟩
theorem cw_L_34 : CWV RL 34 RX5 yX5_set cX5_set 4 (some .int) 3 := ⟨uu_1 (i := 199) rfl rfl, uu_1 (i := 200) rfl rfl, uu_1 (i := 201) rfl rfl, uu_1 (i := 1) rfl rfl, uu_1 (i := 202) rfl rfl, by decide +kernel⟩
theorem cw_L_38 : CWV RL 38 RX6 yX6_set cX6_set 6 (some .int) 3 := ⟨uu_4 (i := 52) rfl rfl, uu_4 (i := 53) rfl rfl, uu_4 (i := 54) rfl rfl, uu_1 (i := 7) rfl rfl, uu_4 (i := 55) rfl rfl, by decide +kernel⟩
theorem cw_L_39 : CWV RL 39 RX5 yX5_chance cX5_chance 3 (some .int) 2 := ⟨uu_1 (i := 213) rfl rfl, uu_1 (i := 214) rfl rfl, uu_1 (i := 215) rfl rfl, uu_1 (i := 1) rfl rfl, uu_1 (i := 216) rfl rfl, by decide +kernel⟩
theorem cw_L_43 : CWV RL 43 RX6 yX6_chance cX6_chance 4 (some .int) 2 := ⟨uu_4 (i := 56) rfl rfl, uu_4 (i := 57) rfl rfl, uu_4 (i := 58) rfl rfl, uu_1 (i := 7) rfl rfl, uu_4 (i := 59) rfl rfl, by decide +kernel⟩
theorem cw_L_44 : CWV RL 44 RX5 yX5_mask cX5_mask 3 (some .int) 1 := ⟨uu_1 (i := 232) rfl rfl, uu_1 (i := 233) rfl rfl, uu_1 (i := 234) rfl rfl, uu_1 (i := 1) rfl rfl, uu_1 (i := 235) rfl rfl, by decide +kernel⟩
theorem cw_L_47 : CWV RL 47 RX6 yX6_mask cX6_mask 3 (some .int) 1 := ⟨uu_4 (i := 69) rfl rfl, uu_4 (i := 70) rfl rfl, uu_4 (i := 71) rfl rfl, uu_1 (i := 7) rfl rfl, uu_4 (i := 72) rfl rfl, by decide +kernel⟩
theorem cw_L_48 : CWV RL 48 RX5 yX5_maskBy cX5_maskBy 3 (some .int) 2 := ⟨uu_2 (i := 4) rfl rfl, uu_2 (i := 5) rfl rfl, uu_2 (i := 6) rfl rfl, uu_1 (i := 1) rfl rfl, uu_2 (i := 7) rfl rfl, by decide +kernel⟩
theorem cw_L_51 : CWV RL 51 RX6 yX6_maskBy cX6_maskBy 5 (some .int) 2 := ⟨uu_4 (i := 77) rfl rfl, uu_4 (i := 78) rfl rfl, uu_4 (i := 79) rfl rfl, uu_1 (i := 7) rfl rfl, uu_4 (i := 80) rfl rfl, by decide +kernel⟩
theorem cw_L_52 : CWV RL 52 RX5 yX5_row cX5_row 3 (some .int) 1 := ⟨uu_2 (i := 13) rfl rfl, uu_2 (i := 14) rfl rfl, uu_2 (i := 15) rfl rfl, uu_1 (i := 1) rfl rfl, uu_2 (i := 16) rfl rfl, by decide +kernel⟩
theorem cw_L_55 : CWV RL 55 RX6 yX6_row cX6_row 4 (some .int) 1 := ⟨uu_4 (i := 81) rfl rfl, uu_4 (i := 82) rfl rfl, uu_4 (i := 83) rfl rfl, uu_1 (i := 7) rfl rfl, uu_4 (i := 84) rfl rfl, by decide +kernel⟩
theorem cw_L_56 : CWV RL 56 RX5 yX5_distance cX5_distance 1 (some .int) 0 := ⟨uu_2 (i := 33) rfl rfl, uu_2 (i := 34) rfl rfl, uu_2 (i := 35) rfl rfl, uu_1 (i := 1) rfl rfl, uu_2 (i := 36) rfl rfl, by decide +kernel⟩
theorem cw_L_60 : CWV RL 60 RX6 yX6_distance cX6_distance 4 (some .int) 0 := ⟨uu_4 (i := 93) rfl rfl, uu_4 (i := 94) rfl rfl, uu_4 (i := 95) rfl rfl, uu_1 (i := 7) rfl rfl, uu_4 (i := 96) rfl rfl, by decide +kernel⟩
theorem cw_L_61 : CWV RL 61 RX5 yX5_codeword cX5_codeword 2 (some .int) 1 := ⟨uu_2 (i := 47) rfl rfl, uu_2 (i := 48) rfl rfl, uu_2 (i := 49) rfl rfl, uu_1 (i := 1) rfl rfl, uu_2 (i := 50) rfl rfl, by decide +kernel⟩
theorem cw_L_64 : CWV RL 64 RX6 yX6_codeword cX6_codeword 2 (some .int) 1 := ⟨uu_4 (i := 100) rfl rfl, uu_4 (i := 101) rfl rfl, uu_4 (i := 102) rfl rfl, uu_1 (i := 7) rfl rfl, uu_4 (i := 103) rfl rfl, by decide +kernel⟩
theorem cw_L_65 : CWV RL 65 RX5 yX5_mended cX5_mended 2 (some .int) 1 := ⟨uu_2 (i := 55) rfl rfl, uu_2 (i := 56) rfl rfl, uu_2 (i := 57) rfl rfl, uu_1 (i := 1) rfl rfl, uu_2 (i := 58) rfl rfl, by decide +kernel⟩
theorem cw_L_68 : CWV RL 68 RX6 yX6_mended cX6_mended 2 (some .int) 1 := ⟨uu_4 (i := 108) rfl rfl, uu_4 (i := 109) rfl rfl, uu_4 (i := 110) rfl rfl, uu_1 (i := 7) rfl rfl, uu_4 (i := 111) rfl rfl, by decide +kernel⟩
theorem cw_L_69 : CWV RL 69 RX5 yX5_clear cX5_clear 2 (some .int) 1 := ⟨uu_2 (i := 63) rfl rfl, uu_2 (i := 64) rfl rfl, uu_2 (i := 65) rfl rfl, uu_1 (i := 1) rfl rfl, uu_2 (i := 66) rfl rfl, by decide +kernel⟩
theorem cw_L_72 : CWV RL 72 RX6 yX6_clear cX6_clear 2 (some .int) 1 := ⟨uu_4 (i := 116) rfl rfl, uu_4 (i := 117) rfl rfl, uu_4 (i := 118) rfl rfl, uu_1 (i := 7) rfl rfl, uu_4 (i := 119) rfl rfl, by decide +kernel⟩
theorem cw_L_73 : CWV RL 73 RX5 yX5_enrol cX5_enrol 4 (some .int) 2 := ⟨uu_2 (i := 72) rfl rfl, uu_2 (i := 73) rfl rfl, uu_2 (i := 74) rfl rfl, uu_1 (i := 1) rfl rfl, uu_2 (i := 75) rfl rfl, by decide +kernel⟩
theorem cw_L_76 : CWV RL 76 RX6 yX6_enrol cX6_enrol 3 (some .int) 2 := ⟨uu_4 (i := 120) rfl rfl, uu_4 (i := 121) rfl rfl, uu_4 (i := 122) rfl rfl, uu_1 (i := 7) rfl rfl, uu_4 (i := 123) rfl rfl, by decide +kernel⟩
theorem cw_L_77 : CWV RL 77 RX5 yX5_reading cX5_reading 3 (some .int) 2 := ⟨uu_2 (i := 84) rfl rfl, uu_2 (i := 85) rfl rfl, uu_2 (i := 86) rfl rfl, uu_1 (i := 1) rfl rfl, uu_2 (i := 87) rfl rfl, by decide +kernel⟩
theorem cw_L_80 : CWV RL 80 RX6 yX6_reading cX6_reading 3 (some .int) 2 := ⟨uu_4 (i := 128) rfl rfl, uu_4 (i := 129) rfl rfl, uu_4 (i := 130) rfl rfl, uu_1 (i := 7) rfl rfl, uu_4 (i := 131) rfl rfl, by decide +kernel⟩
theorem cw_L_86 : CWV RL 86 RX6 yX6_fail cX6_fail 3 (some .long) 2 := ⟨uu_4 (i := 132) rfl rfl, uu_4 (i := 133) rfl rfl, uu_4 (i := 134) rfl rfl, uu_1 (i := 7) rfl rfl, uu_4 (i := 135) rfl rfl, by decide +kernel⟩
theorem cw_L_87 : CWV RL 87 RX6 yX6_thrown cX6_thrown 1 (some .int) 0 := ⟨uu_4 (i := 18) rfl rfl, uu_4 (i := 19) rfl rfl, uu_4 (i := 20) rfl rfl, uu_1 (i := 7) rfl rfl, uu_4 (i := 21) rfl rfl, by decide +kernel⟩
theorem cw_L_90 : CWV RL 90 RX5 yX5_all cX5_all 1 (some .long) 0 := ⟨uu_2 (i := 88) rfl rfl, uu_2 (i := 89) rfl rfl, uu_2 (i := 90) rfl rfl, uu_1 (i := 1) rfl rfl, uu_2 (i := 91) rfl rfl, by decide +kernel⟩
theorem cw_L_94 : CWV RL 94 RX6 yX6_all cX6_all 1 (some .long) 0 := ⟨uu_4 (i := 144) rfl rfl, uu_4 (i := 145) rfl rfl, uu_4 (i := 146) rfl rfl, uu_1 (i := 7) rfl rfl, uu_4 (i := 147) rfl rfl, by decide +kernel⟩
theorem cw_L_95 : CWV RL 95 RX5 yX5_lasts cX5_lasts 3 (some .int) 2 := ⟨uu_2 (i := 106) rfl rfl, uu_2 (i := 107) rfl rfl, uu_2 (i := 108) rfl rfl, uu_1 (i := 1) rfl rfl, uu_2 (i := 109) rfl rfl, by decide +kernel⟩
theorem cw_L_98 : CWV RL 98 RX6 yX6_lasts cX6_lasts 5 (some .int) 2 := ⟨uu_4 (i := 152) rfl rfl, uu_4 (i := 153) rfl rfl, uu_4 (i := 154) rfl rfl, uu_1 (i := 7) rfl rfl, uu_4 (i := 155) rfl rfl, by decide +kernel⟩
theorem cw_L_99 : CWV RL 99 RX5 yX5_guess cX5_guess 2 (some .int) 1 := ⟨uu_2 (i := 135) rfl rfl, uu_2 (i := 136) rfl rfl, uu_2 (i := 137) rfl rfl, uu_1 (i := 1) rfl rfl, uu_2 (i := 138) rfl rfl, by decide +kernel⟩
theorem cw_L_102 : CWV RL 102 RX6 yX6_guess cX6_guess 2 (some .int) 1 := ⟨uu_4 (i := 157) rfl rfl, uu_4 (i := 158) rfl rfl, uu_4 (i := 159) rfl rfl, uu_1 (i := 7) rfl rfl, uu_4 (i := 160) rfl rfl, by decide +kernel⟩
theorem cw_L_106 : CWV RL 106 RX6 yX6_weight cX6_weight 6 (some .long) 2 := ⟨uu_4 (i := 169) rfl rfl, uu_4 (i := 170) rfl rfl, uu_4 (i := 171) rfl rfl, uu_1 (i := 7) rfl rfl, uu_4 (i := 172) rfl rfl, by decide +kernel⟩
theorem cw_L_107 : CWV RL 107 RX5 yX5_leak cX5_leak 1 (some .int) 0 := ⟨uu_2 (i := 153) rfl rfl, uu_2 (i := 154) rfl rfl, uu_2 (i := 155) rfl rfl, uu_1 (i := 1) rfl rfl, uu_2 (i := 156) rfl rfl, by decide +kernel⟩
theorem cw_L_110 : CWV RL 110 RX6 yX6_leak cX6_leak 1 (some .int) 0 := ⟨uu_4 (i := 173) rfl rfl, uu_4 (i := 174) rfl rfl, uu_4 (i := 175) rfl rfl, uu_1 (i := 7) rfl rfl, uu_4 (i := 176) rfl rfl, by decide +kernel⟩
theorem cw_L_111 : CWV RL 111 RX5 yX5_even cX5_even 5 (some .int) 2 := ⟨uu_2 (i := 158) rfl rfl, uu_2 (i := 159) rfl rfl, uu_2 (i := 160) rfl rfl, uu_1 (i := 1) rfl rfl, uu_2 (i := 161) rfl rfl, by decide +kernel⟩
theorem cw_L_114 : CWV RL 114 RX6 yX6_even cX6_even 8 (some .int) 2 := ⟨uu_4 (i := 177) rfl rfl, uu_4 (i := 178) rfl rfl, uu_4 (i := 179) rfl rfl, uu_1 (i := 7) rfl rfl, uu_4 (i := 180) rfl rfl, by decide +kernel⟩
theorem cw_L_115 : CWV RL 115 RX5 yX5_expected cX5_expected 1 (some .int) 0 := ⟨uu_2 (i := 182) rfl rfl, uu_2 (i := 183) rfl rfl, uu_2 (i := 184) rfl rfl, uu_1 (i := 1) rfl rfl, uu_2 (i := 185) rfl rfl, by decide +kernel⟩
theorem cw_L_118 : CWV RL 118 RX6 yX6_expected cX6_expected 5 (some .int) 0 := ⟨uu_4 (i := 185) rfl rfl, uu_4 (i := 186) rfl rfl, uu_4 (i := 187) rfl rfl, uu_1 (i := 7) rfl rfl, uu_4 (i := 188) rfl rfl, by decide +kernel⟩
theorem cw_L_119 : CWV RL 119 RX5 yX5_pair cX5_pair 3 (some .int) 2 := ⟨uu_2 (i := 193) rfl rfl, uu_2 (i := 194) rfl rfl, uu_2 (i := 195) rfl rfl, uu_1 (i := 1) rfl rfl, uu_2 (i := 196) rfl rfl, by decide +kernel⟩
theorem cw_L_122 : CWV RL 122 RX6 yX6_pair cX6_pair 3 (some .int) 2 := ⟨uu_4 (i := 189) rfl rfl, uu_4 (i := 190) rfl rfl, uu_4 (i := 191) rfl rfl, uu_1 (i := 7) rfl rfl, uu_4 (i := 192) rfl rfl, by decide +kernel⟩
theorem cw_L_123 : CWV RL 123 RX5 yX5_planes cX5_planes 1 (some .int) 0 := ⟨uu_2 (i := 207) rfl rfl, uu_2 (i := 208) rfl rfl, uu_2 (i := 209) rfl rfl, uu_1 (i := 1) rfl rfl, uu_2 (i := 210) rfl rfl, by decide +kernel⟩
theorem cw_L_126 : CWV RL 126 RX6 yX6_planes cX6_planes 1 (some .int) 0 := ⟨uu_4 (i := 197) rfl rfl, uu_4 (i := 198) rfl rfl, uu_4 (i := 199) rfl rfl, uu_1 (i := 7) rfl rfl, uu_4 (i := 200) rfl rfl, by decide +kernel⟩
theorem cw_L_127 : CWV RL 127 RX5 yX5_plane cX5_plane 2 (some .int) 1 := ⟨uu_2 (i := 238) rfl rfl, uu_2 (i := 239) rfl rfl, uu_3 (i := 0) rfl rfl, uu_1 (i := 1) rfl rfl, uu_3 (i := 1) rfl rfl, by decide +kernel⟩
theorem cw_L_130 : CWV RL 130 RX6 yX6_plane cX6_plane 2 (some .int) 1 := ⟨uu_4 (i := 217) rfl rfl, uu_4 (i := 218) rfl rfl, uu_4 (i := 219) rfl rfl, uu_1 (i := 7) rfl rfl, uu_4 (i := 220) rfl rfl, by decide +kernel⟩
theorem cw_L_131 : CWV RL 131 RX5 yX5_foretold cX5_foretold 2 (some .int) 1 := ⟨uu_3 (i := 2) rfl rfl, uu_3 (i := 3) rfl rfl, uu_3 (i := 4) rfl rfl, uu_1 (i := 1) rfl rfl, uu_3 (i := 5) rfl rfl, by decide +kernel⟩
theorem cw_L_134 : CWV RL 134 RX6 yX6_foretold cX6_foretold 2 (some .int) 1 := ⟨uu_4 (i := 221) rfl rfl, uu_4 (i := 222) rfl rfl, uu_4 (i := 223) rfl rfl, uu_1 (i := 7) rfl rfl, uu_4 (i := 224) rfl rfl, by decide +kernel⟩
theorem cw_L_135 : CWV RL 135 RX5 yX5_next cX5_next 2 (some .int) 0 := ⟨uu_3 (i := 11) rfl rfl, uu_3 (i := 12) rfl rfl, uu_3 (i := 13) rfl rfl, uu_1 (i := 1) rfl rfl, uu_3 (i := 14) rfl rfl, by decide +kernel⟩
theorem cw_L_138 : CWV RL 138 RX6 yX6_next cX6_next 5 (some .int) 0 := ⟨uu_4 (i := 225) rfl rfl, uu_4 (i := 226) rfl rfl, uu_4 (i := 227) rfl rfl, uu_1 (i := 7) rfl rfl, uu_4 (i := 228) rfl rfl, by decide +kernel⟩
theorem cw_L_139 : CWV RL 139 RX5 yX5_check cX5_check 3 (some .int) 2 := ⟨uu_3 (i := 19) rfl rfl, uu_3 (i := 20) rfl rfl, uu_3 (i := 21) rfl rfl, uu_1 (i := 1) rfl rfl, uu_3 (i := 22) rfl rfl, by decide +kernel⟩
theorem cw_L_142 : CWV RL 142 RX6 yX6_check cX6_check 3 (some .int) 2 := ⟨uu_4 (i := 230) rfl rfl, uu_4 (i := 231) rfl rfl, uu_4 (i := 232) rfl rfl, uu_1 (i := 7) rfl rfl, uu_4 (i := 233) rfl rfl, by decide +kernel⟩
theorem cw_L_143 : CWV RL 143 RX5 yX5_whose cX5_whose 3 (some .int) 1 := ⟨uu_3 (i := 23) rfl rfl, uu_3 (i := 24) rfl rfl, uu_3 (i := 25) rfl rfl, uu_1 (i := 1) rfl rfl, uu_3 (i := 26) rfl rfl, by decide +kernel⟩
theorem cw_L_146 : CWV RL 146 RX6 yX6_whose cX6_whose 2 (some .int) 1 := ⟨uu_4 (i := 234) rfl rfl, uu_4 (i := 235) rfl rfl, uu_4 (i := 236) rfl rfl, uu_1 (i := 7) rfl rfl, uu_4 (i := 237) rfl rfl, by decide +kernel⟩
theorem cw_L_147 : CWV RL 147 RX5 yX5_sure cX5_sure 2 (some .int) 1 := ⟨uu_3 (i := 33) rfl rfl, uu_3 (i := 34) rfl rfl, uu_3 (i := 35) rfl rfl, uu_1 (i := 1) rfl rfl, uu_3 (i := 36) rfl rfl, by decide +kernel⟩
theorem cw_L_150 : CWV RL 150 RX6 yX6_sure cX6_sure 5 (some .int) 1 := ⟨uu_5 (i := 6) rfl rfl, uu_5 (i := 7) rfl rfl, uu_5 (i := 8) rfl rfl, uu_1 (i := 7) rfl rfl, uu_5 (i := 9) rfl rfl, by decide +kernel⟩
theorem cw_L_151 : CWV RL 151 RX5 yX5_apart cX5_apart 1 (some .int) 0 := ⟨uu_3 (i := 42) rfl rfl, uu_3 (i := 43) rfl rfl, uu_3 (i := 44) rfl rfl, uu_1 (i := 1) rfl rfl, uu_3 (i := 45) rfl rfl, by decide +kernel⟩
theorem cw_L_154 : CWV RL 154 RX6 yX6_apart cX6_apart 4 (some .int) 0 := ⟨uu_5 (i := 10) rfl rfl, uu_5 (i := 11) rfl rfl, uu_5 (i := 12) rfl rfl, uu_1 (i := 7) rfl rfl, uu_5 (i := 13) rfl rfl, by decide +kernel⟩
theorem cw_L_155 : CWV RL 155 RX5 yX5_odd cX5_odd 2 (some .int) 1 := ⟨uu_3 (i := 51) rfl rfl, uu_3 (i := 52) rfl rfl, uu_3 (i := 53) rfl rfl, uu_1 (i := 1) rfl rfl, uu_3 (i := 54) rfl rfl, by decide +kernel⟩
theorem cw_L_158 : CWV RL 158 RX6 yX6_odd cX6_odd 4 (some .int) 1 := ⟨uu_5 (i := 14) rfl rfl, uu_5 (i := 15) rfl rfl, uu_5 (i := 16) rfl rfl, uu_1 (i := 7) rfl rfl, uu_5 (i := 17) rfl rfl, by decide +kernel⟩
theorem cw_L_159 : CWV RL 159 RX5 yX5_count cX5_count 2 (some .int) 1 := ⟨uu_3 (i := 59) rfl rfl, uu_3 (i := 60) rfl rfl, uu_3 (i := 61) rfl rfl, uu_1 (i := 1) rfl rfl, uu_3 (i := 62) rfl rfl, by decide +kernel⟩
theorem cw_L_162 : CWV RL 162 RX6 yX6_count cX6_count 4 (some .int) 1 := ⟨uu_5 (i := 18) rfl rfl, uu_5 (i := 19) rfl rfl, uu_5 (i := 20) rfl rfl, uu_1 (i := 7) rfl rfl, uu_5 (i := 21) rfl rfl, by decide +kernel⟩
