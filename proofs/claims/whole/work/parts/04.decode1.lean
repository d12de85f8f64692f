theorem dX5_set_40 : decode cX5_set 40 = .ok (.aload_n 0, 1) := by decide +kernel
theorem dX5_set_41 : decode cX5_set 41 = .ok (.bipush (-4), 2) := by decide +kernel
theorem dX5_set_43 : decode cX5_set 43 = .ok (.invokevirtual 50, 3) := by decide +kernel
theorem dX5_set_46 : decode cX5_set 46 = .ok (.ireturn, 1) := by decide +kernel
theorem dX5_set_47 : decode cX5_set 47 = .ok (.iload_n 3, 1) := by decide +kernel
theorem dX5_set_48 : decode cX5_set 48 = .ok (.iload_n 2, 1) := by decide +kernel
theorem dX5_set_49 : decode cX5_set 49 = .ok (.invokestatic 80, 3) := by decide +kernel
theorem dX5_set_52 : decode cX5_set 52 = .ok (.if_icmp .le 10, 3) := by decide +kernel
theorem dX5_set_55 : decode cX5_set 55 = .ok (.aload_n 0, 1) := by decide +kernel
theorem dX5_set_56 : decode cX5_set 56 = .ok (.bipush (-6), 2) := by decide +kernel
theorem dX5_set_58 : decode cX5_set 58 = .ok (.invokevirtual 50, 3) := by decide +kernel
theorem dX5_set_61 : decode cX5_set 61 = .ok (.ireturn, 1) := by decide +kernel
theorem dX5_set_62 : decode cX5_set 62 = .ok (.aload_n 0, 1) := by decide +kernel
theorem dX5_set_63 : decode cX5_set 63 = .ok (.getfield 10, 3) := by decide +kernel
theorem dX5_set_66 : decode cX5_set 66 = .ok (.iload_n 1, 1) := by decide +kernel
theorem dX5_set_67 : decode cX5_set 67 = .ok (.iload_n 2, 1) := by decide +kernel
theorem dX5_set_68 : decode cX5_set 68 = .ok (.iload_n 3, 1) := by decide +kernel
theorem dX5_set_69 : decode cX5_set 69 = .ok (.invokevirtual 83, 3) := by decide +kernel
theorem dX5_set_72 : decode cX5_set 72 = .ok (.ireturn, 1) := by decide +kernel
theorem dX5_chance_0 : decode cX5_chance 0 = .ok (.aload_n 0, 1) := by decide +kernel
theorem dX5_chance_1 : decode cX5_chance 1 = .ok (.getfield 10, 3) := by decide +kernel
theorem dX5_chance_4 : decode cX5_chance 4 = .ok (.iload_n 1, 1) := by decide +kernel
theorem dX5_chance_5 : decode cX5_chance 5 = .ok (.invokevirtual 87, 3) := by decide +kernel
theorem dX5_chance_8 : decode cX5_chance 8 = .ok (.ifCond .ne 9, 3) := by decide +kernel
theorem dX5_chance_11 : decode cX5_chance 11 = .ok (.aload_n 0, 1) := by decide +kernel
theorem dX5_chance_12 : decode cX5_chance 12 = .ok (.iconst (-1), 1) := by decide +kernel
theorem dX5_chance_13 : decode cX5_chance 13 = .ok (.invokevirtual 50, 3) := by decide +kernel
theorem dX5_chance_16 : decode cX5_chance 16 = .ok (.ireturn, 1) := by decide +kernel
theorem dX5_chance_17 : decode cX5_chance 17 = .ok (.iload_n 2, 1) := by decide +kernel
theorem dX5_chance_18 : decode cX5_chance 18 = .ok (.ifCond .ge 10, 3) := by decide +kernel
theorem dX5_chance_21 : decode cX5_chance 21 = .ok (.aload_n 0, 1) := by decide +kernel
theorem dX5_chance_22 : decode cX5_chance 22 = .ok (.bipush (-4), 2) := by decide +kernel
theorem dX5_chance_24 : decode cX5_chance 24 = .ok (.invokevirtual 50, 3) := by decide +kernel
theorem dX5_chance_27 : decode cX5_chance 27 = .ok (.ireturn, 1) := by decide +kernel
theorem dX5_chance_28 : decode cX5_chance 28 = .ok (.iload_n 2, 1) := by decide +kernel
theorem dX5_chance_29 : decode cX5_chance 29 = .ok (.bipush 40, 2) := by decide +kernel
theorem dX5_chance_31 : decode cX5_chance 31 = .ok (.if_icmp .le 10, 3) := by decide +kernel
theorem dX5_chance_34 : decode cX5_chance 34 = .ok (.aload_n 0, 1) := by decide +kernel
theorem dX5_chance_35 : decode cX5_chance 35 = .ok (.bipush (-6), 2) := by decide +kernel
theorem dX5_chance_37 : decode cX5_chance 37 = .ok (.invokevirtual 50, 3) := by decide +kernel
theorem dX5_chance_40 : decode cX5_chance 40 = .ok (.ireturn, 1) := by decide +kernel
theorem dX5_chance_41 : decode cX5_chance 41 = .ok (.aload_n 0, 1) := by decide +kernel
theorem dX5_chance_42 : decode cX5_chance 42 = .ok (.getfield 10, 3) := by decide +kernel
theorem dX5_chance_45 : decode cX5_chance 45 = .ok (.iload_n 1, 1) := by decide +kernel
theorem dX5_chance_46 : decode cX5_chance 46 = .ok (.invokevirtual 90, 3) := by decide +kernel
theorem dX5_chance_49 : decode cX5_chance 49 = .ok (.ifCond .eq 7, 3) := by decide +kernel
theorem dX5_chance_52 : decode cX5_chance 52 = .ok (.iconst 0, 1) := by decide +kernel
theorem dX5_chance_53 : decode cX5_chance 53 = .ok (.goto 12, 3) := by decide +kernel
theorem dX5_chance_56 : decode cX5_chance 56 = .ok (.aload_n 0, 1) := by decide +kernel
theorem dX5_chance_57 : decode cX5_chance 57 = .ok (.getfield 10, 3) := by decide +kernel
theorem dX5_chance_60 : decode cX5_chance 60 = .ok (.iload_n 1, 1) := by decide +kernel
theorem dX5_chance_61 : decode cX5_chance 61 = .ok (.iload_n 2, 1) := by decide +kernel
theorem dX5_chance_62 : decode cX5_chance 62 = .ok (.invokevirtual 93, 3) := by decide +kernel
theorem dX5_chance_65 : decode cX5_chance 65 = .ok (.ireturn, 1) := by decide +kernel
theorem dX5_mask_0 : decode cX5_mask 0 = .ok (.aload_n 0, 1) := by decide +kernel
theorem dX5_mask_1 : decode cX5_mask 1 = .ok (.getfield 10, 3) := by decide +kernel
theorem dX5_mask_4 : decode cX5_mask 4 = .ok (.iload_n 1, 1) := by decide +kernel
theorem dX5_mask_5 : decode cX5_mask 5 = .ok (.invokevirtual 67, 3) := by decide +kernel
theorem dX5_mask_8 : decode cX5_mask 8 = .ok (.ifCond .ne 9, 3) := by decide +kernel
theorem dX5_mask_11 : decode cX5_mask 11 = .ok (.aload_n 0, 1) := by decide +kernel
theorem dX5_mask_12 : decode cX5_mask 12 = .ok (.iconst (-1), 1) := by decide +kernel
theorem dX5_mask_13 : decode cX5_mask 13 = .ok (.invokevirtual 50, 3) := by decide +kernel
theorem dX5_mask_16 : decode cX5_mask 16 = .ok (.ireturn, 1) := by decide +kernel
theorem dX5_mask_17 : decode cX5_mask 17 = .ok (.aload_n 0, 1) := by decide +kernel
theorem dX5_mask_18 : decode cX5_mask 18 = .ok (.getfield 10, 3) := by decide +kernel
theorem dX5_mask_21 : decode cX5_mask 21 = .ok (.getfield 58, 3) := by decide +kernel
theorem dX5_mask_24 : decode cX5_mask 24 = .ok (.istore_n 2, 1) := by decide +kernel
theorem dX5_mask_25 : decode cX5_mask 25 = .ok (.aload_n 0, 1) := by decide +kernel
theorem dX5_mask_26 : decode cX5_mask 26 = .ok (.iload_n 1, 1) := by decide +kernel
theorem dX5_mask_27 : decode cX5_mask 27 = .ok (.invokevirtual 97, 3) := by decide +kernel
theorem dX5_mask_30 : decode cX5_mask 30 = .ok (.iload_n 2, 1) := by decide +kernel
theorem dX5_mask_31 : decode cX5_mask 31 = .ok (.ireturn, 1) := by decide +kernel
theorem dX5_maskBy_0 : decode cX5_maskBy 0 = .ok (.iload_n 1, 1) := by decide +kernel
theorem dX5_maskBy_1 : decode cX5_maskBy 1 = .ok (.ifCond .lt 7, 3) := by decide +kernel
theorem dX5_maskBy_4 : decode cX5_maskBy 4 = .ok (.iload_n 2, 1) := by decide +kernel
theorem dX5_maskBy_5 : decode cX5_maskBy 5 = .ok (.ifCond .ge 10, 3) := by decide +kernel
theorem dX5_maskBy_8 : decode cX5_maskBy 8 = .ok (.aload_n 0, 1) := by decide +kernel
theorem dX5_maskBy_9 : decode cX5_maskBy 9 = .ok (.bipush (-4), 2) := by decide +kernel
theorem dX5_maskBy_11 : decode cX5_maskBy 11 = .ok (.invokevirtual 50, 3) := by decide +kernel
theorem dX5_maskBy_14 : decode cX5_maskBy 14 = .ok (.ireturn, 1) := by decide +kernel
theorem dX5_maskBy_15 : decode cX5_maskBy 15 = .ok (.iload_n 1, 1) := by decide +kernel
theorem dX5_maskBy_16 : decode cX5_maskBy 16 = .ok (.bipush 40, 2) := by decide +kernel
theorem dX5_maskBy_18 : decode cX5_maskBy 18 = .ok (.if_icmp .gt 8, 3) := by decide +kernel
theorem dX5_maskBy_21 : decode cX5_maskBy 21 = .ok (.iload_n 2, 1) := by decide +kernel
theorem dX5_maskBy_22 : decode cX5_maskBy 22 = .ok (.iconst 4, 1) := by decide +kernel
theorem dX5_maskBy_23 : decode cX5_maskBy 23 = .ok (.if_icmp .le 10, 3) := by decide +kernel
theorem dX5_maskBy_26 : decode cX5_maskBy 26 = .ok (.aload_n 0, 1) := by decide +kernel
theorem dX5_maskBy_27 : decode cX5_maskBy 27 = .ok (.bipush (-6), 2) := by decide +kernel
theorem dX5_maskBy_29 : decode cX5_maskBy 29 = .ok (.invokevirtual 50, 3) := by decide +kernel
theorem dX5_maskBy_32 : decode cX5_maskBy 32 = .ok (.ireturn, 1) := by decide +kernel
theorem dX5_maskBy_33 : decode cX5_maskBy 33 = .ok (.aload_n 0, 1) := by decide +kernel
theorem dX5_maskBy_34 : decode cX5_maskBy 34 = .ok (.aload_n 0, 1) := by decide +kernel
theorem dX5_maskBy_35 : decode cX5_maskBy 35 = .ok (.getfield 10, 3) := by decide +kernel
theorem dX5_maskBy_38 : decode cX5_maskBy 38 = .ok (.iload_n 2, 1) := by decide +kernel
theorem dX5_maskBy_39 : decode cX5_maskBy 39 = .ok (.iload_n 1, 1) := by decide +kernel
theorem dX5_maskBy_40 : decode cX5_maskBy 40 = .ok (.invokevirtual 101, 3) := by decide +kernel
theorem dX5_maskBy_43 : decode cX5_maskBy 43 = .ok (.invokevirtual 97, 3) := by decide +kernel
theorem dX5_maskBy_46 : decode cX5_maskBy 46 = .ok (.aload_n 0, 1) := by decide +kernel
theorem dX5_maskBy_47 : decode cX5_maskBy 47 = .ok (.getfield 10, 3) := by decide +kernel
theorem dX5_maskBy_50 : decode cX5_maskBy 50 = .ok (.getfield 58, 3) := by decide +kernel
theorem dX5_maskBy_53 : decode cX5_maskBy 53 = .ok (.ireturn, 1) := by decide +kernel
theorem dX5_row_0 : decode cX5_row 0 = .ok (.aload_n 0, 1) := by decide +kernel
theorem dX5_row_1 : decode cX5_row 1 = .ok (.getfield 10, 3) := by decide +kernel
theorem dX5_row_4 : decode cX5_row 4 = .ok (.iload_n 1, 1) := by decide +kernel
theorem dX5_row_5 : decode cX5_row 5 = .ok (.invokevirtual 67, 3) := by decide +kernel
theorem dX5_row_8 : decode cX5_row 8 = .ok (.ifCond .ne 9, 3) := by decide +kernel
theorem dX5_row_11 : decode cX5_row 11 = .ok (.aload_n 0, 1) := by decide +kernel
theorem dX5_row_12 : decode cX5_row 12 = .ok (.iconst (-1), 1) := by decide +kernel
theorem dX5_row_13 : decode cX5_row 13 = .ok (.invokevirtual 50, 3) := by decide +kernel
theorem dX5_row_16 : decode cX5_row 16 = .ok (.ireturn, 1) := by decide +kernel
theorem dX5_row_17 : decode cX5_row 17 = .ok (.aload_n 0, 1) := by decide +kernel
theorem dX5_row_18 : decode cX5_row 18 = .ok (.getfield 10, 3) := by decide +kernel
theorem dX5_row_21 : decode cX5_row 21 = .ok (.iload_n 1, 1) := by decide +kernel
theorem dX5_row_22 : decode cX5_row 22 = .ok (.invokevirtual 104, 3) := by decide +kernel
theorem dX5_row_25 : decode cX5_row 25 = .ok (.istore_n 2, 1) := by decide +kernel
theorem dX5_row_26 : decode cX5_row 26 = .ok (.aload_n 0, 1) := by decide +kernel
theorem dX5_row_27 : decode cX5_row 27 = .ok (.getfield 19, 3) := by decide +kernel
theorem dX5_row_30 : decode cX5_row 30 = .ok (.iload_n 2, 1) := by decide +kernel
theorem dX5_row_31 : decode cX5_row 31 = .ok (.invokevirtual 107, 3) := by decide +kernel
theorem dX5_row_34 : decode cX5_row 34 = .ok (.ifCond .eq 10, 3) := by decide +kernel
theorem dX5_row_37 : decode cX5_row 37 = .ok (.aload_n 0, 1) := by decide +kernel
theorem dX5_row_38 : decode cX5_row 38 = .ok (.bipush (-3), 2) := by decide +kernel
theorem dX5_row_40 : decode cX5_row 40 = .ok (.invokevirtual 50, 3) := by decide +kernel
theorem dX5_row_43 : decode cX5_row 43 = .ok (.ireturn, 1) := by decide +kernel
theorem dX5_row_44 : decode cX5_row 44 = .ok (.aload_n 0, 1) := by decide +kernel
theorem dX5_row_45 : decode cX5_row 45 = .ok (.getfield 19, 3) := by decide +kernel
theorem dX5_row_48 : decode cX5_row 48 = .ok (.getfield 110, 3) := by decide +kernel
theorem dX5_row_51 : decode cX5_row 51 = .ok (.bipush 6, 2) := by decide +kernel
theorem dX5_row_53 : decode cX5_row 53 = .ok (.if_icmp .lt 10, 3) := by decide +kernel
theorem dX5_row_56 : decode cX5_row 56 = .ok (.aload_n 0, 1) := by decide +kernel
theorem dX5_row_57 : decode cX5_row 57 = .ok (.bipush (-6), 2) := by decide +kernel
theorem dX5_row_59 : decode cX5_row 59 = .ok (.invokevirtual 50, 3) := by decide +kernel
theorem dX5_row_62 : decode cX5_row 62 = .ok (.ireturn, 1) := by decide +kernel
theorem dX5_row_63 : decode cX5_row 63 = .ok (.aload_n 0, 1) := by decide +kernel
theorem dX5_row_64 : decode cX5_row 64 = .ok (.getfield 19, 3) := by decide +kernel
theorem dX5_row_67 : decode cX5_row 67 = .ok (.iload_n 2, 1) := by decide +kernel
theorem dX5_row_68 : decode cX5_row 68 = .ok (.invokevirtual 113, 3) := by decide +kernel
theorem dX5_row_71 : decode cX5_row 71 = .ok (.aload_n 0, 1) := by decide +kernel
theorem dX5_row_72 : decode cX5_row 72 = .ok (.getfield 26, 3) := by decide +kernel
theorem dX5_row_75 : decode cX5_row 75 = .ok (.invokevirtual 116, 3) := by decide +kernel
theorem dX5_row_78 : decode cX5_row 78 = .ok (.aload_n 0, 1) := by decide +kernel
theorem dX5_row_79 : decode cX5_row 79 = .ok (.getfield 19, 3) := by decide +kernel
theorem dX5_row_82 : decode cX5_row 82 = .ok (.getfield 110, 3) := by decide +kernel
theorem dX5_row_85 : decode cX5_row 85 = .ok (.ireturn, 1) := by decide +kernel
theorem dX5_distance_0 : decode cX5_distance 0 = .ok (.aload_n 0, 1) := by decide +kernel
theorem dX5_distance_1 : decode cX5_distance 1 = .ok (.getfield 19, 3) := by decide +kernel
theorem dX5_distance_4 : decode cX5_distance 4 = .ok (.invokevirtual 119, 3) := by decide +kernel
theorem dX5_distance_7 : decode cX5_distance 7 = .ok (.ireturn, 1) := by decide +kernel
theorem dX5_codeword_0 : decode cX5_codeword 0 = .ok (.aload_n 0, 1) := by decide +kernel
theorem dX5_codeword_1 : decode cX5_codeword 1 = .ok (.getfield 19, 3) := by decide +kernel
theorem dX5_codeword_4 : decode cX5_codeword 4 = .ok (.iload_n 1, 1) := by decide +kernel
theorem dX5_codeword_5 : decode cX5_codeword 5 = .ok (.invokevirtual 123, 3) := by decide +kernel
theorem dX5_codeword_8 : decode cX5_codeword 8 = .ok (.ifCond .eq 15, 3) := by decide +kernel
theorem dX5_codeword_11 : decode cX5_codeword 11 = .ok (.aload_n 0, 1) := by decide +kernel
theorem dX5_codeword_12 : decode cX5_codeword 12 = .ok (.getfield 19, 3) := by decide +kernel
theorem dX5_codeword_15 : decode cX5_codeword 15 = .ok (.getfield 126, 3) := by decide +kernel
theorem dX5_codeword_18 : decode cX5_codeword 18 = .ok (.iload_n 1, 1) := by decide +kernel
theorem dX5_codeword_19 : decode cX5_codeword 19 = .ok (.iaload, 1) := by decide +kernel
theorem dX5_codeword_20 : decode cX5_codeword 20 = .ok (.goto 8, 3) := by decide +kernel
theorem dX5_codeword_23 : decode cX5_codeword 23 = .ok (.aload_n 0, 1) := by decide +kernel
theorem dX5_codeword_24 : decode cX5_codeword 24 = .ok (.iconst (-1), 1) := by decide +kernel
theorem dX5_codeword_25 : decode cX5_codeword 25 = .ok (.invokevirtual 50, 3) := by decide +kernel
theorem dX5_codeword_28 : decode cX5_codeword 28 = .ok (.ireturn, 1) := by decide +kernel
theorem dX5_mended_0 : decode cX5_mended 0 = .ok (.aload_n 0, 1) := by decide +kernel
theorem dX5_mended_1 : decode cX5_mended 1 = .ok (.getfield 10, 3) := by decide +kernel
theorem dX5_mended_4 : decode cX5_mended 4 = .ok (.iload_n 1, 1) := by decide +kernel
theorem dX5_mended_5 : decode cX5_mended 5 = .ok (.invokevirtual 67, 3) := by decide +kernel
theorem dX5_mended_8 : decode cX5_mended 8 = .ok (.ifCond .eq 21, 3) := by decide +kernel
theorem dX5_mended_11 : decode cX5_mended 11 = .ok (.aload_n 0, 1) := by decide +kernel
theorem dX5_mended_12 : decode cX5_mended 12 = .ok (.getfield 19, 3) := by decide +kernel
theorem dX5_mended_15 : decode cX5_mended 15 = .ok (.aload_n 0, 1) := by decide +kernel
theorem dX5_mended_16 : decode cX5_mended 16 = .ok (.getfield 10, 3) := by decide +kernel
theorem dX5_mended_19 : decode cX5_mended 19 = .ok (.iload_n 1, 1) := by decide +kernel
theorem dX5_mended_20 : decode cX5_mended 20 = .ok (.invokevirtual 104, 3) := by decide +kernel
theorem dX5_mended_23 : decode cX5_mended 23 = .ok (.invokevirtual 129, 3) := by decide +kernel
theorem dX5_mended_26 : decode cX5_mended 26 = .ok (.goto 8, 3) := by decide +kernel
theorem dX5_mended_29 : decode cX5_mended 29 = .ok (.aload_n 0, 1) := by decide +kernel
theorem dX5_mended_30 : decode cX5_mended 30 = .ok (.iconst (-1), 1) := by decide +kernel
theorem dX5_mended_31 : decode cX5_mended 31 = .ok (.invokevirtual 50, 3) := by decide +kernel
theorem dX5_mended_34 : decode cX5_mended 34 = .ok (.ireturn, 1) := by decide +kernel
theorem dX5_clear_0 : decode cX5_clear 0 = .ok (.aload_n 0, 1) := by decide +kernel
theorem dX5_clear_1 : decode cX5_clear 1 = .ok (.getfield 10, 3) := by decide +kernel
theorem dX5_clear_4 : decode cX5_clear 4 = .ok (.iload_n 1, 1) := by decide +kernel
theorem dX5_clear_5 : decode cX5_clear 5 = .ok (.invokevirtual 67, 3) := by decide +kernel
theorem dX5_clear_8 : decode cX5_clear 8 = .ok (.ifCond .ne 9, 3) := by decide +kernel
theorem dX5_clear_11 : decode cX5_clear 11 = .ok (.aload_n 0, 1) := by decide +kernel
theorem dX5_clear_12 : decode cX5_clear 12 = .ok (.iconst (-1), 1) := by decide +kernel
theorem dX5_clear_13 : decode cX5_clear 13 = .ok (.invokevirtual 50, 3) := by decide +kernel
theorem dX5_clear_16 : decode cX5_clear 16 = .ok (.ireturn, 1) := by decide +kernel
theorem dX5_clear_17 : decode cX5_clear 17 = .ok (.aload_n 0, 1) := by decide +kernel
theorem dX5_clear_18 : decode cX5_clear 18 = .ok (.getfield 19, 3) := by decide +kernel
theorem dX5_clear_21 : decode cX5_clear 21 = .ok (.aload_n 0, 1) := by decide +kernel
theorem dX5_clear_22 : decode cX5_clear 22 = .ok (.getfield 10, 3) := by decide +kernel
theorem dX5_clear_25 : decode cX5_clear 25 = .ok (.iload_n 1, 1) := by decide +kernel
theorem dX5_clear_26 : decode cX5_clear 26 = .ok (.invokevirtual 104, 3) := by decide +kernel
theorem dX5_clear_29 : decode cX5_clear 29 = .ok (.invokevirtual 132, 3) := by decide +kernel
theorem dX5_clear_32 : decode cX5_clear 32 = .ok (.ifCond .eq 7, 3) := by decide +kernel
theorem dX5_clear_35 : decode cX5_clear 35 = .ok (.iconst 1, 1) := by decide +kernel
theorem dX5_clear_36 : decode cX5_clear 36 = .ok (.goto 4, 3) := by decide +kernel
theorem dX5_clear_39 : decode cX5_clear 39 = .ok (.iconst 0, 1) := by decide +kernel
theorem dX5_clear_40 : decode cX5_clear 40 = .ok (.ireturn, 1) := by decide +kernel
theorem dX5_enrol_0 : decode cX5_enrol 0 = .ok (.aload_n 0, 1) := by decide +kernel
theorem dX5_enrol_1 : decode cX5_enrol 1 = .ok (.getfield 26, 3) := by decide +kernel
theorem dX5_enrol_4 : decode cX5_enrol 4 = .ok (.iload_n 1, 1) := by decide +kernel
theorem dX5_enrol_5 : decode cX5_enrol 5 = .ok (.invokevirtual 135, 3) := by decide +kernel
theorem dX5_enrol_8 : decode cX5_enrol 8 = .ok (.ifCond .eq 14, 3) := by decide +kernel
theorem dX5_enrol_11 : decode cX5_enrol 11 = .ok (.aload_n 0, 1) := by decide +kernel
theorem dX5_enrol_12 : decode cX5_enrol 12 = .ok (.getfield 19, 3) := by decide +kernel
theorem dX5_enrol_15 : decode cX5_enrol 15 = .ok (.iload_n 2, 1) := by decide +kernel
theorem dX5_enrol_16 : decode cX5_enrol 16 = .ok (.invokevirtual 123, 3) := by decide +kernel
theorem dX5_enrol_19 : decode cX5_enrol 19 = .ok (.ifCond .ne 9, 3) := by decide +kernel
theorem dX5_enrol_22 : decode cX5_enrol 22 = .ok (.aload_n 0, 1) := by decide +kernel
theorem dX5_enrol_23 : decode cX5_enrol 23 = .ok (.iconst (-1), 1) := by decide +kernel
theorem dX5_enrol_24 : decode cX5_enrol 24 = .ok (.invokevirtual 50, 3) := by decide +kernel
theorem dX5_enrol_27 : decode cX5_enrol 27 = .ok (.ireturn, 1) := by decide +kernel
theorem dX5_enrol_28 : decode cX5_enrol 28 = .ok (.aload_n 0, 1) := by decide +kernel
theorem dX5_enrol_29 : decode cX5_enrol 29 = .ok (.getfield 10, 3) := by decide +kernel
theorem dX5_enrol_32 : decode cX5_enrol 32 = .ok (.aload_n 0, 1) := by decide +kernel
theorem dX5_enrol_33 : decode cX5_enrol 33 = .ok (.getfield 26, 3) := by decide +kernel
theorem dX5_enrol_36 : decode cX5_enrol 36 = .ok (.getfield 138, 3) := by decide +kernel
theorem dX5_enrol_39 : decode cX5_enrol 39 = .ok (.iload_n 1, 1) := by decide +kernel
theorem dX5_enrol_40 : decode cX5_enrol 40 = .ok (.iaload, 1) := by decide +kernel
theorem dX5_enrol_41 : decode cX5_enrol 41 = .ok (.invokevirtual 104, 3) := by decide +kernel
theorem dX5_enrol_44 : decode cX5_enrol 44 = .ok (.aload_n 0, 1) := by decide +kernel
theorem dX5_enrol_45 : decode cX5_enrol 45 = .ok (.getfield 19, 3) := by decide +kernel
theorem dX5_enrol_48 : decode cX5_enrol 48 = .ok (.getfield 126, 3) := by decide +kernel
theorem dX5_enrol_51 : decode cX5_enrol 51 = .ok (.iload_n 2, 1) := by decide +kernel
theorem dX5_enrol_52 : decode cX5_enrol 52 = .ok (.iaload, 1) := by decide +kernel
theorem dX5_enrol_53 : decode cX5_enrol 53 = .ok (.ixor, 1) := by decide +kernel
theorem dX5_enrol_54 : decode cX5_enrol 54 = .ok (.istore_n 3, 1) := by decide +kernel
theorem dX5_enrol_55 : decode cX5_enrol 55 = .ok (.aload_n 0, 1) := by decide +kernel
theorem dX5_enrol_56 : decode cX5_enrol 56 = .ok (.getfield 26, 3) := by decide +kernel
theorem dX5_enrol_59 : decode cX5_enrol 59 = .ok (.iload_n 1, 1) := by decide +kernel
theorem dX5_enrol_60 : decode cX5_enrol 60 = .ok (.iload_n 3, 1) := by decide +kernel
theorem dX5_enrol_61 : decode cX5_enrol 61 = .ok (.iload_n 2, 1) := by decide +kernel
theorem dX5_enrol_62 : decode cX5_enrol 62 = .ok (.invokevirtual 141, 3) := by decide +kernel
theorem dX5_enrol_65 : decode cX5_enrol 65 = .ok (.iload_n 3, 1) := by decide +kernel
theorem dX5_enrol_66 : decode cX5_enrol 66 = .ok (.ireturn, 1) := by decide +kernel
theorem dX5_reading_0 : decode cX5_reading 0 = .ok (.aload_n 0, 1) := by decide +kernel
theorem dX5_reading_1 : decode cX5_reading 1 = .ok (.getfield 26, 3) := by decide +kernel
theorem dX5_reading_4 : decode cX5_reading 4 = .ok (.iload_n 1, 1) := by decide +kernel
theorem dX5_reading_5 : decode cX5_reading 5 = .ok (.invokevirtual 135, 3) := by decide +kernel
theorem dX5_reading_8 : decode cX5_reading 8 = .ok (.ifCond .eq 14, 3) := by decide +kernel
theorem dX5_reading_11 : decode cX5_reading 11 = .ok (.aload_n 0, 1) := by decide +kernel
theorem dX5_reading_12 : decode cX5_reading 12 = .ok (.getfield 10, 3) := by decide +kernel
theorem dX5_reading_15 : decode cX5_reading 15 = .ok (.iload_n 2, 1) := by decide +kernel
theorem dX5_reading_16 : decode cX5_reading 16 = .ok (.invokevirtual 67, 3) := by decide +kernel
theorem dX5_reading_19 : decode cX5_reading 19 = .ok (.ifCond .ne 9, 3) := by decide +kernel
theorem dX5_reading_22 : decode cX5_reading 22 = .ok (.aload_n 0, 1) := by decide +kernel
theorem dX5_reading_23 : decode cX5_reading 23 = .ok (.iconst (-1), 1) := by decide +kernel
theorem dX5_reading_24 : decode cX5_reading 24 = .ok (.invokevirtual 50, 3) := by decide +kernel
theorem dX5_reading_27 : decode cX5_reading 27 = .ok (.ireturn, 1) := by decide +kernel
theorem dX5_reading_28 : decode cX5_reading 28 = .ok (.aload_n 0, 1) := by decide +kernel
theorem dX5_reading_29 : decode cX5_reading 29 = .ok (.getfield 26, 3) := by decide +kernel
theorem dX5_reading_32 : decode cX5_reading 32 = .ok (.getfield 145, 3) := by decide +kernel
theorem dX5_reading_35 : decode cX5_reading 35 = .ok (.iload_n 1, 1) := by decide +kernel
theorem dX5_reading_36 : decode cX5_reading 36 = .ok (.baload, 1) := by decide +kernel
theorem dX5_reading_37 : decode cX5_reading 37 = .ok (.ifCond .ne 10, 3) := by decide +kernel
theorem dX5_reading_40 : decode cX5_reading 40 = .ok (.aload_n 0, 1) := by decide +kernel
theorem dX5_reading_41 : decode cX5_reading 41 = .ok (.bipush (-3), 2) := by decide +kernel
theorem dX5_reading_43 : decode cX5_reading 43 = .ok (.invokevirtual 50, 3) := by decide +kernel
theorem dX5_reading_46 : decode cX5_reading 46 = .ok (.ireturn, 1) := by decide +kernel
theorem dX5_reading_47 : decode cX5_reading 47 = .ok (.aload_n 0, 1) := by decide +kernel
theorem dX5_reading_48 : decode cX5_reading 48 = .ok (.getfield 19, 3) := by decide +kernel
theorem dX5_reading_51 : decode cX5_reading 51 = .ok (.aload_n 0, 1) := by decide +kernel
theorem dX5_reading_52 : decode cX5_reading 52 = .ok (.getfield 10, 3) := by decide +kernel
theorem dX5_reading_55 : decode cX5_reading 55 = .ok (.iload_n 2, 1) := by decide +kernel
theorem dX5_reading_56 : decode cX5_reading 56 = .ok (.invokevirtual 104, 3) := by decide +kernel
theorem dX5_reading_59 : decode cX5_reading 59 = .ok (.aload_n 0, 1) := by decide +kernel
theorem dX5_reading_60 : decode cX5_reading 60 = .ok (.getfield 26, 3) := by decide +kernel
theorem dX5_reading_63 : decode cX5_reading 63 = .ok (.getfield 149, 3) := by decide +kernel
theorem dX5_reading_66 : decode cX5_reading 66 = .ok (.iload_n 1, 1) := by decide +kernel
theorem dX5_reading_67 : decode cX5_reading 67 = .ok (.iaload, 1) := by decide +kernel
theorem dX5_reading_68 : decode cX5_reading 68 = .ok (.ixor, 1) := by decide +kernel
theorem dX5_reading_69 : decode cX5_reading 69 = .ok (.invokevirtual 129, 3) := by decide +kernel
theorem dX5_reading_72 : decode cX5_reading 72 = .ok (.ireturn, 1) := by decide +kernel
theorem dX5_fail_0 : decode cX5_fail 0 = .ok (.aload_n 0, 1) := by decide +kernel
theorem dX5_fail_1 : decode cX5_fail 1 = .ok (.getfield 26, 3) := by decide +kernel
theorem dX5_fail_4 : decode cX5_fail 4 = .ok (.iload_n 1, 1) := by decide +kernel
theorem dX5_fail_5 : decode cX5_fail 5 = .ok (.invokevirtual 135, 3) := by decide +kernel
theorem dX5_fail_8 : decode cX5_fail 8 = .ok (.ifCond .eq 13, 3) := by decide +kernel
theorem dX5_fail_11 : decode cX5_fail 11 = .ok (.iload_n 2, 1) := by decide +kernel
theorem dX5_fail_12 : decode cX5_fail 12 = .ok (.ifCond .lt 9, 3) := by decide +kernel
theorem dX5_fail_15 : decode cX5_fail 15 = .ok (.iload_n 2, 1) := by decide +kernel
theorem dX5_fail_16 : decode cX5_fail 16 = .ok (.bipush 40, 2) := by decide +kernel
theorem dX5_fail_18 : decode cX5_fail 18 = .ok (.if_icmp .le 13, 3) := by decide +kernel
theorem dX5_fail_21 : decode cX5_fail 21 = .ok (.new 152, 3) := by decide +kernel
theorem dX5_fail_24 : decode cX5_fail 24 = .ok (.dup, 1) := by decide +kernel
theorem dX5_fail_25 : decode cX5_fail 25 = .ok (.ldc 154, 2) := by decide +kernel
theorem dX5_fail_27 : decode cX5_fail 27 = .ok (.invokespecial 156, 3) := by decide +kernel
theorem dX5_fail_30 : decode cX5_fail 30 = .ok (.athrow, 1) := by decide +kernel
theorem dX5_fail_31 : decode cX5_fail 31 = .ok (.aload_n 0, 1) := by decide +kernel
theorem dX5_fail_32 : decode cX5_fail 32 = .ok (.getfield 26, 3) := by decide +kernel
theorem dX5_fail_35 : decode cX5_fail 35 = .ok (.getfield 145, 3) := by decide +kernel
theorem dX5_fail_38 : decode cX5_fail 38 = .ok (.iload_n 1, 1) := by decide +kernel
theorem dX5_fail_39 : decode cX5_fail 39 = .ok (.baload, 1) := by decide +kernel
theorem dX5_fail_40 : decode cX5_fail 40 = .ok (.ifCond .ne 13, 3) := by decide +kernel
theorem dX5_fail_43 : decode cX5_fail 43 = .ok (.new 159, 3) := by decide +kernel
theorem dX5_fail_46 : decode cX5_fail 46 = .ok (.dup, 1) := by decide +kernel
theorem dX5_fail_47 : decode cX5_fail 47 = .ok (.ldc 161, 2) := by decide +kernel
theorem dX5_fail_49 : decode cX5_fail 49 = .ok (.invokespecial 163, 3) := by decide +kernel
theorem dX5_fail_52 : decode cX5_fail 52 = .ok (.athrow, 1) := by decide +kernel
theorem dX5_fail_53 : decode cX5_fail 53 = .ok (.aload_n 0, 1) := by decide +kernel
theorem dX5_fail_54 : decode cX5_fail 54 = .ok (.getfield 42, 3) := by decide +kernel
theorem dX5_fail_57 : decode cX5_fail 57 = .ok (.aload_n 0, 1) := by decide +kernel
theorem dX5_fail_58 : decode cX5_fail 58 = .ok (.getfield 26, 3) := by decide +kernel
theorem dX5_fail_61 : decode cX5_fail 61 = .ok (.getfield 164, 3) := by decide +kernel
theorem dX5_fail_64 : decode cX5_fail 64 = .ok (.iload_n 1, 1) := by decide +kernel
theorem dX5_fail_65 : decode cX5_fail 65 = .ok (.iaload, 1) := by decide +kernel
theorem dX5_fail_66 : decode cX5_fail 66 = .ok (.iload_n 2, 1) := by decide +kernel
theorem dX5_fail_67 : decode cX5_fail 67 = .ok (.invokevirtual 167, 3) := by decide +kernel
theorem dX5_fail_70 : decode cX5_fail 70 = .ok (.lreturn, 1) := by decide +kernel
theorem dX5_all_0 : decode cX5_all 0 = .ok (.aload_n 0, 1) := by decide +kernel
theorem dX5_all_1 : decode cX5_all 1 = .ok (.getfield 10, 3) := by decide +kernel
theorem dX5_all_4 : decode cX5_all 4 = .ok (.invokevirtual 171, 3) := by decide +kernel
theorem dX5_all_7 : decode cX5_all 7 = .ok (.lreturn, 1) := by decide +kernel
theorem dX5_lasts_0 : decode cX5_lasts 0 = .ok (.aload_n 0, 1) := by decide +kernel
theorem dX5_lasts_1 : decode cX5_lasts 1 = .ok (.getfield 26, 3) := by decide +kernel
theorem dX5_lasts_4 : decode cX5_lasts 4 = .ok (.iload_n 1, 1) := by decide +kernel
theorem dX5_lasts_5 : decode cX5_lasts 5 = .ok (.invokevirtual 135, 3) := by decide +kernel
theorem dX5_lasts_8 : decode cX5_lasts 8 = .ok (.ifCond .ne 9, 3) := by decide +kernel
theorem dX5_lasts_11 : decode cX5_lasts 11 = .ok (.aload_n 0, 1) := by decide +kernel
theorem dX5_lasts_12 : decode cX5_lasts 12 = .ok (.iconst (-1), 1) := by decide +kernel
theorem dX5_lasts_13 : decode cX5_lasts 13 = .ok (.invokevirtual 50, 3) := by decide +kernel
theorem dX5_lasts_16 : decode cX5_lasts 16 = .ok (.ireturn, 1) := by decide +kernel
theorem dX5_lasts_17 : decode cX5_lasts 17 = .ok (.aload_n 0, 1) := by decide +kernel
theorem dX5_lasts_18 : decode cX5_lasts 18 = .ok (.getfield 26, 3) := by decide +kernel
theorem dX5_lasts_21 : decode cX5_lasts 21 = .ok (.getfield 145, 3) := by decide +kernel
theorem dX5_lasts_24 : decode cX5_lasts 24 = .ok (.iload_n 1, 1) := by decide +kernel
theorem dX5_lasts_25 : decode cX5_lasts 25 = .ok (.baload, 1) := by decide +kernel
theorem dX5_lasts_26 : decode cX5_lasts 26 = .ok (.ifCond .ne 10, 3) := by decide +kernel
theorem dX5_lasts_29 : decode cX5_lasts 29 = .ok (.aload_n 0, 1) := by decide +kernel
theorem dX5_lasts_30 : decode cX5_lasts 30 = .ok (.bipush (-3), 2) := by decide +kernel
theorem dX5_lasts_32 : decode cX5_lasts 32 = .ok (.invokevirtual 50, 3) := by decide +kernel
theorem dX5_lasts_35 : decode cX5_lasts 35 = .ok (.ireturn, 1) := by decide +kernel
theorem dX5_lasts_36 : decode cX5_lasts 36 = .ok (.iload_n 2, 1) := by decide +kernel
theorem dX5_lasts_37 : decode cX5_lasts 37 = .ok (.ifCond .ge 10, 3) := by decide +kernel
theorem dX5_lasts_40 : decode cX5_lasts 40 = .ok (.aload_n 0, 1) := by decide +kernel
theorem dX5_lasts_41 : decode cX5_lasts 41 = .ok (.bipush (-4), 2) := by decide +kernel
theorem dX5_lasts_43 : decode cX5_lasts 43 = .ok (.invokevirtual 50, 3) := by decide +kernel
theorem dX5_lasts_46 : decode cX5_lasts 46 = .ok (.ireturn, 1) := by decide +kernel
theorem dX5_lasts_47 : decode cX5_lasts 47 = .ok (.iload_n 2, 1) := by decide +kernel
theorem dX5_lasts_48 : decode cX5_lasts 48 = .ok (.bipush 8, 2) := by decide +kernel
theorem dX5_lasts_50 : decode cX5_lasts 50 = .ok (.if_icmp .le 10, 3) := by decide +kernel
theorem dX5_lasts_53 : decode cX5_lasts 53 = .ok (.aload_n 0, 1) := by decide +kernel
theorem dX5_lasts_54 : decode cX5_lasts 54 = .ok (.bipush (-6), 2) := by decide +kernel
theorem dX5_lasts_56 : decode cX5_lasts 56 = .ok (.invokevirtual 50, 3) := by decide +kernel
theorem dX5_lasts_59 : decode cX5_lasts 59 = .ok (.ireturn, 1) := by decide +kernel
theorem dX5_lasts_60 : decode cX5_lasts 60 = .ok (.aload_n 0, 1) := by decide +kernel
theorem dX5_lasts_61 : decode cX5_lasts 61 = .ok (.iload_n 2, 1) := by decide +kernel
theorem dX5_lasts_62 : decode cX5_lasts 62 = .ok (.aload_n 0, 1) := by decide +kernel
theorem dX5_lasts_63 : decode cX5_lasts 63 = .ok (.getfield 26, 3) := by decide +kernel
theorem dX5_lasts_66 : decode cX5_lasts 66 = .ok (.getfield 164, 3) := by decide +kernel
theorem dX5_lasts_69 : decode cX5_lasts 69 = .ok (.iload_n 1, 1) := by decide +kernel
theorem dX5_lasts_70 : decode cX5_lasts 70 = .ok (.iaload, 1) := by decide +kernel
theorem dX5_lasts_71 : decode cX5_lasts 71 = .ok (.invokevirtual 175, 3) := by decide +kernel
theorem dX5_lasts_74 : decode cX5_lasts 74 = .ok (.ireturn, 1) := by decide +kernel
theorem dX5_guess_0 : decode cX5_guess 0 = .ok (.aload_n 0, 1) := by decide +kernel
theorem dX5_guess_1 : decode cX5_guess 1 = .ok (.getfield 10, 3) := by decide +kernel
theorem dX5_guess_4 : decode cX5_guess 4 = .ok (.iload_n 1, 1) := by decide +kernel
theorem dX5_guess_5 : decode cX5_guess 5 = .ok (.invokevirtual 67, 3) := by decide +kernel
theorem dX5_guess_8 : decode cX5_guess 8 = .ok (.ifCond .eq 11, 3) := by decide +kernel
theorem dX5_guess_11 : decode cX5_guess 11 = .ok (.aload_n 0, 1) := by decide +kernel
theorem dX5_guess_12 : decode cX5_guess 12 = .ok (.iload_n 1, 1) := by decide +kernel
theorem dX5_guess_13 : decode cX5_guess 13 = .ok (.invokevirtual 178, 3) := by decide +kernel
theorem dX5_guess_16 : decode cX5_guess 16 = .ok (.goto 8, 3) := by decide +kernel
theorem dX5_guess_19 : decode cX5_guess 19 = .ok (.aload_n 0, 1) := by decide +kernel
theorem dX5_guess_20 : decode cX5_guess 20 = .ok (.iconst (-1), 1) := by decide +kernel
theorem dX5_guess_21 : decode cX5_guess 21 = .ok (.invokevirtual 50, 3) := by decide +kernel
theorem dX5_guess_24 : decode cX5_guess 24 = .ok (.ireturn, 1) := by decide +kernel
theorem dX5_weight_0 : decode cX5_weight 0 = .ok (.aload_n 0, 1) := by decide +kernel
theorem dX5_weight_1 : decode cX5_weight 1 = .ok (.getfield 10, 3) := by decide +kernel
theorem dX5_weight_4 : decode cX5_weight 4 = .ok (.iload_n 1, 1) := by decide +kernel
theorem dX5_weight_5 : decode cX5_weight 5 = .ok (.invokevirtual 67, 3) := by decide +kernel
theorem dX5_weight_8 : decode cX5_weight 8 = .ok (.ifCond .ne 13, 3) := by decide +kernel
theorem dX5_weight_11 : decode cX5_weight 11 = .ok (.new 152, 3) := by decide +kernel
theorem dX5_weight_14 : decode cX5_weight 14 = .ok (.dup, 1) := by decide +kernel
theorem dX5_weight_15 : decode cX5_weight 15 = .ok (.ldc 181, 2) := by decide +kernel
theorem dX5_weight_17 : decode cX5_weight 17 = .ok (.invokespecial 156, 3) := by decide +kernel
theorem dX5_weight_20 : decode cX5_weight 20 = .ok (.athrow, 1) := by decide +kernel
theorem dX5_weight_21 : decode cX5_weight 21 = .ok (.iload_n 2, 1) := by decide +kernel
theorem dX5_weight_22 : decode cX5_weight 22 = .ok (.ifCond .eq 11, 3) := by decide +kernel
theorem dX5_weight_25 : decode cX5_weight 25 = .ok (.aload_n 0, 1) := by decide +kernel
theorem dX5_weight_26 : decode cX5_weight 26 = .ok (.iload_n 1, 1) := by decide +kernel
theorem dX5_weight_27 : decode cX5_weight 27 = .ok (.invokevirtual 183, 3) := by decide +kernel
theorem dX5_weight_30 : decode cX5_weight 30 = .ok (.goto 13, 3) := by decide +kernel
theorem dX5_weight_33 : decode cX5_weight 33 = .ok (.aload_n 0, 1) := by decide +kernel
theorem dX5_weight_34 : decode cX5_weight 34 = .ok (.aload_n 0, 1) := by decide +kernel
theorem dX5_weight_35 : decode cX5_weight 35 = .ok (.iload_n 1, 1) := by decide +kernel
theorem dX5_weight_36 : decode cX5_weight 36 = .ok (.invokevirtual 178, 3) := by decide +kernel
theorem dX5_weight_39 : decode cX5_weight 39 = .ok (.iload_n 1, 1) := by decide +kernel
theorem dX5_weight_40 : decode cX5_weight 40 = .ok (.invokevirtual 187, 3) := by decide +kernel
theorem dX5_weight_43 : decode cX5_weight 43 = .ok (.lreturn, 1) := by decide +kernel
theorem dX5_leak_0 : decode cX5_leak 0 = .ok (.aload_n 0, 1) := by decide +kernel
theorem dX5_leak_1 : decode cX5_leak 1 = .ok (.getfield 10, 3) := by decide +kernel
theorem dX5_leak_4 : decode cX5_leak 4 = .ok (.invokevirtual 190, 3) := by decide +kernel
theorem dX5_leak_7 : decode cX5_leak 7 = .ok (.aload_n 0, 1) := by decide +kernel
theorem dX5_leak_8 : decode cX5_leak 8 = .ok (.getfield 19, 3) := by decide +kernel
theorem dX5_leak_11 : decode cX5_leak 11 = .ok (.getfield 110, 3) := by decide +kernel
theorem dX5_leak_14 : decode cX5_leak 14 = .ok (.isub, 1) := by decide +kernel
theorem dX5_leak_15 : decode cX5_leak 15 = .ok (.ireturn, 1) := by decide +kernel
theorem dX5_even_0 : decode cX5_even 0 = .ok (.aload_n 0, 1) := by decide +kernel
theorem dX5_even_1 : decode cX5_even 1 = .ok (.getfield 10, 3) := by decide +kernel
theorem dX5_even_4 : decode cX5_even 4 = .ok (.iload_n 1, 1) := by decide +kernel
theorem dX5_even_5 : decode cX5_even 5 = .ok (.invokevirtual 67, 3) := by decide +kernel
theorem dX5_even_8 : decode cX5_even 8 = .ok (.ifCond .ne 9, 3) := by decide +kernel
theorem dX5_even_11 : decode cX5_even 11 = .ok (.aload_n 0, 1) := by decide +kernel
theorem dX5_even_12 : decode cX5_even 12 = .ok (.iconst (-1), 1) := by decide +kernel
theorem dX5_even_13 : decode cX5_even 13 = .ok (.invokevirtual 50, 3) := by decide +kernel
theorem dX5_even_16 : decode cX5_even 16 = .ok (.ireturn, 1) := by decide +kernel
theorem dX5_even_17 : decode cX5_even 17 = .ok (.iload_n 2, 1) := by decide +kernel
theorem dX5_even_18 : decode cX5_even 18 = .ok (.ifCond .eq 15, 3) := by decide +kernel
theorem dX5_even_21 : decode cX5_even 21 = .ok (.iload_n 2, 1) := by decide +kernel
theorem dX5_even_22 : decode cX5_even 22 = .ok (.iconst 1, 1) := by decide +kernel
theorem dX5_even_23 : decode cX5_even 23 = .ok (.if_icmp .eq 10, 3) := by decide +kernel
theorem dX5_even_26 : decode cX5_even 26 = .ok (.aload_n 0, 1) := by decide +kernel
theorem dX5_even_27 : decode cX5_even 27 = .ok (.bipush (-2), 2) := by decide +kernel
theorem dX5_even_29 : decode cX5_even 29 = .ok (.invokevirtual 50, 3) := by decide +kernel
theorem dX5_even_32 : decode cX5_even 32 = .ok (.ireturn, 1) := by decide +kernel
theorem dX5_even_33 : decode cX5_even 33 = .ok (.aload_n 0, 1) := by decide +kernel
theorem dX5_even_34 : decode cX5_even 34 = .ok (.getfield 10, 3) := by decide +kernel
theorem dX5_even_37 : decode cX5_even 37 = .ok (.iload_n 1, 1) := by decide +kernel
theorem dX5_even_38 : decode cX5_even 38 = .ok (.invokevirtual 193, 3) := by decide +kernel
theorem dX5_even_41 : decode cX5_even 41 = .ok (.istore_n 3, 1) := by decide +kernel
theorem dX5_even_42 : decode cX5_even 42 = .ok (.iload_n 3, 1) := by decide +kernel
theorem dX5_even_43 : decode cX5_even 43 = .ok (.invokestatic 196, 3) := by decide +kernel
theorem dX5_even_46 : decode cX5_even 46 = .ok (.istore 4, 2) := by decide +kernel
theorem dX5_even_48 : decode cX5_even 48 = .ok (.iload_n 2, 1) := by decide +kernel
theorem dX5_even_49 : decode cX5_even 49 = .ok (.ifCond .ne 11, 3) := by decide +kernel
theorem dX5_even_52 : decode cX5_even 52 = .ok (.iload 4, 2) := by decide +kernel
theorem dX5_even_54 : decode cX5_even 54 = .ok (.invokestatic 201, 3) := by decide +kernel
theorem dX5_even_57 : decode cX5_even 57 = .ok (.goto 7, 3) := by decide +kernel
theorem dX5_even_60 : decode cX5_even 60 = .ok (.iload_n 3, 1) := by decide +kernel
theorem dX5_even_61 : decode cX5_even 61 = .ok (.iload 4, 2) := by decide +kernel
theorem dX5_even_63 : decode cX5_even 63 = .ok (.isub, 1) := by decide +kernel
theorem dX5_even_64 : decode cX5_even 64 = .ok (.ireturn, 1) := by decide +kernel
theorem dX5_expected_0 : decode cX5_expected 0 = .ok (.aload_n 0, 1) := by decide +kernel
theorem dX5_expected_1 : decode cX5_expected 1 = .ok (.getfield 10, 3) := by decide +kernel
theorem dX5_expected_4 : decode cX5_expected 4 = .ok (.invokevirtual 204, 3) := by decide +kernel
theorem dX5_expected_7 : decode cX5_expected 7 = .ok (.ireturn, 1) := by decide +kernel
theorem dX5_pair_0 : decode cX5_pair 0 = .ok (.iload_n 1, 1) := by decide +kernel
theorem dX5_pair_1 : decode cX5_pair 1 = .ok (.invokestatic 207, 3) := by decide +kernel
theorem dX5_pair_4 : decode cX5_pair 4 = .ok (.ifCond .eq 10, 3) := by decide +kernel
theorem dX5_pair_7 : decode cX5_pair 7 = .ok (.iload_n 2, 1) := by decide +kernel
theorem dX5_pair_8 : decode cX5_pair 8 = .ok (.invokestatic 210, 3) := by decide +kernel
theorem dX5_pair_11 : decode cX5_pair 11 = .ok (.ifCond .ne 9, 3) := by decide +kernel
theorem dX5_pair_14 : decode cX5_pair 14 = .ok (.aload_n 0, 1) := by decide +kernel
theorem dX5_pair_15 : decode cX5_pair 15 = .ok (.iconst (-1), 1) := by decide +kernel
theorem dX5_pair_16 : decode cX5_pair 16 = .ok (.invokevirtual 50, 3) := by decide +kernel
theorem dX5_pair_19 : decode cX5_pair 19 = .ok (.ireturn, 1) := by decide +kernel
theorem dX5_pair_20 : decode cX5_pair 20 = .ok (.aload_n 0, 1) := by decide +kernel
theorem dX5_pair_21 : decode cX5_pair 21 = .ok (.getfield 33, 3) := by decide +kernel
theorem dX5_pair_24 : decode cX5_pair 24 = .ok (.getfield 213, 3) := by decide +kernel
theorem dX5_pair_27 : decode cX5_pair 27 = .ok (.iload_n 1, 1) := by decide +kernel
theorem dX5_pair_28 : decode cX5_pair 28 = .ok (.baload, 1) := by decide +kernel
theorem dX5_pair_29 : decode cX5_pair 29 = .ok (.ifCond .eq 23, 3) := by decide +kernel
theorem dX5_pair_32 : decode cX5_pair 32 = .ok (.aload_n 0, 1) := by decide +kernel
theorem dX5_pair_33 : decode cX5_pair 33 = .ok (.getfield 33, 3) := by decide +kernel
theorem dX5_pair_36 : decode cX5_pair 36 = .ok (.getfield 216, 3) := by decide +kernel
theorem dX5_pair_39 : decode cX5_pair 39 = .ok (.iload_n 1, 1) := by decide +kernel
theorem dX5_pair_40 : decode cX5_pair 40 = .ok (.iaload, 1) := by decide +kernel
theorem dX5_pair_41 : decode cX5_pair 41 = .ok (.iload_n 2, 1) := by decide +kernel
theorem dX5_pair_42 : decode cX5_pair 42 = .ok (.if_icmp .eq 10, 3) := by decide +kernel
theorem dX5_pair_45 : decode cX5_pair 45 = .ok (.aload_n 0, 1) := by decide +kernel
theorem dX5_pair_46 : decode cX5_pair 46 = .ok (.bipush (-3), 2) := by decide +kernel
theorem dX5_pair_48 : decode cX5_pair 48 = .ok (.invokevirtual 50, 3) := by decide +kernel
theorem dX5_pair_51 : decode cX5_pair 51 = .ok (.ireturn, 1) := by decide +kernel
theorem dX5_pair_52 : decode cX5_pair 52 = .ok (.aload_n 0, 1) := by decide +kernel
theorem dX5_pair_53 : decode cX5_pair 53 = .ok (.getfield 33, 3) := by decide +kernel
theorem dX5_pair_56 : decode cX5_pair 56 = .ok (.iload_n 1, 1) := by decide +kernel
theorem dX5_pair_57 : decode cX5_pair 57 = .ok (.iload_n 2, 1) := by decide +kernel
theorem dX5_pair_58 : decode cX5_pair 58 = .ok (.invokevirtual 219, 3) := by decide +kernel
theorem dX5_pair_61 : decode cX5_pair 61 = .ok (.aload_n 0, 1) := by decide +kernel
theorem dX5_pair_62 : decode cX5_pair 62 = .ok (.getfield 33, 3) := by decide +kernel
theorem dX5_pair_65 : decode cX5_pair 65 = .ok (.getfield 223, 3) := by decide +kernel
theorem dX5_pair_68 : decode cX5_pair 68 = .ok (.ireturn, 1) := by decide +kernel
theorem dX5_planes_0 : decode cX5_planes 0 = .ok (.aload_n 0, 1) := by decide +kernel
theorem dX5_planes_1 : decode cX5_planes 1 = .ok (.getfield 33, 3) := by decide +kernel
theorem dX5_planes_4 : decode cX5_planes 4 = .ok (.invokevirtual 224, 3) := by decide +kernel
theorem dX5_planes_7 : decode cX5_planes 7 = .ok (.aload_n 0, 1) := by decide +kernel
theorem dX5_planes_8 : decode cX5_planes 8 = .ok (.getfield 33, 3) := by decide +kernel
theorem dX5_planes_11 : decode cX5_planes 11 = .ok (.getfield 227, 3) := by decide +kernel
theorem dX5_planes_14 : decode cX5_planes 14 = .ok (.ireturn, 1) := by decide +kernel
theorem dX5_plane_0 : decode cX5_plane 0 = .ok (.iload_n 1, 1) := by decide +kernel
theorem dX5_plane_1 : decode cX5_plane 1 = .ok (.ifCond .lt 8, 3) := by decide +kernel
theorem dX5_plane_4 : decode cX5_plane 4 = .ok (.iload_n 1, 1) := by decide +kernel
theorem dX5_plane_5 : decode cX5_plane 5 = .ok (.iconst 5, 1) := by decide +kernel
theorem dX5_plane_6 : decode cX5_plane 6 = .ok (.if_icmp .lt 10, 3) := by decide +kernel
theorem dX5_plane_9 : decode cX5_plane 9 = .ok (.aload_n 0, 1) := by decide +kernel
theorem dX5_plane_10 : decode cX5_plane 10 = .ok (.bipush (-2), 2) := by decide +kernel
theorem dX5_plane_12 : decode cX5_plane 12 = .ok (.invokevirtual 50, 3) := by decide +kernel
theorem dX5_plane_15 : decode cX5_plane 15 = .ok (.ireturn, 1) := by decide +kernel
theorem dX5_plane_16 : decode cX5_plane 16 = .ok (.aload_n 0, 1) := by decide +kernel
theorem dX5_plane_17 : decode cX5_plane 17 = .ok (.getfield 33, 3) := by decide +kernel
theorem dX5_plane_20 : decode cX5_plane 20 = .ok (.invokevirtual 224, 3) := by decide +kernel
theorem dX5_plane_23 : decode cX5_plane 23 = .ok (.aload_n 0, 1) := by decide +kernel
theorem dX5_plane_24 : decode cX5_plane 24 = .ok (.getfield 33, 3) := by decide +kernel
theorem dX5_plane_27 : decode cX5_plane 27 = .ok (.getfield 227, 3) := by decide +kernel
theorem dX5_plane_30 : decode cX5_plane 30 = .ok (.ifCond .ne 8, 3) := by decide +kernel
theorem dX5_plane_33 : decode cX5_plane 33 = .ok (.bipush (-9), 2) := by decide +kernel
theorem dX5_plane_35 : decode cX5_plane 35 = .ok (.goto 15, 3) := by decide +kernel
theorem dX5_plane_38 : decode cX5_plane 38 = .ok (.aload_n 0, 1) := by decide +kernel
theorem dX5_plane_39 : decode cX5_plane 39 = .ok (.getfield 33, 3) := by decide +kernel
theorem dX5_plane_42 : decode cX5_plane 42 = .ok (.getfield 230, 3) := by decide +kernel
theorem dX5_plane_45 : decode cX5_plane 45 = .ok (.iload_n 1, 1) := by decide +kernel
theorem dX5_plane_46 : decode cX5_plane 46 = .ok (.iaload, 1) := by decide +kernel
theorem dX5_plane_47 : decode cX5_plane 47 = .ok (.bipush 10, 2) := by decide +kernel
theorem dX5_plane_49 : decode cX5_plane 49 = .ok (.iadd, 1) := by decide +kernel
theorem dX5_plane_50 : decode cX5_plane 50 = .ok (.ireturn, 1) := by decide +kernel
theorem dX5_foretold_0 : decode cX5_foretold 0 = .ok (.iload_n 1, 1) := by decide +kernel
theorem dX5_foretold_1 : decode cX5_foretold 1 = .ok (.invokestatic 207, 3) := by decide +kernel
theorem dX5_foretold_4 : decode cX5_foretold 4 = .ok (.ifCond .eq 14, 3) := by decide +kernel
theorem dX5_foretold_7 : decode cX5_foretold 7 = .ok (.aload_n 0, 1) := by decide +kernel
theorem dX5_foretold_8 : decode cX5_foretold 8 = .ok (.getfield 33, 3) := by decide +kernel
theorem dX5_foretold_11 : decode cX5_foretold 11 = .ok (.iload_n 1, 1) := by decide +kernel
theorem dX5_foretold_12 : decode cX5_foretold 12 = .ok (.invokevirtual 233, 3) := by decide +kernel
theorem dX5_foretold_15 : decode cX5_foretold 15 = .ok (.goto 8, 3) := by decide +kernel
theorem dX5_foretold_18 : decode cX5_foretold 18 = .ok (.aload_n 0, 1) := by decide +kernel
theorem dX5_foretold_19 : decode cX5_foretold 19 = .ok (.iconst (-1), 1) := by decide +kernel
theorem dX5_foretold_20 : decode cX5_foretold 20 = .ok (.invokevirtual 50, 3) := by decide +kernel
theorem dX5_foretold_23 : decode cX5_foretold 23 = .ok (.ireturn, 1) := by decide +kernel
theorem dX5_next_0 : decode cX5_next 0 = .ok (.aload_n 0, 1) := by decide +kernel
theorem dX5_next_1 : decode cX5_next 1 = .ok (.getfield 33, 3) := by decide +kernel
theorem dX5_next_4 : decode cX5_next 4 = .ok (.invokevirtual 236, 3) := by decide +kernel
theorem dX5_next_7 : decode cX5_next 7 = .ok (.istore_n 1, 1) := by decide +kernel
theorem dX5_next_8 : decode cX5_next 8 = .ok (.iload_n 1, 1) := by decide +kernel
theorem dX5_next_9 : decode cX5_next 9 = .ok (.ifCond .ge 8, 3) := by decide +kernel
theorem dX5_next_12 : decode cX5_next 12 = .ok (.bipush (-9), 2) := by decide +kernel
theorem dX5_next_14 : decode cX5_next 14 = .ok (.goto 4, 3) := by decide +kernel
theorem dX5_next_17 : decode cX5_next 17 = .ok (.iload_n 1, 1) := by decide +kernel
theorem dX5_next_18 : decode cX5_next 18 = .ok (.ireturn, 1) := by decide +kernel
theorem dX5_check_0 : decode cX5_check 0 = .ok (.iload_n 1, 1) := by decide +kernel
theorem dX5_check_1 : decode cX5_check 1 = .ok (.invokestatic 207, 3) := by decide +kernel
theorem dX5_check_4 : decode cX5_check 4 = .ok (.ifCond .eq 10, 3) := by decide +kernel
theorem dX5_check_7 : decode cX5_check 7 = .ok (.iload_n 2, 1) := by decide +kernel
theorem dX5_check_8 : decode cX5_check 8 = .ok (.invokestatic 210, 3) := by decide +kernel
theorem dX5_check_11 : decode cX5_check 11 = .ok (.ifCond .ne 9, 3) := by decide +kernel
theorem dX5_check_14 : decode cX5_check 14 = .ok (.aload_n 0, 1) := by decide +kernel
theorem dX5_check_15 : decode cX5_check 15 = .ok (.iconst (-1), 1) := by decide +kernel
theorem dX5_check_16 : decode cX5_check 16 = .ok (.invokevirtual 50, 3) := by decide +kernel
theorem dX5_check_19 : decode cX5_check 19 = .ok (.ireturn, 1) := by decide +kernel
theorem dX5_check_20 : decode cX5_check 20 = .ok (.aload_n 0, 1) := by decide +kernel
theorem dX5_check_21 : decode cX5_check 21 = .ok (.getfield 33, 3) := by decide +kernel
theorem dX5_check_24 : decode cX5_check 24 = .ok (.getfield 213, 3) := by decide +kernel
theorem dX5_check_27 : decode cX5_check 27 = .ok (.iload_n 1, 1) := by decide +kernel
theorem dX5_check_28 : decode cX5_check 28 = .ok (.baload, 1) := by decide +kernel
theorem dX5_check_29 : decode cX5_check 29 = .ok (.ifCond .eq 15, 3) := by decide +kernel
theorem dX5_check_32 : decode cX5_check 32 = .ok (.aload_n 0, 1) := by decide +kernel
theorem dX5_check_33 : decode cX5_check 33 = .ok (.getfield 33, 3) := by decide +kernel
theorem dX5_check_36 : decode cX5_check 36 = .ok (.getfield 239, 3) := by decide +kernel
theorem dX5_check_39 : decode cX5_check 39 = .ok (.iload_n 1, 1) := by decide +kernel
theorem dX5_check_40 : decode cX5_check 40 = .ok (.baload, 1) := by decide +kernel
theorem dX5_check_41 : decode cX5_check 41 = .ok (.ifCond .eq 10, 3) := by decide +kernel
theorem dX5_check_44 : decode cX5_check 44 = .ok (.aload_n 0, 1) := by decide +kernel
theorem dX5_check_45 : decode cX5_check 45 = .ok (.bipush (-3), 2) := by decide +kernel
theorem dX5_check_47 : decode cX5_check 47 = .ok (.invokevirtual 50, 3) := by decide +kernel
theorem dX5_check_50 : decode cX5_check 50 = .ok (.ireturn, 1) := by decide +kernel
theorem dX5_check_51 : decode cX5_check 51 = .ok (.aload_n 0, 1) := by decide +kernel
theorem dX5_check_52 : decode cX5_check 52 = .ok (.getfield 33, 3) := by decide +kernel
theorem dX5_check_55 : decode cX5_check 55 = .ok (.getfield 239, 3) := by decide +kernel
theorem dX5_check_58 : decode cX5_check 58 = .ok (.iload_n 1, 1) := by decide +kernel
theorem dX5_check_59 : decode cX5_check 59 = .ok (.iconst 1, 1) := by decide +kernel
theorem dX5_check_60 : decode cX5_check 60 = .ok (.bastore, 1) := by decide +kernel
theorem dX5_check_61 : decode cX5_check 61 = .ok (.aload_n 0, 1) := by decide +kernel
theorem dX5_check_62 : decode cX5_check 62 = .ok (.getfield 33, 3) := by decide +kernel
theorem dX5_check_65 : decode cX5_check 65 = .ok (.getfield 216, 3) := by decide +kernel
theorem dX5_check_68 : decode cX5_check 68 = .ok (.iload_n 1, 1) := by decide +kernel
theorem dX5_check_69 : decode cX5_check 69 = .ok (.iaload, 1) := by decide +kernel
theorem dX5_check_70 : decode cX5_check 70 = .ok (.iload_n 2, 1) := by decide +kernel
theorem dX5_check_71 : decode cX5_check 71 = .ok (.if_icmp .ne 7, 3) := by decide +kernel
theorem dX5_check_74 : decode cX5_check 74 = .ok (.iconst 1, 1) := by decide +kernel
theorem dX5_check_75 : decode cX5_check 75 = .ok (.goto 4, 3) := by decide +kernel
theorem dX5_check_78 : decode cX5_check 78 = .ok (.iconst 0, 1) := by decide +kernel
theorem dX5_check_79 : decode cX5_check 79 = .ok (.ireturn, 1) := by decide +kernel
theorem dX5_whose_0 : decode cX5_whose 0 = .ok (.aload_n 0, 1) := by decide +kernel
theorem dX5_whose_1 : decode cX5_whose 1 = .ok (.getfield 10, 3) := by decide +kernel
theorem dX5_whose_4 : decode cX5_whose 4 = .ok (.iload_n 1, 1) := by decide +kernel
theorem dX5_whose_5 : decode cX5_whose 5 = .ok (.invokevirtual 67, 3) := by decide +kernel
theorem dX5_whose_8 : decode cX5_whose 8 = .ok (.ifCond .ne 9, 3) := by decide +kernel
theorem dX5_whose_11 : decode cX5_whose 11 = .ok (.aload_n 0, 1) := by decide +kernel
theorem dX5_whose_12 : decode cX5_whose 12 = .ok (.iconst (-1), 1) := by decide +kernel
theorem dX5_whose_13 : decode cX5_whose 13 = .ok (.invokevirtual 50, 3) := by decide +kernel
theorem dX5_whose_16 : decode cX5_whose 16 = .ok (.ireturn, 1) := by decide +kernel
theorem dX5_whose_17 : decode cX5_whose 17 = .ok (.aload_n 0, 1) := by decide +kernel
theorem dX5_whose_18 : decode cX5_whose 18 = .ok (.getfield 26, 3) := by decide +kernel
theorem dX5_whose_21 : decode cX5_whose 21 = .ok (.iload_n 1, 1) := by decide +kernel
theorem dX5_whose_22 : decode cX5_whose 22 = .ok (.aload_n 0, 1) := by decide +kernel
theorem dX5_whose_23 : decode cX5_whose 23 = .ok (.getfield 10, 3) := by decide +kernel
theorem dX5_whose_26 : decode cX5_whose 26 = .ok (.invokevirtual 242, 3) := by decide +kernel
theorem dX5_whose_29 : decode cX5_whose 29 = .ok (.invokevirtual 245, 3) := by decide +kernel
theorem dX5_whose_32 : decode cX5_whose 32 = .ok (.istore_n 2, 1) := by decide +kernel
theorem dX5_whose_33 : decode cX5_whose 33 = .ok (.iload_n 2, 1) := by decide +kernel
theorem dX5_whose_34 : decode cX5_whose 34 = .ok (.ifCond .ge 8, 3) := by decide +kernel
theorem dX5_whose_37 : decode cX5_whose 37 = .ok (.bipush (-9), 2) := by decide +kernel
theorem dX5_whose_39 : decode cX5_whose 39 = .ok (.goto 4, 3) := by decide +kernel
theorem dX5_whose_42 : decode cX5_whose 42 = .ok (.iload_n 2, 1) := by decide +kernel
theorem dX5_whose_43 : decode cX5_whose 43 = .ok (.ireturn, 1) := by decide +kernel
theorem dX5_sure_0 : decode cX5_sure 0 = .ok (.aload_n 0, 1) := by decide +kernel
theorem dX5_sure_1 : decode cX5_sure 1 = .ok (.getfield 10, 3) := by decide +kernel
theorem dX5_sure_4 : decode cX5_sure 4 = .ok (.iload_n 1, 1) := by decide +kernel
theorem dX5_sure_5 : decode cX5_sure 5 = .ok (.invokevirtual 67, 3) := by decide +kernel
theorem dX5_sure_8 : decode cX5_sure 8 = .ok (.ifCond .ne 9, 3) := by decide +kernel
theorem dX5_sure_11 : decode cX5_sure 11 = .ok (.aload_n 0, 1) := by decide +kernel
theorem dX5_sure_12 : decode cX5_sure 12 = .ok (.iconst (-1), 1) := by decide +kernel
theorem dX5_sure_13 : decode cX5_sure 13 = .ok (.invokevirtual 50, 3) := by decide +kernel
theorem dX5_sure_16 : decode cX5_sure 16 = .ok (.ireturn, 1) := by decide +kernel
theorem dX5_sure_17 : decode cX5_sure 17 = .ok (.aload_n 0, 1) := by decide +kernel
theorem dX5_sure_18 : decode cX5_sure 18 = .ok (.getfield 26, 3) := by decide +kernel
theorem dX5_sure_21 : decode cX5_sure 21 = .ok (.iload_n 1, 1) := by decide +kernel
theorem dX5_sure_22 : decode cX5_sure 22 = .ok (.aload_n 0, 1) := by decide +kernel
theorem dX5_sure_23 : decode cX5_sure 23 = .ok (.getfield 10, 3) := by decide +kernel
theorem dX5_sure_26 : decode cX5_sure 26 = .ok (.invokevirtual 242, 3) := by decide +kernel
theorem dX5_sure_29 : decode cX5_sure 29 = .ok (.invokevirtual 248, 3) := by decide +kernel
theorem dX5_sure_32 : decode cX5_sure 32 = .ok (.ifCond .eq 7, 3) := by decide +kernel
theorem dX5_sure_35 : decode cX5_sure 35 = .ok (.iconst 1, 1) := by decide +kernel
theorem dX5_sure_36 : decode cX5_sure 36 = .ok (.goto 4, 3) := by decide +kernel
theorem dX5_sure_39 : decode cX5_sure 39 = .ok (.iconst 0, 1) := by decide +kernel
theorem dX5_sure_40 : decode cX5_sure 40 = .ok (.ireturn, 1) := by decide +kernel
theorem dX5_apart_0 : decode cX5_apart 0 = .ok (.aload_n 0, 1) := by decide +kernel
theorem dX5_apart_1 : decode cX5_apart 1 = .ok (.getfield 26, 3) := by decide +kernel
theorem dX5_apart_4 : decode cX5_apart 4 = .ok (.getfield 71, 3) := by decide +kernel
theorem dX5_apart_7 : decode cX5_apart 7 = .ok (.iconst 2, 1) := by decide +kernel
theorem dX5_apart_8 : decode cX5_apart 8 = .ok (.if_icmp .ge 8, 3) := by decide +kernel
theorem dX5_apart_11 : decode cX5_apart 11 = .ok (.bipush (-9), 2) := by decide +kernel
theorem dX5_apart_13 : decode cX5_apart 13 = .ok (.goto 17, 3) := by decide +kernel
theorem dX5_apart_16 : decode cX5_apart 16 = .ok (.aload_n 0, 1) := by decide +kernel
theorem dX5_apart_17 : decode cX5_apart 17 = .ok (.getfield 26, 3) := by decide +kernel
theorem dX5_apart_20 : decode cX5_apart 20 = .ok (.aload_n 0, 1) := by decide +kernel
theorem dX5_apart_21 : decode cX5_apart 21 = .ok (.getfield 10, 3) := by decide +kernel
theorem dX5_apart_24 : decode cX5_apart 24 = .ok (.invokevirtual 242, 3) := by decide +kernel
theorem dX5_apart_27 : decode cX5_apart 27 = .ok (.invokevirtual 252, 3) := by decide +kernel
theorem dX5_apart_30 : decode cX5_apart 30 = .ok (.ireturn, 1) := by decide +kernel
theorem dX5_odd_0 : decode cX5_odd 0 = .ok (.aload_n 0, 1) := by decide +kernel
theorem dX5_odd_1 : decode cX5_odd 1 = .ok (.getfield 10, 3) := by decide +kernel
theorem dX5_odd_4 : decode cX5_odd 4 = .ok (.iload_n 1, 1) := by decide +kernel
theorem dX5_odd_5 : decode cX5_odd 5 = .ok (.invokevirtual 87, 3) := by decide +kernel
theorem dX5_odd_8 : decode cX5_odd 8 = .ok (.ifCond .eq 14, 3) := by decide +kernel
theorem dX5_odd_11 : decode cX5_odd 11 = .ok (.aload_n 0, 1) := by decide +kernel
theorem dX5_odd_12 : decode cX5_odd 12 = .ok (.getfield 26, 3) := by decide +kernel
theorem dX5_odd_15 : decode cX5_odd 15 = .ok (.iload_n 1, 1) := by decide +kernel
theorem dX5_odd_16 : decode cX5_odd 16 = .ok (.invokevirtual 255, 3) := by decide +kernel
theorem dX5_odd_19 : decode cX5_odd 19 = .ok (.goto 8, 3) := by decide +kernel
theorem dX5_odd_22 : decode cX5_odd 22 = .ok (.aload_n 0, 1) := by decide +kernel
theorem dX5_odd_23 : decode cX5_odd 23 = .ok (.iconst (-1), 1) := by decide +kernel
theorem dX5_odd_24 : decode cX5_odd 24 = .ok (.invokevirtual 50, 3) := by decide +kernel
theorem dX5_odd_27 : decode cX5_odd 27 = .ok (.ireturn, 1) := by decide +kernel
theorem dX5_count_0 : decode cX5_count 0 = .ok (.iload_n 1, 1) := by decide +kernel
theorem dX5_count_1 : decode cX5_count 1 = .ok (.tableswitch 111 0 7 #[47, 55, 63, 71, 79, 87, 95, 103], 47) := by decide +kernel
theorem dX5_count_48 : decode cX5_count 48 = .ok (.aload_n 0, 1) := by decide +kernel
theorem dX5_count_49 : decode cX5_count 49 = .ok (.getfield 10, 3) := by decide +kernel
theorem dX5_count_52 : decode cX5_count 52 = .ok (.getfield 54, 3) := by decide +kernel
theorem dX5_count_55 : decode cX5_count 55 = .ok (.ireturn, 1) := by decide +kernel
theorem dX5_count_56 : decode cX5_count 56 = .ok (.aload_n 0, 1) := by decide +kernel
theorem dX5_count_57 : decode cX5_count 57 = .ok (.getfield 26, 3) := by decide +kernel
theorem dX5_count_60 : decode cX5_count 60 = .ok (.getfield 71, 3) := by decide +kernel
theorem dX5_count_63 : decode cX5_count 63 = .ok (.ireturn, 1) := by decide +kernel
theorem dX5_count_64 : decode cX5_count 64 = .ok (.aload_n 0, 1) := by decide +kernel
theorem dX5_count_65 : decode cX5_count 65 = .ok (.getfield 19, 3) := by decide +kernel
theorem dX5_count_68 : decode cX5_count 68 = .ok (.getfield 110, 3) := by decide +kernel
theorem dX5_count_71 : decode cX5_count 71 = .ok (.ireturn, 1) := by decide +kernel
theorem dX5_count_72 : decode cX5_count 72 = .ok (.aload_n 0, 1) := by decide +kernel
theorem dX5_count_73 : decode cX5_count 73 = .ok (.getfield 10, 3) := by decide +kernel
theorem dX5_count_76 : decode cX5_count 76 = .ok (.invokevirtual 190, 3) := by decide +kernel
theorem dX5_count_79 : decode cX5_count 79 = .ok (.ireturn, 1) := by decide +kernel
theorem dX5_count_80 : decode cX5_count 80 = .ok (.aload_n 0, 1) := by decide +kernel
theorem dX5_count_81 : decode cX5_count 81 = .ok (.getfield 10, 3) := by decide +kernel
theorem dX5_count_84 : decode cX5_count 84 = .ok (.getfield 58, 3) := by decide +kernel
theorem dX5_count_87 : decode cX5_count 87 = .ok (.ireturn, 1) := by decide +kernel
theorem dX5_count_88 : decode cX5_count 88 = .ok (.aload_n 0, 1) := by decide +kernel
theorem dX5_count_89 : decode cX5_count 89 = .ok (.getfield 26, 3) := by decide +kernel
theorem dX5_count_92 : decode cX5_count 92 = .ok (.invokevirtual 258, 3) := by decide +kernel
theorem dX5_count_95 : decode cX5_count 95 = .ok (.ireturn, 1) := by decide +kernel
theorem dX5_count_96 : decode cX5_count 96 = .ok (.aload_n 0, 1) := by decide +kernel
theorem dX5_count_97 : decode cX5_count 97 = .ok (.getfield 33, 3) := by decide +kernel
theorem dX5_count_100 : decode cX5_count 100 = .ok (.getfield 223, 3) := by decide +kernel
theorem dX5_count_103 : decode cX5_count 103 = .ok (.ireturn, 1) := by decide +kernel
theorem dX5_count_104 : decode cX5_count 104 = .ok (.aload_n 0, 1) := by decide +kernel
theorem dX5_count_105 : decode cX5_count 105 = .ok (.getfield 33, 3) := by decide +kernel
theorem dX5_count_108 : decode cX5_count 108 = .ok (.invokevirtual 261, 3) := by decide +kernel
theorem dX5_count_111 : decode cX5_count 111 = .ok (.ireturn, 1) := by decide +kernel
theorem dX5_count_112 : decode cX5_count 112 = .ok (.iload_n 1, 1) := by decide +kernel
theorem dX5_count_113 : decode cX5_count 113 = .ok (.bipush 10, 2) := by decide +kernel
theorem dX5_count_115 : decode cX5_count 115 = .ok (.if_icmp .le 27, 3) := by decide +kernel
theorem dX5_count_118 : decode cX5_count 118 = .ok (.iload_n 1, 1) := by decide +kernel
theorem dX5_count_119 : decode cX5_count 119 = .ok (.bipush 10, 2) := by decide +kernel
theorem dX5_count_121 : decode cX5_count 121 = .ok (.aload_n 0, 1) := by decide +kernel
theorem dX5_count_122 : decode cX5_count 122 = .ok (.getfield 46, 3) := by decide +kernel
theorem dX5_count_125 : decode cX5_count 125 = .ok (.arraylength, 1) := by decide +kernel
theorem dX5_count_126 : decode cX5_count 126 = .ok (.iadd, 1) := by decide +kernel
theorem dX5_count_127 : decode cX5_count 127 = .ok (.if_icmp .ge 15, 3) := by decide +kernel
theorem dX5_count_130 : decode cX5_count 130 = .ok (.aload_n 0, 1) := by decide +kernel
theorem dX5_count_131 : decode cX5_count 131 = .ok (.getfield 46, 3) := by decide +kernel
theorem dX5_count_134 : decode cX5_count 134 = .ok (.iload_n 1, 1) := by decide +kernel
theorem dX5_count_135 : decode cX5_count 135 = .ok (.bipush 10, 2) := by decide +kernel
theorem dX5_count_137 : decode cX5_count 137 = .ok (.isub, 1) := by decide +kernel
theorem dX5_count_138 : decode cX5_count 138 = .ok (.iaload, 1) := by decide +kernel
theorem dX5_count_139 : decode cX5_count 139 = .ok (.goto 5, 3) := by decide +kernel
theorem dX5_count_142 : decode cX5_count 142 = .ok (.bipush (-9), 2) := by decide +kernel
theorem dX5_count_144 : decode cX5_count 144 = .ok (.ireturn, 1) := by decide +kernel
theorem dX5_refuse_0 : decode cX5_refuse 0 = .ok (.iload_n 1, 1) := by decide +kernel
theorem dX5_refuse_1 : decode cX5_refuse 1 = .ok (.ifCond .ge 24, 3) := by decide +kernel
theorem dX5_refuse_4 : decode cX5_refuse 4 = .ok (.iload_n 1, 1) := by decide +kernel
theorem dX5_refuse_5 : decode cX5_refuse 5 = .ok (.aload_n 0, 1) := by decide +kernel
theorem dX5_refuse_6 : decode cX5_refuse 6 = .ok (.getfield 46, 3) := by decide +kernel
theorem dX5_refuse_9 : decode cX5_refuse 9 = .ok (.arraylength, 1) := by decide +kernel
theorem dX5_refuse_10 : decode cX5_refuse 10 = .ok (.ineg, 1) := by decide +kernel
theorem dX5_refuse_11 : decode cX5_refuse 11 = .ok (.if_icmp .le 14, 3) := by decide +kernel
theorem dX5_refuse_14 : decode cX5_refuse 14 = .ok (.aload_n 0, 1) := by decide +kernel
theorem dX5_refuse_15 : decode cX5_refuse 15 = .ok (.getfield 46, 3) := by decide +kernel
theorem dX5_refuse_18 : decode cX5_refuse 18 = .ok (.iload_n 1, 1) := by decide +kernel
theorem dX5_refuse_19 : decode cX5_refuse 19 = .ok (.ineg, 1) := by decide +kernel
theorem dX5_refuse_20 : decode cX5_refuse 20 = .ok (.dup2, 1) := by decide +kernel
theorem dX5_refuse_21 : decode cX5_refuse 21 = .ok (.iaload, 1) := by decide +kernel
theorem dX5_refuse_22 : decode cX5_refuse 22 = .ok (.iconst 1, 1) := by decide +kernel
theorem dX5_refuse_23 : decode cX5_refuse 23 = .ok (.iadd, 1) := by decide +kernel
theorem dX5_refuse_24 : decode cX5_refuse 24 = .ok (.iastore, 1) := by decide +kernel
theorem dX5_refuse_25 : decode cX5_refuse 25 = .ok (.iload_n 1, 1) := by decide +kernel
theorem dX5_refuse_26 : decode cX5_refuse 26 = .ok (.ireturn, 1) := by decide +kernel
theorem dX5_leaveOut_0 : decode cX5_leaveOut 0 = .ok (.iload_n 1, 1) := by decide +kernel
theorem dX5_leaveOut_1 : decode cX5_leaveOut 1 = .ok (.aload_n 0, 1) := by decide +kernel
theorem dX5_leaveOut_2 : decode cX5_leaveOut 2 = .ok (.getfield 10, 3) := by decide +kernel
theorem dX5_leaveOut_5 : decode cX5_leaveOut 5 = .ok (.getfield 58, 3) := by decide +kernel
theorem dX5_leaveOut_8 : decode cX5_leaveOut 8 = .ok (.if_icmp .eq 25, 3) := by decide +kernel
theorem dX5_leaveOut_11 : decode cX5_leaveOut 11 = .ok (.aload_n 0, 1) := by decide +kernel
theorem dX5_leaveOut_12 : decode cX5_leaveOut 12 = .ok (.getfield 10, 3) := by decide +kernel
theorem dX5_leaveOut_15 : decode cX5_leaveOut 15 = .ok (.iload_n 1, 1) := by decide +kernel
theorem dX5_leaveOut_16 : decode cX5_leaveOut 16 = .ok (.putfield 58, 3) := by decide +kernel
theorem dX5_leaveOut_19 : decode cX5_leaveOut 19 = .ok (.aload_n 0, 1) := by decide +kernel
theorem dX5_leaveOut_20 : decode cX5_leaveOut 20 = .ok (.getfield 19, 3) := by decide +kernel
theorem dX5_leaveOut_23 : decode cX5_leaveOut 23 = .ok (.invokevirtual 61, 3) := by decide +kernel
theorem dX5_leaveOut_26 : decode cX5_leaveOut 26 = .ok (.aload_n 0, 1) := by decide +kernel
theorem dX5_leaveOut_27 : decode cX5_leaveOut 27 = .ok (.getfield 26, 3) := by decide +kernel
theorem dX5_leaveOut_30 : decode cX5_leaveOut 30 = .ok (.invokevirtual 116, 3) := by decide +kernel
theorem dX5_leaveOut_33 : decode cX5_leaveOut 33 = .ok (.return_, 1) := by decide +kernel
theorem dX5_firstAgeAbove_0 : decode cX5_firstAgeAbove 0 = .ok (.aload_n 0, 1) := by decide +kernel
theorem dX5_firstAgeAbove_1 : decode cX5_firstAgeAbove 1 = .ok (.iload_n 1, 1) := by decide +kernel
theorem dX5_firstAgeAbove_2 : decode cX5_firstAgeAbove 2 = .ok (.iload_n 2, 1) := by decide +kernel
theorem dX5_firstAgeAbove_3 : decode cX5_firstAgeAbove 3 = .ok (.bipush 40, 2) := by decide +kernel
theorem dX5_firstAgeAbove_5 : decode cX5_firstAgeAbove 5 = .ok (.invokevirtual 264, 3) := by decide +kernel
theorem dX5_firstAgeAbove_8 : decode cX5_firstAgeAbove 8 = .ok (.ifCond .ne 6, 3) := by decide +kernel
theorem dX5_firstAgeAbove_11 : decode cX5_firstAgeAbove 11 = .ok (.bipush (-9), 2) := by decide +kernel
theorem dX5_firstAgeAbove_13 : decode cX5_firstAgeAbove 13 = .ok (.ireturn, 1) := by decide +kernel
theorem dX5_firstAgeAbove_14 : decode cX5_firstAgeAbove 14 = .ok (.iconst 0, 1) := by decide +kernel
theorem dX5_firstAgeAbove_15 : decode cX5_firstAgeAbove 15 = .ok (.istore_n 3, 1) := by decide +kernel
theorem dX5_firstAgeAbove_16 : decode cX5_firstAgeAbove 16 = .ok (.bipush 40, 2) := by decide +kernel
theorem dX5_firstAgeAbove_18 : decode cX5_firstAgeAbove 18 = .ok (.istore 4, 2) := by decide +kernel
theorem dX5_firstAgeAbove_20 : decode cX5_firstAgeAbove 20 = .ok (.iconst 0, 1) := by decide +kernel
theorem dX5_firstAgeAbove_21 : decode cX5_firstAgeAbove 21 = .ok (.istore 5, 2) := by decide +kernel
theorem dX5_firstAgeAbove_23 : decode cX5_firstAgeAbove 23 = .ok (.iload 5, 2) := by decide +kernel
theorem dX5_firstAgeAbove_25 : decode cX5_firstAgeAbove 25 = .ok (.bipush 40, 2) := by decide +kernel
theorem dX5_firstAgeAbove_27 : decode cX5_firstAgeAbove 27 = .ok (.if_icmp .ge 46, 3) := by decide +kernel
theorem dX5_firstAgeAbove_30 : decode cX5_firstAgeAbove 30 = .ok (.iload_n 3, 1) := by decide +kernel
theorem dX5_firstAgeAbove_31 : decode cX5_firstAgeAbove 31 = .ok (.iload 4, 2) := by decide +kernel
theorem dX5_firstAgeAbove_33 : decode cX5_firstAgeAbove 33 = .ok (.if_icmp .ge 40, 3) := by decide +kernel
theorem dX5_firstAgeAbove_36 : decode cX5_firstAgeAbove 36 = .ok (.iload_n 3, 1) := by decide +kernel
theorem dX5_firstAgeAbove_37 : decode cX5_firstAgeAbove 37 = .ok (.iload 4, 2) := by decide +kernel
theorem dX5_firstAgeAbove_39 : decode cX5_firstAgeAbove 39 = .ok (.iadd, 1) := by decide +kernel
theorem dX5_firstAgeAbove_40 : decode cX5_firstAgeAbove 40 = .ok (.iconst 2, 1) := by decide +kernel
theorem dX5_firstAgeAbove_41 : decode cX5_firstAgeAbove 41 = .ok (.idiv, 1) := by decide +kernel
theorem dX5_firstAgeAbove_42 : decode cX5_firstAgeAbove 42 = .ok (.istore 6, 2) := by decide +kernel
theorem dX5_firstAgeAbove_44 : decode cX5_firstAgeAbove 44 = .ok (.aload_n 0, 1) := by decide +kernel
theorem dX5_firstAgeAbove_45 : decode cX5_firstAgeAbove 45 = .ok (.iload_n 1, 1) := by decide +kernel
theorem dX5_firstAgeAbove_46 : decode cX5_firstAgeAbove 46 = .ok (.iload_n 2, 1) := by decide +kernel
theorem dX5_firstAgeAbove_47 : decode cX5_firstAgeAbove 47 = .ok (.iload 6, 2) := by decide +kernel
theorem dX5_firstAgeAbove_49 : decode cX5_firstAgeAbove 49 = .ok (.invokevirtual 264, 3) := by decide +kernel
theorem dX5_firstAgeAbove_52 : decode cX5_firstAgeAbove 52 = .ok (.ifCond .eq 10, 3) := by decide +kernel
theorem dX5_firstAgeAbove_55 : decode cX5_firstAgeAbove 55 = .ok (.iload 6, 2) := by decide +kernel
theorem dX5_firstAgeAbove_57 : decode cX5_firstAgeAbove 57 = .ok (.istore 4, 2) := by decide +kernel
theorem dX5_firstAgeAbove_59 : decode cX5_firstAgeAbove 59 = .ok (.goto 8, 3) := by decide +kernel
theorem dX5_firstAgeAbove_62 : decode cX5_firstAgeAbove 62 = .ok (.iload 6, 2) := by decide +kernel
theorem dX5_firstAgeAbove_64 : decode cX5_firstAgeAbove 64 = .ok (.iconst 1, 1) := by decide +kernel
theorem dX5_firstAgeAbove_65 : decode cX5_firstAgeAbove 65 = .ok (.iadd, 1) := by decide +kernel
theorem dX5_firstAgeAbove_66 : decode cX5_firstAgeAbove 66 = .ok (.istore_n 3, 1) := by decide +kernel
theorem dX5_firstAgeAbove_67 : decode cX5_firstAgeAbove 67 = .ok (.iinc 5 1, 3) := by decide +kernel
theorem dX5_firstAgeAbove_70 : decode cX5_firstAgeAbove 70 = .ok (.goto (-47), 3) := by decide +kernel
theorem dX5_firstAgeAbove_73 : decode cX5_firstAgeAbove 73 = .ok (.iload_n 3, 1) := by decide +kernel
theorem dX5_firstAgeAbove_74 : decode cX5_firstAgeAbove 74 = .ok (.ireturn, 1) := by decide +kernel
theorem dX5_failsAbove_0 : decode cX5_failsAbove 0 = .ok (.aload_n 0, 1) := by decide +kernel
theorem dX5_failsAbove_1 : decode cX5_failsAbove 1 = .ok (.getfield 42, 3) := by decide +kernel
theorem dX5_failsAbove_4 : decode cX5_failsAbove 4 = .ok (.iload_n 2, 1) := by decide +kernel
theorem dX5_failsAbove_5 : decode cX5_failsAbove 5 = .ok (.iload_n 3, 1) := by decide +kernel
theorem dX5_failsAbove_6 : decode cX5_failsAbove 6 = .ok (.invokevirtual 167, 3) := by decide +kernel
theorem dX5_failsAbove_9 : decode cX5_failsAbove 9 = .ok (.ldc2_w 268, 3) := by decide +kernel
theorem dX5_failsAbove_12 : decode cX5_failsAbove 12 = .ok (.lmul, 1) := by decide +kernel
theorem dX5_failsAbove_13 : decode cX5_failsAbove 13 = .ok (.aload_n 0, 1) := by decide +kernel
theorem dX5_failsAbove_14 : decode cX5_failsAbove 14 = .ok (.getfield 10, 3) := by decide +kernel
theorem dX5_failsAbove_17 : decode cX5_failsAbove 17 = .ok (.invokevirtual 171, 3) := by decide +kernel
theorem dX5_failsAbove_20 : decode cX5_failsAbove 20 = .ok (.iload_n 1, 1) := by decide +kernel
theorem dX5_failsAbove_21 : decode cX5_failsAbove 21 = .ok (.i2l, 1) := by decide +kernel
theorem dX5_failsAbove_22 : decode cX5_failsAbove 22 = .ok (.lmul, 1) := by decide +kernel
theorem dX5_failsAbove_23 : decode cX5_failsAbove 23 = .ok (.lcmp, 1) := by decide +kernel
theorem dX5_failsAbove_24 : decode cX5_failsAbove 24 = .ok (.ifCond .le 7, 3) := by decide +kernel
theorem dX5_failsAbove_27 : decode cX5_failsAbove 27 = .ok (.iconst 1, 1) := by decide +kernel
theorem dX5_failsAbove_28 : decode cX5_failsAbove 28 = .ok (.goto 4, 3) := by decide +kernel
theorem dX5_failsAbove_31 : decode cX5_failsAbove 31 = .ok (.iconst 0, 1) := by decide +kernel
theorem dX5_failsAbove_32 : decode cX5_failsAbove 32 = .ok (.ireturn, 1) := by decide +kernel
theorem dX5_likeliestKey_0 : decode cX5_likeliestKey 0 = .ok (.iconst 0, 1) := by decide +kernel
theorem dX5_likeliestKey_1 : decode cX5_likeliestKey 1 = .ok (.istore_n 2, 1) := by decide +kernel
theorem dX5_likeliestKey_2 : decode cX5_likeliestKey 2 = .ok (.aload_n 0, 1) := by decide +kernel
theorem dX5_likeliestKey_3 : decode cX5_likeliestKey 3 = .ok (.iconst 0, 1) := by decide +kernel
theorem dX5_likeliestKey_4 : decode cX5_likeliestKey 4 = .ok (.iload_n 1, 1) := by decide +kernel
theorem dX5_likeliestKey_5 : decode cX5_likeliestKey 5 = .ok (.invokevirtual 187, 3) := by decide +kernel
theorem dX5_likeliestKey_8 : decode cX5_likeliestKey 8 = .ok (.lstore_n 3, 1) := by decide +kernel
theorem dX5_likeliestKey_9 : decode cX5_likeliestKey 9 = .ok (.iconst 1, 1) := by decide +kernel
theorem dX5_likeliestKey_10 : decode cX5_likeliestKey 10 = .ok (.istore 5, 2) := by decide +kernel
theorem dX5_likeliestKey_12 : decode cX5_likeliestKey 12 = .ok (.iload 5, 2) := by decide +kernel
theorem dX5_likeliestKey_14 : decode cX5_likeliestKey 14 = .ok (.aload_n 0, 1) := by decide +kernel
theorem dX5_likeliestKey_15 : decode cX5_likeliestKey 15 = .ok (.getfield 19, 3) := by decide +kernel
theorem dX5_likeliestKey_18 : decode cX5_likeliestKey 18 = .ok (.invokevirtual 270, 3) := by decide +kernel
theorem dX5_likeliestKey_21 : decode cX5_likeliestKey 21 = .ok (.if_icmp .ge 31, 3) := by decide +kernel
theorem dX5_likeliestKey_24 : decode cX5_likeliestKey 24 = .ok (.aload_n 0, 1) := by decide +kernel
theorem dX5_likeliestKey_25 : decode cX5_likeliestKey 25 = .ok (.iload 5, 2) := by decide +kernel
theorem dX5_likeliestKey_27 : decode cX5_likeliestKey 27 = .ok (.iload_n 1, 1) := by decide +kernel
theorem dX5_likeliestKey_28 : decode cX5_likeliestKey 28 = .ok (.invokevirtual 187, 3) := by decide +kernel
theorem dX5_likeliestKey_31 : decode cX5_likeliestKey 31 = .ok (.lstore 6, 2) := by decide +kernel
theorem dX5_likeliestKey_33 : decode cX5_likeliestKey 33 = .ok (.lload 6, 2) := by decide +kernel
theorem dX5_likeliestKey_35 : decode cX5_likeliestKey 35 = .ok (.lload_n 3, 1) := by decide +kernel
theorem dX5_likeliestKey_36 : decode cX5_likeliestKey 36 = .ok (.lcmp, 1) := by decide +kernel
theorem dX5_likeliestKey_37 : decode cX5_likeliestKey 37 = .ok (.ifCond .le 9, 3) := by decide +kernel
theorem dX5_likeliestKey_40 : decode cX5_likeliestKey 40 = .ok (.lload 6, 2) := by decide +kernel
theorem dX5_likeliestKey_42 : decode cX5_likeliestKey 42 = .ok (.lstore_n 3, 1) := by decide +kernel
theorem dX5_likeliestKey_43 : decode cX5_likeliestKey 43 = .ok (.iload 5, 2) := by decide +kernel
theorem dX5_likeliestKey_45 : decode cX5_likeliestKey 45 = .ok (.istore_n 2, 1) := by decide +kernel
theorem dX5_likeliestKey_46 : decode cX5_likeliestKey 46 = .ok (.iinc 5 1, 3) := by decide +kernel
theorem dX5_likeliestKey_49 : decode cX5_likeliestKey 49 = .ok (.goto (-37), 3) := by decide +kernel
theorem dX5_likeliestKey_52 : decode cX5_likeliestKey 52 = .ok (.iload_n 2, 1) := by decide +kernel
theorem dX5_likeliestKey_53 : decode cX5_likeliestKey 53 = .ok (.ireturn, 1) := by decide +kernel
theorem dX5_waysOfAllKeys_0 : decode cX5_waysOfAllKeys 0 = .ok (.lconst 0, 1) := by decide +kernel
theorem dX5_waysOfAllKeys_1 : decode cX5_waysOfAllKeys 1 = .ok (.lstore_n 2, 1) := by decide +kernel
theorem dX5_waysOfAllKeys_2 : decode cX5_waysOfAllKeys 2 = .ok (.iconst 0, 1) := by decide +kernel
theorem dX5_waysOfAllKeys_3 : decode cX5_waysOfAllKeys 3 = .ok (.istore 4, 2) := by decide +kernel
theorem dX5_waysOfAllKeys_5 : decode cX5_waysOfAllKeys 5 = .ok (.iload 4, 2) := by decide +kernel
theorem dX5_waysOfAllKeys_7 : decode cX5_waysOfAllKeys 7 = .ok (.aload_n 0, 1) := by decide +kernel
theorem dX5_waysOfAllKeys_8 : decode cX5_waysOfAllKeys 8 = .ok (.getfield 19, 3) := by decide +kernel
theorem dX5_waysOfAllKeys_11 : decode cX5_waysOfAllKeys 11 = .ok (.invokevirtual 270, 3) := by decide +kernel
theorem dX5_waysOfAllKeys_14 : decode cX5_waysOfAllKeys 14 = .ok (.if_icmp .ge 19, 3) := by decide +kernel
theorem dX5_waysOfAllKeys_17 : decode cX5_waysOfAllKeys 17 = .ok (.lload_n 2, 1) := by decide +kernel
theorem dX5_waysOfAllKeys_18 : decode cX5_waysOfAllKeys 18 = .ok (.aload_n 0, 1) := by decide +kernel
theorem dX5_waysOfAllKeys_19 : decode cX5_waysOfAllKeys 19 = .ok (.iload 4, 2) := by decide +kernel
theorem dX5_waysOfAllKeys_21 : decode cX5_waysOfAllKeys 21 = .ok (.iload_n 1, 1) := by decide +kernel
theorem dX5_waysOfAllKeys_22 : decode cX5_waysOfAllKeys 22 = .ok (.invokevirtual 187, 3) := by decide +kernel
theorem dX5_waysOfAllKeys_25 : decode cX5_waysOfAllKeys 25 = .ok (.ladd, 1) := by decide +kernel
theorem dX5_waysOfAllKeys_26 : decode cX5_waysOfAllKeys 26 = .ok (.lstore_n 2, 1) := by decide +kernel
theorem dX5_waysOfAllKeys_27 : decode cX5_waysOfAllKeys 27 = .ok (.iinc 4 1, 3) := by decide +kernel
theorem dX5_waysOfAllKeys_30 : decode cX5_waysOfAllKeys 30 = .ok (.goto (-25), 3) := by decide +kernel
theorem dX5_waysOfAllKeys_33 : decode cX5_waysOfAllKeys 33 = .ok (.lload_n 2, 1) := by decide +kernel
theorem dX5_waysOfAllKeys_34 : decode cX5_waysOfAllKeys 34 = .ok (.lreturn, 1) := by decide +kernel
theorem dX5_waysOfKey_0 : decode cX5_waysOfKey 0 = .ok (.aload_n 0, 1) := by decide +kernel
theorem dX5_waysOfKey_1 : decode cX5_waysOfKey 1 = .ok (.getfield 19, 3) := by decide +kernel
theorem dX5_waysOfKey_4 : decode cX5_waysOfKey 4 = .ok (.iload_n 1, 1) := by decide +kernel
theorem dX5_waysOfKey_5 : decode cX5_waysOfKey 5 = .ok (.invokevirtual 123, 3) := by decide +kernel
theorem dX5_waysOfKey_8 : decode cX5_waysOfKey 8 = .ok (.ifCond .eq 24, 3) := by decide +kernel
theorem dX5_waysOfKey_11 : decode cX5_waysOfKey 11 = .ok (.aload_n 0, 1) := by decide +kernel
theorem dX5_waysOfKey_12 : decode cX5_waysOfKey 12 = .ok (.getfield 10, 3) := by decide +kernel
theorem dX5_waysOfKey_15 : decode cX5_waysOfKey 15 = .ok (.iload_n 2, 1) := by decide +kernel
theorem dX5_waysOfKey_16 : decode cX5_waysOfKey 16 = .ok (.aload_n 0, 1) := by decide +kernel
theorem dX5_waysOfKey_17 : decode cX5_waysOfKey 17 = .ok (.getfield 19, 3) := by decide +kernel
theorem dX5_waysOfKey_20 : decode cX5_waysOfKey 20 = .ok (.getfield 126, 3) := by decide +kernel
theorem dX5_waysOfKey_23 : decode cX5_waysOfKey 23 = .ok (.iload_n 1, 1) := by decide +kernel
theorem dX5_waysOfKey_24 : decode cX5_waysOfKey 24 = .ok (.iaload, 1) := by decide +kernel
theorem dX5_waysOfKey_25 : decode cX5_waysOfKey 25 = .ok (.ixor, 1) := by decide +kernel
theorem dX5_waysOfKey_26 : decode cX5_waysOfKey 26 = .ok (.invokevirtual 273, 3) := by decide +kernel
theorem dX5_waysOfKey_29 : decode cX5_waysOfKey 29 = .ok (.goto 4, 3) := by decide +kernel
theorem dX5_waysOfKey_32 : decode cX5_waysOfKey 32 = .ok (.lconst 0, 1) := by decide +kernel
theorem dX5_waysOfKey_33 : decode cX5_waysOfKey 33 = .ok (.lreturn, 1) := by decide +kernel
theorem dX6_init_0 : decode cX6_init 0 = .ok (.aload_n 0, 1) := by decide +kernel
theorem dX6_init_1 : decode cX6_init 1 = .ok (.invokespecial 1, 3) := by decide +kernel
theorem dX6_init_4 : decode cX6_init 4 = .ok (.aload_n 0, 1) := by decide +kernel
theorem dX6_init_5 : decode cX6_init 5 = .ok (.bipush 7, 2) := by decide +kernel
theorem dX6_init_7 : decode cX6_init 7 = .ok (.newarray .int, 2) := by decide +kernel
theorem dX6_init_9 : decode cX6_init 9 = .ok (.putfield 7, 3) := by decide +kernel
theorem dX6_init_12 : decode cX6_init 12 = .ok (.aload_n 0, 1) := by decide +kernel
theorem dX6_init_13 : decode cX6_init 13 = .ok (.bipush 14, 2) := by decide +kernel
theorem dX6_init_15 : decode cX6_init 15 = .ok (.newarray .int, 2) := by decide +kernel
theorem dX6_init_17 : decode cX6_init 17 = .ok (.putfield 13, 3) := by decide +kernel
theorem dX6_init_20 : decode cX6_init 20 = .ok (.aload_n 0, 1) := by decide +kernel
theorem dX6_init_21 : decode cX6_init 21 = .ok (.bipush 14, 2) := by decide +kernel
theorem dX6_init_23 : decode cX6_init 23 = .ok (.newarray .int, 2) := by decide +kernel
theorem dX6_init_25 : decode cX6_init 25 = .ok (.putfield 16, 3) := by decide +kernel
theorem dX6_init_28 : decode cX6_init 28 = .ok (.aload_n 0, 1) := by decide +kernel
theorem dX6_init_29 : decode cX6_init 29 = .ok (.bipush 14, 2) := by decide +kernel
theorem dX6_init_31 : decode cX6_init 31 = .ok (.newarray .int, 2) := by decide +kernel
theorem dX6_init_33 : decode cX6_init 33 = .ok (.putfield 19, 3) := by decide +kernel
theorem dX6_init_36 : decode cX6_init 36 = .ok (.aload_n 0, 1) := by decide +kernel
theorem dX6_init_37 : decode cX6_init 37 = .ok (.bipush 8, 2) := by decide +kernel
theorem dX6_init_39 : decode cX6_init 39 = .ok (.newarray .int, 2) := by decide +kernel
theorem dX6_init_41 : decode cX6_init 41 = .ok (.putfield 22, 3) := by decide +kernel
theorem dX6_init_44 : decode cX6_init 44 = .ok (.aload_n 0, 1) := by decide +kernel
theorem dX6_init_45 : decode cX6_init 45 = .ok (.bipush 8, 2) := by decide +kernel
theorem dX6_init_47 : decode cX6_init 47 = .ok (.newarray .int, 2) := by decide +kernel
theorem dX6_init_49 : decode cX6_init 49 = .ok (.putfield 25, 3) := by decide +kernel
theorem dX6_init_52 : decode cX6_init 52 = .ok (.aload_n 0, 1) := by decide +kernel
theorem dX6_init_53 : decode cX6_init 53 = .ok (.bipush 8, 2) := by decide +kernel
theorem dX6_init_55 : decode cX6_init 55 = .ok (.newarray .int, 2) := by decide +kernel
theorem dX6_init_57 : decode cX6_init 57 = .ok (.putfield 28, 3) := by decide +kernel
theorem dX6_init_60 : decode cX6_init 60 = .ok (.aload_n 0, 1) := by decide +kernel
theorem dX6_init_61 : decode cX6_init 61 = .ok (.bipush 6, 2) := by decide +kernel
theorem dX6_init_63 : decode cX6_init 63 = .ok (.newarray .int, 2) := by decide +kernel
theorem dX6_init_65 : decode cX6_init 65 = .ok (.putfield 31, 3) := by decide +kernel
theorem dX6_init_68 : decode cX6_init 68 = .ok (.aload_n 0, 1) := by decide +kernel
theorem dX6_init_69 : decode cX6_init 69 = .ok (.bipush 16, 2) := by decide +kernel
theorem dX6_init_71 : decode cX6_init 71 = .ok (.newarray .int, 2) := by decide +kernel
theorem dX6_init_73 : decode cX6_init 73 = .ok (.putfield 34, 3) := by decide +kernel
theorem dX6_init_76 : decode cX6_init 76 = .ok (.aload_n 0, 1) := by decide +kernel
theorem dX6_init_77 : decode cX6_init 77 = .ok (.bipush 8, 2) := by decide +kernel
theorem dX6_init_79 : decode cX6_init 79 = .ok (.newarray .boolean, 2) := by decide +kernel
theorem dX6_init_81 : decode cX6_init 81 = .ok (.putfield 37, 3) := by decide +kernel
theorem dX6_init_84 : decode cX6_init 84 = .ok (.aload_n 0, 1) := by decide +kernel
theorem dX6_init_85 : decode cX6_init 85 = .ok (.bipush 16, 2) := by decide +kernel
theorem dX6_init_87 : decode cX6_init 87 = .ok (.newarray .boolean, 2) := by decide +kernel
theorem dX6_init_89 : decode cX6_init 89 = .ok (.putfield 41, 3) := by decide +kernel
theorem dX6_init_92 : decode cX6_init 92 = .ok (.aload_n 0, 1) := by decide +kernel
theorem dX6_init_93 : decode cX6_init 93 = .ok (.bipush 8, 2) := by decide +kernel
theorem dX6_init_95 : decode cX6_init 95 = .ok (.putfield 44, 3) := by decide +kernel
theorem dX6_init_98 : decode cX6_init 98 = .ok (.aload_n 0, 1) := by decide +kernel
theorem dX6_init_99 : decode cX6_init 99 = .ok (.sipush 16384, 3) := by decide +kernel
theorem dX6_init_102 : decode cX6_init 102 = .ok (.newarray .int, 2) := by decide +kernel
theorem dX6_init_104 : decode cX6_init 104 = .ok (.putfield 48, 3) := by decide +kernel
theorem dX6_init_107 : decode cX6_init 107 = .ok (.aload_n 0, 1) := by decide +kernel
theorem dX6_init_108 : decode cX6_init 108 = .ok (.bipush 64, 2) := by decide +kernel
theorem dX6_init_110 : decode cX6_init 110 = .ok (.newarray .int, 2) := by decide +kernel
theorem dX6_init_112 : decode cX6_init 112 = .ok (.putfield 51, 3) := by decide +kernel
theorem dX6_init_115 : decode cX6_init 115 = .ok (.aload_n 0, 1) := by decide +kernel
theorem dX6_init_116 : decode cX6_init 116 = .ok (.sipush 16384, 3) := by decide +kernel
theorem dX6_init_119 : decode cX6_init 119 = .ok (.newarray .boolean, 2) := by decide +kernel
theorem dX6_init_121 : decode cX6_init 121 = .ok (.putfield 54, 3) := by decide +kernel
theorem dX6_init_124 : decode cX6_init 124 = .ok (.aload_n 0, 1) := by decide +kernel
theorem dX6_init_125 : decode cX6_init 125 = .ok (.sipush 16384, 3) := by decide +kernel
theorem dX6_init_128 : decode cX6_init 128 = .ok (.newarray .long, 2) := by decide +kernel
theorem dX6_init_130 : decode cX6_init 130 = .ok (.putfield 57, 3) := by decide +kernel
theorem dX6_init_133 : decode cX6_init 133 = .ok (.aload_n 0, 1) := by decide +kernel
theorem dX6_init_134 : decode cX6_init 134 = .ok (.iconst 5, 1) := by decide +kernel
theorem dX6_init_135 : decode cX6_init 135 = .ok (.newarray .int, 2) := by decide +kernel
theorem dX6_init_137 : decode cX6_init 137 = .ok (.putfield 61, 3) := by decide +kernel
theorem dX6_init_140 : decode cX6_init 140 = .ok (.aload_n 0, 1) := by decide +kernel
theorem dX6_init_141 : decode cX6_init 141 = .ok (.bipush 16, 2) := by decide +kernel
theorem dX6_init_143 : decode cX6_init 143 = .ok (.newarray .int, 2) := by decide +kernel
theorem dX6_init_145 : decode cX6_init 145 = .ok (.putfield 64, 3) := by decide +kernel
theorem dX6_init_148 : decode cX6_init 148 = .ok (.aload_n 0, 1) := by decide +kernel
theorem dX6_init_149 : decode cX6_init 149 = .ok (.iconst 4, 1) := by decide +kernel
theorem dX6_init_150 : decode cX6_init 150 = .ok (.newarray .int, 2) := by decide +kernel
theorem dX6_init_152 : decode cX6_init 152 = .ok (.putfield 67, 3) := by decide +kernel
theorem dX6_init_155 : decode cX6_init 155 = .ok (.iconst 0, 1) := by decide +kernel
theorem dX6_init_156 : decode cX6_init 156 = .ok (.istore_n 1, 1) := by decide +kernel
theorem dX6_init_157 : decode cX6_init 157 = .ok (.iload_n 1, 1) := by decide +kernel
theorem dX6_init_158 : decode cX6_init 158 = .ok (.bipush 14, 2) := by decide +kernel
theorem dX6_init_160 : decode cX6_init 160 = .ok (.if_icmp .ge 23, 3) := by decide +kernel
theorem dX6_init_163 : decode cX6_init 163 = .ok (.aload_n 0, 1) := by decide +kernel
theorem dX6_init_164 : decode cX6_init 164 = .ok (.getfield 13, 3) := by decide +kernel
theorem dX6_init_167 : decode cX6_init 167 = .ok (.iload_n 1, 1) := by decide +kernel
theorem dX6_init_168 : decode cX6_init 168 = .ok (.iconst 1, 1) := by decide +kernel
theorem dX6_init_169 : decode cX6_init 169 = .ok (.iastore, 1) := by decide +kernel
theorem dX6_init_170 : decode cX6_init 170 = .ok (.aload_n 0, 1) := by decide +kernel
theorem dX6_init_171 : decode cX6_init 171 = .ok (.getfield 19, 3) := by decide +kernel
theorem dX6_init_174 : decode cX6_init 174 = .ok (.iload_n 1, 1) := by decide +kernel
theorem dX6_init_175 : decode cX6_init 175 = .ok (.iconst 4, 1) := by decide +kernel
theorem dX6_init_176 : decode cX6_init 176 = .ok (.iastore, 1) := by decide +kernel
theorem dX6_init_177 : decode cX6_init 177 = .ok (.iinc 1 1, 3) := by decide +kernel
theorem dX6_init_180 : decode cX6_init 180 = .ok (.goto (-23), 3) := by decide +kernel
theorem dX6_init_183 : decode cX6_init 183 = .ok (.iconst 0, 1) := by decide +kernel
theorem dX6_init_184 : decode cX6_init 184 = .ok (.istore_n 1, 1) := by decide +kernel
theorem dX6_init_185 : decode cX6_init 185 = .ok (.iload_n 1, 1) := by decide +kernel
theorem dX6_init_186 : decode cX6_init 186 = .ok (.bipush 16, 2) := by decide +kernel
theorem dX6_init_188 : decode cX6_init 188 = .ok (.if_icmp .ge 16, 3) := by decide +kernel
theorem dX6_init_191 : decode cX6_init 191 = .ok (.aload_n 0, 1) := by decide +kernel
theorem dX6_init_192 : decode cX6_init 192 = .ok (.getfield 34, 3) := by decide +kernel
theorem dX6_init_195 : decode cX6_init 195 = .ok (.iload_n 1, 1) := by decide +kernel
theorem dX6_init_196 : decode cX6_init 196 = .ok (.iconst (-1), 1) := by decide +kernel
theorem dX6_init_197 : decode cX6_init 197 = .ok (.iastore, 1) := by decide +kernel
theorem dX6_init_198 : decode cX6_init 198 = .ok (.iinc 1 1, 3) := by decide +kernel
theorem dX6_init_201 : decode cX6_init 201 = .ok (.goto (-16), 3) := by decide +kernel
theorem dX6_init_204 : decode cX6_init 204 = .ok (.return_, 1) := by decide +kernel
theorem dX6_thrown_0 : decode cX6_thrown 0 = .ok (.aload_n 0, 1) := by decide +kernel
theorem dX6_thrown_1 : decode cX6_thrown 1 = .ok (.getfield 70, 3) := by decide +kernel
theorem dX6_thrown_4 : decode cX6_thrown 4 = .ok (.ireturn, 1) := by decide +kernel
theorem dX6_raises_0 : decode cX6_raises 0 = .ok (.aload_n 0, 1) := by decide +kernel
theorem dX6_raises_1 : decode cX6_raises 1 = .ok (.iload_n 1, 1) := by decide +kernel
theorem dX6_raises_2 : decode cX6_raises 2 = .ok (.putfield 70, 3) := by decide +kernel
theorem dX6_raises_5 : decode cX6_raises 5 = .ok (.iconst 0, 1) := by decide +kernel
theorem dX6_raises_6 : decode cX6_raises 6 = .ok (.ireturn, 1) := by decide +kernel
theorem dX6_refuse_0 : decode cX6_refuse 0 = .ok (.aload_n 0, 1) := by decide +kernel
theorem dX6_refuse_1 : decode cX6_refuse 1 = .ok (.getfield 7, 3) := by decide +kernel
theorem dX6_refuse_4 : decode cX6_refuse 4 = .ok (.iload_n 1, 1) := by decide +kernel
theorem dX6_refuse_5 : decode cX6_refuse 5 = .ok (.ineg, 1) := by decide +kernel
theorem dX6_refuse_6 : decode cX6_refuse 6 = .ok (.dup2, 1) := by decide +kernel
theorem dX6_refuse_7 : decode cX6_refuse 7 = .ok (.iaload, 1) := by decide +kernel
theorem dX6_refuse_8 : decode cX6_refuse 8 = .ok (.iconst 1, 1) := by decide +kernel
theorem dX6_refuse_9 : decode cX6_refuse 9 = .ok (.iadd, 1) := by decide +kernel
theorem dX6_refuse_10 : decode cX6_refuse 10 = .ok (.iastore, 1) := by decide +kernel
theorem dX6_refuse_11 : decode cX6_refuse 11 = .ok (.iload_n 1, 1) := by decide +kernel
theorem dX6_refuse_12 : decode cX6_refuse 12 = .ok (.ireturn, 1) := by decide +kernel
theorem dX6_isIn_0 : decode cX6_isIn 0 = .ok (.iload_n 0, 1) := by decide +kernel
theorem dX6_isIn_1 : decode cX6_isIn 1 = .ok (.ifCond .lt 12, 3) := by decide +kernel
theorem dX6_isIn_4 : decode cX6_isIn 4 = .ok (.iload_n 0, 1) := by decide +kernel
theorem dX6_isIn_5 : decode cX6_isIn 5 = .ok (.iload_n 1, 1) := by decide +kernel
theorem dX6_isIn_6 : decode cX6_isIn 6 = .ok (.if_icmp .ge 7, 3) := by decide +kernel
theorem dX6_isIn_9 : decode cX6_isIn 9 = .ok (.iconst 1, 1) := by decide +kernel
theorem dX6_isIn_10 : decode cX6_isIn 10 = .ok (.goto 4, 3) := by decide +kernel
theorem dX6_isIn_13 : decode cX6_isIn 13 = .ok (.iconst 0, 1) := by decide +kernel
theorem dX6_isIn_14 : decode cX6_isIn 14 = .ok (.ireturn, 1) := by decide +kernel
theorem dX6_wrong_0 : decode cX6_wrong 0 = .ok (.iload_n 0, 1) := by decide +kernel
theorem dX6_wrong_1 : decode cX6_wrong 1 = .ok (.iload_n 1, 1) := by decide +kernel
theorem dX6_wrong_2 : decode cX6_wrong 2 = .ok (.if_icmp .ge 8, 3) := by decide +kernel
theorem dX6_wrong_5 : decode cX6_wrong 5 = .ok (.bipush (-4), 2) := by decide +kernel
theorem dX6_wrong_7 : decode cX6_wrong 7 = .ok (.goto 14, 3) := by decide +kernel
theorem dX6_wrong_10 : decode cX6_wrong 10 = .ok (.iload_n 0, 1) := by decide +kernel
theorem dX6_wrong_11 : decode cX6_wrong 11 = .ok (.iload_n 2, 1) := by decide +kernel
theorem dX6_wrong_12 : decode cX6_wrong 12 = .ok (.if_icmp .le 8, 3) := by decide +kernel
theorem dX6_wrong_15 : decode cX6_wrong 15 = .ok (.bipush (-6), 2) := by decide +kernel
theorem dX6_wrong_17 : decode cX6_wrong 17 = .ok (.goto 4, 3) := by decide +kernel
theorem dX6_wrong_20 : decode cX6_wrong 20 = .ok (.iconst 0, 1) := by decide +kernel
theorem dX6_wrong_21 : decode cX6_wrong 21 = .ok (.ireturn, 1) := by decide +kernel
theorem dX6_isWord_0 : decode cX6_isWord 0 = .ok (.iload_n 1, 1) := by decide +kernel
theorem dX6_isWord_1 : decode cX6_isWord 1 = .ok (.iconst 1, 1) := by decide +kernel
theorem dX6_isWord_2 : decode cX6_isWord 2 = .ok (.aload_n 0, 1) := by decide +kernel
theorem dX6_isWord_3 : decode cX6_isWord 3 = .ok (.getfield 44, 3) := by decide +kernel
theorem dX6_isWord_6 : decode cX6_isWord 6 = .ok (.ishl, 1) := by decide +kernel
theorem dX6_isWord_7 : decode cX6_isWord 7 = .ok (.invokestatic 73, 3) := by decide +kernel
theorem dX6_isWord_10 : decode cX6_isWord 10 = .ok (.ireturn, 1) := by decide +kernel
theorem dX6_bits_0 : decode cX6_bits 0 = .ok (.iconst 0, 1) := by decide +kernel
theorem dX6_bits_1 : decode cX6_bits 1 = .ok (.istore_n 1, 1) := by decide +kernel
theorem dX6_bits_2 : decode cX6_bits 2 = .ok (.iload_n 0, 1) := by decide +kernel
theorem dX6_bits_3 : decode cX6_bits 3 = .ok (.istore_n 2, 1) := by decide +kernel
theorem dX6_bits_4 : decode cX6_bits 4 = .ok (.iload_n 2, 1) := by decide +kernel
theorem dX6_bits_5 : decode cX6_bits 5 = .ok (.ifCond .eq 15, 3) := by decide +kernel
theorem dX6_bits_8 : decode cX6_bits 8 = .ok (.iinc 1 1, 3) := by decide +kernel
theorem dX6_bits_11 : decode cX6_bits 11 = .ok (.iload_n 2, 1) := by decide +kernel
theorem dX6_bits_12 : decode cX6_bits 12 = .ok (.iload_n 2, 1) := by decide +kernel
theorem dX6_bits_13 : decode cX6_bits 13 = .ok (.iconst 1, 1) := by decide +kernel
theorem dX6_bits_14 : decode cX6_bits 14 = .ok (.isub, 1) := by decide +kernel
theorem dX6_bits_15 : decode cX6_bits 15 = .ok (.iand, 1) := by decide +kernel
theorem dX6_bits_16 : decode cX6_bits 16 = .ok (.istore_n 2, 1) := by decide +kernel
theorem dX6_bits_17 : decode cX6_bits 17 = .ok (.goto (-13), 3) := by decide +kernel
theorem dX6_bits_20 : decode cX6_bits 20 = .ok (.iload_n 1, 1) := by decide +kernel
theorem dX6_bits_21 : decode cX6_bits 21 = .ok (.ireturn, 1) := by decide +kernel
theorem dX6_open_0 : decode cX6_open 0 = .ok (.iconst 1, 1) := by decide +kernel
theorem dX6_open_1 : decode cX6_open 1 = .ok (.aload_n 0, 1) := by decide +kernel
theorem dX6_open_2 : decode cX6_open 2 = .ok (.getfield 44, 3) := by decide +kernel
theorem dX6_open_5 : decode cX6_open 5 = .ok (.ishl, 1) := by decide +kernel
theorem dX6_open_6 : decode cX6_open 6 = .ok (.iconst 1, 1) := by decide +kernel
theorem dX6_open_7 : decode cX6_open 7 = .ok (.isub, 1) := by decide +kernel
theorem dX6_open_8 : decode cX6_open 8 = .ok (.aload_n 0, 1) := by decide +kernel
theorem dX6_open_9 : decode cX6_open 9 = .ok (.getfield 77, 3) := by decide +kernel
theorem dX6_open_12 : decode cX6_open 12 = .ok (.iconst (-1), 1) := by decide +kernel
theorem dX6_open_13 : decode cX6_open 13 = .ok (.ixor, 1) := by decide +kernel
theorem dX6_open_14 : decode cX6_open 14 = .ok (.iand, 1) := by decide +kernel
theorem dX6_open_15 : decode cX6_open 15 = .ok (.ireturn, 1) := by decide +kernel
theorem dX6_noRows_0 : decode cX6_noRows 0 = .ok (.aload_n 0, 1) := by decide +kernel
theorem dX6_noRows_1 : decode cX6_noRows 1 = .ok (.iconst 0, 1) := by decide +kernel
theorem dX6_noRows_2 : decode cX6_noRows 2 = .ok (.putfield 80, 3) := by decide +kernel
theorem dX6_noRows_5 : decode cX6_noRows 5 = .ok (.aload_n 0, 1) := by decide +kernel
theorem dX6_noRows_6 : decode cX6_noRows 6 = .ok (.invokevirtual 83, 3) := by decide +kernel
theorem dX6_noRows_9 : decode cX6_noRows 9 = .ok (.return_, 1) := by decide +kernel
theorem dX6_noHelp_0 : decode cX6_noHelp 0 = .ok (.aload_n 0, 1) := by decide +kernel
theorem dX6_noHelp_1 : decode cX6_noHelp 1 = .ok (.iconst 0, 1) := by decide +kernel
theorem dX6_noHelp_2 : decode cX6_noHelp 2 = .ok (.putfield 86, 3) := by decide +kernel
theorem dX6_noHelp_5 : decode cX6_noHelp 5 = .ok (.iconst 0, 1) := by decide +kernel
theorem dX6_noHelp_6 : decode cX6_noHelp 6 = .ok (.istore_n 1, 1) := by decide +kernel
theorem dX6_noHelp_7 : decode cX6_noHelp 7 = .ok (.iload_n 1, 1) := by decide +kernel
theorem dX6_noHelp_8 : decode cX6_noHelp 8 = .ok (.bipush 8, 2) := by decide +kernel
theorem dX6_noHelp_10 : decode cX6_noHelp 10 = .ok (.if_icmp .ge 16, 3) := by decide +kernel
theorem dX6_noHelp_13 : decode cX6_noHelp 13 = .ok (.aload_n 0, 1) := by decide +kernel
theorem dX6_noHelp_14 : decode cX6_noHelp 14 = .ok (.getfield 37, 3) := by decide +kernel
theorem dX6_noHelp_17 : decode cX6_noHelp 17 = .ok (.iload_n 1, 1) := by decide +kernel
theorem dX6_noHelp_18 : decode cX6_noHelp 18 = .ok (.iconst 0, 1) := by decide +kernel
theorem dX6_noHelp_19 : decode cX6_noHelp 19 = .ok (.bastore, 1) := by decide +kernel
theorem dX6_noHelp_20 : decode cX6_noHelp 20 = .ok (.iinc 1 1, 3) := by decide +kernel
theorem dX6_noHelp_23 : decode cX6_noHelp 23 = .ok (.goto (-16), 3) := by decide +kernel
theorem dX6_noHelp_26 : decode cX6_noHelp 26 = .ok (.return_, 1) := by decide +kernel
theorem dX6_cells_0 : decode cX6_cells 0 = .ok (.iload_n 1, 1) := by decide +kernel
theorem dX6_cells_1 : decode cX6_cells 1 = .ok (.iconst 4, 1) := by decide +kernel
theorem dX6_cells_2 : decode cX6_cells 2 = .ok (.bipush 14, 2) := by decide +kernel
theorem dX6_cells_4 : decode cX6_cells 4 = .ok (.invokestatic 90, 3) := by decide +kernel
theorem dX6_cells_7 : decode cX6_cells 7 = .ok (.istore_n 2, 1) := by decide +kernel
theorem dX6_cells_8 : decode cX6_cells 8 = .ok (.iload_n 2, 1) := by decide +kernel
theorem dX6_cells_9 : decode cX6_cells 9 = .ok (.ifCond .eq 9, 3) := by decide +kernel
theorem dX6_cells_12 : decode cX6_cells 12 = .ok (.aload_n 0, 1) := by decide +kernel
theorem dX6_cells_13 : decode cX6_cells 13 = .ok (.iload_n 2, 1) := by decide +kernel
theorem dX6_cells_14 : decode cX6_cells 14 = .ok (.invokevirtual 94, 3) := by decide +kernel
theorem dX6_cells_17 : decode cX6_cells 17 = .ok (.ireturn, 1) := by decide +kernel
theorem dX6_cells_18 : decode cX6_cells 18 = .ok (.aload_n 0, 1) := by decide +kernel
theorem dX6_cells_19 : decode cX6_cells 19 = .ok (.getfield 44, 3) := by decide +kernel
theorem dX6_cells_22 : decode cX6_cells 22 = .ok (.istore_n 3, 1) := by decide +kernel
theorem dX6_cells_23 : decode cX6_cells 23 = .ok (.aload_n 0, 1) := by decide +kernel
theorem dX6_cells_24 : decode cX6_cells 24 = .ok (.iload_n 1, 1) := by decide +kernel
theorem dX6_cells_25 : decode cX6_cells 25 = .ok (.putfield 44, 3) := by decide +kernel
theorem dX6_cells_28 : decode cX6_cells 28 = .ok (.aload_n 0, 1) := by decide +kernel
theorem dX6_cells_29 : decode cX6_cells 29 = .ok (.iconst 0, 1) := by decide +kernel
theorem dX6_cells_30 : decode cX6_cells 30 = .ok (.putfield 98, 3) := by decide +kernel
theorem dX6_cells_33 : decode cX6_cells 33 = .ok (.aload_n 0, 1) := by decide +kernel
theorem dX6_cells_34 : decode cX6_cells 34 = .ok (.iconst 0, 1) := by decide +kernel
theorem dX6_cells_35 : decode cX6_cells 35 = .ok (.putfield 77, 3) := by decide +kernel
theorem dX6_cells_38 : decode cX6_cells 38 = .ok (.aload_n 0, 1) := by decide +kernel
theorem dX6_cells_39 : decode cX6_cells 39 = .ok (.invokevirtual 101, 3) := by decide +kernel
theorem dX6_cells_42 : decode cX6_cells 42 = .ok (.iload_n 3, 1) := by decide +kernel
theorem dX6_cells_43 : decode cX6_cells 43 = .ok (.ireturn, 1) := by decide +kernel
theorem dX6_chip_0 : decode cX6_chip 0 = .ok (.aload_n 0, 1) := by decide +kernel
theorem dX6_chip_1 : decode cX6_chip 1 = .ok (.iload_n 1, 1) := by decide +kernel
theorem dX6_chip_2 : decode cX6_chip 2 = .ok (.invokevirtual 104, 3) := by decide +kernel
theorem dX6_chip_5 : decode cX6_chip 5 = .ok (.ifCond .ne 9, 3) := by decide +kernel
theorem dX6_chip_8 : decode cX6_chip 8 = .ok (.aload_n 0, 1) := by decide +kernel
theorem dX6_chip_9 : decode cX6_chip 9 = .ok (.iconst (-1), 1) := by decide +kernel
theorem dX6_chip_10 : decode cX6_chip 10 = .ok (.invokevirtual 94, 3) := by decide +kernel
theorem dX6_chip_13 : decode cX6_chip 13 = .ok (.ireturn, 1) := by decide +kernel
theorem dX6_chip_14 : decode cX6_chip 14 = .ok (.aload_n 0, 1) := by decide +kernel
theorem dX6_chip_15 : decode cX6_chip 15 = .ok (.getfield 98, 3) := by decide +kernel
theorem dX6_chip_18 : decode cX6_chip 18 = .ok (.bipush 8, 2) := by decide +kernel
theorem dX6_chip_20 : decode cX6_chip 20 = .ok (.if_icmp .ne 10, 3) := by decide +kernel
theorem dX6_chip_23 : decode cX6_chip 23 = .ok (.aload_n 0, 1) := by decide +kernel
theorem dX6_chip_24 : decode cX6_chip 24 = .ok (.bipush (-6), 2) := by decide +kernel
theorem dX6_chip_26 : decode cX6_chip 26 = .ok (.invokevirtual 94, 3) := by decide +kernel
theorem dX6_chip_29 : decode cX6_chip 29 = .ok (.ireturn, 1) := by decide +kernel
theorem dX6_chip_30 : decode cX6_chip 30 = .ok (.aload_n 0, 1) := by decide +kernel
theorem dX6_chip_31 : decode cX6_chip 31 = .ok (.getfield 22, 3) := by decide +kernel
theorem dX6_chip_34 : decode cX6_chip 34 = .ok (.aload_n 0, 1) := by decide +kernel
theorem dX6_chip_35 : decode cX6_chip 35 = .ok (.getfield 98, 3) := by decide +kernel
theorem dX6_chip_38 : decode cX6_chip 38 = .ok (.iload_n 1, 1) := by decide +kernel
theorem dX6_chip_39 : decode cX6_chip 39 = .ok (.iastore, 1) := by decide +kernel
theorem dX6_chip_40 : decode cX6_chip 40 = .ok (.aload_n 0, 1) := by decide +kernel
theorem dX6_chip_41 : decode cX6_chip 41 = .ok (.getfield 37, 3) := by decide +kernel
theorem dX6_chip_44 : decode cX6_chip 44 = .ok (.aload_n 0, 1) := by decide +kernel
theorem dX6_chip_45 : decode cX6_chip 45 = .ok (.getfield 98, 3) := by decide +kernel
theorem dX6_chip_48 : decode cX6_chip 48 = .ok (.iconst 0, 1) := by decide +kernel
theorem dX6_chip_49 : decode cX6_chip 49 = .ok (.bastore, 1) := by decide +kernel
theorem dX6_chip_50 : decode cX6_chip 50 = .ok (.aload_n 0, 1) := by decide +kernel
theorem dX6_chip_51 : decode cX6_chip 51 = .ok (.dup, 1) := by decide +kernel
theorem dX6_chip_52 : decode cX6_chip 52 = .ok (.getfield 98, 3) := by decide +kernel
theorem dX6_chip_55 : decode cX6_chip 55 = .ok (.iconst 1, 1) := by decide +kernel
theorem dX6_chip_56 : decode cX6_chip 56 = .ok (.iadd, 1) := by decide +kernel
theorem dX6_chip_57 : decode cX6_chip 57 = .ok (.putfield 98, 3) := by decide +kernel
theorem dX6_chip_60 : decode cX6_chip 60 = .ok (.aload_n 0, 1) := by decide +kernel
theorem dX6_chip_61 : decode cX6_chip 61 = .ok (.getfield 98, 3) := by decide +kernel
theorem dX6_chip_64 : decode cX6_chip 64 = .ok (.iconst 1, 1) := by decide +kernel
theorem dX6_chip_65 : decode cX6_chip 65 = .ok (.isub, 1) := by decide +kernel
theorem dX6_chip_66 : decode cX6_chip 66 = .ok (.ireturn, 1) := by decide +kernel
theorem dX6_set_0 : decode cX6_set 0 = .ok (.iload_n 1, 1) := by decide +kernel
theorem dX6_set_1 : decode cX6_set 1 = .ok (.bipush 14, 2) := by decide +kernel
theorem dX6_set_3 : decode cX6_set 3 = .ok (.invokestatic 73, 3) := by decide +kernel
theorem dX6_set_6 : decode cX6_set 6 = .ok (.ifCond .ne 7, 3) := by decide +kernel
theorem dX6_set_9 : decode cX6_set 9 = .ok (.iconst (-1), 1) := by decide +kernel
theorem dX6_set_10 : decode cX6_set 10 = .ok (.goto 41, 3) := by decide +kernel
theorem dX6_set_13 : decode cX6_set 13 = .ok (.iload_n 2, 1) := by decide +kernel
theorem dX6_set_14 : decode cX6_set 14 = .ok (.iconst 3, 1) := by decide +kernel
theorem dX6_set_15 : decode cX6_set 15 = .ok (.invokestatic 73, 3) := by decide +kernel
theorem dX6_set_18 : decode cX6_set 18 = .ok (.ifCond .ne 8, 3) := by decide +kernel
theorem dX6_set_21 : decode cX6_set 21 = .ok (.bipush (-2), 2) := by decide +kernel
theorem dX6_set_23 : decode cX6_set 23 = .ok (.goto 28, 3) := by decide +kernel
theorem dX6_set_26 : decode cX6_set 26 = .ok (.iload_n 3, 1) := by decide +kernel
theorem dX6_set_27 : decode cX6_set 27 = .ok (.iload_n 2, 1) := by decide +kernel
theorem dX6_set_28 : decode cX6_set 28 = .ok (.iconst 2, 1) := by decide +kernel
theorem dX6_set_29 : decode cX6_set 29 = .ok (.if_icmp .ne 7, 3) := by decide +kernel
theorem dX6_set_32 : decode cX6_set 32 = .ok (.iconst 1, 1) := by decide +kernel
theorem dX6_set_33 : decode cX6_set 33 = .ok (.goto 4, 3) := by decide +kernel
theorem dX6_set_36 : decode cX6_set 36 = .ok (.iconst 0, 1) := by decide +kernel
theorem dX6_set_37 : decode cX6_set 37 = .ok (.iload_n 2, 1) := by decide +kernel
theorem dX6_set_38 : decode cX6_set 38 = .ok (.iconst 2, 1) := by decide +kernel
theorem dX6_set_39 : decode cX6_set 39 = .ok (.if_icmp .ne 8, 3) := by decide +kernel
theorem dX6_set_42 : decode cX6_set 42 = .ok (.bipush 7, 2) := by decide +kernel
theorem dX6_set_44 : decode cX6_set 44 = .ok (.goto 4, 3) := by decide +kernel
theorem dX6_set_47 : decode cX6_set 47 = .ok (.iconst 4, 1) := by decide +kernel
theorem dX6_set_48 : decode cX6_set 48 = .ok (.invokestatic 90, 3) := by decide +kernel
theorem dX6_set_51 : decode cX6_set 51 = .ok (.istore 4, 2) := by decide +kernel
theorem dX6_set_53 : decode cX6_set 53 = .ok (.iload 4, 2) := by decide +kernel
theorem dX6_set_55 : decode cX6_set 55 = .ok (.ifCond .eq 10, 3) := by decide +kernel
theorem dX6_set_58 : decode cX6_set 58 = .ok (.aload_n 0, 1) := by decide +kernel
theorem dX6_set_59 : decode cX6_set 59 = .ok (.iload 4, 2) := by decide +kernel
theorem dX6_set_61 : decode cX6_set 61 = .ok (.invokevirtual 94, 3) := by decide +kernel
theorem dX6_set_64 : decode cX6_set 64 = .ok (.ireturn, 1) := by decide +kernel
theorem dX6_set_65 : decode cX6_set 65 = .ok (.iload_n 2, 1) := by decide +kernel
theorem dX6_set_66 : decode cX6_set 66 = .ok (.ifCond .ne 12, 3) := by decide +kernel
theorem dX6_set_69 : decode cX6_set 69 = .ok (.aload_n 0, 1) := by decide +kernel
theorem dX6_set_70 : decode cX6_set 70 = .ok (.getfield 13, 3) := by decide +kernel
theorem dX6_set_73 : decode cX6_set 73 = .ok (.iload_n 1, 1) := by decide +kernel
theorem dX6_set_74 : decode cX6_set 74 = .ok (.iaload, 1) := by decide +kernel
theorem dX6_set_75 : decode cX6_set 75 = .ok (.goto 23, 3) := by decide +kernel
theorem dX6_set_78 : decode cX6_set 78 = .ok (.iload_n 2, 1) := by decide +kernel
theorem dX6_set_79 : decode cX6_set 79 = .ok (.iconst 1, 1) := by decide +kernel
theorem dX6_set_80 : decode cX6_set 80 = .ok (.if_icmp .ne 12, 3) := by decide +kernel
theorem dX6_set_83 : decode cX6_set 83 = .ok (.aload_n 0, 1) := by decide +kernel
theorem dX6_set_84 : decode cX6_set 84 = .ok (.getfield 16, 3) := by decide +kernel
theorem dX6_set_87 : decode cX6_set 87 = .ok (.iload_n 1, 1) := by decide +kernel
theorem dX6_set_88 : decode cX6_set 88 = .ok (.iaload, 1) := by decide +kernel
theorem dX6_set_89 : decode cX6_set 89 = .ok (.goto 9, 3) := by decide +kernel
theorem dX6_set_92 : decode cX6_set 92 = .ok (.aload_n 0, 1) := by decide +kernel
theorem dX6_set_93 : decode cX6_set 93 = .ok (.getfield 19, 3) := by decide +kernel
theorem dX6_set_96 : decode cX6_set 96 = .ok (.iload_n 1, 1) := by decide +kernel
theorem dX6_set_97 : decode cX6_set 97 = .ok (.iaload, 1) := by decide +kernel
theorem dX6_set_98 : decode cX6_set 98 = .ok (.istore 5, 2) := by decide +kernel
theorem dX6_set_100 : decode cX6_set 100 = .ok (.iload_n 2, 1) := by decide +kernel
theorem dX6_set_101 : decode cX6_set 101 = .ok (.ifCond .ne 13, 3) := by decide +kernel
theorem dX6_set_104 : decode cX6_set 104 = .ok (.aload_n 0, 1) := by decide +kernel
theorem dX6_set_105 : decode cX6_set 105 = .ok (.getfield 13, 3) := by decide +kernel
theorem dX6_set_108 : decode cX6_set 108 = .ok (.iload_n 1, 1) := by decide +kernel
theorem dX6_set_109 : decode cX6_set 109 = .ok (.iload_n 3, 1) := by decide +kernel
theorem dX6_set_110 : decode cX6_set 110 = .ok (.iastore, 1) := by decide +kernel
theorem dX6_set_111 : decode cX6_set 111 = .ok (.goto 25, 3) := by decide +kernel
theorem dX6_set_114 : decode cX6_set 114 = .ok (.iload_n 2, 1) := by decide +kernel
theorem dX6_set_115 : decode cX6_set 115 = .ok (.iconst 1, 1) := by decide +kernel
theorem dX6_set_116 : decode cX6_set 116 = .ok (.if_icmp .ne 13, 3) := by decide +kernel
theorem dX6_set_119 : decode cX6_set 119 = .ok (.aload_n 0, 1) := by decide +kernel
theorem dX6_set_120 : decode cX6_set 120 = .ok (.getfield 16, 3) := by decide +kernel
theorem dX6_set_123 : decode cX6_set 123 = .ok (.iload_n 1, 1) := by decide +kernel
theorem dX6_set_124 : decode cX6_set 124 = .ok (.iload_n 3, 1) := by decide +kernel
theorem dX6_set_125 : decode cX6_set 125 = .ok (.iastore, 1) := by decide +kernel
theorem dX6_set_126 : decode cX6_set 126 = .ok (.goto 10, 3) := by decide +kernel
theorem dX6_set_129 : decode cX6_set 129 = .ok (.aload_n 0, 1) := by decide +kernel
theorem dX6_set_130 : decode cX6_set 130 = .ok (.getfield 19, 3) := by decide +kernel
theorem dX6_set_133 : decode cX6_set 133 = .ok (.iload_n 1, 1) := by decide +kernel
theorem dX6_set_134 : decode cX6_set 134 = .ok (.iload_n 3, 1) := by decide +kernel
theorem dX6_set_135 : decode cX6_set 135 = .ok (.iastore, 1) := by decide +kernel
theorem dX6_set_136 : decode cX6_set 136 = .ok (.iload 5, 2) := by decide +kernel
theorem dX6_set_138 : decode cX6_set 138 = .ok (.ireturn, 1) := by decide +kernel
theorem dX6_worn_0 : decode cX6_worn 0 = .ok (.iconst 4, 1) := by decide +kernel
theorem dX6_worn_1 : decode cX6_worn 1 = .ok (.aload_n 0, 1) := by decide +kernel
theorem dX6_worn_2 : decode cX6_worn 2 = .ok (.getfield 13, 3) := by decide +kernel
theorem dX6_worn_5 : decode cX6_worn 5 = .ok (.iload_n 1, 1) := by decide +kernel
theorem dX6_worn_6 : decode cX6_worn 6 = .ok (.iaload, 1) := by decide +kernel
theorem dX6_worn_7 : decode cX6_worn 7 = .ok (.aload_n 0, 1) := by decide +kernel
theorem dX6_worn_8 : decode cX6_worn 8 = .ok (.getfield 16, 3) := by decide +kernel
theorem dX6_worn_11 : decode cX6_worn 11 = .ok (.iload_n 1, 1) := by decide +kernel
theorem dX6_worn_12 : decode cX6_worn 12 = .ok (.iaload, 1) := by decide +kernel
theorem dX6_worn_13 : decode cX6_worn 13 = .ok (.iload_n 2, 1) := by decide +kernel
theorem dX6_worn_14 : decode cX6_worn 14 = .ok (.imul, 1) := by decide +kernel
theorem dX6_worn_15 : decode cX6_worn 15 = .ok (.bipush 10, 2) := by decide +kernel
theorem dX6_worn_17 : decode cX6_worn 17 = .ok (.idiv, 1) := by decide +kernel
theorem dX6_worn_18 : decode cX6_worn 18 = .ok (.iadd, 1) := by decide +kernel
theorem dX6_worn_19 : decode cX6_worn 19 = .ok (.invokestatic 108, 3) := by decide +kernel
theorem dX6_worn_22 : decode cX6_worn 22 = .ok (.ireturn, 1) := by decide +kernel
theorem dX6_chanceOf_0 : decode cX6_chanceOf 0 = .ok (.aload_n 0, 1) := by decide +kernel
theorem dX6_chanceOf_1 : decode cX6_chanceOf 1 = .ok (.getfield 77, 3) := by decide +kernel
theorem dX6_chanceOf_4 : decode cX6_chanceOf 4 = .ok (.iload_n 1, 1) := by decide +kernel
theorem dX6_chanceOf_5 : decode cX6_chanceOf 5 = .ok (.ishr, 1) := by decide +kernel
theorem dX6_chanceOf_6 : decode cX6_chanceOf 6 = .ok (.iconst 1, 1) := by decide +kernel
theorem dX6_chanceOf_7 : decode cX6_chanceOf 7 = .ok (.iand, 1) := by decide +kernel
theorem dX6_chanceOf_8 : decode cX6_chanceOf 8 = .ok (.iconst 1, 1) := by decide +kernel
theorem dX6_chanceOf_9 : decode cX6_chanceOf 9 = .ok (.if_icmp .ne 7, 3) := by decide +kernel
theorem dX6_chanceOf_12 : decode cX6_chanceOf 12 = .ok (.iconst 0, 1) := by decide +kernel
theorem dX6_chanceOf_13 : decode cX6_chanceOf 13 = .ok (.goto 9, 3) := by decide +kernel
theorem dX6_chanceOf_16 : decode cX6_chanceOf 16 = .ok (.aload_n 0, 1) := by decide +kernel
theorem dX6_chanceOf_17 : decode cX6_chanceOf 17 = .ok (.iload_n 1, 1) := by decide +kernel
theorem dX6_chanceOf_18 : decode cX6_chanceOf 18 = .ok (.iload_n 2, 1) := by decide +kernel
theorem dX6_chanceOf_19 : decode cX6_chanceOf 19 = .ok (.invokevirtual 114, 3) := by decide +kernel
theorem dX6_chanceOf_22 : decode cX6_chanceOf 22 = .ok (.ireturn, 1) := by decide +kernel
theorem dX6_chance_0 : decode cX6_chance 0 = .ok (.iload_n 1, 1) := by decide +kernel
theorem dX6_chance_1 : decode cX6_chance 1 = .ok (.aload_n 0, 1) := by decide +kernel
theorem dX6_chance_2 : decode cX6_chance 2 = .ok (.getfield 44, 3) := by decide +kernel
theorem dX6_chance_5 : decode cX6_chance 5 = .ok (.invokestatic 73, 3) := by decide +kernel
theorem dX6_chance_8 : decode cX6_chance 8 = .ok (.ifCond .eq 13, 3) := by decide +kernel
theorem dX6_chance_11 : decode cX6_chance 11 = .ok (.iload_n 2, 1) := by decide +kernel
theorem dX6_chance_12 : decode cX6_chance 12 = .ok (.iconst 0, 1) := by decide +kernel
theorem dX6_chance_13 : decode cX6_chance 13 = .ok (.bipush 40, 2) := by decide +kernel
theorem dX6_chance_15 : decode cX6_chance 15 = .ok (.invokestatic 90, 3) := by decide +kernel
theorem dX6_chance_18 : decode cX6_chance 18 = .ok (.goto 4, 3) := by decide +kernel
theorem dX6_chance_21 : decode cX6_chance 21 = .ok (.iconst (-1), 1) := by decide +kernel
theorem dX6_chance_22 : decode cX6_chance 22 = .ok (.istore_n 3, 1) := by decide +kernel
theorem dX6_chance_23 : decode cX6_chance 23 = .ok (.iload_n 3, 1) := by decide +kernel
theorem dX6_chance_24 : decode cX6_chance 24 = .ok (.ifCond .eq 11, 3) := by decide +kernel
theorem dX6_chance_27 : decode cX6_chance 27 = .ok (.aload_n 0, 1) := by decide +kernel
theorem dX6_chance_28 : decode cX6_chance 28 = .ok (.iload_n 3, 1) := by decide +kernel
theorem dX6_chance_29 : decode cX6_chance 29 = .ok (.invokevirtual 94, 3) := by decide +kernel
theorem dX6_chance_32 : decode cX6_chance 32 = .ok (.goto 9, 3) := by decide +kernel
theorem dX6_chance_35 : decode cX6_chance 35 = .ok (.aload_n 0, 1) := by decide +kernel
theorem dX6_chance_36 : decode cX6_chance 36 = .ok (.iload_n 1, 1) := by decide +kernel
theorem dX6_chance_37 : decode cX6_chance 37 = .ok (.iload_n 2, 1) := by decide +kernel
theorem dX6_chance_38 : decode cX6_chance 38 = .ok (.invokevirtual 117, 3) := by decide +kernel
theorem dX6_chance_41 : decode cX6_chance 41 = .ok (.ireturn, 1) := by decide +kernel
theorem dX6_masks_0 : decode cX6_masks 0 = .ok (.iload_n 1, 1) := by decide +kernel
theorem dX6_masks_1 : decode cX6_masks 1 = .ok (.aload_n 0, 1) := by decide +kernel
theorem dX6_masks_2 : decode cX6_masks 2 = .ok (.getfield 77, 3) := by decide +kernel
theorem dX6_masks_5 : decode cX6_masks 5 = .ok (.if_icmp .ne 4, 3) := by decide +kernel
theorem dX6_masks_8 : decode cX6_masks 8 = .ok (.return_, 1) := by decide +kernel
theorem dX6_masks_9 : decode cX6_masks 9 = .ok (.aload_n 0, 1) := by decide +kernel
theorem dX6_masks_10 : decode cX6_masks 10 = .ok (.iload_n 1, 1) := by decide +kernel
theorem dX6_masks_11 : decode cX6_masks 11 = .ok (.putfield 77, 3) := by decide +kernel
theorem dX6_masks_14 : decode cX6_masks 14 = .ok (.aload_n 0, 1) := by decide +kernel
theorem dX6_masks_15 : decode cX6_masks 15 = .ok (.invokevirtual 101, 3) := by decide +kernel
theorem dX6_masks_18 : decode cX6_masks 18 = .ok (.return_, 1) := by decide +kernel
theorem dX6_mask_0 : decode cX6_mask 0 = .ok (.aload_n 0, 1) := by decide +kernel
theorem dX6_mask_1 : decode cX6_mask 1 = .ok (.iload_n 1, 1) := by decide +kernel
theorem dX6_mask_2 : decode cX6_mask 2 = .ok (.invokevirtual 104, 3) := by decide +kernel
theorem dX6_mask_5 : decode cX6_mask 5 = .ok (.ifCond .ne 9, 3) := by decide +kernel
theorem dX6_mask_8 : decode cX6_mask 8 = .ok (.aload_n 0, 1) := by decide +kernel
theorem dX6_mask_9 : decode cX6_mask 9 = .ok (.iconst (-1), 1) := by decide +kernel
theorem dX6_mask_10 : decode cX6_mask 10 = .ok (.invokevirtual 94, 3) := by decide +kernel
theorem dX6_mask_13 : decode cX6_mask 13 = .ok (.ireturn, 1) := by decide +kernel
theorem dX6_mask_14 : decode cX6_mask 14 = .ok (.aload_n 0, 1) := by decide +kernel
theorem dX6_mask_15 : decode cX6_mask 15 = .ok (.getfield 77, 3) := by decide +kernel
theorem dX6_mask_18 : decode cX6_mask 18 = .ok (.istore_n 2, 1) := by decide +kernel
theorem dX6_mask_19 : decode cX6_mask 19 = .ok (.aload_n 0, 1) := by decide +kernel
theorem dX6_mask_20 : decode cX6_mask 20 = .ok (.iload_n 1, 1) := by decide +kernel
theorem dX6_mask_21 : decode cX6_mask 21 = .ok (.invokevirtual 120, 3) := by decide +kernel
theorem dX6_mask_24 : decode cX6_mask 24 = .ok (.iload_n 2, 1) := by decide +kernel
theorem dX6_mask_25 : decode cX6_mask 25 = .ok (.ireturn, 1) := by decide +kernel
theorem dX6_maskBy_0 : decode cX6_maskBy 0 = .ok (.iload_n 1, 1) := by decide +kernel
theorem dX6_maskBy_1 : decode cX6_maskBy 1 = .ok (.ifCond .lt 7, 3) := by decide +kernel
theorem dX6_maskBy_4 : decode cX6_maskBy 4 = .ok (.iload_n 2, 1) := by decide +kernel
theorem dX6_maskBy_5 : decode cX6_maskBy 5 = .ok (.ifCond .ge 10, 3) := by decide +kernel
theorem dX6_maskBy_8 : decode cX6_maskBy 8 = .ok (.aload_n 0, 1) := by decide +kernel
theorem dX6_maskBy_9 : decode cX6_maskBy 9 = .ok (.bipush (-4), 2) := by decide +kernel
theorem dX6_maskBy_11 : decode cX6_maskBy 11 = .ok (.invokevirtual 94, 3) := by decide +kernel
theorem dX6_maskBy_14 : decode cX6_maskBy 14 = .ok (.ireturn, 1) := by decide +kernel
theorem dX6_maskBy_15 : decode cX6_maskBy 15 = .ok (.iload_n 1, 1) := by decide +kernel
theorem dX6_maskBy_16 : decode cX6_maskBy 16 = .ok (.bipush 40, 2) := by decide +kernel
theorem dX6_maskBy_18 : decode cX6_maskBy 18 = .ok (.if_icmp .gt 8, 3) := by decide +kernel
theorem dX6_maskBy_21 : decode cX6_maskBy 21 = .ok (.iload_n 2, 1) := by decide +kernel
theorem dX6_maskBy_22 : decode cX6_maskBy 22 = .ok (.iconst 4, 1) := by decide +kernel
theorem dX6_maskBy_23 : decode cX6_maskBy 23 = .ok (.if_icmp .le 10, 3) := by decide +kernel
theorem dX6_maskBy_26 : decode cX6_maskBy 26 = .ok (.aload_n 0, 1) := by decide +kernel
theorem dX6_maskBy_27 : decode cX6_maskBy 27 = .ok (.bipush (-6), 2) := by decide +kernel
theorem dX6_maskBy_29 : decode cX6_maskBy 29 = .ok (.invokevirtual 94, 3) := by decide +kernel
theorem dX6_maskBy_32 : decode cX6_maskBy 32 = .ok (.ireturn, 1) := by decide +kernel
theorem dX6_maskBy_33 : decode cX6_maskBy 33 = .ok (.iconst 0, 1) := by decide +kernel
theorem dX6_maskBy_34 : decode cX6_maskBy 34 = .ok (.istore_n 3, 1) := by decide +kernel
theorem dX6_maskBy_35 : decode cX6_maskBy 35 = .ok (.iconst 0, 1) := by decide +kernel
theorem dX6_maskBy_36 : decode cX6_maskBy 36 = .ok (.istore 4, 2) := by decide +kernel
theorem dX6_maskBy_38 : decode cX6_maskBy 38 = .ok (.iload 4, 2) := by decide +kernel
theorem dX6_maskBy_40 : decode cX6_maskBy 40 = .ok (.aload_n 0, 1) := by decide +kernel
theorem dX6_maskBy_41 : decode cX6_maskBy 41 = .ok (.getfield 44, 3) := by decide +kernel
theorem dX6_maskBy_44 : decode cX6_maskBy 44 = .ok (.if_icmp .ge 27, 3) := by decide +kernel
theorem dX6_maskBy_47 : decode cX6_maskBy 47 = .ok (.aload_n 0, 1) := by decide +kernel
theorem dX6_maskBy_48 : decode cX6_maskBy 48 = .ok (.iload 4, 2) := by decide +kernel
theorem dX6_maskBy_50 : decode cX6_maskBy 50 = .ok (.iload_n 1, 1) := by decide +kernel
theorem dX6_maskBy_51 : decode cX6_maskBy 51 = .ok (.invokevirtual 114, 3) := by decide +kernel
theorem dX6_maskBy_54 : decode cX6_maskBy 54 = .ok (.iload_n 2, 1) := by decide +kernel
theorem dX6_maskBy_55 : decode cX6_maskBy 55 = .ok (.if_icmp .le 10, 3) := by decide +kernel
theorem dX6_maskBy_58 : decode cX6_maskBy 58 = .ok (.iload_n 3, 1) := by decide +kernel
theorem dX6_maskBy_59 : decode cX6_maskBy 59 = .ok (.iconst 1, 1) := by decide +kernel
theorem dX6_maskBy_60 : decode cX6_maskBy 60 = .ok (.iload 4, 2) := by decide +kernel
theorem dX6_maskBy_62 : decode cX6_maskBy 62 = .ok (.ishl, 1) := by decide +kernel
theorem dX6_maskBy_63 : decode cX6_maskBy 63 = .ok (.ior, 1) := by decide +kernel
theorem dX6_maskBy_64 : decode cX6_maskBy 64 = .ok (.istore_n 3, 1) := by decide +kernel
theorem dX6_maskBy_65 : decode cX6_maskBy 65 = .ok (.iinc 4 1, 3) := by decide +kernel
theorem dX6_maskBy_68 : decode cX6_maskBy 68 = .ok (.goto (-30), 3) := by decide +kernel
theorem dX6_maskBy_71 : decode cX6_maskBy 71 = .ok (.aload_n 0, 1) := by decide +kernel
theorem dX6_maskBy_72 : decode cX6_maskBy 72 = .ok (.iload_n 3, 1) := by decide +kernel
theorem dX6_maskBy_73 : decode cX6_maskBy 73 = .ok (.invokevirtual 120, 3) := by decide +kernel
theorem dX6_maskBy_76 : decode cX6_maskBy 76 = .ok (.iload_n 3, 1) := by decide +kernel
theorem dX6_maskBy_77 : decode cX6_maskBy 77 = .ok (.ireturn, 1) := by decide +kernel
theorem dX6_codewordOf_0 : decode cX6_codewordOf 0 = .ok (.iconst 0, 1) := by decide +kernel
theorem dX6_codewordOf_1 : decode cX6_codewordOf 1 = .ok (.istore_n 2, 1) := by decide +kernel
theorem dX6_codewordOf_2 : decode cX6_codewordOf 2 = .ok (.iconst 0, 1) := by decide +kernel
theorem dX6_codewordOf_3 : decode cX6_codewordOf 3 = .ok (.istore_n 3, 1) := by decide +kernel
theorem dX6_codewordOf_4 : decode cX6_codewordOf 4 = .ok (.iload_n 3, 1) := by decide +kernel
theorem dX6_codewordOf_5 : decode cX6_codewordOf 5 = .ok (.aload_n 0, 1) := by decide +kernel
theorem dX6_codewordOf_6 : decode cX6_codewordOf 6 = .ok (.getfield 80, 3) := by decide +kernel
theorem dX6_codewordOf_9 : decode cX6_codewordOf 9 = .ok (.if_icmp .ge 27, 3) := by decide +kernel
theorem dX6_codewordOf_12 : decode cX6_codewordOf 12 = .ok (.iload_n 1, 1) := by decide +kernel
theorem dX6_codewordOf_13 : decode cX6_codewordOf 13 = .ok (.iload_n 3, 1) := by decide +kernel
theorem dX6_codewordOf_14 : decode cX6_codewordOf 14 = .ok (.ishr, 1) := by decide +kernel
theorem dX6_codewordOf_15 : decode cX6_codewordOf 15 = .ok (.iconst 1, 1) := by decide +kernel
theorem dX6_codewordOf_16 : decode cX6_codewordOf 16 = .ok (.iand, 1) := by decide +kernel
theorem dX6_codewordOf_17 : decode cX6_codewordOf 17 = .ok (.iconst 1, 1) := by decide +kernel
theorem dX6_codewordOf_18 : decode cX6_codewordOf 18 = .ok (.if_icmp .ne 12, 3) := by decide +kernel
theorem dX6_codewordOf_21 : decode cX6_codewordOf 21 = .ok (.iload_n 2, 1) := by decide +kernel
theorem dX6_codewordOf_22 : decode cX6_codewordOf 22 = .ok (.aload_n 0, 1) := by decide +kernel
theorem dX6_codewordOf_23 : decode cX6_codewordOf 23 = .ok (.getfield 31, 3) := by decide +kernel
theorem dX6_codewordOf_26 : decode cX6_codewordOf 26 = .ok (.iload_n 3, 1) := by decide +kernel
theorem dX6_codewordOf_27 : decode cX6_codewordOf 27 = .ok (.iaload, 1) := by decide +kernel
theorem dX6_codewordOf_28 : decode cX6_codewordOf 28 = .ok (.ixor, 1) := by decide +kernel
theorem dX6_codewordOf_29 : decode cX6_codewordOf 29 = .ok (.istore_n 2, 1) := by decide +kernel
theorem dX6_codewordOf_30 : decode cX6_codewordOf 30 = .ok (.iinc 3 1, 3) := by decide +kernel
theorem dX6_codewordOf_33 : decode cX6_codewordOf 33 = .ok (.goto (-29), 3) := by decide +kernel
theorem dX6_codewordOf_36 : decode cX6_codewordOf 36 = .ok (.iload_n 2, 1) := by decide +kernel
theorem dX6_codewordOf_37 : decode cX6_codewordOf 37 = .ok (.ireturn, 1) := by decide +kernel
theorem dX6_row_0 : decode cX6_row 0 = .ok (.aload_n 0, 1) := by decide +kernel
theorem dX6_row_1 : decode cX6_row 1 = .ok (.iload_n 1, 1) := by decide +kernel
theorem dX6_row_2 : decode cX6_row 2 = .ok (.invokevirtual 104, 3) := by decide +kernel
theorem dX6_row_5 : decode cX6_row 5 = .ok (.ifCond .ne 9, 3) := by decide +kernel
theorem dX6_row_8 : decode cX6_row 8 = .ok (.aload_n 0, 1) := by decide +kernel
theorem dX6_row_9 : decode cX6_row 9 = .ok (.iconst (-1), 1) := by decide +kernel
theorem dX6_row_10 : decode cX6_row 10 = .ok (.invokevirtual 94, 3) := by decide +kernel
theorem dX6_row_13 : decode cX6_row 13 = .ok (.ireturn, 1) := by decide +kernel
theorem dX6_row_14 : decode cX6_row 14 = .ok (.iload_n 1, 1) := by decide +kernel
theorem dX6_row_15 : decode cX6_row 15 = .ok (.aload_n 0, 1) := by decide +kernel
theorem dX6_row_16 : decode cX6_row 16 = .ok (.invokevirtual 124, 3) := by decide +kernel
theorem dX6_row_19 : decode cX6_row 19 = .ok (.iand, 1) := by decide +kernel
theorem dX6_row_20 : decode cX6_row 20 = .ok (.istore_n 2, 1) := by decide +kernel
theorem dX6_row_21 : decode cX6_row 21 = .ok (.iconst 0, 1) := by decide +kernel
theorem dX6_row_22 : decode cX6_row 22 = .ok (.istore_n 3, 1) := by decide +kernel
theorem dX6_row_23 : decode cX6_row 23 = .ok (.iload_n 3, 1) := by decide +kernel
theorem dX6_row_24 : decode cX6_row 24 = .ok (.iconst 1, 1) := by decide +kernel
theorem dX6_row_25 : decode cX6_row 25 = .ok (.aload_n 0, 1) := by decide +kernel
theorem dX6_row_26 : decode cX6_row 26 = .ok (.getfield 80, 3) := by decide +kernel
theorem dX6_row_29 : decode cX6_row 29 = .ok (.ishl, 1) := by decide +kernel
theorem dX6_row_30 : decode cX6_row 30 = .ok (.if_icmp .ge 25, 3) := by decide +kernel
theorem dX6_row_33 : decode cX6_row 33 = .ok (.aload_n 0, 1) := by decide +kernel
theorem dX6_row_34 : decode cX6_row 34 = .ok (.iload_n 3, 1) := by decide +kernel
theorem dX6_row_35 : decode cX6_row 35 = .ok (.invokevirtual 128, 3) := by decide +kernel
theorem dX6_row_38 : decode cX6_row 38 = .ok (.iload_n 2, 1) := by decide +kernel
theorem dX6_row_39 : decode cX6_row 39 = .ok (.if_icmp .ne 10, 3) := by decide +kernel
theorem dX6_row_42 : decode cX6_row 42 = .ok (.aload_n 0, 1) := by decide +kernel
theorem dX6_row_43 : decode cX6_row 43 = .ok (.bipush (-3), 2) := by decide +kernel
theorem dX6_row_45 : decode cX6_row 45 = .ok (.invokevirtual 94, 3) := by decide +kernel
theorem dX6_row_48 : decode cX6_row 48 = .ok (.ireturn, 1) := by decide +kernel
theorem dX6_row_49 : decode cX6_row 49 = .ok (.iinc 3 1, 3) := by decide +kernel
theorem dX6_row_52 : decode cX6_row 52 = .ok (.goto (-29), 3) := by decide +kernel
theorem dX6_row_55 : decode cX6_row 55 = .ok (.aload_n 0, 1) := by decide +kernel
theorem dX6_row_56 : decode cX6_row 56 = .ok (.getfield 80, 3) := by decide +kernel
theorem dX6_row_59 : decode cX6_row 59 = .ok (.bipush 6, 2) := by decide +kernel
theorem dX6_row_61 : decode cX6_row 61 = .ok (.if_icmp .ne 10, 3) := by decide +kernel
theorem dX6_row_64 : decode cX6_row 64 = .ok (.aload_n 0, 1) := by decide +kernel
theorem dX6_row_65 : decode cX6_row 65 = .ok (.bipush (-6), 2) := by decide +kernel
theorem dX6_row_67 : decode cX6_row 67 = .ok (.invokevirtual 94, 3) := by decide +kernel
theorem dX6_row_70 : decode cX6_row 70 = .ok (.ireturn, 1) := by decide +kernel
theorem dX6_row_71 : decode cX6_row 71 = .ok (.aload_n 0, 1) := by decide +kernel
theorem dX6_row_72 : decode cX6_row 72 = .ok (.getfield 31, 3) := by decide +kernel
theorem dX6_row_75 : decode cX6_row 75 = .ok (.aload_n 0, 1) := by decide +kernel
theorem dX6_row_76 : decode cX6_row 76 = .ok (.getfield 80, 3) := by decide +kernel
theorem dX6_row_79 : decode cX6_row 79 = .ok (.iload_n 2, 1) := by decide +kernel
theorem dX6_row_80 : decode cX6_row 80 = .ok (.iastore, 1) := by decide +kernel
theorem dX6_row_81 : decode cX6_row 81 = .ok (.aload_n 0, 1) := by decide +kernel
theorem dX6_row_82 : decode cX6_row 82 = .ok (.dup, 1) := by decide +kernel
theorem dX6_row_83 : decode cX6_row 83 = .ok (.getfield 80, 3) := by decide +kernel
theorem dX6_row_86 : decode cX6_row 86 = .ok (.iconst 1, 1) := by decide +kernel
theorem dX6_row_87 : decode cX6_row 87 = .ok (.iadd, 1) := by decide +kernel
theorem dX6_row_88 : decode cX6_row 88 = .ok (.putfield 80, 3) := by decide +kernel
theorem dX6_row_91 : decode cX6_row 91 = .ok (.aload_n 0, 1) := by decide +kernel
theorem dX6_row_92 : decode cX6_row 92 = .ok (.invokevirtual 83, 3) := by decide +kernel
theorem dX6_row_95 : decode cX6_row 95 = .ok (.aload_n 0, 1) := by decide +kernel
theorem dX6_row_96 : decode cX6_row 96 = .ok (.getfield 80, 3) := by decide +kernel
theorem dX6_row_99 : decode cX6_row 99 = .ok (.ireturn, 1) := by decide +kernel
theorem dX6_distance_0 : decode cX6_distance 0 = .ok (.iconst 0, 1) := by decide +kernel
theorem dX6_distance_1 : decode cX6_distance 1 = .ok (.istore_n 1, 1) := by decide +kernel
theorem dX6_distance_2 : decode cX6_distance 2 = .ok (.iconst 1, 1) := by decide +kernel
theorem dX6_distance_3 : decode cX6_distance 3 = .ok (.istore_n 2, 1) := by decide +kernel
theorem dX6_distance_4 : decode cX6_distance 4 = .ok (.iload_n 2, 1) := by decide +kernel
theorem dX6_distance_5 : decode cX6_distance 5 = .ok (.iconst 1, 1) := by decide +kernel
theorem dX6_distance_6 : decode cX6_distance 6 = .ok (.aload_n 0, 1) := by decide +kernel
theorem dX6_distance_7 : decode cX6_distance 7 = .ok (.getfield 80, 3) := by decide +kernel
theorem dX6_distance_10 : decode cX6_distance 10 = .ok (.ishl, 1) := by decide +kernel
theorem dX6_distance_11 : decode cX6_distance 11 = .ok (.if_icmp .ge 29, 3) := by decide +kernel
theorem dX6_distance_14 : decode cX6_distance 14 = .ok (.aload_n 0, 1) := by decide +kernel
theorem dX6_distance_15 : decode cX6_distance 15 = .ok (.iload_n 2, 1) := by decide +kernel
theorem dX6_distance_16 : decode cX6_distance 16 = .ok (.invokevirtual 128, 3) := by decide +kernel
theorem dX6_distance_19 : decode cX6_distance 19 = .ok (.invokestatic 131, 3) := by decide +kernel
theorem dX6_distance_22 : decode cX6_distance 22 = .ok (.istore_n 3, 1) := by decide +kernel
theorem dX6_distance_23 : decode cX6_distance 23 = .ok (.iload_n 1, 1) := by decide +kernel
theorem dX6_distance_24 : decode cX6_distance 24 = .ok (.ifCond .eq 8, 3) := by decide +kernel
theorem dX6_distance_27 : decode cX6_distance 27 = .ok (.iload_n 3, 1) := by decide +kernel
theorem dX6_distance_28 : decode cX6_distance 28 = .ok (.iload_n 1, 1) := by decide +kernel
theorem dX6_distance_29 : decode cX6_distance 29 = .ok (.if_icmp .ge 5, 3) := by decide +kernel
theorem dX6_distance_32 : decode cX6_distance 32 = .ok (.iload_n 3, 1) := by decide +kernel
theorem dX6_distance_33 : decode cX6_distance 33 = .ok (.istore_n 1, 1) := by decide +kernel
theorem dX6_distance_34 : decode cX6_distance 34 = .ok (.iinc 2 1, 3) := by decide +kernel
theorem dX6_distance_37 : decode cX6_distance 37 = .ok (.goto (-33), 3) := by decide +kernel
theorem dX6_distance_40 : decode cX6_distance 40 = .ok (.iload_n 1, 1) := by decide +kernel
theorem dX6_distance_41 : decode cX6_distance 41 = .ok (.ireturn, 1) := by decide +kernel
theorem dX6_isKey_0 : decode cX6_isKey 0 = .ok (.iload_n 1, 1) := by decide +kernel
theorem dX6_isKey_1 : decode cX6_isKey 1 = .ok (.iconst 1, 1) := by decide +kernel
theorem dX6_isKey_2 : decode cX6_isKey 2 = .ok (.aload_n 0, 1) := by decide +kernel
theorem dX6_isKey_3 : decode cX6_isKey 3 = .ok (.getfield 80, 3) := by decide +kernel
theorem dX6_isKey_6 : decode cX6_isKey 6 = .ok (.ishl, 1) := by decide +kernel
theorem dX6_isKey_7 : decode cX6_isKey 7 = .ok (.invokestatic 73, 3) := by decide +kernel
theorem dX6_isKey_10 : decode cX6_isKey 10 = .ok (.ireturn, 1) := by decide +kernel
theorem dX6_codeword_0 : decode cX6_codeword 0 = .ok (.aload_n 0, 1) := by decide +kernel
theorem dX6_codeword_1 : decode cX6_codeword 1 = .ok (.iload_n 1, 1) := by decide +kernel
theorem dX6_codeword_2 : decode cX6_codeword 2 = .ok (.invokevirtual 134, 3) := by decide +kernel
theorem dX6_codeword_5 : decode cX6_codeword 5 = .ok (.ifCond .eq 11, 3) := by decide +kernel
theorem dX6_codeword_8 : decode cX6_codeword 8 = .ok (.aload_n 0, 1) := by decide +kernel
theorem dX6_codeword_9 : decode cX6_codeword 9 = .ok (.iload_n 1, 1) := by decide +kernel
theorem dX6_codeword_10 : decode cX6_codeword 10 = .ok (.invokevirtual 128, 3) := by decide +kernel
theorem dX6_codeword_13 : decode cX6_codeword 13 = .ok (.goto 8, 3) := by decide +kernel
theorem dX6_codeword_16 : decode cX6_codeword 16 = .ok (.aload_n 0, 1) := by decide +kernel
theorem dX6_codeword_17 : decode cX6_codeword 17 = .ok (.iconst (-1), 1) := by decide +kernel
theorem dX6_codeword_18 : decode cX6_codeword 18 = .ok (.invokevirtual 94, 3) := by decide +kernel
theorem dX6_codeword_21 : decode cX6_codeword 21 = .ok (.ireturn, 1) := by decide +kernel
theorem dX6_makes_0 : decode cX6_makes 0 = .ok (.aload_n 0, 1) := by decide +kernel
theorem dX6_makes_1 : decode cX6_makes 1 = .ok (.getfield 86, 3) := by decide +kernel
theorem dX6_makes_4 : decode cX6_makes 4 = .ok (.ifCond .eq 4, 3) := by decide +kernel
theorem dX6_makes_7 : decode cX6_makes 7 = .ok (.return_, 1) := by decide +kernel
theorem dX6_makes_8 : decode cX6_makes 8 = .ok (.aload_n 0, 1) := by decide +kernel
theorem dX6_makes_9 : decode cX6_makes 9 = .ok (.iconst 1, 1) := by decide +kernel
theorem dX6_makes_10 : decode cX6_makes 10 = .ok (.putfield 86, 3) := by decide +kernel
theorem dX6_makes_13 : decode cX6_makes 13 = .ok (.iconst 0, 1) := by decide +kernel
theorem dX6_makes_14 : decode cX6_makes 14 = .ok (.istore_n 1, 1) := by decide +kernel
theorem dX6_makes_15 : decode cX6_makes 15 = .ok (.iload_n 1, 1) := by decide +kernel
theorem dX6_makes_16 : decode cX6_makes 16 = .ok (.iconst 1, 1) := by decide +kernel
theorem dX6_makes_17 : decode cX6_makes 17 = .ok (.aload_n 0, 1) := by decide +kernel
theorem dX6_makes_18 : decode cX6_makes 18 = .ok (.getfield 80, 3) := by decide +kernel
theorem dX6_makes_21 : decode cX6_makes 21 = .ok (.ishl, 1) := by decide +kernel
theorem dX6_makes_22 : decode cX6_makes 22 = .ok (.if_icmp .ge 20, 3) := by decide +kernel
