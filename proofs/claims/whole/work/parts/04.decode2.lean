theorem dX6_makes_25 : decode cX6_makes 25 = .ok (.aload_n 0, 1) := by decide +kernel
theorem dX6_makes_26 : decode cX6_makes 26 = .ok (.getfield 51, 3) := by decide +kernel
theorem dX6_makes_29 : decode cX6_makes 29 = .ok (.iload_n 1, 1) := by decide +kernel
theorem dX6_makes_30 : decode cX6_makes 30 = .ok (.aload_n 0, 1) := by decide +kernel
theorem dX6_makes_31 : decode cX6_makes 31 = .ok (.iload_n 1, 1) := by decide +kernel
theorem dX6_makes_32 : decode cX6_makes 32 = .ok (.invokevirtual 128, 3) := by decide +kernel
theorem dX6_makes_35 : decode cX6_makes 35 = .ok (.iastore, 1) := by decide +kernel
theorem dX6_makes_36 : decode cX6_makes 36 = .ok (.iinc 1 1, 3) := by decide +kernel
theorem dX6_makes_39 : decode cX6_makes 39 = .ok (.goto (-24), 3) := by decide +kernel
theorem dX6_makes_42 : decode cX6_makes 42 = .ok (.iconst 0, 1) := by decide +kernel
theorem dX6_makes_43 : decode cX6_makes 43 = .ok (.istore_n 1, 1) := by decide +kernel
theorem dX6_makes_44 : decode cX6_makes 44 = .ok (.iload_n 1, 1) := by decide +kernel
theorem dX6_makes_45 : decode cX6_makes 45 = .ok (.iconst 1, 1) := by decide +kernel
theorem dX6_makes_46 : decode cX6_makes 46 = .ok (.aload_n 0, 1) := by decide +kernel
theorem dX6_makes_47 : decode cX6_makes 47 = .ok (.getfield 44, 3) := by decide +kernel
theorem dX6_makes_50 : decode cX6_makes 50 = .ok (.ishl, 1) := by decide +kernel
theorem dX6_makes_51 : decode cX6_makes 51 = .ok (.if_icmp .ge 87, 3) := by decide +kernel
theorem dX6_makes_54 : decode cX6_makes 54 = .ok (.bipush 15, 2) := by decide +kernel
theorem dX6_makes_56 : decode cX6_makes 56 = .ok (.istore_n 2, 1) := by decide +kernel
theorem dX6_makes_57 : decode cX6_makes 57 = .ok (.iconst 0, 1) := by decide +kernel
theorem dX6_makes_58 : decode cX6_makes 58 = .ok (.istore_n 3, 1) := by decide +kernel
theorem dX6_makes_59 : decode cX6_makes 59 = .ok (.iload_n 3, 1) := by decide +kernel
theorem dX6_makes_60 : decode cX6_makes 60 = .ok (.iconst 1, 1) := by decide +kernel
theorem dX6_makes_61 : decode cX6_makes 61 = .ok (.aload_n 0, 1) := by decide +kernel
theorem dX6_makes_62 : decode cX6_makes 62 = .ok (.getfield 80, 3) := by decide +kernel
theorem dX6_makes_65 : decode cX6_makes 65 = .ok (.ishl, 1) := by decide +kernel
theorem dX6_makes_66 : decode cX6_makes 66 = .ok (.if_icmp .ge 66, 3) := by decide +kernel
theorem dX6_makes_69 : decode cX6_makes 69 = .ok (.iload_n 1, 1) := by decide +kernel
theorem dX6_makes_70 : decode cX6_makes 70 = .ok (.aload_n 0, 1) := by decide +kernel
theorem dX6_makes_71 : decode cX6_makes 71 = .ok (.invokevirtual 124, 3) := by decide +kernel
theorem dX6_makes_74 : decode cX6_makes 74 = .ok (.iand, 1) := by decide +kernel
theorem dX6_makes_75 : decode cX6_makes 75 = .ok (.aload_n 0, 1) := by decide +kernel
theorem dX6_makes_76 : decode cX6_makes 76 = .ok (.getfield 51, 3) := by decide +kernel
theorem dX6_makes_79 : decode cX6_makes 79 = .ok (.iload_n 3, 1) := by decide +kernel
theorem dX6_makes_80 : decode cX6_makes 80 = .ok (.iaload, 1) := by decide +kernel
theorem dX6_makes_81 : decode cX6_makes 81 = .ok (.ixor, 1) := by decide +kernel
theorem dX6_makes_82 : decode cX6_makes 82 = .ok (.invokestatic 131, 3) := by decide +kernel
theorem dX6_makes_85 : decode cX6_makes 85 = .ok (.istore 4, 2) := by decide +kernel
theorem dX6_makes_87 : decode cX6_makes 87 = .ok (.iload 4, 2) := by decide +kernel
theorem dX6_makes_89 : decode cX6_makes 89 = .ok (.iload_n 2, 1) := by decide +kernel
theorem dX6_makes_90 : decode cX6_makes 90 = .ok (.if_icmp .ne 10, 3) := by decide +kernel
theorem dX6_makes_93 : decode cX6_makes 93 = .ok (.aload_n 0, 1) := by decide +kernel
theorem dX6_makes_94 : decode cX6_makes 94 = .ok (.getfield 54, 3) := by decide +kernel
theorem dX6_makes_97 : decode cX6_makes 97 = .ok (.iload_n 1, 1) := by decide +kernel
theorem dX6_makes_98 : decode cX6_makes 98 = .ok (.iconst 0, 1) := by decide +kernel
theorem dX6_makes_99 : decode cX6_makes 99 = .ok (.bastore, 1) := by decide +kernel
theorem dX6_makes_100 : decode cX6_makes 100 = .ok (.iload 4, 2) := by decide +kernel
theorem dX6_makes_102 : decode cX6_makes 102 = .ok (.iload_n 2, 1) := by decide +kernel
theorem dX6_makes_103 : decode cX6_makes 103 = .ok (.if_icmp .lt 6, 3) := by decide +kernel
theorem dX6_makes_106 : decode cX6_makes 106 = .ok (.goto 20, 3) := by decide +kernel
theorem dX6_makes_109 : decode cX6_makes 109 = .ok (.iload 4, 2) := by decide +kernel
theorem dX6_makes_111 : decode cX6_makes 111 = .ok (.istore_n 2, 1) := by decide +kernel
theorem dX6_makes_112 : decode cX6_makes 112 = .ok (.aload_n 0, 1) := by decide +kernel
theorem dX6_makes_113 : decode cX6_makes 113 = .ok (.getfield 48, 3) := by decide +kernel
theorem dX6_makes_116 : decode cX6_makes 116 = .ok (.iload_n 1, 1) := by decide +kernel
theorem dX6_makes_117 : decode cX6_makes 117 = .ok (.iload_n 3, 1) := by decide +kernel
theorem dX6_makes_118 : decode cX6_makes 118 = .ok (.iastore, 1) := by decide +kernel
theorem dX6_makes_119 : decode cX6_makes 119 = .ok (.aload_n 0, 1) := by decide +kernel
theorem dX6_makes_120 : decode cX6_makes 120 = .ok (.getfield 54, 3) := by decide +kernel
theorem dX6_makes_123 : decode cX6_makes 123 = .ok (.iload_n 1, 1) := by decide +kernel
theorem dX6_makes_124 : decode cX6_makes 124 = .ok (.iconst 1, 1) := by decide +kernel
theorem dX6_makes_125 : decode cX6_makes 125 = .ok (.bastore, 1) := by decide +kernel
theorem dX6_makes_126 : decode cX6_makes 126 = .ok (.iinc 3 1, 3) := by decide +kernel
theorem dX6_makes_129 : decode cX6_makes 129 = .ok (.goto (-70), 3) := by decide +kernel
theorem dX6_makes_132 : decode cX6_makes 132 = .ok (.iinc 1 1, 3) := by decide +kernel
theorem dX6_makes_135 : decode cX6_makes 135 = .ok (.goto (-91), 3) := by decide +kernel
theorem dX6_makes_138 : decode cX6_makes 138 = .ok (.return_, 1) := by decide +kernel
theorem dX6_mended_0 : decode cX6_mended 0 = .ok (.aload_n 0, 1) := by decide +kernel
theorem dX6_mended_1 : decode cX6_mended 1 = .ok (.iload_n 1, 1) := by decide +kernel
theorem dX6_mended_2 : decode cX6_mended 2 = .ok (.invokevirtual 104, 3) := by decide +kernel
theorem dX6_mended_5 : decode cX6_mended 5 = .ok (.ifCond .ne 9, 3) := by decide +kernel
theorem dX6_mended_8 : decode cX6_mended 8 = .ok (.aload_n 0, 1) := by decide +kernel
theorem dX6_mended_9 : decode cX6_mended 9 = .ok (.iconst (-1), 1) := by decide +kernel
theorem dX6_mended_10 : decode cX6_mended 10 = .ok (.invokevirtual 94, 3) := by decide +kernel
theorem dX6_mended_13 : decode cX6_mended 13 = .ok (.ireturn, 1) := by decide +kernel
theorem dX6_mended_14 : decode cX6_mended 14 = .ok (.aload_n 0, 1) := by decide +kernel
theorem dX6_mended_15 : decode cX6_mended 15 = .ok (.invokevirtual 137, 3) := by decide +kernel
theorem dX6_mended_18 : decode cX6_mended 18 = .ok (.aload_n 0, 1) := by decide +kernel
theorem dX6_mended_19 : decode cX6_mended 19 = .ok (.getfield 48, 3) := by decide +kernel
theorem dX6_mended_22 : decode cX6_mended 22 = .ok (.iload_n 1, 1) := by decide +kernel
theorem dX6_mended_23 : decode cX6_mended 23 = .ok (.iaload, 1) := by decide +kernel
theorem dX6_mended_24 : decode cX6_mended 24 = .ok (.ireturn, 1) := by decide +kernel
theorem dX6_clear_0 : decode cX6_clear 0 = .ok (.aload_n 0, 1) := by decide +kernel
theorem dX6_clear_1 : decode cX6_clear 1 = .ok (.iload_n 1, 1) := by decide +kernel
theorem dX6_clear_2 : decode cX6_clear 2 = .ok (.invokevirtual 104, 3) := by decide +kernel
theorem dX6_clear_5 : decode cX6_clear 5 = .ok (.ifCond .ne 9, 3) := by decide +kernel
theorem dX6_clear_8 : decode cX6_clear 8 = .ok (.aload_n 0, 1) := by decide +kernel
theorem dX6_clear_9 : decode cX6_clear 9 = .ok (.iconst (-1), 1) := by decide +kernel
theorem dX6_clear_10 : decode cX6_clear 10 = .ok (.invokevirtual 94, 3) := by decide +kernel
theorem dX6_clear_13 : decode cX6_clear 13 = .ok (.ireturn, 1) := by decide +kernel
theorem dX6_clear_14 : decode cX6_clear 14 = .ok (.aload_n 0, 1) := by decide +kernel
theorem dX6_clear_15 : decode cX6_clear 15 = .ok (.invokevirtual 137, 3) := by decide +kernel
theorem dX6_clear_18 : decode cX6_clear 18 = .ok (.aload_n 0, 1) := by decide +kernel
theorem dX6_clear_19 : decode cX6_clear 19 = .ok (.getfield 54, 3) := by decide +kernel
theorem dX6_clear_22 : decode cX6_clear 22 = .ok (.iload_n 1, 1) := by decide +kernel
theorem dX6_clear_23 : decode cX6_clear 23 = .ok (.baload, 1) := by decide +kernel
theorem dX6_clear_24 : decode cX6_clear 24 = .ok (.ifCond .eq 7, 3) := by decide +kernel
theorem dX6_clear_27 : decode cX6_clear 27 = .ok (.iconst 1, 1) := by decide +kernel
theorem dX6_clear_28 : decode cX6_clear 28 = .ok (.goto 4, 3) := by decide +kernel
theorem dX6_clear_31 : decode cX6_clear 31 = .ok (.iconst 0, 1) := by decide +kernel
theorem dX6_clear_32 : decode cX6_clear 32 = .ok (.ireturn, 1) := by decide +kernel
theorem dX6_isChip_0 : decode cX6_isChip 0 = .ok (.iload_n 1, 1) := by decide +kernel
theorem dX6_isChip_1 : decode cX6_isChip 1 = .ok (.aload_n 0, 1) := by decide +kernel
theorem dX6_isChip_2 : decode cX6_isChip 2 = .ok (.getfield 98, 3) := by decide +kernel
theorem dX6_isChip_5 : decode cX6_isChip 5 = .ok (.invokestatic 73, 3) := by decide +kernel
theorem dX6_isChip_8 : decode cX6_isChip 8 = .ok (.ireturn, 1) := by decide +kernel
theorem dX6_enrol_0 : decode cX6_enrol 0 = .ok (.aload_n 0, 1) := by decide +kernel
theorem dX6_enrol_1 : decode cX6_enrol 1 = .ok (.iload_n 1, 1) := by decide +kernel
theorem dX6_enrol_2 : decode cX6_enrol 2 = .ok (.invokevirtual 140, 3) := by decide +kernel
theorem dX6_enrol_5 : decode cX6_enrol 5 = .ok (.ifCond .eq 11, 3) := by decide +kernel
theorem dX6_enrol_8 : decode cX6_enrol 8 = .ok (.aload_n 0, 1) := by decide +kernel
theorem dX6_enrol_9 : decode cX6_enrol 9 = .ok (.iload_n 2, 1) := by decide +kernel
theorem dX6_enrol_10 : decode cX6_enrol 10 = .ok (.invokevirtual 134, 3) := by decide +kernel
theorem dX6_enrol_13 : decode cX6_enrol 13 = .ok (.ifCond .ne 9, 3) := by decide +kernel
theorem dX6_enrol_16 : decode cX6_enrol 16 = .ok (.aload_n 0, 1) := by decide +kernel
theorem dX6_enrol_17 : decode cX6_enrol 17 = .ok (.iconst (-1), 1) := by decide +kernel
theorem dX6_enrol_18 : decode cX6_enrol 18 = .ok (.invokevirtual 94, 3) := by decide +kernel
theorem dX6_enrol_21 : decode cX6_enrol 21 = .ok (.ireturn, 1) := by decide +kernel
theorem dX6_enrol_22 : decode cX6_enrol 22 = .ok (.aload_n 0, 1) := by decide +kernel
theorem dX6_enrol_23 : decode cX6_enrol 23 = .ok (.getfield 25, 3) := by decide +kernel
theorem dX6_enrol_26 : decode cX6_enrol 26 = .ok (.iload_n 1, 1) := by decide +kernel
theorem dX6_enrol_27 : decode cX6_enrol 27 = .ok (.aload_n 0, 1) := by decide +kernel
theorem dX6_enrol_28 : decode cX6_enrol 28 = .ok (.getfield 22, 3) := by decide +kernel
theorem dX6_enrol_31 : decode cX6_enrol 31 = .ok (.iload_n 1, 1) := by decide +kernel
theorem dX6_enrol_32 : decode cX6_enrol 32 = .ok (.iaload, 1) := by decide +kernel
theorem dX6_enrol_33 : decode cX6_enrol 33 = .ok (.aload_n 0, 1) := by decide +kernel
theorem dX6_enrol_34 : decode cX6_enrol 34 = .ok (.invokevirtual 124, 3) := by decide +kernel
theorem dX6_enrol_37 : decode cX6_enrol 37 = .ok (.iand, 1) := by decide +kernel
theorem dX6_enrol_38 : decode cX6_enrol 38 = .ok (.aload_n 0, 1) := by decide +kernel
theorem dX6_enrol_39 : decode cX6_enrol 39 = .ok (.iload_n 2, 1) := by decide +kernel
theorem dX6_enrol_40 : decode cX6_enrol 40 = .ok (.invokevirtual 128, 3) := by decide +kernel
theorem dX6_enrol_43 : decode cX6_enrol 43 = .ok (.ixor, 1) := by decide +kernel
theorem dX6_enrol_44 : decode cX6_enrol 44 = .ok (.iastore, 1) := by decide +kernel
theorem dX6_enrol_45 : decode cX6_enrol 45 = .ok (.aload_n 0, 1) := by decide +kernel
theorem dX6_enrol_46 : decode cX6_enrol 46 = .ok (.getfield 28, 3) := by decide +kernel
theorem dX6_enrol_49 : decode cX6_enrol 49 = .ok (.iload_n 1, 1) := by decide +kernel
theorem dX6_enrol_50 : decode cX6_enrol 50 = .ok (.iload_n 2, 1) := by decide +kernel
theorem dX6_enrol_51 : decode cX6_enrol 51 = .ok (.iastore, 1) := by decide +kernel
theorem dX6_enrol_52 : decode cX6_enrol 52 = .ok (.aload_n 0, 1) := by decide +kernel
theorem dX6_enrol_53 : decode cX6_enrol 53 = .ok (.getfield 37, 3) := by decide +kernel
theorem dX6_enrol_56 : decode cX6_enrol 56 = .ok (.iload_n 1, 1) := by decide +kernel
theorem dX6_enrol_57 : decode cX6_enrol 57 = .ok (.iconst 1, 1) := by decide +kernel
theorem dX6_enrol_58 : decode cX6_enrol 58 = .ok (.bastore, 1) := by decide +kernel
theorem dX6_enrol_59 : decode cX6_enrol 59 = .ok (.aload_n 0, 1) := by decide +kernel
theorem dX6_enrol_60 : decode cX6_enrol 60 = .ok (.getfield 25, 3) := by decide +kernel
theorem dX6_enrol_63 : decode cX6_enrol 63 = .ok (.iload_n 1, 1) := by decide +kernel
theorem dX6_enrol_64 : decode cX6_enrol 64 = .ok (.iaload, 1) := by decide +kernel
theorem dX6_enrol_65 : decode cX6_enrol 65 = .ok (.ireturn, 1) := by decide +kernel
theorem dX6_reading_0 : decode cX6_reading 0 = .ok (.aload_n 0, 1) := by decide +kernel
theorem dX6_reading_1 : decode cX6_reading 1 = .ok (.iload_n 1, 1) := by decide +kernel
theorem dX6_reading_2 : decode cX6_reading 2 = .ok (.invokevirtual 140, 3) := by decide +kernel
theorem dX6_reading_5 : decode cX6_reading 5 = .ok (.ifCond .eq 11, 3) := by decide +kernel
theorem dX6_reading_8 : decode cX6_reading 8 = .ok (.aload_n 0, 1) := by decide +kernel
theorem dX6_reading_9 : decode cX6_reading 9 = .ok (.iload_n 2, 1) := by decide +kernel
theorem dX6_reading_10 : decode cX6_reading 10 = .ok (.invokevirtual 104, 3) := by decide +kernel
theorem dX6_reading_13 : decode cX6_reading 13 = .ok (.ifCond .ne 9, 3) := by decide +kernel
theorem dX6_reading_16 : decode cX6_reading 16 = .ok (.aload_n 0, 1) := by decide +kernel
theorem dX6_reading_17 : decode cX6_reading 17 = .ok (.iconst (-1), 1) := by decide +kernel
theorem dX6_reading_18 : decode cX6_reading 18 = .ok (.invokevirtual 94, 3) := by decide +kernel
theorem dX6_reading_21 : decode cX6_reading 21 = .ok (.ireturn, 1) := by decide +kernel
theorem dX6_reading_22 : decode cX6_reading 22 = .ok (.aload_n 0, 1) := by decide +kernel
theorem dX6_reading_23 : decode cX6_reading 23 = .ok (.getfield 37, 3) := by decide +kernel
theorem dX6_reading_26 : decode cX6_reading 26 = .ok (.iload_n 1, 1) := by decide +kernel
theorem dX6_reading_27 : decode cX6_reading 27 = .ok (.baload, 1) := by decide +kernel
theorem dX6_reading_28 : decode cX6_reading 28 = .ok (.ifCond .ne 10, 3) := by decide +kernel
theorem dX6_reading_31 : decode cX6_reading 31 = .ok (.aload_n 0, 1) := by decide +kernel
theorem dX6_reading_32 : decode cX6_reading 32 = .ok (.bipush (-3), 2) := by decide +kernel
theorem dX6_reading_34 : decode cX6_reading 34 = .ok (.invokevirtual 94, 3) := by decide +kernel
theorem dX6_reading_37 : decode cX6_reading 37 = .ok (.ireturn, 1) := by decide +kernel
theorem dX6_reading_38 : decode cX6_reading 38 = .ok (.aload_n 0, 1) := by decide +kernel
theorem dX6_reading_39 : decode cX6_reading 39 = .ok (.invokevirtual 137, 3) := by decide +kernel
theorem dX6_reading_42 : decode cX6_reading 42 = .ok (.aload_n 0, 1) := by decide +kernel
theorem dX6_reading_43 : decode cX6_reading 43 = .ok (.getfield 48, 3) := by decide +kernel
theorem dX6_reading_46 : decode cX6_reading 46 = .ok (.iload_n 2, 1) := by decide +kernel
theorem dX6_reading_47 : decode cX6_reading 47 = .ok (.aload_n 0, 1) := by decide +kernel
theorem dX6_reading_48 : decode cX6_reading 48 = .ok (.getfield 25, 3) := by decide +kernel
theorem dX6_reading_51 : decode cX6_reading 51 = .ok (.iload_n 1, 1) := by decide +kernel
theorem dX6_reading_52 : decode cX6_reading 52 = .ok (.iaload, 1) := by decide +kernel
theorem dX6_reading_53 : decode cX6_reading 53 = .ok (.ixor, 1) := by decide +kernel
theorem dX6_reading_54 : decode cX6_reading 54 = .ok (.iaload, 1) := by decide +kernel
theorem dX6_reading_55 : decode cX6_reading 55 = .ok (.ireturn, 1) := by decide +kernel
theorem dX6_failOf_0 : decode cX6_failOf 0 = .ok (.aload_n 0, 1) := by decide +kernel
theorem dX6_failOf_1 : decode cX6_failOf 1 = .ok (.invokevirtual 137, 3) := by decide +kernel
theorem dX6_failOf_4 : decode cX6_failOf 4 = .ok (.aload_n 0, 1) := by decide +kernel
theorem dX6_failOf_5 : decode cX6_failOf 5 = .ok (.getfield 57, 3) := by decide +kernel
theorem dX6_failOf_8 : decode cX6_failOf 8 = .ok (.iconst 0, 1) := by decide +kernel
theorem dX6_failOf_9 : decode cX6_failOf 9 = .ok (.lconst 1, 1) := by decide +kernel
theorem dX6_failOf_10 : decode cX6_failOf 10 = .ok (.lastore, 1) := by decide +kernel
theorem dX6_failOf_11 : decode cX6_failOf 11 = .ok (.iconst 1, 1) := by decide +kernel
theorem dX6_failOf_12 : decode cX6_failOf 12 = .ok (.istore_n 3, 1) := by decide +kernel
theorem dX6_failOf_13 : decode cX6_failOf 13 = .ok (.iconst 0, 1) := by decide +kernel
theorem dX6_failOf_14 : decode cX6_failOf 14 = .ok (.istore 4, 2) := by decide +kernel
theorem dX6_failOf_16 : decode cX6_failOf 16 = .ok (.iload 4, 2) := by decide +kernel
theorem dX6_failOf_18 : decode cX6_failOf 18 = .ok (.aload_n 0, 1) := by decide +kernel
theorem dX6_failOf_19 : decode cX6_failOf 19 = .ok (.getfield 44, 3) := by decide +kernel
theorem dX6_failOf_22 : decode cX6_failOf 22 = .ok (.if_icmp .ge 107, 3) := by decide +kernel
theorem dX6_failOf_25 : decode cX6_failOf 25 = .ok (.aload_n 0, 1) := by decide +kernel
theorem dX6_failOf_26 : decode cX6_failOf 26 = .ok (.iload 4, 2) := by decide +kernel
theorem dX6_failOf_28 : decode cX6_failOf 28 = .ok (.iload_n 2, 1) := by decide +kernel
theorem dX6_failOf_29 : decode cX6_failOf 29 = .ok (.invokevirtual 117, 3) := by decide +kernel
theorem dX6_failOf_32 : decode cX6_failOf 32 = .ok (.istore 5, 2) := by decide +kernel
theorem dX6_failOf_34 : decode cX6_failOf 34 = .ok (.aload_n 0, 1) := by decide +kernel
theorem dX6_failOf_35 : decode cX6_failOf 35 = .ok (.getfield 77, 3) := by decide +kernel
theorem dX6_failOf_38 : decode cX6_failOf 38 = .ok (.iload 4, 2) := by decide +kernel
theorem dX6_failOf_40 : decode cX6_failOf 40 = .ok (.ishr, 1) := by decide +kernel
theorem dX6_failOf_41 : decode cX6_failOf 41 = .ok (.iconst 1, 1) := by decide +kernel
theorem dX6_failOf_42 : decode cX6_failOf 42 = .ok (.iand, 1) := by decide +kernel
theorem dX6_failOf_43 : decode cX6_failOf 43 = .ok (.iconst 1, 1) := by decide +kernel
theorem dX6_failOf_44 : decode cX6_failOf 44 = .ok (.if_icmp .ne 7, 3) := by decide +kernel
theorem dX6_failOf_47 : decode cX6_failOf 47 = .ok (.iconst 1, 1) := by decide +kernel
theorem dX6_failOf_48 : decode cX6_failOf 48 = .ok (.goto 4, 3) := by decide +kernel
theorem dX6_failOf_51 : decode cX6_failOf 51 = .ok (.iconst 0, 1) := by decide +kernel
theorem dX6_failOf_52 : decode cX6_failOf 52 = .ok (.istore 6, 2) := by decide +kernel
theorem dX6_failOf_54 : decode cX6_failOf 54 = .ok (.iconst 0, 1) := by decide +kernel
theorem dX6_failOf_55 : decode cX6_failOf 55 = .ok (.istore 7, 2) := by decide +kernel
theorem dX6_failOf_57 : decode cX6_failOf 57 = .ok (.iload 7, 2) := by decide +kernel
theorem dX6_failOf_59 : decode cX6_failOf 59 = .ok (.iload_n 3, 1) := by decide +kernel
theorem dX6_failOf_60 : decode cX6_failOf 60 = .ok (.if_icmp .ge 59, 3) := by decide +kernel
theorem dX6_failOf_63 : decode cX6_failOf 63 = .ok (.aload_n 0, 1) := by decide +kernel
theorem dX6_failOf_64 : decode cX6_failOf 64 = .ok (.getfield 57, 3) := by decide +kernel
theorem dX6_failOf_67 : decode cX6_failOf 67 = .ok (.iload 7, 2) := by decide +kernel
theorem dX6_failOf_69 : decode cX6_failOf 69 = .ok (.iload_n 3, 1) := by decide +kernel
theorem dX6_failOf_70 : decode cX6_failOf 70 = .ok (.iadd, 1) := by decide +kernel
theorem dX6_failOf_71 : decode cX6_failOf 71 = .ok (.iload 6, 2) := by decide +kernel
theorem dX6_failOf_73 : decode cX6_failOf 73 = .ok (.ifCond .eq 7, 3) := by decide +kernel
theorem dX6_failOf_76 : decode cX6_failOf 76 = .ok (.lconst 0, 1) := by decide +kernel
theorem dX6_failOf_77 : decode cX6_failOf 77 = .ok (.goto 14, 3) := by decide +kernel
theorem dX6_failOf_80 : decode cX6_failOf 80 = .ok (.aload_n 0, 1) := by decide +kernel
theorem dX6_failOf_81 : decode cX6_failOf 81 = .ok (.getfield 57, 3) := by decide +kernel
theorem dX6_failOf_84 : decode cX6_failOf 84 = .ok (.iload 7, 2) := by decide +kernel
theorem dX6_failOf_86 : decode cX6_failOf 86 = .ok (.laload, 1) := by decide +kernel
theorem dX6_failOf_87 : decode cX6_failOf 87 = .ok (.iload 5, 2) := by decide +kernel
theorem dX6_failOf_89 : decode cX6_failOf 89 = .ok (.i2l, 1) := by decide +kernel
theorem dX6_failOf_90 : decode cX6_failOf 90 = .ok (.lmul, 1) := by decide +kernel
theorem dX6_failOf_91 : decode cX6_failOf 91 = .ok (.lastore, 1) := by decide +kernel
theorem dX6_failOf_92 : decode cX6_failOf 92 = .ok (.iload 6, 2) := by decide +kernel
theorem dX6_failOf_94 : decode cX6_failOf 94 = .ok (.ifCond .ne 19, 3) := by decide +kernel
theorem dX6_failOf_97 : decode cX6_failOf 97 = .ok (.aload_n 0, 1) := by decide +kernel
theorem dX6_failOf_98 : decode cX6_failOf 98 = .ok (.getfield 57, 3) := by decide +kernel
theorem dX6_failOf_101 : decode cX6_failOf 101 = .ok (.iload 7, 2) := by decide +kernel
theorem dX6_failOf_103 : decode cX6_failOf 103 = .ok (.dup2, 1) := by decide +kernel
theorem dX6_failOf_104 : decode cX6_failOf 104 = .ok (.laload, 1) := by decide +kernel
theorem dX6_failOf_105 : decode cX6_failOf 105 = .ok (.bipush 8, 2) := by decide +kernel
theorem dX6_failOf_107 : decode cX6_failOf 107 = .ok (.iload 5, 2) := by decide +kernel
theorem dX6_failOf_109 : decode cX6_failOf 109 = .ok (.isub, 1) := by decide +kernel
theorem dX6_failOf_110 : decode cX6_failOf 110 = .ok (.i2l, 1) := by decide +kernel
theorem dX6_failOf_111 : decode cX6_failOf 111 = .ok (.lmul, 1) := by decide +kernel
theorem dX6_failOf_112 : decode cX6_failOf 112 = .ok (.lastore, 1) := by decide +kernel
theorem dX6_failOf_113 : decode cX6_failOf 113 = .ok (.iinc 7 1, 3) := by decide +kernel
theorem dX6_failOf_116 : decode cX6_failOf 116 = .ok (.goto (-59), 3) := by decide +kernel
theorem dX6_failOf_119 : decode cX6_failOf 119 = .ok (.iload_n 3, 1) := by decide +kernel
theorem dX6_failOf_120 : decode cX6_failOf 120 = .ok (.iconst 2, 1) := by decide +kernel
theorem dX6_failOf_121 : decode cX6_failOf 121 = .ok (.imul, 1) := by decide +kernel
theorem dX6_failOf_122 : decode cX6_failOf 122 = .ok (.istore_n 3, 1) := by decide +kernel
theorem dX6_failOf_123 : decode cX6_failOf 123 = .ok (.iinc 4 1, 3) := by decide +kernel
theorem dX6_failOf_126 : decode cX6_failOf 126 = .ok (.goto (-110), 3) := by decide +kernel
theorem dX6_failOf_129 : decode cX6_failOf 129 = .ok (.aload_n 0, 1) := by decide +kernel
theorem dX6_failOf_130 : decode cX6_failOf 130 = .ok (.getfield 51, 3) := by decide +kernel
theorem dX6_failOf_133 : decode cX6_failOf 133 = .ok (.aload_n 0, 1) := by decide +kernel
theorem dX6_failOf_134 : decode cX6_failOf 134 = .ok (.getfield 28, 3) := by decide +kernel
theorem dX6_failOf_137 : decode cX6_failOf 137 = .ok (.iload_n 1, 1) := by decide +kernel
theorem dX6_failOf_138 : decode cX6_failOf 138 = .ok (.iaload, 1) := by decide +kernel
theorem dX6_failOf_139 : decode cX6_failOf 139 = .ok (.iaload, 1) := by decide +kernel
theorem dX6_failOf_140 : decode cX6_failOf 140 = .ok (.istore 4, 2) := by decide +kernel
theorem dX6_failOf_142 : decode cX6_failOf 142 = .ok (.lconst 0, 1) := by decide +kernel
theorem dX6_failOf_143 : decode cX6_failOf 143 = .ok (.lstore 5, 2) := by decide +kernel
theorem dX6_failOf_145 : decode cX6_failOf 145 = .ok (.iconst 0, 1) := by decide +kernel
theorem dX6_failOf_146 : decode cX6_failOf 146 = .ok (.istore 7, 2) := by decide +kernel
theorem dX6_failOf_148 : decode cX6_failOf 148 = .ok (.iload 7, 2) := by decide +kernel
theorem dX6_failOf_150 : decode cX6_failOf 150 = .ok (.iload_n 3, 1) := by decide +kernel
theorem dX6_failOf_151 : decode cX6_failOf 151 = .ok (.if_icmp .ge 40, 3) := by decide +kernel
theorem dX6_failOf_154 : decode cX6_failOf 154 = .ok (.aload_n 0, 1) := by decide +kernel
theorem dX6_failOf_155 : decode cX6_failOf 155 = .ok (.getfield 48, 3) := by decide +kernel
theorem dX6_failOf_158 : decode cX6_failOf 158 = .ok (.iload 4, 2) := by decide +kernel
theorem dX6_failOf_160 : decode cX6_failOf 160 = .ok (.iload 7, 2) := by decide +kernel
theorem dX6_failOf_162 : decode cX6_failOf 162 = .ok (.ixor, 1) := by decide +kernel
theorem dX6_failOf_163 : decode cX6_failOf 163 = .ok (.iaload, 1) := by decide +kernel
theorem dX6_failOf_164 : decode cX6_failOf 164 = .ok (.aload_n 0, 1) := by decide +kernel
theorem dX6_failOf_165 : decode cX6_failOf 165 = .ok (.getfield 28, 3) := by decide +kernel
theorem dX6_failOf_168 : decode cX6_failOf 168 = .ok (.iload_n 1, 1) := by decide +kernel
theorem dX6_failOf_169 : decode cX6_failOf 169 = .ok (.iaload, 1) := by decide +kernel
theorem dX6_failOf_170 : decode cX6_failOf 170 = .ok (.if_icmp .eq 15, 3) := by decide +kernel
theorem dX6_failOf_173 : decode cX6_failOf 173 = .ok (.lload 5, 2) := by decide +kernel
theorem dX6_failOf_175 : decode cX6_failOf 175 = .ok (.aload_n 0, 1) := by decide +kernel
theorem dX6_failOf_176 : decode cX6_failOf 176 = .ok (.getfield 57, 3) := by decide +kernel
theorem dX6_failOf_179 : decode cX6_failOf 179 = .ok (.iload 7, 2) := by decide +kernel
theorem dX6_failOf_181 : decode cX6_failOf 181 = .ok (.laload, 1) := by decide +kernel
theorem dX6_failOf_182 : decode cX6_failOf 182 = .ok (.ladd, 1) := by decide +kernel
theorem dX6_failOf_183 : decode cX6_failOf 183 = .ok (.lstore 5, 2) := by decide +kernel
theorem dX6_failOf_185 : decode cX6_failOf 185 = .ok (.iinc 7 1, 3) := by decide +kernel
theorem dX6_failOf_188 : decode cX6_failOf 188 = .ok (.goto (-40), 3) := by decide +kernel
theorem dX6_failOf_191 : decode cX6_failOf 191 = .ok (.lload 5, 2) := by decide +kernel
theorem dX6_failOf_193 : decode cX6_failOf 193 = .ok (.lreturn, 1) := by decide +kernel
theorem dX6_allOf_0 : decode cX6_allOf 0 = .ok (.lconst 1, 1) := by decide +kernel
theorem dX6_allOf_1 : decode cX6_allOf 1 = .ok (.iconst 3, 1) := by decide +kernel
theorem dX6_allOf_2 : decode cX6_allOf 2 = .ok (.aload_n 0, 1) := by decide +kernel
theorem dX6_allOf_3 : decode cX6_allOf 3 = .ok (.invokevirtual 124, 3) := by decide +kernel
theorem dX6_allOf_6 : decode cX6_allOf 6 = .ok (.invokestatic 131, 3) := by decide +kernel
theorem dX6_allOf_9 : decode cX6_allOf 9 = .ok (.imul, 1) := by decide +kernel
theorem dX6_allOf_10 : decode cX6_allOf 10 = .ok (.lshl, 1) := by decide +kernel
theorem dX6_allOf_11 : decode cX6_allOf 11 = .ok (.lreturn, 1) := by decide +kernel
theorem dX6_fail_0 : decode cX6_fail 0 = .ok (.aload_n 0, 1) := by decide +kernel
theorem dX6_fail_1 : decode cX6_fail 1 = .ok (.iconst 0, 1) := by decide +kernel
theorem dX6_fail_2 : decode cX6_fail 2 = .ok (.putfield 70, 3) := by decide +kernel
theorem dX6_fail_5 : decode cX6_fail 5 = .ok (.aload_n 0, 1) := by decide +kernel
theorem dX6_fail_6 : decode cX6_fail 6 = .ok (.iload_n 1, 1) := by decide +kernel
theorem dX6_fail_7 : decode cX6_fail 7 = .ok (.invokevirtual 140, 3) := by decide +kernel
theorem dX6_fail_10 : decode cX6_fail 10 = .ok (.ifCond .eq 12, 3) := by decide +kernel
theorem dX6_fail_13 : decode cX6_fail 13 = .ok (.iload_n 2, 1) := by decide +kernel
theorem dX6_fail_14 : decode cX6_fail 14 = .ok (.bipush 41, 2) := by decide +kernel
theorem dX6_fail_16 : decode cX6_fail 16 = .ok (.invokestatic 73, 3) := by decide +kernel
theorem dX6_fail_19 : decode cX6_fail 19 = .ok (.ifCond .ne 10, 3) := by decide +kernel
theorem dX6_fail_22 : decode cX6_fail 22 = .ok (.aload_n 0, 1) := by decide +kernel
theorem dX6_fail_23 : decode cX6_fail 23 = .ok (.iconst 1, 1) := by decide +kernel
theorem dX6_fail_24 : decode cX6_fail 24 = .ok (.invokevirtual 143, 3) := by decide +kernel
theorem dX6_fail_27 : decode cX6_fail 27 = .ok (.i2l, 1) := by decide +kernel
theorem dX6_fail_28 : decode cX6_fail 28 = .ok (.lreturn, 1) := by decide +kernel
theorem dX6_fail_29 : decode cX6_fail 29 = .ok (.aload_n 0, 1) := by decide +kernel
theorem dX6_fail_30 : decode cX6_fail 30 = .ok (.getfield 37, 3) := by decide +kernel
theorem dX6_fail_33 : decode cX6_fail 33 = .ok (.iload_n 1, 1) := by decide +kernel
theorem dX6_fail_34 : decode cX6_fail 34 = .ok (.baload, 1) := by decide +kernel
theorem dX6_fail_35 : decode cX6_fail 35 = .ok (.ifCond .ne 10, 3) := by decide +kernel
theorem dX6_fail_38 : decode cX6_fail 38 = .ok (.aload_n 0, 1) := by decide +kernel
theorem dX6_fail_39 : decode cX6_fail 39 = .ok (.iconst 2, 1) := by decide +kernel
theorem dX6_fail_40 : decode cX6_fail 40 = .ok (.invokevirtual 143, 3) := by decide +kernel
theorem dX6_fail_43 : decode cX6_fail 43 = .ok (.i2l, 1) := by decide +kernel
theorem dX6_fail_44 : decode cX6_fail 44 = .ok (.lreturn, 1) := by decide +kernel
theorem dX6_fail_45 : decode cX6_fail 45 = .ok (.aload_n 0, 1) := by decide +kernel
theorem dX6_fail_46 : decode cX6_fail 46 = .ok (.iload_n 1, 1) := by decide +kernel
theorem dX6_fail_47 : decode cX6_fail 47 = .ok (.iload_n 2, 1) := by decide +kernel
theorem dX6_fail_48 : decode cX6_fail 48 = .ok (.invokevirtual 146, 3) := by decide +kernel
theorem dX6_fail_51 : decode cX6_fail 51 = .ok (.lreturn, 1) := by decide +kernel
theorem dX6_all_0 : decode cX6_all 0 = .ok (.aload_n 0, 1) := by decide +kernel
theorem dX6_all_1 : decode cX6_all 1 = .ok (.invokevirtual 150, 3) := by decide +kernel
theorem dX6_all_4 : decode cX6_all 4 = .ok (.lreturn, 1) := by decide +kernel
theorem dX6_lasts_0 : decode cX6_lasts 0 = .ok (.aload_n 0, 1) := by decide +kernel
theorem dX6_lasts_1 : decode cX6_lasts 1 = .ok (.iload_n 1, 1) := by decide +kernel
theorem dX6_lasts_2 : decode cX6_lasts 2 = .ok (.invokevirtual 140, 3) := by decide +kernel
theorem dX6_lasts_5 : decode cX6_lasts 5 = .ok (.ifCond .ne 7, 3) := by decide +kernel
theorem dX6_lasts_8 : decode cX6_lasts 8 = .ok (.iconst (-1), 1) := by decide +kernel
theorem dX6_lasts_9 : decode cX6_lasts 9 = .ok (.goto 24, 3) := by decide +kernel
theorem dX6_lasts_12 : decode cX6_lasts 12 = .ok (.aload_n 0, 1) := by decide +kernel
theorem dX6_lasts_13 : decode cX6_lasts 13 = .ok (.getfield 37, 3) := by decide +kernel
theorem dX6_lasts_16 : decode cX6_lasts 16 = .ok (.iload_n 1, 1) := by decide +kernel
theorem dX6_lasts_17 : decode cX6_lasts 17 = .ok (.baload, 1) := by decide +kernel
theorem dX6_lasts_18 : decode cX6_lasts 18 = .ok (.ifCond .ne 8, 3) := by decide +kernel
theorem dX6_lasts_21 : decode cX6_lasts 21 = .ok (.bipush (-3), 2) := by decide +kernel
theorem dX6_lasts_23 : decode cX6_lasts 23 = .ok (.goto 10, 3) := by decide +kernel
theorem dX6_lasts_26 : decode cX6_lasts 26 = .ok (.iload_n 2, 1) := by decide +kernel
theorem dX6_lasts_27 : decode cX6_lasts 27 = .ok (.iconst 0, 1) := by decide +kernel
theorem dX6_lasts_28 : decode cX6_lasts 28 = .ok (.bipush 8, 2) := by decide +kernel
theorem dX6_lasts_30 : decode cX6_lasts 30 = .ok (.invokestatic 90, 3) := by decide +kernel
theorem dX6_lasts_33 : decode cX6_lasts 33 = .ok (.istore_n 3, 1) := by decide +kernel
theorem dX6_lasts_34 : decode cX6_lasts 34 = .ok (.iload_n 3, 1) := by decide +kernel
theorem dX6_lasts_35 : decode cX6_lasts 35 = .ok (.ifCond .eq 9, 3) := by decide +kernel
theorem dX6_lasts_38 : decode cX6_lasts 38 = .ok (.aload_n 0, 1) := by decide +kernel
theorem dX6_lasts_39 : decode cX6_lasts 39 = .ok (.iload_n 3, 1) := by decide +kernel
theorem dX6_lasts_40 : decode cX6_lasts 40 = .ok (.invokevirtual 94, 3) := by decide +kernel
theorem dX6_lasts_43 : decode cX6_lasts 43 = .ok (.ireturn, 1) := by decide +kernel
theorem dX6_lasts_44 : decode cX6_lasts 44 = .ok (.iconst 0, 1) := by decide +kernel
theorem dX6_lasts_45 : decode cX6_lasts 45 = .ok (.istore 4, 2) := by decide +kernel
theorem dX6_lasts_47 : decode cX6_lasts 47 = .ok (.iload 4, 2) := by decide +kernel
theorem dX6_lasts_49 : decode cX6_lasts 49 = .ok (.bipush 40, 2) := by decide +kernel
theorem dX6_lasts_51 : decode cX6_lasts 51 = .ok (.if_icmp .gt 34, 3) := by decide +kernel
theorem dX6_lasts_54 : decode cX6_lasts 54 = .ok (.ldc2_w 154, 3) := by decide +kernel
theorem dX6_lasts_57 : decode cX6_lasts 57 = .ok (.aload_n 0, 1) := by decide +kernel
theorem dX6_lasts_58 : decode cX6_lasts 58 = .ok (.iload_n 1, 1) := by decide +kernel
theorem dX6_lasts_59 : decode cX6_lasts 59 = .ok (.iload 4, 2) := by decide +kernel
theorem dX6_lasts_61 : decode cX6_lasts 61 = .ok (.invokevirtual 146, 3) := by decide +kernel
theorem dX6_lasts_64 : decode cX6_lasts 64 = .ok (.lmul, 1) := by decide +kernel
theorem dX6_lasts_65 : decode cX6_lasts 65 = .ok (.iload_n 2, 1) := by decide +kernel
theorem dX6_lasts_66 : decode cX6_lasts 66 = .ok (.i2l, 1) := by decide +kernel
theorem dX6_lasts_67 : decode cX6_lasts 67 = .ok (.aload_n 0, 1) := by decide +kernel
theorem dX6_lasts_68 : decode cX6_lasts 68 = .ok (.invokevirtual 150, 3) := by decide +kernel
theorem dX6_lasts_71 : decode cX6_lasts 71 = .ok (.lmul, 1) := by decide +kernel
theorem dX6_lasts_72 : decode cX6_lasts 72 = .ok (.lcmp, 1) := by decide +kernel
theorem dX6_lasts_73 : decode cX6_lasts 73 = .ok (.ifCond .le 6, 3) := by decide +kernel
theorem dX6_lasts_76 : decode cX6_lasts 76 = .ok (.iload 4, 2) := by decide +kernel
theorem dX6_lasts_78 : decode cX6_lasts 78 = .ok (.ireturn, 1) := by decide +kernel
theorem dX6_lasts_79 : decode cX6_lasts 79 = .ok (.iinc 4 1, 3) := by decide +kernel
theorem dX6_lasts_82 : decode cX6_lasts 82 = .ok (.goto (-35), 3) := by decide +kernel
theorem dX6_lasts_85 : decode cX6_lasts 85 = .ok (.bipush (-9), 2) := by decide +kernel
theorem dX6_lasts_87 : decode cX6_lasts 87 = .ok (.ireturn, 1) := by decide +kernel
theorem dX6_weightOf_0 : decode cX6_weightOf 0 = .ok (.lconst 1, 1) := by decide +kernel
theorem dX6_weightOf_1 : decode cX6_weightOf 1 = .ok (.lstore_n 2, 1) := by decide +kernel
theorem dX6_weightOf_2 : decode cX6_weightOf 2 = .ok (.iconst 0, 1) := by decide +kernel
theorem dX6_weightOf_3 : decode cX6_weightOf 3 = .ok (.istore 4, 2) := by decide +kernel
theorem dX6_weightOf_5 : decode cX6_weightOf 5 = .ok (.iload 4, 2) := by decide +kernel
theorem dX6_weightOf_7 : decode cX6_weightOf 7 = .ok (.aload_n 0, 1) := by decide +kernel
theorem dX6_weightOf_8 : decode cX6_weightOf 8 = .ok (.getfield 44, 3) := by decide +kernel
theorem dX6_weightOf_11 : decode cX6_weightOf 11 = .ok (.if_icmp .ge 56, 3) := by decide +kernel
theorem dX6_weightOf_14 : decode cX6_weightOf 14 = .ok (.aload_n 0, 1) := by decide +kernel
theorem dX6_weightOf_15 : decode cX6_weightOf 15 = .ok (.getfield 77, 3) := by decide +kernel
theorem dX6_weightOf_18 : decode cX6_weightOf 18 = .ok (.iload 4, 2) := by decide +kernel
theorem dX6_weightOf_20 : decode cX6_weightOf 20 = .ok (.ishr, 1) := by decide +kernel
theorem dX6_weightOf_21 : decode cX6_weightOf 21 = .ok (.iconst 1, 1) := by decide +kernel
theorem dX6_weightOf_22 : decode cX6_weightOf 22 = .ok (.iand, 1) := by decide +kernel
theorem dX6_weightOf_23 : decode cX6_weightOf 23 = .ok (.ifCond .ne 38, 3) := by decide +kernel
theorem dX6_weightOf_26 : decode cX6_weightOf 26 = .ok (.lload_n 2, 1) := by decide +kernel
theorem dX6_weightOf_27 : decode cX6_weightOf 27 = .ok (.iload_n 1, 1) := by decide +kernel
theorem dX6_weightOf_28 : decode cX6_weightOf 28 = .ok (.iload 4, 2) := by decide +kernel
theorem dX6_weightOf_30 : decode cX6_weightOf 30 = .ok (.ishr, 1) := by decide +kernel
theorem dX6_weightOf_31 : decode cX6_weightOf 31 = .ok (.iconst 1, 1) := by decide +kernel
theorem dX6_weightOf_32 : decode cX6_weightOf 32 = .ok (.iand, 1) := by decide +kernel
theorem dX6_weightOf_33 : decode cX6_weightOf 33 = .ok (.iconst 1, 1) := by decide +kernel
theorem dX6_weightOf_34 : decode cX6_weightOf 34 = .ok (.if_icmp .ne 14, 3) := by decide +kernel
theorem dX6_weightOf_37 : decode cX6_weightOf 37 = .ok (.aload_n 0, 1) := by decide +kernel
theorem dX6_weightOf_38 : decode cX6_weightOf 38 = .ok (.getfield 19, 3) := by decide +kernel
theorem dX6_weightOf_41 : decode cX6_weightOf 41 = .ok (.iload 4, 2) := by decide +kernel
theorem dX6_weightOf_43 : decode cX6_weightOf 43 = .ok (.iaload, 1) := by decide +kernel
theorem dX6_weightOf_44 : decode cX6_weightOf 44 = .ok (.i2l, 1) := by decide +kernel
theorem dX6_weightOf_45 : decode cX6_weightOf 45 = .ok (.goto 14, 3) := by decide +kernel
theorem dX6_weightOf_48 : decode cX6_weightOf 48 = .ok (.bipush 8, 2) := by decide +kernel
theorem dX6_weightOf_50 : decode cX6_weightOf 50 = .ok (.aload_n 0, 1) := by decide +kernel
theorem dX6_weightOf_51 : decode cX6_weightOf 51 = .ok (.getfield 19, 3) := by decide +kernel
theorem dX6_weightOf_54 : decode cX6_weightOf 54 = .ok (.iload 4, 2) := by decide +kernel
theorem dX6_weightOf_56 : decode cX6_weightOf 56 = .ok (.iaload, 1) := by decide +kernel
theorem dX6_weightOf_57 : decode cX6_weightOf 57 = .ok (.isub, 1) := by decide +kernel
theorem dX6_weightOf_58 : decode cX6_weightOf 58 = .ok (.i2l, 1) := by decide +kernel
theorem dX6_weightOf_59 : decode cX6_weightOf 59 = .ok (.lmul, 1) := by decide +kernel
theorem dX6_weightOf_60 : decode cX6_weightOf 60 = .ok (.lstore_n 2, 1) := by decide +kernel
theorem dX6_weightOf_61 : decode cX6_weightOf 61 = .ok (.iinc 4 1, 3) := by decide +kernel
theorem dX6_weightOf_64 : decode cX6_weightOf 64 = .ok (.goto (-59), 3) := by decide +kernel
theorem dX6_weightOf_67 : decode cX6_weightOf 67 = .ok (.lload_n 2, 1) := by decide +kernel
theorem dX6_weightOf_68 : decode cX6_weightOf 68 = .ok (.lreturn, 1) := by decide +kernel
theorem dX6_bestGuess_0 : decode cX6_bestGuess 0 = .ok (.iconst 0, 1) := by decide +kernel
theorem dX6_bestGuess_1 : decode cX6_bestGuess 1 = .ok (.istore_n 2, 1) := by decide +kernel
theorem dX6_bestGuess_2 : decode cX6_bestGuess 2 = .ok (.iconst 1, 1) := by decide +kernel
theorem dX6_bestGuess_3 : decode cX6_bestGuess 3 = .ok (.istore_n 3, 1) := by decide +kernel
theorem dX6_bestGuess_4 : decode cX6_bestGuess 4 = .ok (.iload_n 3, 1) := by decide +kernel
theorem dX6_bestGuess_5 : decode cX6_bestGuess 5 = .ok (.iconst 1, 1) := by decide +kernel
theorem dX6_bestGuess_6 : decode cX6_bestGuess 6 = .ok (.aload_n 0, 1) := by decide +kernel
theorem dX6_bestGuess_7 : decode cX6_bestGuess 7 = .ok (.getfield 80, 3) := by decide +kernel
theorem dX6_bestGuess_10 : decode cX6_bestGuess 10 = .ok (.ishl, 1) := by decide +kernel
theorem dX6_bestGuess_11 : decode cX6_bestGuess 11 = .ok (.if_icmp .ge 37, 3) := by decide +kernel
theorem dX6_bestGuess_14 : decode cX6_bestGuess 14 = .ok (.aload_n 0, 1) := by decide +kernel
theorem dX6_bestGuess_15 : decode cX6_bestGuess 15 = .ok (.iload_n 1, 1) := by decide +kernel
theorem dX6_bestGuess_16 : decode cX6_bestGuess 16 = .ok (.aload_n 0, 1) := by decide +kernel
theorem dX6_bestGuess_17 : decode cX6_bestGuess 17 = .ok (.iload_n 3, 1) := by decide +kernel
theorem dX6_bestGuess_18 : decode cX6_bestGuess 18 = .ok (.invokevirtual 128, 3) := by decide +kernel
theorem dX6_bestGuess_21 : decode cX6_bestGuess 21 = .ok (.ixor, 1) := by decide +kernel
theorem dX6_bestGuess_22 : decode cX6_bestGuess 22 = .ok (.invokevirtual 156, 3) := by decide +kernel
theorem dX6_bestGuess_25 : decode cX6_bestGuess 25 = .ok (.aload_n 0, 1) := by decide +kernel
theorem dX6_bestGuess_26 : decode cX6_bestGuess 26 = .ok (.iload_n 1, 1) := by decide +kernel
theorem dX6_bestGuess_27 : decode cX6_bestGuess 27 = .ok (.aload_n 0, 1) := by decide +kernel
theorem dX6_bestGuess_28 : decode cX6_bestGuess 28 = .ok (.iload_n 2, 1) := by decide +kernel
theorem dX6_bestGuess_29 : decode cX6_bestGuess 29 = .ok (.invokevirtual 128, 3) := by decide +kernel
theorem dX6_bestGuess_32 : decode cX6_bestGuess 32 = .ok (.ixor, 1) := by decide +kernel
theorem dX6_bestGuess_33 : decode cX6_bestGuess 33 = .ok (.invokevirtual 156, 3) := by decide +kernel
theorem dX6_bestGuess_36 : decode cX6_bestGuess 36 = .ok (.lcmp, 1) := by decide +kernel
theorem dX6_bestGuess_37 : decode cX6_bestGuess 37 = .ok (.ifCond .le 5, 3) := by decide +kernel
theorem dX6_bestGuess_40 : decode cX6_bestGuess 40 = .ok (.iload_n 3, 1) := by decide +kernel
theorem dX6_bestGuess_41 : decode cX6_bestGuess 41 = .ok (.istore_n 2, 1) := by decide +kernel
theorem dX6_bestGuess_42 : decode cX6_bestGuess 42 = .ok (.iinc 3 1, 3) := by decide +kernel
theorem dX6_bestGuess_45 : decode cX6_bestGuess 45 = .ok (.goto (-41), 3) := by decide +kernel
theorem dX6_bestGuess_48 : decode cX6_bestGuess 48 = .ok (.iload_n 2, 1) := by decide +kernel
theorem dX6_bestGuess_49 : decode cX6_bestGuess 49 = .ok (.ireturn, 1) := by decide +kernel
theorem dX6_guess_0 : decode cX6_guess 0 = .ok (.aload_n 0, 1) := by decide +kernel
theorem dX6_guess_1 : decode cX6_guess 1 = .ok (.iload_n 1, 1) := by decide +kernel
theorem dX6_guess_2 : decode cX6_guess 2 = .ok (.invokevirtual 104, 3) := by decide +kernel
theorem dX6_guess_5 : decode cX6_guess 5 = .ok (.ifCond .eq 11, 3) := by decide +kernel
theorem dX6_guess_8 : decode cX6_guess 8 = .ok (.aload_n 0, 1) := by decide +kernel
theorem dX6_guess_9 : decode cX6_guess 9 = .ok (.iload_n 1, 1) := by decide +kernel
theorem dX6_guess_10 : decode cX6_guess 10 = .ok (.invokevirtual 160, 3) := by decide +kernel
theorem dX6_guess_13 : decode cX6_guess 13 = .ok (.goto 8, 3) := by decide +kernel
theorem dX6_guess_16 : decode cX6_guess 16 = .ok (.aload_n 0, 1) := by decide +kernel
theorem dX6_guess_17 : decode cX6_guess 17 = .ok (.iconst (-1), 1) := by decide +kernel
theorem dX6_guess_18 : decode cX6_guess 18 = .ok (.invokevirtual 94, 3) := by decide +kernel
theorem dX6_guess_21 : decode cX6_guess 21 = .ok (.ireturn, 1) := by decide +kernel
theorem dX6_weight_0 : decode cX6_weight 0 = .ok (.aload_n 0, 1) := by decide +kernel
theorem dX6_weight_1 : decode cX6_weight 1 = .ok (.iconst 0, 1) := by decide +kernel
theorem dX6_weight_2 : decode cX6_weight 2 = .ok (.putfield 70, 3) := by decide +kernel
theorem dX6_weight_5 : decode cX6_weight 5 = .ok (.aload_n 0, 1) := by decide +kernel
theorem dX6_weight_6 : decode cX6_weight 6 = .ok (.iload_n 1, 1) := by decide +kernel
theorem dX6_weight_7 : decode cX6_weight 7 = .ok (.invokevirtual 104, 3) := by decide +kernel
theorem dX6_weight_10 : decode cX6_weight 10 = .ok (.ifCond .ne 10, 3) := by decide +kernel
theorem dX6_weight_13 : decode cX6_weight 13 = .ok (.aload_n 0, 1) := by decide +kernel
theorem dX6_weight_14 : decode cX6_weight 14 = .ok (.iconst 1, 1) := by decide +kernel
theorem dX6_weight_15 : decode cX6_weight 15 = .ok (.invokevirtual 143, 3) := by decide +kernel
theorem dX6_weight_18 : decode cX6_weight 18 = .ok (.i2l, 1) := by decide +kernel
theorem dX6_weight_19 : decode cX6_weight 19 = .ok (.lreturn, 1) := by decide +kernel
theorem dX6_weight_20 : decode cX6_weight 20 = .ok (.iload_n 2, 1) := by decide +kernel
theorem dX6_weight_21 : decode cX6_weight 21 = .ok (.ifCond .ne 19, 3) := by decide +kernel
theorem dX6_weight_24 : decode cX6_weight 24 = .ok (.aload_n 0, 1) := by decide +kernel
theorem dX6_weight_25 : decode cX6_weight 25 = .ok (.iload_n 1, 1) := by decide +kernel
theorem dX6_weight_26 : decode cX6_weight 26 = .ok (.aload_n 0, 1) := by decide +kernel
theorem dX6_weight_27 : decode cX6_weight 27 = .ok (.aload_n 0, 1) := by decide +kernel
theorem dX6_weight_28 : decode cX6_weight 28 = .ok (.iload_n 1, 1) := by decide +kernel
theorem dX6_weight_29 : decode cX6_weight 29 = .ok (.invokevirtual 160, 3) := by decide +kernel
theorem dX6_weight_32 : decode cX6_weight 32 = .ok (.invokevirtual 128, 3) := by decide +kernel
theorem dX6_weight_35 : decode cX6_weight 35 = .ok (.ixor, 1) := by decide +kernel
theorem dX6_weight_36 : decode cX6_weight 36 = .ok (.invokevirtual 156, 3) := by decide +kernel
theorem dX6_weight_39 : decode cX6_weight 39 = .ok (.lreturn, 1) := by decide +kernel
theorem dX6_weight_40 : decode cX6_weight 40 = .ok (.lconst 0, 1) := by decide +kernel
theorem dX6_weight_41 : decode cX6_weight 41 = .ok (.lstore_n 3, 1) := by decide +kernel
theorem dX6_weight_42 : decode cX6_weight 42 = .ok (.iconst 0, 1) := by decide +kernel
theorem dX6_weight_43 : decode cX6_weight 43 = .ok (.istore 5, 2) := by decide +kernel
theorem dX6_weight_45 : decode cX6_weight 45 = .ok (.iload 5, 2) := by decide +kernel
theorem dX6_weight_47 : decode cX6_weight 47 = .ok (.iconst 1, 1) := by decide +kernel
theorem dX6_weight_48 : decode cX6_weight 48 = .ok (.aload_n 0, 1) := by decide +kernel
theorem dX6_weight_49 : decode cX6_weight 49 = .ok (.getfield 80, 3) := by decide +kernel
theorem dX6_weight_52 : decode cX6_weight 52 = .ok (.ishl, 1) := by decide +kernel
theorem dX6_weight_53 : decode cX6_weight 53 = .ok (.if_icmp .ge 24, 3) := by decide +kernel
theorem dX6_weight_56 : decode cX6_weight 56 = .ok (.lload_n 3, 1) := by decide +kernel
theorem dX6_weight_57 : decode cX6_weight 57 = .ok (.aload_n 0, 1) := by decide +kernel
theorem dX6_weight_58 : decode cX6_weight 58 = .ok (.iload_n 1, 1) := by decide +kernel
theorem dX6_weight_59 : decode cX6_weight 59 = .ok (.aload_n 0, 1) := by decide +kernel
theorem dX6_weight_60 : decode cX6_weight 60 = .ok (.iload 5, 2) := by decide +kernel
theorem dX6_weight_62 : decode cX6_weight 62 = .ok (.invokevirtual 128, 3) := by decide +kernel
theorem dX6_weight_65 : decode cX6_weight 65 = .ok (.ixor, 1) := by decide +kernel
theorem dX6_weight_66 : decode cX6_weight 66 = .ok (.invokevirtual 156, 3) := by decide +kernel
theorem dX6_weight_69 : decode cX6_weight 69 = .ok (.ladd, 1) := by decide +kernel
theorem dX6_weight_70 : decode cX6_weight 70 = .ok (.lstore_n 3, 1) := by decide +kernel
theorem dX6_weight_71 : decode cX6_weight 71 = .ok (.iinc 5 1, 3) := by decide +kernel
theorem dX6_weight_74 : decode cX6_weight 74 = .ok (.goto (-29), 3) := by decide +kernel
theorem dX6_weight_77 : decode cX6_weight 77 = .ok (.lload_n 3, 1) := by decide +kernel
theorem dX6_weight_78 : decode cX6_weight 78 = .ok (.lreturn, 1) := by decide +kernel
theorem dX6_leak_0 : decode cX6_leak 0 = .ok (.aload_n 0, 1) := by decide +kernel
theorem dX6_leak_1 : decode cX6_leak 1 = .ok (.invokevirtual 124, 3) := by decide +kernel
theorem dX6_leak_4 : decode cX6_leak 4 = .ok (.invokestatic 131, 3) := by decide +kernel
theorem dX6_leak_7 : decode cX6_leak 7 = .ok (.aload_n 0, 1) := by decide +kernel
theorem dX6_leak_8 : decode cX6_leak 8 = .ok (.getfield 80, 3) := by decide +kernel
theorem dX6_leak_11 : decode cX6_leak 11 = .ok (.isub, 1) := by decide +kernel
theorem dX6_leak_12 : decode cX6_leak 12 = .ok (.ireturn, 1) := by decide +kernel
theorem dX6_openAt_0 : decode cX6_openAt 0 = .ok (.iload_n 1, 1) := by decide +kernel
theorem dX6_openAt_1 : decode cX6_openAt 1 = .ok (.istore_n 2, 1) := by decide +kernel
theorem dX6_openAt_2 : decode cX6_openAt 2 = .ok (.iconst 0, 1) := by decide +kernel
theorem dX6_openAt_3 : decode cX6_openAt 3 = .ok (.istore_n 3, 1) := by decide +kernel
theorem dX6_openAt_4 : decode cX6_openAt 4 = .ok (.iload_n 3, 1) := by decide +kernel
theorem dX6_openAt_5 : decode cX6_openAt 5 = .ok (.aload_n 0, 1) := by decide +kernel
theorem dX6_openAt_6 : decode cX6_openAt 6 = .ok (.getfield 44, 3) := by decide +kernel
theorem dX6_openAt_9 : decode cX6_openAt 9 = .ok (.if_icmp .ge 33, 3) := by decide +kernel
theorem dX6_openAt_12 : decode cX6_openAt 12 = .ok (.aload_n 0, 1) := by decide +kernel
theorem dX6_openAt_13 : decode cX6_openAt 13 = .ok (.getfield 77, 3) := by decide +kernel
theorem dX6_openAt_16 : decode cX6_openAt 16 = .ok (.iload_n 3, 1) := by decide +kernel
theorem dX6_openAt_17 : decode cX6_openAt 17 = .ok (.ishr, 1) := by decide +kernel
theorem dX6_openAt_18 : decode cX6_openAt 18 = .ok (.iconst 1, 1) := by decide +kernel
theorem dX6_openAt_19 : decode cX6_openAt 19 = .ok (.iand, 1) := by decide +kernel
theorem dX6_openAt_20 : decode cX6_openAt 20 = .ok (.iconst 1, 1) := by decide +kernel
theorem dX6_openAt_21 : decode cX6_openAt 21 = .ok (.if_icmp .ne 6, 3) := by decide +kernel
theorem dX6_openAt_24 : decode cX6_openAt 24 = .ok (.goto 12, 3) := by decide +kernel
theorem dX6_openAt_27 : decode cX6_openAt 27 = .ok (.iload_n 2, 1) := by decide +kernel
theorem dX6_openAt_28 : decode cX6_openAt 28 = .ok (.ifCond .ne 5, 3) := by decide +kernel
theorem dX6_openAt_31 : decode cX6_openAt 31 = .ok (.iload_n 3, 1) := by decide +kernel
theorem dX6_openAt_32 : decode cX6_openAt 32 = .ok (.ireturn, 1) := by decide +kernel
theorem dX6_openAt_33 : decode cX6_openAt 33 = .ok (.iinc 2 (-1), 3) := by decide +kernel
theorem dX6_openAt_36 : decode cX6_openAt 36 = .ok (.iinc 3 1, 3) := by decide +kernel
theorem dX6_openAt_39 : decode cX6_openAt 39 = .ok (.goto (-35), 3) := by decide +kernel
theorem dX6_openAt_42 : decode cX6_openAt 42 = .ok (.iconst (-1), 1) := by decide +kernel
theorem dX6_openAt_43 : decode cX6_openAt 43 = .ok (.ireturn, 1) := by decide +kernel
theorem dX6_even_0 : decode cX6_even 0 = .ok (.aload_n 0, 1) := by decide +kernel
theorem dX6_even_1 : decode cX6_even 1 = .ok (.iload_n 1, 1) := by decide +kernel
theorem dX6_even_2 : decode cX6_even 2 = .ok (.invokevirtual 104, 3) := by decide +kernel
theorem dX6_even_5 : decode cX6_even 5 = .ok (.ifCond .ne 9, 3) := by decide +kernel
theorem dX6_even_8 : decode cX6_even 8 = .ok (.aload_n 0, 1) := by decide +kernel
theorem dX6_even_9 : decode cX6_even 9 = .ok (.iconst (-1), 1) := by decide +kernel
theorem dX6_even_10 : decode cX6_even 10 = .ok (.invokevirtual 94, 3) := by decide +kernel
theorem dX6_even_13 : decode cX6_even 13 = .ok (.ireturn, 1) := by decide +kernel
theorem dX6_even_14 : decode cX6_even 14 = .ok (.iload_n 2, 1) := by decide +kernel
theorem dX6_even_15 : decode cX6_even 15 = .ok (.iconst 2, 1) := by decide +kernel
theorem dX6_even_16 : decode cX6_even 16 = .ok (.invokestatic 73, 3) := by decide +kernel
theorem dX6_even_19 : decode cX6_even 19 = .ok (.ifCond .ne 10, 3) := by decide +kernel
theorem dX6_even_22 : decode cX6_even 22 = .ok (.aload_n 0, 1) := by decide +kernel
theorem dX6_even_23 : decode cX6_even 23 = .ok (.bipush (-2), 2) := by decide +kernel
theorem dX6_even_25 : decode cX6_even 25 = .ok (.invokevirtual 94, 3) := by decide +kernel
theorem dX6_even_28 : decode cX6_even 28 = .ok (.ireturn, 1) := by decide +kernel
theorem dX6_even_29 : decode cX6_even 29 = .ok (.iconst 0, 1) := by decide +kernel
theorem dX6_even_30 : decode cX6_even 30 = .ok (.istore_n 3, 1) := by decide +kernel
theorem dX6_even_31 : decode cX6_even 31 = .ok (.iconst 0, 1) := by decide +kernel
theorem dX6_even_32 : decode cX6_even 32 = .ok (.istore 4, 2) := by decide +kernel
theorem dX6_even_34 : decode cX6_even 34 = .ok (.iconst 0, 1) := by decide +kernel
theorem dX6_even_35 : decode cX6_even 35 = .ok (.istore 5, 2) := by decide +kernel
theorem dX6_even_37 : decode cX6_even 37 = .ok (.aload_n 0, 1) := by decide +kernel
theorem dX6_even_38 : decode cX6_even 38 = .ok (.iload 5, 2) := by decide +kernel
theorem dX6_even_40 : decode cX6_even 40 = .ok (.iconst 1, 1) := by decide +kernel
theorem dX6_even_41 : decode cX6_even 41 = .ok (.iadd, 1) := by decide +kernel
theorem dX6_even_42 : decode cX6_even 42 = .ok (.invokevirtual 163, 3) := by decide +kernel
theorem dX6_even_45 : decode cX6_even 45 = .ok (.ifCond .lt 57, 3) := by decide +kernel
theorem dX6_even_48 : decode cX6_even 48 = .ok (.iload_n 1, 1) := by decide +kernel
theorem dX6_even_49 : decode cX6_even 49 = .ok (.aload_n 0, 1) := by decide +kernel
theorem dX6_even_50 : decode cX6_even 50 = .ok (.iload 5, 2) := by decide +kernel
theorem dX6_even_52 : decode cX6_even 52 = .ok (.invokevirtual 163, 3) := by decide +kernel
theorem dX6_even_55 : decode cX6_even 55 = .ok (.ishr, 1) := by decide +kernel
theorem dX6_even_56 : decode cX6_even 56 = .ok (.iconst 1, 1) := by decide +kernel
theorem dX6_even_57 : decode cX6_even 57 = .ok (.iand, 1) := by decide +kernel
theorem dX6_even_58 : decode cX6_even 58 = .ok (.istore 6, 2) := by decide +kernel
theorem dX6_even_60 : decode cX6_even 60 = .ok (.iload_n 1, 1) := by decide +kernel
theorem dX6_even_61 : decode cX6_even 61 = .ok (.aload_n 0, 1) := by decide +kernel
theorem dX6_even_62 : decode cX6_even 62 = .ok (.iload 5, 2) := by decide +kernel
theorem dX6_even_64 : decode cX6_even 64 = .ok (.iconst 1, 1) := by decide +kernel
theorem dX6_even_65 : decode cX6_even 65 = .ok (.iadd, 1) := by decide +kernel
theorem dX6_even_66 : decode cX6_even 66 = .ok (.invokevirtual 163, 3) := by decide +kernel
theorem dX6_even_69 : decode cX6_even 69 = .ok (.ishr, 1) := by decide +kernel
theorem dX6_even_70 : decode cX6_even 70 = .ok (.iconst 1, 1) := by decide +kernel
theorem dX6_even_71 : decode cX6_even 71 = .ok (.iand, 1) := by decide +kernel
theorem dX6_even_72 : decode cX6_even 72 = .ok (.istore 7, 2) := by decide +kernel
theorem dX6_even_74 : decode cX6_even 74 = .ok (.iload 6, 2) := by decide +kernel
theorem dX6_even_76 : decode cX6_even 76 = .ok (.iload 7, 2) := by decide +kernel
theorem dX6_even_78 : decode cX6_even 78 = .ok (.if_icmp .ne 6, 3) := by decide +kernel
theorem dX6_even_81 : decode cX6_even 81 = .ok (.goto 15, 3) := by decide +kernel
theorem dX6_even_84 : decode cX6_even 84 = .ok (.iinc 3 1, 3) := by decide +kernel
theorem dX6_even_87 : decode cX6_even 87 = .ok (.iconst 2, 1) := by decide +kernel
theorem dX6_even_88 : decode cX6_even 88 = .ok (.iload 4, 2) := by decide +kernel
theorem dX6_even_90 : decode cX6_even 90 = .ok (.imul, 1) := by decide +kernel
theorem dX6_even_91 : decode cX6_even 91 = .ok (.iload 6, 2) := by decide +kernel
theorem dX6_even_93 : decode cX6_even 93 = .ok (.iadd, 1) := by decide +kernel
theorem dX6_even_94 : decode cX6_even 94 = .ok (.istore 4, 2) := by decide +kernel
theorem dX6_even_96 : decode cX6_even 96 = .ok (.iinc 5 2, 3) := by decide +kernel
theorem dX6_even_99 : decode cX6_even 99 = .ok (.goto (-62), 3) := by decide +kernel
theorem dX6_even_102 : decode cX6_even 102 = .ok (.iload_n 2, 1) := by decide +kernel
theorem dX6_even_103 : decode cX6_even 103 = .ok (.ifCond .ne 7, 3) := by decide +kernel
theorem dX6_even_106 : decode cX6_even 106 = .ok (.iload_n 3, 1) := by decide +kernel
theorem dX6_even_107 : decode cX6_even 107 = .ok (.goto 5, 3) := by decide +kernel
theorem dX6_even_110 : decode cX6_even 110 = .ok (.iload 4, 2) := by decide +kernel
theorem dX6_even_112 : decode cX6_even 112 = .ok (.ireturn, 1) := by decide +kernel
theorem dX6_expected_0 : decode cX6_expected 0 = .ok (.iconst 0, 1) := by decide +kernel
theorem dX6_expected_1 : decode cX6_expected 1 = .ok (.istore_n 1, 1) := by decide +kernel
theorem dX6_expected_2 : decode cX6_expected 2 = .ok (.iconst 0, 1) := by decide +kernel
theorem dX6_expected_3 : decode cX6_expected 3 = .ok (.istore_n 2, 1) := by decide +kernel
theorem dX6_expected_4 : decode cX6_expected 4 = .ok (.aload_n 0, 1) := by decide +kernel
theorem dX6_expected_5 : decode cX6_expected 5 = .ok (.iload_n 2, 1) := by decide +kernel
theorem dX6_expected_6 : decode cX6_expected 6 = .ok (.iconst 1, 1) := by decide +kernel
theorem dX6_expected_7 : decode cX6_expected 7 = .ok (.iadd, 1) := by decide +kernel
theorem dX6_expected_8 : decode cX6_expected 8 = .ok (.invokevirtual 163, 3) := by decide +kernel
theorem dX6_expected_11 : decode cX6_expected 11 = .ok (.ifCond .lt 52, 3) := by decide +kernel
theorem dX6_expected_14 : decode cX6_expected 14 = .ok (.aload_n 0, 1) := by decide +kernel
theorem dX6_expected_15 : decode cX6_expected 15 = .ok (.getfield 19, 3) := by decide +kernel
theorem dX6_expected_18 : decode cX6_expected 18 = .ok (.aload_n 0, 1) := by decide +kernel
theorem dX6_expected_19 : decode cX6_expected 19 = .ok (.iload_n 2, 1) := by decide +kernel
theorem dX6_expected_20 : decode cX6_expected 20 = .ok (.invokevirtual 163, 3) := by decide +kernel
theorem dX6_expected_23 : decode cX6_expected 23 = .ok (.iaload, 1) := by decide +kernel
theorem dX6_expected_24 : decode cX6_expected 24 = .ok (.istore_n 3, 1) := by decide +kernel
theorem dX6_expected_25 : decode cX6_expected 25 = .ok (.aload_n 0, 1) := by decide +kernel
theorem dX6_expected_26 : decode cX6_expected 26 = .ok (.getfield 19, 3) := by decide +kernel
theorem dX6_expected_29 : decode cX6_expected 29 = .ok (.aload_n 0, 1) := by decide +kernel
theorem dX6_expected_30 : decode cX6_expected 30 = .ok (.iload_n 2, 1) := by decide +kernel
theorem dX6_expected_31 : decode cX6_expected 31 = .ok (.iconst 1, 1) := by decide +kernel
theorem dX6_expected_32 : decode cX6_expected 32 = .ok (.iadd, 1) := by decide +kernel
theorem dX6_expected_33 : decode cX6_expected 33 = .ok (.invokevirtual 163, 3) := by decide +kernel
theorem dX6_expected_36 : decode cX6_expected 36 = .ok (.iaload, 1) := by decide +kernel
theorem dX6_expected_37 : decode cX6_expected 37 = .ok (.istore 4, 2) := by decide +kernel
theorem dX6_expected_39 : decode cX6_expected 39 = .ok (.iload_n 1, 1) := by decide +kernel
theorem dX6_expected_40 : decode cX6_expected 40 = .ok (.iload_n 3, 1) := by decide +kernel
theorem dX6_expected_41 : decode cX6_expected 41 = .ok (.bipush 8, 2) := by decide +kernel
theorem dX6_expected_43 : decode cX6_expected 43 = .ok (.iload 4, 2) := by decide +kernel
theorem dX6_expected_45 : decode cX6_expected 45 = .ok (.isub, 1) := by decide +kernel
theorem dX6_expected_46 : decode cX6_expected 46 = .ok (.imul, 1) := by decide +kernel
theorem dX6_expected_47 : decode cX6_expected 47 = .ok (.bipush 8, 2) := by decide +kernel
theorem dX6_expected_49 : decode cX6_expected 49 = .ok (.iload_n 3, 1) := by decide +kernel
theorem dX6_expected_50 : decode cX6_expected 50 = .ok (.isub, 1) := by decide +kernel
theorem dX6_expected_51 : decode cX6_expected 51 = .ok (.iload 4, 2) := by decide +kernel
theorem dX6_expected_53 : decode cX6_expected 53 = .ok (.imul, 1) := by decide +kernel
theorem dX6_expected_54 : decode cX6_expected 54 = .ok (.iadd, 1) := by decide +kernel
theorem dX6_expected_55 : decode cX6_expected 55 = .ok (.iadd, 1) := by decide +kernel
theorem dX6_expected_56 : decode cX6_expected 56 = .ok (.istore_n 1, 1) := by decide +kernel
theorem dX6_expected_57 : decode cX6_expected 57 = .ok (.iinc 2 2, 3) := by decide +kernel
theorem dX6_expected_60 : decode cX6_expected 60 = .ok (.goto (-56), 3) := by decide +kernel
theorem dX6_expected_63 : decode cX6_expected 63 = .ok (.iload_n 1, 1) := by decide +kernel
theorem dX6_expected_64 : decode cX6_expected 64 = .ok (.ireturn, 1) := by decide +kernel
theorem dX6_findPlanes_0 : decode cX6_findPlanes 0 = .ok (.aload_n 0, 1) := by decide +kernel
theorem dX6_findPlanes_1 : decode cX6_findPlanes 1 = .ok (.iconst 0, 1) := by decide +kernel
theorem dX6_findPlanes_2 : decode cX6_findPlanes 2 = .ok (.putfield 166, 3) := by decide +kernel
theorem dX6_findPlanes_5 : decode cX6_findPlanes 5 = .ok (.iconst 0, 1) := by decide +kernel
theorem dX6_findPlanes_6 : decode cX6_findPlanes 6 = .ok (.istore_n 1, 1) := by decide +kernel
theorem dX6_findPlanes_7 : decode cX6_findPlanes 7 = .ok (.iload_n 1, 1) := by decide +kernel
theorem dX6_findPlanes_8 : decode cX6_findPlanes 8 = .ok (.bipush 16, 2) := by decide +kernel
theorem dX6_findPlanes_10 : decode cX6_findPlanes 10 = .ok (.if_icmp .ge 16, 3) := by decide +kernel
theorem dX6_findPlanes_13 : decode cX6_findPlanes 13 = .ok (.aload_n 0, 1) := by decide +kernel
theorem dX6_findPlanes_14 : decode cX6_findPlanes 14 = .ok (.getfield 64, 3) := by decide +kernel
theorem dX6_findPlanes_17 : decode cX6_findPlanes 17 = .ok (.iload_n 1, 1) := by decide +kernel
theorem dX6_findPlanes_18 : decode cX6_findPlanes 18 = .ok (.iconst 0, 1) := by decide +kernel
theorem dX6_findPlanes_19 : decode cX6_findPlanes 19 = .ok (.iastore, 1) := by decide +kernel
theorem dX6_findPlanes_20 : decode cX6_findPlanes 20 = .ok (.iinc 1 1, 3) := by decide +kernel
theorem dX6_findPlanes_23 : decode cX6_findPlanes 23 = .ok (.goto (-16), 3) := by decide +kernel
theorem dX6_findPlanes_26 : decode cX6_findPlanes 26 = .ok (.iconst 0, 1) := by decide +kernel
theorem dX6_findPlanes_27 : decode cX6_findPlanes 27 = .ok (.istore_n 1, 1) := by decide +kernel
theorem dX6_findPlanes_28 : decode cX6_findPlanes 28 = .ok (.iload_n 1, 1) := by decide +kernel
theorem dX6_findPlanes_29 : decode cX6_findPlanes 29 = .ok (.sipush 2401, 3) := by decide +kernel
theorem dX6_findPlanes_32 : decode cX6_findPlanes 32 = .ok (.if_icmp .ge 92, 3) := by decide +kernel
theorem dX6_findPlanes_35 : decode cX6_findPlanes 35 = .ok (.aload_n 0, 1) := by decide +kernel
theorem dX6_findPlanes_36 : decode cX6_findPlanes 36 = .ok (.getfield 67, 3) := by decide +kernel
theorem dX6_findPlanes_39 : decode cX6_findPlanes 39 = .ok (.iconst 0, 1) := by decide +kernel
theorem dX6_findPlanes_40 : decode cX6_findPlanes 40 = .ok (.iload_n 1, 1) := by decide +kernel
theorem dX6_findPlanes_41 : decode cX6_findPlanes 41 = .ok (.sipush 343, 3) := by decide +kernel
theorem dX6_findPlanes_44 : decode cX6_findPlanes 44 = .ok (.idiv, 1) := by decide +kernel
theorem dX6_findPlanes_45 : decode cX6_findPlanes 45 = .ok (.iconst 3, 1) := by decide +kernel
theorem dX6_findPlanes_46 : decode cX6_findPlanes 46 = .ok (.isub, 1) := by decide +kernel
theorem dX6_findPlanes_47 : decode cX6_findPlanes 47 = .ok (.iastore, 1) := by decide +kernel
theorem dX6_findPlanes_48 : decode cX6_findPlanes 48 = .ok (.aload_n 0, 1) := by decide +kernel
theorem dX6_findPlanes_49 : decode cX6_findPlanes 49 = .ok (.getfield 67, 3) := by decide +kernel
theorem dX6_findPlanes_52 : decode cX6_findPlanes 52 = .ok (.iconst 1, 1) := by decide +kernel
theorem dX6_findPlanes_53 : decode cX6_findPlanes 53 = .ok (.iload_n 1, 1) := by decide +kernel
theorem dX6_findPlanes_54 : decode cX6_findPlanes 54 = .ok (.bipush 49, 2) := by decide +kernel
theorem dX6_findPlanes_56 : decode cX6_findPlanes 56 = .ok (.idiv, 1) := by decide +kernel
theorem dX6_findPlanes_57 : decode cX6_findPlanes 57 = .ok (.bipush 7, 2) := by decide +kernel
theorem dX6_findPlanes_59 : decode cX6_findPlanes 59 = .ok (.irem, 1) := by decide +kernel
theorem dX6_findPlanes_60 : decode cX6_findPlanes 60 = .ok (.iconst 3, 1) := by decide +kernel
theorem dX6_findPlanes_61 : decode cX6_findPlanes 61 = .ok (.isub, 1) := by decide +kernel
theorem dX6_findPlanes_62 : decode cX6_findPlanes 62 = .ok (.iastore, 1) := by decide +kernel
theorem dX6_findPlanes_63 : decode cX6_findPlanes 63 = .ok (.aload_n 0, 1) := by decide +kernel
theorem dX6_findPlanes_64 : decode cX6_findPlanes 64 = .ok (.getfield 67, 3) := by decide +kernel
theorem dX6_findPlanes_67 : decode cX6_findPlanes 67 = .ok (.iconst 2, 1) := by decide +kernel
theorem dX6_findPlanes_68 : decode cX6_findPlanes 68 = .ok (.iload_n 1, 1) := by decide +kernel
theorem dX6_findPlanes_69 : decode cX6_findPlanes 69 = .ok (.bipush 7, 2) := by decide +kernel
theorem dX6_findPlanes_71 : decode cX6_findPlanes 71 = .ok (.idiv, 1) := by decide +kernel
theorem dX6_findPlanes_72 : decode cX6_findPlanes 72 = .ok (.bipush 7, 2) := by decide +kernel
theorem dX6_findPlanes_74 : decode cX6_findPlanes 74 = .ok (.irem, 1) := by decide +kernel
theorem dX6_findPlanes_75 : decode cX6_findPlanes 75 = .ok (.iconst 3, 1) := by decide +kernel
theorem dX6_findPlanes_76 : decode cX6_findPlanes 76 = .ok (.isub, 1) := by decide +kernel
theorem dX6_findPlanes_77 : decode cX6_findPlanes 77 = .ok (.iastore, 1) := by decide +kernel
theorem dX6_findPlanes_78 : decode cX6_findPlanes 78 = .ok (.aload_n 0, 1) := by decide +kernel
theorem dX6_findPlanes_79 : decode cX6_findPlanes 79 = .ok (.getfield 67, 3) := by decide +kernel
theorem dX6_findPlanes_82 : decode cX6_findPlanes 82 = .ok (.iconst 3, 1) := by decide +kernel
theorem dX6_findPlanes_83 : decode cX6_findPlanes 83 = .ok (.iload_n 1, 1) := by decide +kernel
theorem dX6_findPlanes_84 : decode cX6_findPlanes 84 = .ok (.bipush 7, 2) := by decide +kernel
theorem dX6_findPlanes_86 : decode cX6_findPlanes 86 = .ok (.irem, 1) := by decide +kernel
theorem dX6_findPlanes_87 : decode cX6_findPlanes 87 = .ok (.iconst 3, 1) := by decide +kernel
theorem dX6_findPlanes_88 : decode cX6_findPlanes 88 = .ok (.isub, 1) := by decide +kernel
theorem dX6_findPlanes_89 : decode cX6_findPlanes 89 = .ok (.iastore, 1) := by decide +kernel
theorem dX6_findPlanes_90 : decode cX6_findPlanes 90 = .ok (.bipush (-6), 2) := by decide +kernel
theorem dX6_findPlanes_92 : decode cX6_findPlanes 92 = .ok (.istore_n 2, 1) := by decide +kernel
theorem dX6_findPlanes_93 : decode cX6_findPlanes 93 = .ok (.iload_n 2, 1) := by decide +kernel
theorem dX6_findPlanes_94 : decode cX6_findPlanes 94 = .ok (.bipush 6, 2) := by decide +kernel
theorem dX6_findPlanes_96 : decode cX6_findPlanes 96 = .ok (.if_icmp .gt 22, 3) := by decide +kernel
theorem dX6_findPlanes_99 : decode cX6_findPlanes 99 = .ok (.aload_n 0, 1) := by decide +kernel
theorem dX6_findPlanes_100 : decode cX6_findPlanes 100 = .ok (.iload_n 2, 1) := by decide +kernel
theorem dX6_findPlanes_101 : decode cX6_findPlanes 101 = .ok (.invokevirtual 169, 3) := by decide +kernel
theorem dX6_findPlanes_104 : decode cX6_findPlanes 104 = .ok (.ifCond .eq 8, 3) := by decide +kernel
theorem dX6_findPlanes_107 : decode cX6_findPlanes 107 = .ok (.aload_n 0, 1) := by decide +kernel
theorem dX6_findPlanes_108 : decode cX6_findPlanes 108 = .ok (.iload_n 2, 1) := by decide +kernel
theorem dX6_findPlanes_109 : decode cX6_findPlanes 109 = .ok (.invokevirtual 172, 3) := by decide +kernel
theorem dX6_findPlanes_112 : decode cX6_findPlanes 112 = .ok (.iinc 2 1, 3) := by decide +kernel
theorem dX6_findPlanes_115 : decode cX6_findPlanes 115 = .ok (.goto (-22), 3) := by decide +kernel
theorem dX6_findPlanes_118 : decode cX6_findPlanes 118 = .ok (.iinc 1 1, 3) := by decide +kernel
theorem dX6_findPlanes_121 : decode cX6_findPlanes 121 = .ok (.goto (-93), 3) := by decide +kernel
theorem dX6_findPlanes_124 : decode cX6_findPlanes 124 = .ok (.return_, 1) := by decide +kernel
theorem dX6_says_0 : decode cX6_says 0 = .ok (.iconst 0, 1) := by decide +kernel
theorem dX6_says_1 : decode cX6_says 1 = .ok (.istore_n 3, 1) := by decide +kernel
theorem dX6_says_2 : decode cX6_says 2 = .ok (.iconst 0, 1) := by decide +kernel
theorem dX6_says_3 : decode cX6_says 3 = .ok (.istore 4, 2) := by decide +kernel
theorem dX6_says_5 : decode cX6_says 5 = .ok (.iload 4, 2) := by decide +kernel
theorem dX6_says_7 : decode cX6_says 7 = .ok (.iconst 4, 1) := by decide +kernel
theorem dX6_says_8 : decode cX6_says 8 = .ok (.if_icmp .ge 40, 3) := by decide +kernel
theorem dX6_says_11 : decode cX6_says 11 = .ok (.iload_n 3, 1) := by decide +kernel
theorem dX6_says_12 : decode cX6_says 12 = .ok (.iload_n 1, 1) := by decide +kernel
theorem dX6_says_13 : decode cX6_says 13 = .ok (.iload 4, 2) := by decide +kernel
theorem dX6_says_15 : decode cX6_says 15 = .ok (.ishr, 1) := by decide +kernel
theorem dX6_says_16 : decode cX6_says 16 = .ok (.iconst 1, 1) := by decide +kernel
theorem dX6_says_17 : decode cX6_says 17 = .ok (.iand, 1) := by decide +kernel
theorem dX6_says_18 : decode cX6_says 18 = .ok (.iconst 1, 1) := by decide +kernel
theorem dX6_says_19 : decode cX6_says 19 = .ok (.if_icmp .ne 13, 3) := by decide +kernel
theorem dX6_says_22 : decode cX6_says 22 = .ok (.aload_n 0, 1) := by decide +kernel
theorem dX6_says_23 : decode cX6_says 23 = .ok (.getfield 67, 3) := by decide +kernel
theorem dX6_says_26 : decode cX6_says 26 = .ok (.iload 4, 2) := by decide +kernel
theorem dX6_says_28 : decode cX6_says 28 = .ok (.iaload, 1) := by decide +kernel
theorem dX6_says_29 : decode cX6_says 29 = .ok (.goto 11, 3) := by decide +kernel
theorem dX6_says_32 : decode cX6_says 32 = .ok (.aload_n 0, 1) := by decide +kernel
theorem dX6_says_33 : decode cX6_says 33 = .ok (.getfield 67, 3) := by decide +kernel
theorem dX6_says_36 : decode cX6_says 36 = .ok (.iload 4, 2) := by decide +kernel
theorem dX6_says_38 : decode cX6_says 38 = .ok (.iaload, 1) := by decide +kernel
theorem dX6_says_39 : decode cX6_says 39 = .ok (.ineg, 1) := by decide +kernel
theorem dX6_says_40 : decode cX6_says 40 = .ok (.iadd, 1) := by decide +kernel
theorem dX6_says_41 : decode cX6_says 41 = .ok (.istore_n 3, 1) := by decide +kernel
theorem dX6_says_42 : decode cX6_says 42 = .ok (.iinc 4 1, 3) := by decide +kernel
theorem dX6_says_45 : decode cX6_says 45 = .ok (.goto (-40), 3) := by decide +kernel
theorem dX6_says_48 : decode cX6_says 48 = .ok (.iload_n 3, 1) := by decide +kernel
theorem dX6_says_49 : decode cX6_says 49 = .ok (.iload_n 2, 1) := by decide +kernel
theorem dX6_says_50 : decode cX6_says 50 = .ok (.if_icmp .lt 7, 3) := by decide +kernel
theorem dX6_says_53 : decode cX6_says 53 = .ok (.iconst 1, 1) := by decide +kernel
theorem dX6_says_54 : decode cX6_says 54 = .ok (.goto 4, 3) := by decide +kernel
theorem dX6_says_57 : decode cX6_says 57 = .ok (.iconst 0, 1) := by decide +kernel
theorem dX6_says_58 : decode cX6_says 58 = .ok (.ireturn, 1) := by decide +kernel
theorem dX6_isPlane_0 : decode cX6_isPlane 0 = .ok (.iconst 1, 1) := by decide +kernel
theorem dX6_isPlane_1 : decode cX6_isPlane 1 = .ok (.istore_n 2, 1) := by decide +kernel
theorem dX6_isPlane_2 : decode cX6_isPlane 2 = .ok (.iconst 0, 1) := by decide +kernel
theorem dX6_isPlane_3 : decode cX6_isPlane 3 = .ok (.istore_n 3, 1) := by decide +kernel
theorem dX6_isPlane_4 : decode cX6_isPlane 4 = .ok (.iload_n 3, 1) := by decide +kernel
theorem dX6_isPlane_5 : decode cX6_isPlane 5 = .ok (.bipush 16, 2) := by decide +kernel
theorem dX6_isPlane_7 : decode cX6_isPlane 7 = .ok (.if_icmp .ge 43, 3) := by decide +kernel
theorem dX6_isPlane_10 : decode cX6_isPlane 10 = .ok (.iload_n 2, 1) := by decide +kernel
theorem dX6_isPlane_11 : decode cX6_isPlane 11 = .ok (.ifCond .eq 39, 3) := by decide +kernel
theorem dX6_isPlane_14 : decode cX6_isPlane 14 = .ok (.aload_n 0, 1) := by decide +kernel
theorem dX6_isPlane_15 : decode cX6_isPlane 15 = .ok (.getfield 34, 3) := by decide +kernel
theorem dX6_isPlane_18 : decode cX6_isPlane 18 = .ok (.iload_n 3, 1) := by decide +kernel
theorem dX6_isPlane_19 : decode cX6_isPlane 19 = .ok (.iaload, 1) := by decide +kernel
theorem dX6_isPlane_20 : decode cX6_isPlane 20 = .ok (.ifCond .lt 18, 3) := by decide +kernel
theorem dX6_isPlane_23 : decode cX6_isPlane 23 = .ok (.aload_n 0, 1) := by decide +kernel
theorem dX6_isPlane_24 : decode cX6_isPlane 24 = .ok (.iload_n 3, 1) := by decide +kernel
theorem dX6_isPlane_25 : decode cX6_isPlane 25 = .ok (.iload_n 1, 1) := by decide +kernel
theorem dX6_isPlane_26 : decode cX6_isPlane 26 = .ok (.invokevirtual 175, 3) := by decide +kernel
theorem dX6_isPlane_29 : decode cX6_isPlane 29 = .ok (.aload_n 0, 1) := by decide +kernel
theorem dX6_isPlane_30 : decode cX6_isPlane 30 = .ok (.getfield 34, 3) := by decide +kernel
theorem dX6_isPlane_33 : decode cX6_isPlane 33 = .ok (.iload_n 3, 1) := by decide +kernel
theorem dX6_isPlane_34 : decode cX6_isPlane 34 = .ok (.iaload, 1) := by decide +kernel
theorem dX6_isPlane_35 : decode cX6_isPlane 35 = .ok (.if_icmp .ne 7, 3) := by decide +kernel
theorem dX6_isPlane_38 : decode cX6_isPlane 38 = .ok (.iconst 1, 1) := by decide +kernel
theorem dX6_isPlane_39 : decode cX6_isPlane 39 = .ok (.goto 4, 3) := by decide +kernel
theorem dX6_isPlane_42 : decode cX6_isPlane 42 = .ok (.iconst 0, 1) := by decide +kernel
theorem dX6_isPlane_43 : decode cX6_isPlane 43 = .ok (.istore_n 2, 1) := by decide +kernel
theorem dX6_isPlane_44 : decode cX6_isPlane 44 = .ok (.iinc 3 1, 3) := by decide +kernel
theorem dX6_isPlane_47 : decode cX6_isPlane 47 = .ok (.goto (-43), 3) := by decide +kernel
theorem dX6_isPlane_50 : decode cX6_isPlane 50 = .ok (.iload_n 2, 1) := by decide +kernel
theorem dX6_isPlane_51 : decode cX6_isPlane 51 = .ok (.ireturn, 1) := by decide +kernel
theorem dX6_adds_0 : decode cX6_adds 0 = .ok (.aload_n 0, 1) := by decide +kernel
theorem dX6_adds_1 : decode cX6_adds 1 = .ok (.getfield 166, 3) := by decide +kernel
theorem dX6_adds_4 : decode cX6_adds 4 = .ok (.ifCond .ne 35, 3) := by decide +kernel
theorem dX6_adds_7 : decode cX6_adds 7 = .ok (.iconst 0, 1) := by decide +kernel
theorem dX6_adds_8 : decode cX6_adds 8 = .ok (.istore_n 2, 1) := by decide +kernel
theorem dX6_adds_9 : decode cX6_adds 9 = .ok (.iload_n 2, 1) := by decide +kernel
theorem dX6_adds_10 : decode cX6_adds 10 = .ok (.iconst 4, 1) := by decide +kernel
theorem dX6_adds_11 : decode cX6_adds 11 = .ok (.if_icmp .ge 21, 3) := by decide +kernel
theorem dX6_adds_14 : decode cX6_adds 14 = .ok (.aload_n 0, 1) := by decide +kernel
theorem dX6_adds_15 : decode cX6_adds 15 = .ok (.getfield 61, 3) := by decide +kernel
theorem dX6_adds_18 : decode cX6_adds 18 = .ok (.iload_n 2, 1) := by decide +kernel
theorem dX6_adds_19 : decode cX6_adds 19 = .ok (.aload_n 0, 1) := by decide +kernel
theorem dX6_adds_20 : decode cX6_adds 20 = .ok (.getfield 67, 3) := by decide +kernel
theorem dX6_adds_23 : decode cX6_adds 23 = .ok (.iload_n 2, 1) := by decide +kernel
theorem dX6_adds_24 : decode cX6_adds 24 = .ok (.iaload, 1) := by decide +kernel
theorem dX6_adds_25 : decode cX6_adds 25 = .ok (.iastore, 1) := by decide +kernel
theorem dX6_adds_26 : decode cX6_adds 26 = .ok (.iinc 2 1, 3) := by decide +kernel
theorem dX6_adds_29 : decode cX6_adds 29 = .ok (.goto (-20), 3) := by decide +kernel
theorem dX6_adds_32 : decode cX6_adds 32 = .ok (.aload_n 0, 1) := by decide +kernel
theorem dX6_adds_33 : decode cX6_adds 33 = .ok (.getfield 61, 3) := by decide +kernel
theorem dX6_adds_36 : decode cX6_adds 36 = .ok (.iconst 4, 1) := by decide +kernel
theorem dX6_adds_37 : decode cX6_adds 37 = .ok (.iload_n 1, 1) := by decide +kernel
theorem dX6_adds_38 : decode cX6_adds 38 = .ok (.iastore, 1) := by decide +kernel
theorem dX6_adds_39 : decode cX6_adds 39 = .ok (.aload_n 0, 1) := by decide +kernel
theorem dX6_adds_40 : decode cX6_adds 40 = .ok (.dup, 1) := by decide +kernel
theorem dX6_adds_41 : decode cX6_adds 41 = .ok (.getfield 166, 3) := by decide +kernel
theorem dX6_adds_44 : decode cX6_adds 44 = .ok (.iconst 1, 1) := by decide +kernel
theorem dX6_adds_45 : decode cX6_adds 45 = .ok (.iadd, 1) := by decide +kernel
theorem dX6_adds_46 : decode cX6_adds 46 = .ok (.putfield 166, 3) := by decide +kernel
theorem dX6_adds_49 : decode cX6_adds 49 = .ok (.iconst 0, 1) := by decide +kernel
theorem dX6_adds_50 : decode cX6_adds 50 = .ok (.istore_n 2, 1) := by decide +kernel
theorem dX6_adds_51 : decode cX6_adds 51 = .ok (.iload_n 2, 1) := by decide +kernel
theorem dX6_adds_52 : decode cX6_adds 52 = .ok (.bipush 16, 2) := by decide +kernel
theorem dX6_adds_54 : decode cX6_adds 54 = .ok (.if_icmp .ge 24, 3) := by decide +kernel
theorem dX6_adds_57 : decode cX6_adds 57 = .ok (.aload_n 0, 1) := by decide +kernel
theorem dX6_adds_58 : decode cX6_adds 58 = .ok (.getfield 64, 3) := by decide +kernel
theorem dX6_adds_61 : decode cX6_adds 61 = .ok (.iload_n 2, 1) := by decide +kernel
theorem dX6_adds_62 : decode cX6_adds 62 = .ok (.dup2, 1) := by decide +kernel
theorem dX6_adds_63 : decode cX6_adds 63 = .ok (.iaload, 1) := by decide +kernel
theorem dX6_adds_64 : decode cX6_adds 64 = .ok (.aload_n 0, 1) := by decide +kernel
theorem dX6_adds_65 : decode cX6_adds 65 = .ok (.iload_n 2, 1) := by decide +kernel
theorem dX6_adds_66 : decode cX6_adds 66 = .ok (.iload_n 1, 1) := by decide +kernel
theorem dX6_adds_67 : decode cX6_adds 67 = .ok (.invokevirtual 175, 3) := by decide +kernel
theorem dX6_adds_70 : decode cX6_adds 70 = .ok (.iadd, 1) := by decide +kernel
theorem dX6_adds_71 : decode cX6_adds 71 = .ok (.iastore, 1) := by decide +kernel
theorem dX6_adds_72 : decode cX6_adds 72 = .ok (.iinc 2 1, 3) := by decide +kernel
theorem dX6_adds_75 : decode cX6_adds 75 = .ok (.goto (-24), 3) := by decide +kernel
theorem dX6_adds_78 : decode cX6_adds 78 = .ok (.return_, 1) := by decide +kernel
theorem dX6_pairs_0 : decode cX6_pairs 0 = .ok (.iconst 0, 1) := by decide +kernel
theorem dX6_pairs_1 : decode cX6_pairs 1 = .ok (.istore_n 1, 1) := by decide +kernel
theorem dX6_pairs_2 : decode cX6_pairs 2 = .ok (.iconst 0, 1) := by decide +kernel
theorem dX6_pairs_3 : decode cX6_pairs 3 = .ok (.istore_n 2, 1) := by decide +kernel
theorem dX6_pairs_4 : decode cX6_pairs 4 = .ok (.iload_n 2, 1) := by decide +kernel
theorem dX6_pairs_5 : decode cX6_pairs 5 = .ok (.bipush 16, 2) := by decide +kernel
theorem dX6_pairs_7 : decode cX6_pairs 7 = .ok (.if_icmp .ge 26, 3) := by decide +kernel
theorem dX6_pairs_10 : decode cX6_pairs 10 = .ok (.iload_n 1, 1) := by decide +kernel
theorem dX6_pairs_11 : decode cX6_pairs 11 = .ok (.aload_n 0, 1) := by decide +kernel
theorem dX6_pairs_12 : decode cX6_pairs 12 = .ok (.getfield 34, 3) := by decide +kernel
theorem dX6_pairs_15 : decode cX6_pairs 15 = .ok (.iload_n 2, 1) := by decide +kernel
theorem dX6_pairs_16 : decode cX6_pairs 16 = .ok (.iaload, 1) := by decide +kernel
theorem dX6_pairs_17 : decode cX6_pairs 17 = .ok (.ifCond .lt 7, 3) := by decide +kernel
theorem dX6_pairs_20 : decode cX6_pairs 20 = .ok (.iconst 1, 1) := by decide +kernel
theorem dX6_pairs_21 : decode cX6_pairs 21 = .ok (.goto 4, 3) := by decide +kernel
theorem dX6_pairs_24 : decode cX6_pairs 24 = .ok (.iconst 0, 1) := by decide +kernel
theorem dX6_pairs_25 : decode cX6_pairs 25 = .ok (.iadd, 1) := by decide +kernel
theorem dX6_pairs_26 : decode cX6_pairs 26 = .ok (.istore_n 1, 1) := by decide +kernel
theorem dX6_pairs_27 : decode cX6_pairs 27 = .ok (.iinc 2 1, 3) := by decide +kernel
theorem dX6_pairs_30 : decode cX6_pairs 30 = .ok (.goto (-26), 3) := by decide +kernel
theorem dX6_pairs_33 : decode cX6_pairs 33 = .ok (.iload_n 1, 1) := by decide +kernel
theorem dX6_pairs_34 : decode cX6_pairs 34 = .ok (.ireturn, 1) := by decide +kernel
theorem dX6_pair_0 : decode cX6_pair 0 = .ok (.iload_n 1, 1) := by decide +kernel
theorem dX6_pair_1 : decode cX6_pair 1 = .ok (.bipush 16, 2) := by decide +kernel
theorem dX6_pair_3 : decode cX6_pair 3 = .ok (.invokestatic 73, 3) := by decide +kernel
theorem dX6_pair_6 : decode cX6_pair 6 = .ok (.ifCond .eq 11, 3) := by decide +kernel
theorem dX6_pair_9 : decode cX6_pair 9 = .ok (.iload_n 2, 1) := by decide +kernel
theorem dX6_pair_10 : decode cX6_pair 10 = .ok (.iconst 2, 1) := by decide +kernel
theorem dX6_pair_11 : decode cX6_pair 11 = .ok (.invokestatic 73, 3) := by decide +kernel
theorem dX6_pair_14 : decode cX6_pair 14 = .ok (.ifCond .ne 9, 3) := by decide +kernel
theorem dX6_pair_17 : decode cX6_pair 17 = .ok (.aload_n 0, 1) := by decide +kernel
theorem dX6_pair_18 : decode cX6_pair 18 = .ok (.iconst (-1), 1) := by decide +kernel
theorem dX6_pair_19 : decode cX6_pair 19 = .ok (.invokevirtual 94, 3) := by decide +kernel
theorem dX6_pair_22 : decode cX6_pair 22 = .ok (.ireturn, 1) := by decide +kernel
theorem dX6_pair_23 : decode cX6_pair 23 = .ok (.aload_n 0, 1) := by decide +kernel
theorem dX6_pair_24 : decode cX6_pair 24 = .ok (.getfield 34, 3) := by decide +kernel
theorem dX6_pair_27 : decode cX6_pair 27 = .ok (.iload_n 1, 1) := by decide +kernel
theorem dX6_pair_28 : decode cX6_pair 28 = .ok (.iaload, 1) := by decide +kernel
theorem dX6_pair_29 : decode cX6_pair 29 = .ok (.iconst 1, 1) := by decide +kernel
theorem dX6_pair_30 : decode cX6_pair 30 = .ok (.iload_n 2, 1) := by decide +kernel
theorem dX6_pair_31 : decode cX6_pair 31 = .ok (.isub, 1) := by decide +kernel
theorem dX6_pair_32 : decode cX6_pair 32 = .ok (.if_icmp .ne 10, 3) := by decide +kernel
theorem dX6_pair_35 : decode cX6_pair 35 = .ok (.aload_n 0, 1) := by decide +kernel
theorem dX6_pair_36 : decode cX6_pair 36 = .ok (.bipush (-3), 2) := by decide +kernel
theorem dX6_pair_38 : decode cX6_pair 38 = .ok (.invokevirtual 94, 3) := by decide +kernel
theorem dX6_pair_41 : decode cX6_pair 41 = .ok (.ireturn, 1) := by decide +kernel
theorem dX6_pair_42 : decode cX6_pair 42 = .ok (.aload_n 0, 1) := by decide +kernel
theorem dX6_pair_43 : decode cX6_pair 43 = .ok (.getfield 34, 3) := by decide +kernel
theorem dX6_pair_46 : decode cX6_pair 46 = .ok (.iload_n 1, 1) := by decide +kernel
theorem dX6_pair_47 : decode cX6_pair 47 = .ok (.iload_n 2, 1) := by decide +kernel
theorem dX6_pair_48 : decode cX6_pair 48 = .ok (.iastore, 1) := by decide +kernel
theorem dX6_pair_49 : decode cX6_pair 49 = .ok (.aload_n 0, 1) := by decide +kernel
theorem dX6_pair_50 : decode cX6_pair 50 = .ok (.invokevirtual 178, 3) := by decide +kernel
theorem dX6_pair_53 : decode cX6_pair 53 = .ok (.ireturn, 1) := by decide +kernel
theorem dX6_planes_0 : decode cX6_planes 0 = .ok (.aload_n 0, 1) := by decide +kernel
theorem dX6_planes_1 : decode cX6_planes 1 = .ok (.invokevirtual 181, 3) := by decide +kernel
theorem dX6_planes_4 : decode cX6_planes 4 = .ok (.aload_n 0, 1) := by decide +kernel
theorem dX6_planes_5 : decode cX6_planes 5 = .ok (.getfield 166, 3) := by decide +kernel
theorem dX6_planes_8 : decode cX6_planes 8 = .ok (.ireturn, 1) := by decide +kernel
theorem dX6_plane_0 : decode cX6_plane 0 = .ok (.iload_n 1, 1) := by decide +kernel
theorem dX6_plane_1 : decode cX6_plane 1 = .ok (.iconst 5, 1) := by decide +kernel
theorem dX6_plane_2 : decode cX6_plane 2 = .ok (.invokestatic 73, 3) := by decide +kernel
theorem dX6_plane_5 : decode cX6_plane 5 = .ok (.ifCond .ne 10, 3) := by decide +kernel
theorem dX6_plane_8 : decode cX6_plane 8 = .ok (.aload_n 0, 1) := by decide +kernel
theorem dX6_plane_9 : decode cX6_plane 9 = .ok (.bipush (-2), 2) := by decide +kernel
theorem dX6_plane_11 : decode cX6_plane 11 = .ok (.invokevirtual 94, 3) := by decide +kernel
theorem dX6_plane_14 : decode cX6_plane 14 = .ok (.ireturn, 1) := by decide +kernel
theorem dX6_plane_15 : decode cX6_plane 15 = .ok (.aload_n 0, 1) := by decide +kernel
theorem dX6_plane_16 : decode cX6_plane 16 = .ok (.invokevirtual 181, 3) := by decide +kernel
theorem dX6_plane_19 : decode cX6_plane 19 = .ok (.aload_n 0, 1) := by decide +kernel
theorem dX6_plane_20 : decode cX6_plane 20 = .ok (.getfield 166, 3) := by decide +kernel
theorem dX6_plane_23 : decode cX6_plane 23 = .ok (.ifCond .ne 8, 3) := by decide +kernel
theorem dX6_plane_26 : decode cX6_plane 26 = .ok (.bipush (-9), 2) := by decide +kernel
theorem dX6_plane_28 : decode cX6_plane 28 = .ok (.goto 12, 3) := by decide +kernel
theorem dX6_plane_31 : decode cX6_plane 31 = .ok (.aload_n 0, 1) := by decide +kernel
theorem dX6_plane_32 : decode cX6_plane 32 = .ok (.getfield 61, 3) := by decide +kernel
theorem dX6_plane_35 : decode cX6_plane 35 = .ok (.iload_n 1, 1) := by decide +kernel
theorem dX6_plane_36 : decode cX6_plane 36 = .ok (.iaload, 1) := by decide +kernel
theorem dX6_plane_37 : decode cX6_plane 37 = .ok (.bipush 10, 2) := by decide +kernel
theorem dX6_plane_39 : decode cX6_plane 39 = .ok (.iadd, 1) := by decide +kernel
theorem dX6_plane_40 : decode cX6_plane 40 = .ok (.ireturn, 1) := by decide +kernel
theorem dX6_foretold_0 : decode cX6_foretold 0 = .ok (.iload_n 1, 1) := by decide +kernel
theorem dX6_foretold_1 : decode cX6_foretold 1 = .ok (.bipush 16, 2) := by decide +kernel
theorem dX6_foretold_3 : decode cX6_foretold 3 = .ok (.invokestatic 73, 3) := by decide +kernel
theorem dX6_foretold_6 : decode cX6_foretold 6 = .ok (.ifCond .ne 9, 3) := by decide +kernel
theorem dX6_foretold_9 : decode cX6_foretold 9 = .ok (.aload_n 0, 1) := by decide +kernel
theorem dX6_foretold_10 : decode cX6_foretold 10 = .ok (.iconst (-1), 1) := by decide +kernel
theorem dX6_foretold_11 : decode cX6_foretold 11 = .ok (.invokevirtual 94, 3) := by decide +kernel
theorem dX6_foretold_14 : decode cX6_foretold 14 = .ok (.ireturn, 1) := by decide +kernel
theorem dX6_foretold_15 : decode cX6_foretold 15 = .ok (.aload_n 0, 1) := by decide +kernel
theorem dX6_foretold_16 : decode cX6_foretold 16 = .ok (.invokevirtual 181, 3) := by decide +kernel
theorem dX6_foretold_19 : decode cX6_foretold 19 = .ok (.aload_n 0, 1) := by decide +kernel
theorem dX6_foretold_20 : decode cX6_foretold 20 = .ok (.getfield 166, 3) := by decide +kernel
theorem dX6_foretold_23 : decode cX6_foretold 23 = .ok (.ifCond .ne 7, 3) := by decide +kernel
theorem dX6_foretold_26 : decode cX6_foretold 26 = .ok (.iconst 3, 1) := by decide +kernel
theorem dX6_foretold_27 : decode cX6_foretold 27 = .ok (.goto 34, 3) := by decide +kernel
theorem dX6_foretold_30 : decode cX6_foretold 30 = .ok (.aload_n 0, 1) := by decide +kernel
theorem dX6_foretold_31 : decode cX6_foretold 31 = .ok (.getfield 64, 3) := by decide +kernel
theorem dX6_foretold_34 : decode cX6_foretold 34 = .ok (.iload_n 1, 1) := by decide +kernel
theorem dX6_foretold_35 : decode cX6_foretold 35 = .ok (.iaload, 1) := by decide +kernel
theorem dX6_foretold_36 : decode cX6_foretold 36 = .ok (.aload_n 0, 1) := by decide +kernel
theorem dX6_foretold_37 : decode cX6_foretold 37 = .ok (.getfield 166, 3) := by decide +kernel
theorem dX6_foretold_40 : decode cX6_foretold 40 = .ok (.if_icmp .ne 7, 3) := by decide +kernel
theorem dX6_foretold_43 : decode cX6_foretold 43 = .ok (.iconst 1, 1) := by decide +kernel
theorem dX6_foretold_44 : decode cX6_foretold 44 = .ok (.goto 17, 3) := by decide +kernel
theorem dX6_foretold_47 : decode cX6_foretold 47 = .ok (.aload_n 0, 1) := by decide +kernel
theorem dX6_foretold_48 : decode cX6_foretold 48 = .ok (.getfield 64, 3) := by decide +kernel
theorem dX6_foretold_51 : decode cX6_foretold 51 = .ok (.iload_n 1, 1) := by decide +kernel
theorem dX6_foretold_52 : decode cX6_foretold 52 = .ok (.iaload, 1) := by decide +kernel
theorem dX6_foretold_53 : decode cX6_foretold 53 = .ok (.ifCond .ne 7, 3) := by decide +kernel
theorem dX6_foretold_56 : decode cX6_foretold 56 = .ok (.iconst 0, 1) := by decide +kernel
theorem dX6_foretold_57 : decode cX6_foretold 57 = .ok (.goto 4, 3) := by decide +kernel
theorem dX6_foretold_60 : decode cX6_foretold 60 = .ok (.iconst 2, 1) := by decide +kernel
theorem dX6_foretold_61 : decode cX6_foretold 61 = .ok (.ireturn, 1) := by decide +kernel
theorem dX6_next_0 : decode cX6_next 0 = .ok (.aload_n 0, 1) := by decide +kernel
theorem dX6_next_1 : decode cX6_next 1 = .ok (.invokevirtual 181, 3) := by decide +kernel
theorem dX6_next_4 : decode cX6_next 4 = .ok (.bipush (-9), 2) := by decide +kernel
theorem dX6_next_6 : decode cX6_next 6 = .ok (.istore_n 1, 1) := by decide +kernel
theorem dX6_next_7 : decode cX6_next 7 = .ok (.iconst 0, 1) := by decide +kernel
theorem dX6_next_8 : decode cX6_next 8 = .ok (.istore_n 2, 1) := by decide +kernel
theorem dX6_next_9 : decode cX6_next 9 = .ok (.iconst 0, 1) := by decide +kernel
theorem dX6_next_10 : decode cX6_next 10 = .ok (.istore_n 3, 1) := by decide +kernel
theorem dX6_next_11 : decode cX6_next 11 = .ok (.iload_n 3, 1) := by decide +kernel
theorem dX6_next_12 : decode cX6_next 12 = .ok (.bipush 16, 2) := by decide +kernel
theorem dX6_next_14 : decode cX6_next 14 = .ok (.if_icmp .ge 65, 3) := by decide +kernel
theorem dX6_next_17 : decode cX6_next 17 = .ok (.aload_n 0, 1) := by decide +kernel
theorem dX6_next_18 : decode cX6_next 18 = .ok (.getfield 166, 3) := by decide +kernel
theorem dX6_next_21 : decode cX6_next 21 = .ok (.ifCond .le 58, 3) := by decide +kernel
theorem dX6_next_24 : decode cX6_next 24 = .ok (.aload_n 0, 1) := by decide +kernel
theorem dX6_next_25 : decode cX6_next 25 = .ok (.getfield 64, 3) := by decide +kernel
theorem dX6_next_28 : decode cX6_next 28 = .ok (.iload_n 3, 1) := by decide +kernel
theorem dX6_next_29 : decode cX6_next 29 = .ok (.iaload, 1) := by decide +kernel
theorem dX6_next_30 : decode cX6_next 30 = .ok (.aload_n 0, 1) := by decide +kernel
theorem dX6_next_31 : decode cX6_next 31 = .ok (.getfield 166, 3) := by decide +kernel
theorem dX6_next_34 : decode cX6_next 34 = .ok (.aload_n 0, 1) := by decide +kernel
theorem dX6_next_35 : decode cX6_next 35 = .ok (.getfield 64, 3) := by decide +kernel
theorem dX6_next_38 : decode cX6_next 38 = .ok (.iload_n 3, 1) := by decide +kernel
theorem dX6_next_39 : decode cX6_next 39 = .ok (.iaload, 1) := by decide +kernel
theorem dX6_next_40 : decode cX6_next 40 = .ok (.isub, 1) := by decide +kernel
theorem dX6_next_41 : decode cX6_next 41 = .ok (.invokestatic 184, 3) := by decide +kernel
theorem dX6_next_44 : decode cX6_next 44 = .ok (.istore 4, 2) := by decide +kernel
theorem dX6_next_46 : decode cX6_next 46 = .ok (.aload_n 0, 1) := by decide +kernel
theorem dX6_next_47 : decode cX6_next 47 = .ok (.getfield 34, 3) := by decide +kernel
theorem dX6_next_50 : decode cX6_next 50 = .ok (.iload_n 3, 1) := by decide +kernel
theorem dX6_next_51 : decode cX6_next 51 = .ok (.iaload, 1) := by decide +kernel
theorem dX6_next_52 : decode cX6_next 52 = .ok (.ifCond .ge 21, 3) := by decide +kernel
theorem dX6_next_55 : decode cX6_next 55 = .ok (.iload_n 1, 1) := by decide +kernel
theorem dX6_next_56 : decode cX6_next 56 = .ok (.ifCond .lt 12, 3) := by decide +kernel
theorem dX6_next_59 : decode cX6_next 59 = .ok (.iload 4, 2) := by decide +kernel
theorem dX6_next_61 : decode cX6_next 61 = .ok (.iload_n 2, 1) := by decide +kernel
theorem dX6_next_62 : decode cX6_next 62 = .ok (.if_icmp .lt 6, 3) := by decide +kernel
theorem dX6_next_65 : decode cX6_next 65 = .ok (.goto 8, 3) := by decide +kernel
theorem dX6_next_68 : decode cX6_next 68 = .ok (.iload_n 3, 1) := by decide +kernel
theorem dX6_next_69 : decode cX6_next 69 = .ok (.istore_n 1, 1) := by decide +kernel
theorem dX6_next_70 : decode cX6_next 70 = .ok (.iload 4, 2) := by decide +kernel
theorem dX6_next_72 : decode cX6_next 72 = .ok (.istore_n 2, 1) := by decide +kernel
theorem dX6_next_73 : decode cX6_next 73 = .ok (.iinc 3 1, 3) := by decide +kernel
theorem dX6_next_76 : decode cX6_next 76 = .ok (.goto (-65), 3) := by decide +kernel
theorem dX6_next_79 : decode cX6_next 79 = .ok (.iload_n 1, 1) := by decide +kernel
theorem dX6_next_80 : decode cX6_next 80 = .ok (.ireturn, 1) := by decide +kernel
theorem dX6_check_0 : decode cX6_check 0 = .ok (.iload_n 1, 1) := by decide +kernel
theorem dX6_check_1 : decode cX6_check 1 = .ok (.bipush 16, 2) := by decide +kernel
theorem dX6_check_3 : decode cX6_check 3 = .ok (.invokestatic 73, 3) := by decide +kernel
theorem dX6_check_6 : decode cX6_check 6 = .ok (.ifCond .eq 11, 3) := by decide +kernel
theorem dX6_check_9 : decode cX6_check 9 = .ok (.iload_n 2, 1) := by decide +kernel
theorem dX6_check_10 : decode cX6_check 10 = .ok (.iconst 2, 1) := by decide +kernel
theorem dX6_check_11 : decode cX6_check 11 = .ok (.invokestatic 73, 3) := by decide +kernel
theorem dX6_check_14 : decode cX6_check 14 = .ok (.ifCond .ne 9, 3) := by decide +kernel
theorem dX6_check_17 : decode cX6_check 17 = .ok (.aload_n 0, 1) := by decide +kernel
theorem dX6_check_18 : decode cX6_check 18 = .ok (.iconst (-1), 1) := by decide +kernel
theorem dX6_check_19 : decode cX6_check 19 = .ok (.invokevirtual 94, 3) := by decide +kernel
theorem dX6_check_22 : decode cX6_check 22 = .ok (.ireturn, 1) := by decide +kernel
theorem dX6_check_23 : decode cX6_check 23 = .ok (.aload_n 0, 1) := by decide +kernel
theorem dX6_check_24 : decode cX6_check 24 = .ok (.getfield 34, 3) := by decide +kernel
theorem dX6_check_27 : decode cX6_check 27 = .ok (.iload_n 1, 1) := by decide +kernel
theorem dX6_check_28 : decode cX6_check 28 = .ok (.iaload, 1) := by decide +kernel
theorem dX6_check_29 : decode cX6_check 29 = .ok (.ifCond .lt 12, 3) := by decide +kernel
theorem dX6_check_32 : decode cX6_check 32 = .ok (.aload_n 0, 1) := by decide +kernel
theorem dX6_check_33 : decode cX6_check 33 = .ok (.getfield 41, 3) := by decide +kernel
theorem dX6_check_36 : decode cX6_check 36 = .ok (.iload_n 1, 1) := by decide +kernel
theorem dX6_check_37 : decode cX6_check 37 = .ok (.baload, 1) := by decide +kernel
theorem dX6_check_38 : decode cX6_check 38 = .ok (.ifCond .eq 10, 3) := by decide +kernel
theorem dX6_check_41 : decode cX6_check 41 = .ok (.aload_n 0, 1) := by decide +kernel
theorem dX6_check_42 : decode cX6_check 42 = .ok (.bipush (-3), 2) := by decide +kernel
theorem dX6_check_44 : decode cX6_check 44 = .ok (.invokevirtual 94, 3) := by decide +kernel
theorem dX6_check_47 : decode cX6_check 47 = .ok (.ireturn, 1) := by decide +kernel
theorem dX6_check_48 : decode cX6_check 48 = .ok (.aload_n 0, 1) := by decide +kernel
theorem dX6_check_49 : decode cX6_check 49 = .ok (.getfield 41, 3) := by decide +kernel
theorem dX6_check_52 : decode cX6_check 52 = .ok (.iload_n 1, 1) := by decide +kernel
theorem dX6_check_53 : decode cX6_check 53 = .ok (.iconst 1, 1) := by decide +kernel
theorem dX6_check_54 : decode cX6_check 54 = .ok (.bastore, 1) := by decide +kernel
theorem dX6_check_55 : decode cX6_check 55 = .ok (.aload_n 0, 1) := by decide +kernel
theorem dX6_check_56 : decode cX6_check 56 = .ok (.getfield 34, 3) := by decide +kernel
theorem dX6_check_59 : decode cX6_check 59 = .ok (.iload_n 1, 1) := by decide +kernel
theorem dX6_check_60 : decode cX6_check 60 = .ok (.iaload, 1) := by decide +kernel
theorem dX6_check_61 : decode cX6_check 61 = .ok (.iload_n 2, 1) := by decide +kernel
theorem dX6_check_62 : decode cX6_check 62 = .ok (.if_icmp .ne 7, 3) := by decide +kernel
theorem dX6_check_65 : decode cX6_check 65 = .ok (.iconst 1, 1) := by decide +kernel
theorem dX6_check_66 : decode cX6_check 66 = .ok (.goto 4, 3) := by decide +kernel
theorem dX6_check_69 : decode cX6_check 69 = .ok (.iconst 0, 1) := by decide +kernel
theorem dX6_check_70 : decode cX6_check 70 = .ok (.ireturn, 1) := by decide +kernel
theorem dX6_far_0 : decode cX6_far 0 = .ok (.iload_n 1, 1) := by decide +kernel
theorem dX6_far_1 : decode cX6_far 1 = .ok (.iload_n 2, 1) := by decide +kernel
theorem dX6_far_2 : decode cX6_far 2 = .ok (.ixor, 1) := by decide +kernel
theorem dX6_far_3 : decode cX6_far 3 = .ok (.aload_n 0, 1) := by decide +kernel
theorem dX6_far_4 : decode cX6_far 4 = .ok (.invokevirtual 124, 3) := by decide +kernel
theorem dX6_far_7 : decode cX6_far 7 = .ok (.iand, 1) := by decide +kernel
theorem dX6_far_8 : decode cX6_far 8 = .ok (.invokestatic 131, 3) := by decide +kernel
theorem dX6_far_11 : decode cX6_far 11 = .ok (.ireturn, 1) := by decide +kernel
theorem dX6_whoseOf_0 : decode cX6_whoseOf 0 = .ok (.bipush (-9), 2) := by decide +kernel
theorem dX6_whoseOf_2 : decode cX6_whoseOf 2 = .ok (.istore_n 2, 1) := by decide +kernel
theorem dX6_whoseOf_3 : decode cX6_whoseOf 3 = .ok (.iconst 0, 1) := by decide +kernel
theorem dX6_whoseOf_4 : decode cX6_whoseOf 4 = .ok (.istore_n 3, 1) := by decide +kernel
theorem dX6_whoseOf_5 : decode cX6_whoseOf 5 = .ok (.iload_n 3, 1) := by decide +kernel
theorem dX6_whoseOf_6 : decode cX6_whoseOf 6 = .ok (.aload_n 0, 1) := by decide +kernel
theorem dX6_whoseOf_7 : decode cX6_whoseOf 7 = .ok (.getfield 98, 3) := by decide +kernel
theorem dX6_whoseOf_10 : decode cX6_whoseOf 10 = .ok (.if_icmp .ge 40, 3) := by decide +kernel
theorem dX6_whoseOf_13 : decode cX6_whoseOf 13 = .ok (.iload_n 2, 1) := by decide +kernel
theorem dX6_whoseOf_14 : decode cX6_whoseOf 14 = .ok (.ifCond .lt 28, 3) := by decide +kernel
theorem dX6_whoseOf_17 : decode cX6_whoseOf 17 = .ok (.aload_n 0, 1) := by decide +kernel
theorem dX6_whoseOf_18 : decode cX6_whoseOf 18 = .ok (.iload_n 1, 1) := by decide +kernel
theorem dX6_whoseOf_19 : decode cX6_whoseOf 19 = .ok (.aload_n 0, 1) := by decide +kernel
theorem dX6_whoseOf_20 : decode cX6_whoseOf 20 = .ok (.getfield 22, 3) := by decide +kernel
theorem dX6_whoseOf_23 : decode cX6_whoseOf 23 = .ok (.iload_n 3, 1) := by decide +kernel
theorem dX6_whoseOf_24 : decode cX6_whoseOf 24 = .ok (.iaload, 1) := by decide +kernel
theorem dX6_whoseOf_25 : decode cX6_whoseOf 25 = .ok (.invokevirtual 187, 3) := by decide +kernel
theorem dX6_whoseOf_28 : decode cX6_whoseOf 28 = .ok (.aload_n 0, 1) := by decide +kernel
theorem dX6_whoseOf_29 : decode cX6_whoseOf 29 = .ok (.iload_n 1, 1) := by decide +kernel
theorem dX6_whoseOf_30 : decode cX6_whoseOf 30 = .ok (.aload_n 0, 1) := by decide +kernel
theorem dX6_whoseOf_31 : decode cX6_whoseOf 31 = .ok (.getfield 22, 3) := by decide +kernel
theorem dX6_whoseOf_34 : decode cX6_whoseOf 34 = .ok (.iload_n 2, 1) := by decide +kernel
theorem dX6_whoseOf_35 : decode cX6_whoseOf 35 = .ok (.iaload, 1) := by decide +kernel
theorem dX6_whoseOf_36 : decode cX6_whoseOf 36 = .ok (.invokevirtual 187, 3) := by decide +kernel
theorem dX6_whoseOf_39 : decode cX6_whoseOf 39 = .ok (.if_icmp .ge 5, 3) := by decide +kernel
theorem dX6_whoseOf_42 : decode cX6_whoseOf 42 = .ok (.iload_n 3, 1) := by decide +kernel
theorem dX6_whoseOf_43 : decode cX6_whoseOf 43 = .ok (.istore_n 2, 1) := by decide +kernel
theorem dX6_whoseOf_44 : decode cX6_whoseOf 44 = .ok (.iinc 3 1, 3) := by decide +kernel
theorem dX6_whoseOf_47 : decode cX6_whoseOf 47 = .ok (.goto (-42), 3) := by decide +kernel
theorem dX6_whoseOf_50 : decode cX6_whoseOf 50 = .ok (.iload_n 2, 1) := by decide +kernel
theorem dX6_whoseOf_51 : decode cX6_whoseOf 51 = .ok (.ireturn, 1) := by decide +kernel
theorem dX6_whose_0 : decode cX6_whose 0 = .ok (.aload_n 0, 1) := by decide +kernel
theorem dX6_whose_1 : decode cX6_whose 1 = .ok (.iload_n 1, 1) := by decide +kernel
theorem dX6_whose_2 : decode cX6_whose 2 = .ok (.invokevirtual 104, 3) := by decide +kernel
theorem dX6_whose_5 : decode cX6_whose 5 = .ok (.ifCond .eq 11, 3) := by decide +kernel
theorem dX6_whose_8 : decode cX6_whose 8 = .ok (.aload_n 0, 1) := by decide +kernel
theorem dX6_whose_9 : decode cX6_whose 9 = .ok (.iload_n 1, 1) := by decide +kernel
theorem dX6_whose_10 : decode cX6_whose 10 = .ok (.invokevirtual 190, 3) := by decide +kernel
theorem dX6_whose_13 : decode cX6_whose 13 = .ok (.goto 8, 3) := by decide +kernel
theorem dX6_whose_16 : decode cX6_whose 16 = .ok (.aload_n 0, 1) := by decide +kernel
theorem dX6_whose_17 : decode cX6_whose 17 = .ok (.iconst (-1), 1) := by decide +kernel
theorem dX6_whose_18 : decode cX6_whose 18 = .ok (.invokevirtual 94, 3) := by decide +kernel
theorem dX6_whose_21 : decode cX6_whose 21 = .ok (.ireturn, 1) := by decide +kernel
theorem dX6_sure_0 : decode cX6_sure 0 = .ok (.aload_n 0, 1) := by decide +kernel
theorem dX6_sure_1 : decode cX6_sure 1 = .ok (.iload_n 1, 1) := by decide +kernel
theorem dX6_sure_2 : decode cX6_sure 2 = .ok (.invokevirtual 104, 3) := by decide +kernel
theorem dX6_sure_5 : decode cX6_sure 5 = .ok (.ifCond .ne 9, 3) := by decide +kernel
theorem dX6_sure_8 : decode cX6_sure 8 = .ok (.aload_n 0, 1) := by decide +kernel
theorem dX6_sure_9 : decode cX6_sure 9 = .ok (.iconst (-1), 1) := by decide +kernel
theorem dX6_sure_10 : decode cX6_sure 10 = .ok (.invokevirtual 94, 3) := by decide +kernel
theorem dX6_sure_13 : decode cX6_sure 13 = .ok (.ireturn, 1) := by decide +kernel
theorem dX6_sure_14 : decode cX6_sure 14 = .ok (.aload_n 0, 1) := by decide +kernel
theorem dX6_sure_15 : decode cX6_sure 15 = .ok (.iload_n 1, 1) := by decide +kernel
theorem dX6_sure_16 : decode cX6_sure 16 = .ok (.invokevirtual 190, 3) := by decide +kernel
theorem dX6_sure_19 : decode cX6_sure 19 = .ok (.istore_n 2, 1) := by decide +kernel
theorem dX6_sure_20 : decode cX6_sure 20 = .ok (.iload_n 2, 1) := by decide +kernel
theorem dX6_sure_21 : decode cX6_sure 21 = .ok (.ifCond .lt 7, 3) := by decide +kernel
theorem dX6_sure_24 : decode cX6_sure 24 = .ok (.iconst 1, 1) := by decide +kernel
theorem dX6_sure_25 : decode cX6_sure 25 = .ok (.goto 4, 3) := by decide +kernel
theorem dX6_sure_28 : decode cX6_sure 28 = .ok (.iconst 0, 1) := by decide +kernel
theorem dX6_sure_29 : decode cX6_sure 29 = .ok (.istore_n 3, 1) := by decide +kernel
theorem dX6_sure_30 : decode cX6_sure 30 = .ok (.iconst 0, 1) := by decide +kernel
theorem dX6_sure_31 : decode cX6_sure 31 = .ok (.istore 4, 2) := by decide +kernel
theorem dX6_sure_33 : decode cX6_sure 33 = .ok (.iload 4, 2) := by decide +kernel
theorem dX6_sure_35 : decode cX6_sure 35 = .ok (.aload_n 0, 1) := by decide +kernel
theorem dX6_sure_36 : decode cX6_sure 36 = .ok (.getfield 98, 3) := by decide +kernel
theorem dX6_sure_39 : decode cX6_sure 39 = .ok (.if_icmp .ge 53, 3) := by decide +kernel
theorem dX6_sure_42 : decode cX6_sure 42 = .ok (.iload_n 3, 1) := by decide +kernel
theorem dX6_sure_43 : decode cX6_sure 43 = .ok (.ifCond .eq 41, 3) := by decide +kernel
theorem dX6_sure_46 : decode cX6_sure 46 = .ok (.iload 4, 2) := by decide +kernel
theorem dX6_sure_48 : decode cX6_sure 48 = .ok (.iload_n 2, 1) := by decide +kernel
theorem dX6_sure_49 : decode cX6_sure 49 = .ok (.if_icmp .eq 31, 3) := by decide +kernel
theorem dX6_sure_52 : decode cX6_sure 52 = .ok (.aload_n 0, 1) := by decide +kernel
theorem dX6_sure_53 : decode cX6_sure 53 = .ok (.iload_n 1, 1) := by decide +kernel
theorem dX6_sure_54 : decode cX6_sure 54 = .ok (.aload_n 0, 1) := by decide +kernel
theorem dX6_sure_55 : decode cX6_sure 55 = .ok (.getfield 22, 3) := by decide +kernel
theorem dX6_sure_58 : decode cX6_sure 58 = .ok (.iload 4, 2) := by decide +kernel
theorem dX6_sure_60 : decode cX6_sure 60 = .ok (.iaload, 1) := by decide +kernel
theorem dX6_sure_61 : decode cX6_sure 61 = .ok (.invokevirtual 187, 3) := by decide +kernel
theorem dX6_sure_64 : decode cX6_sure 64 = .ok (.aload_n 0, 1) := by decide +kernel
theorem dX6_sure_65 : decode cX6_sure 65 = .ok (.iload_n 1, 1) := by decide +kernel
theorem dX6_sure_66 : decode cX6_sure 66 = .ok (.aload_n 0, 1) := by decide +kernel
theorem dX6_sure_67 : decode cX6_sure 67 = .ok (.getfield 22, 3) := by decide +kernel
theorem dX6_sure_70 : decode cX6_sure 70 = .ok (.iload_n 2, 1) := by decide +kernel
theorem dX6_sure_71 : decode cX6_sure 71 = .ok (.iaload, 1) := by decide +kernel
theorem dX6_sure_72 : decode cX6_sure 72 = .ok (.invokevirtual 187, 3) := by decide +kernel
theorem dX6_sure_75 : decode cX6_sure 75 = .ok (.iconst 2, 1) := by decide +kernel
theorem dX6_sure_76 : decode cX6_sure 76 = .ok (.iadd, 1) := by decide +kernel
theorem dX6_sure_77 : decode cX6_sure 77 = .ok (.if_icmp .le 7, 3) := by decide +kernel
theorem dX6_sure_80 : decode cX6_sure 80 = .ok (.iconst 1, 1) := by decide +kernel
theorem dX6_sure_81 : decode cX6_sure 81 = .ok (.goto 4, 3) := by decide +kernel
theorem dX6_sure_84 : decode cX6_sure 84 = .ok (.iconst 0, 1) := by decide +kernel
theorem dX6_sure_85 : decode cX6_sure 85 = .ok (.istore_n 3, 1) := by decide +kernel
theorem dX6_sure_86 : decode cX6_sure 86 = .ok (.iinc 4 1, 3) := by decide +kernel
theorem dX6_sure_89 : decode cX6_sure 89 = .ok (.goto (-56), 3) := by decide +kernel
theorem dX6_sure_92 : decode cX6_sure 92 = .ok (.iload_n 3, 1) := by decide +kernel
theorem dX6_sure_93 : decode cX6_sure 93 = .ok (.ifCond .eq 7, 3) := by decide +kernel
theorem dX6_sure_96 : decode cX6_sure 96 = .ok (.iconst 1, 1) := by decide +kernel
theorem dX6_sure_97 : decode cX6_sure 97 = .ok (.goto 4, 3) := by decide +kernel
theorem dX6_sure_100 : decode cX6_sure 100 = .ok (.iconst 0, 1) := by decide +kernel
theorem dX6_sure_101 : decode cX6_sure 101 = .ok (.ireturn, 1) := by decide +kernel
theorem dX6_apart_0 : decode cX6_apart 0 = .ok (.bipush (-9), 2) := by decide +kernel
theorem dX6_apart_2 : decode cX6_apart 2 = .ok (.istore_n 1, 1) := by decide +kernel
theorem dX6_apart_3 : decode cX6_apart 3 = .ok (.iconst 0, 1) := by decide +kernel
theorem dX6_apart_4 : decode cX6_apart 4 = .ok (.istore_n 2, 1) := by decide +kernel
theorem dX6_apart_5 : decode cX6_apart 5 = .ok (.iload_n 2, 1) := by decide +kernel
theorem dX6_apart_6 : decode cX6_apart 6 = .ok (.aload_n 0, 1) := by decide +kernel
theorem dX6_apart_7 : decode cX6_apart 7 = .ok (.getfield 98, 3) := by decide +kernel
theorem dX6_apart_10 : decode cX6_apart 10 = .ok (.if_icmp .ge 63, 3) := by decide +kernel
theorem dX6_apart_13 : decode cX6_apart 13 = .ok (.iconst 0, 1) := by decide +kernel
theorem dX6_apart_14 : decode cX6_apart 14 = .ok (.istore_n 3, 1) := by decide +kernel
theorem dX6_apart_15 : decode cX6_apart 15 = .ok (.iload_n 3, 1) := by decide +kernel
theorem dX6_apart_16 : decode cX6_apart 16 = .ok (.iload_n 2, 1) := by decide +kernel
theorem dX6_apart_17 : decode cX6_apart 17 = .ok (.if_icmp .ge 50, 3) := by decide +kernel
theorem dX6_apart_20 : decode cX6_apart 20 = .ok (.iload_n 1, 1) := by decide +kernel
theorem dX6_apart_21 : decode cX6_apart 21 = .ok (.ifCond .lt 23, 3) := by decide +kernel
theorem dX6_apart_24 : decode cX6_apart 24 = .ok (.aload_n 0, 1) := by decide +kernel
theorem dX6_apart_25 : decode cX6_apart 25 = .ok (.aload_n 0, 1) := by decide +kernel
theorem dX6_apart_26 : decode cX6_apart 26 = .ok (.getfield 22, 3) := by decide +kernel
theorem dX6_apart_29 : decode cX6_apart 29 = .ok (.iload_n 2, 1) := by decide +kernel
theorem dX6_apart_30 : decode cX6_apart 30 = .ok (.iaload, 1) := by decide +kernel
theorem dX6_apart_31 : decode cX6_apart 31 = .ok (.aload_n 0, 1) := by decide +kernel
theorem dX6_apart_32 : decode cX6_apart 32 = .ok (.getfield 22, 3) := by decide +kernel
theorem dX6_apart_35 : decode cX6_apart 35 = .ok (.iload_n 3, 1) := by decide +kernel
theorem dX6_apart_36 : decode cX6_apart 36 = .ok (.iaload, 1) := by decide +kernel
theorem dX6_apart_37 : decode cX6_apart 37 = .ok (.invokevirtual 187, 3) := by decide +kernel
theorem dX6_apart_40 : decode cX6_apart 40 = .ok (.iload_n 1, 1) := by decide +kernel
theorem dX6_apart_41 : decode cX6_apart 41 = .ok (.if_icmp .ge 20, 3) := by decide +kernel
theorem dX6_apart_44 : decode cX6_apart 44 = .ok (.aload_n 0, 1) := by decide +kernel
theorem dX6_apart_45 : decode cX6_apart 45 = .ok (.aload_n 0, 1) := by decide +kernel
theorem dX6_apart_46 : decode cX6_apart 46 = .ok (.getfield 22, 3) := by decide +kernel
theorem dX6_apart_49 : decode cX6_apart 49 = .ok (.iload_n 2, 1) := by decide +kernel
theorem dX6_apart_50 : decode cX6_apart 50 = .ok (.iaload, 1) := by decide +kernel
theorem dX6_apart_51 : decode cX6_apart 51 = .ok (.aload_n 0, 1) := by decide +kernel
theorem dX6_apart_52 : decode cX6_apart 52 = .ok (.getfield 22, 3) := by decide +kernel
theorem dX6_apart_55 : decode cX6_apart 55 = .ok (.iload_n 3, 1) := by decide +kernel
theorem dX6_apart_56 : decode cX6_apart 56 = .ok (.iaload, 1) := by decide +kernel
theorem dX6_apart_57 : decode cX6_apart 57 = .ok (.invokevirtual 187, 3) := by decide +kernel
theorem dX6_apart_60 : decode cX6_apart 60 = .ok (.istore_n 1, 1) := by decide +kernel
theorem dX6_apart_61 : decode cX6_apart 61 = .ok (.iinc 3 1, 3) := by decide +kernel
theorem dX6_apart_64 : decode cX6_apart 64 = .ok (.goto (-49), 3) := by decide +kernel
theorem dX6_apart_67 : decode cX6_apart 67 = .ok (.iinc 2 1, 3) := by decide +kernel
theorem dX6_apart_70 : decode cX6_apart 70 = .ok (.goto (-65), 3) := by decide +kernel
theorem dX6_apart_73 : decode cX6_apart 73 = .ok (.iload_n 1, 1) := by decide +kernel
theorem dX6_apart_74 : decode cX6_apart 74 = .ok (.ireturn, 1) := by decide +kernel
theorem dX6_odd_0 : decode cX6_odd 0 = .ok (.iload_n 1, 1) := by decide +kernel
theorem dX6_odd_1 : decode cX6_odd 1 = .ok (.aload_n 0, 1) := by decide +kernel
theorem dX6_odd_2 : decode cX6_odd 2 = .ok (.getfield 44, 3) := by decide +kernel
theorem dX6_odd_5 : decode cX6_odd 5 = .ok (.invokestatic 73, 3) := by decide +kernel
theorem dX6_odd_8 : decode cX6_odd 8 = .ok (.ifCond .ne 9, 3) := by decide +kernel
theorem dX6_odd_11 : decode cX6_odd 11 = .ok (.aload_n 0, 1) := by decide +kernel
theorem dX6_odd_12 : decode cX6_odd 12 = .ok (.iconst (-1), 1) := by decide +kernel
theorem dX6_odd_13 : decode cX6_odd 13 = .ok (.invokevirtual 94, 3) := by decide +kernel
theorem dX6_odd_16 : decode cX6_odd 16 = .ok (.ireturn, 1) := by decide +kernel
theorem dX6_odd_17 : decode cX6_odd 17 = .ok (.iconst 0, 1) := by decide +kernel
theorem dX6_odd_18 : decode cX6_odd 18 = .ok (.istore_n 2, 1) := by decide +kernel
theorem dX6_odd_19 : decode cX6_odd 19 = .ok (.iconst 0, 1) := by decide +kernel
theorem dX6_odd_20 : decode cX6_odd 20 = .ok (.istore_n 3, 1) := by decide +kernel
theorem dX6_odd_21 : decode cX6_odd 21 = .ok (.iload_n 3, 1) := by decide +kernel
theorem dX6_odd_22 : decode cX6_odd 22 = .ok (.aload_n 0, 1) := by decide +kernel
theorem dX6_odd_23 : decode cX6_odd 23 = .ok (.getfield 98, 3) := by decide +kernel
theorem dX6_odd_26 : decode cX6_odd 26 = .ok (.if_icmp .ge 22, 3) := by decide +kernel
theorem dX6_odd_29 : decode cX6_odd 29 = .ok (.iload_n 2, 1) := by decide +kernel
theorem dX6_odd_30 : decode cX6_odd 30 = .ok (.aload_n 0, 1) := by decide +kernel
theorem dX6_odd_31 : decode cX6_odd 31 = .ok (.getfield 22, 3) := by decide +kernel
theorem dX6_odd_34 : decode cX6_odd 34 = .ok (.iload_n 3, 1) := by decide +kernel
theorem dX6_odd_35 : decode cX6_odd 35 = .ok (.iaload, 1) := by decide +kernel
theorem dX6_odd_36 : decode cX6_odd 36 = .ok (.iload_n 1, 1) := by decide +kernel
theorem dX6_odd_37 : decode cX6_odd 37 = .ok (.ishr, 1) := by decide +kernel
theorem dX6_odd_38 : decode cX6_odd 38 = .ok (.iconst 1, 1) := by decide +kernel
theorem dX6_odd_39 : decode cX6_odd 39 = .ok (.iand, 1) := by decide +kernel
theorem dX6_odd_40 : decode cX6_odd 40 = .ok (.iadd, 1) := by decide +kernel
theorem dX6_odd_41 : decode cX6_odd 41 = .ok (.istore_n 2, 1) := by decide +kernel
theorem dX6_odd_42 : decode cX6_odd 42 = .ok (.iinc 3 1, 3) := by decide +kernel
theorem dX6_odd_45 : decode cX6_odd 45 = .ok (.goto (-24), 3) := by decide +kernel
theorem dX6_odd_48 : decode cX6_odd 48 = .ok (.iload_n 2, 1) := by decide +kernel
theorem dX6_odd_49 : decode cX6_odd 49 = .ok (.ireturn, 1) := by decide +kernel
theorem dX6_count_0 : decode cX6_count 0 = .ok (.iload_n 1, 1) := by decide +kernel
theorem dX6_count_1 : decode cX6_count 1 = .ok (.bipush 10, 2) := by decide +kernel
theorem dX6_count_3 : decode cX6_count 3 = .ok (.if_icmp .le 19, 3) := by decide +kernel
theorem dX6_count_6 : decode cX6_count 6 = .ok (.iload_n 1, 1) := by decide +kernel
theorem dX6_count_7 : decode cX6_count 7 = .ok (.bipush 17, 2) := by decide +kernel
theorem dX6_count_9 : decode cX6_count 9 = .ok (.if_icmp .ge 13, 3) := by decide +kernel
theorem dX6_count_12 : decode cX6_count 12 = .ok (.aload_n 0, 1) := by decide +kernel
theorem dX6_count_13 : decode cX6_count 13 = .ok (.getfield 7, 3) := by decide +kernel
theorem dX6_count_16 : decode cX6_count 16 = .ok (.iload_n 1, 1) := by decide +kernel
theorem dX6_count_17 : decode cX6_count 17 = .ok (.bipush 10, 2) := by decide +kernel
theorem dX6_count_19 : decode cX6_count 19 = .ok (.isub, 1) := by decide +kernel
theorem dX6_count_20 : decode cX6_count 20 = .ok (.iaload, 1) := by decide +kernel
theorem dX6_count_21 : decode cX6_count 21 = .ok (.ireturn, 1) := by decide +kernel
theorem dX6_count_22 : decode cX6_count 22 = .ok (.iconst 0, 1) := by decide +kernel
theorem dX6_count_23 : decode cX6_count 23 = .ok (.istore_n 2, 1) := by decide +kernel
theorem dX6_count_24 : decode cX6_count 24 = .ok (.iload_n 1, 1) := by decide +kernel
theorem dX6_count_25 : decode cX6_count 25 = .ok (.tableswitch 148 0 7 #[47, 52, 57, 62, 70, 75, 110, 115], 47) := by decide +kernel
theorem dX6_count_72 : decode cX6_count 72 = .ok (.aload_n 0, 1) := by decide +kernel
theorem dX6_count_73 : decode cX6_count 73 = .ok (.getfield 44, 3) := by decide +kernel
theorem dX6_count_76 : decode cX6_count 76 = .ok (.ireturn, 1) := by decide +kernel
theorem dX6_count_77 : decode cX6_count 77 = .ok (.aload_n 0, 1) := by decide +kernel
theorem dX6_count_78 : decode cX6_count 78 = .ok (.getfield 98, 3) := by decide +kernel
theorem dX6_count_81 : decode cX6_count 81 = .ok (.ireturn, 1) := by decide +kernel
theorem dX6_count_82 : decode cX6_count 82 = .ok (.aload_n 0, 1) := by decide +kernel
theorem dX6_count_83 : decode cX6_count 83 = .ok (.getfield 80, 3) := by decide +kernel
theorem dX6_count_86 : decode cX6_count 86 = .ok (.ireturn, 1) := by decide +kernel
theorem dX6_count_87 : decode cX6_count 87 = .ok (.aload_n 0, 1) := by decide +kernel
theorem dX6_count_88 : decode cX6_count 88 = .ok (.invokevirtual 124, 3) := by decide +kernel
theorem dX6_count_91 : decode cX6_count 91 = .ok (.invokestatic 131, 3) := by decide +kernel
theorem dX6_count_94 : decode cX6_count 94 = .ok (.ireturn, 1) := by decide +kernel
theorem dX6_count_95 : decode cX6_count 95 = .ok (.aload_n 0, 1) := by decide +kernel
theorem dX6_count_96 : decode cX6_count 96 = .ok (.getfield 77, 3) := by decide +kernel
theorem dX6_count_99 : decode cX6_count 99 = .ok (.ireturn, 1) := by decide +kernel
theorem dX6_count_100 : decode cX6_count 100 = .ok (.iconst 0, 1) := by decide +kernel
theorem dX6_count_101 : decode cX6_count 101 = .ok (.istore_n 3, 1) := by decide +kernel
theorem dX6_count_102 : decode cX6_count 102 = .ok (.iload_n 3, 1) := by decide +kernel
theorem dX6_count_103 : decode cX6_count 103 = .ok (.aload_n 0, 1) := by decide +kernel
theorem dX6_count_104 : decode cX6_count 104 = .ok (.getfield 98, 3) := by decide +kernel
theorem dX6_count_107 : decode cX6_count 107 = .ok (.if_icmp .ge 26, 3) := by decide +kernel
theorem dX6_count_110 : decode cX6_count 110 = .ok (.iload_n 2, 1) := by decide +kernel
theorem dX6_count_111 : decode cX6_count 111 = .ok (.aload_n 0, 1) := by decide +kernel
theorem dX6_count_112 : decode cX6_count 112 = .ok (.getfield 37, 3) := by decide +kernel
theorem dX6_count_115 : decode cX6_count 115 = .ok (.iload_n 3, 1) := by decide +kernel
theorem dX6_count_116 : decode cX6_count 116 = .ok (.baload, 1) := by decide +kernel
theorem dX6_count_117 : decode cX6_count 117 = .ok (.ifCond .eq 7, 3) := by decide +kernel
theorem dX6_count_120 : decode cX6_count 120 = .ok (.iconst 1, 1) := by decide +kernel
theorem dX6_count_121 : decode cX6_count 121 = .ok (.goto 4, 3) := by decide +kernel
theorem dX6_count_124 : decode cX6_count 124 = .ok (.iconst 0, 1) := by decide +kernel
theorem dX6_count_125 : decode cX6_count 125 = .ok (.iadd, 1) := by decide +kernel
theorem dX6_count_126 : decode cX6_count 126 = .ok (.istore_n 2, 1) := by decide +kernel
theorem dX6_count_127 : decode cX6_count 127 = .ok (.iinc 3 1, 3) := by decide +kernel
theorem dX6_count_130 : decode cX6_count 130 = .ok (.goto (-28), 3) := by decide +kernel
theorem dX6_count_133 : decode cX6_count 133 = .ok (.iload_n 2, 1) := by decide +kernel
theorem dX6_count_134 : decode cX6_count 134 = .ok (.ireturn, 1) := by decide +kernel
theorem dX6_count_135 : decode cX6_count 135 = .ok (.aload_n 0, 1) := by decide +kernel
theorem dX6_count_136 : decode cX6_count 136 = .ok (.invokevirtual 178, 3) := by decide +kernel
theorem dX6_count_139 : decode cX6_count 139 = .ok (.ireturn, 1) := by decide +kernel
theorem dX6_count_140 : decode cX6_count 140 = .ok (.iconst 0, 1) := by decide +kernel
theorem dX6_count_141 : decode cX6_count 141 = .ok (.istore_n 3, 1) := by decide +kernel
theorem dX6_count_142 : decode cX6_count 142 = .ok (.iload_n 3, 1) := by decide +kernel
theorem dX6_count_143 : decode cX6_count 143 = .ok (.bipush 16, 2) := by decide +kernel
theorem dX6_count_145 : decode cX6_count 145 = .ok (.if_icmp .ge 26, 3) := by decide +kernel
theorem dX6_count_148 : decode cX6_count 148 = .ok (.iload_n 2, 1) := by decide +kernel
theorem dX6_count_149 : decode cX6_count 149 = .ok (.aload_n 0, 1) := by decide +kernel
theorem dX6_count_150 : decode cX6_count 150 = .ok (.getfield 41, 3) := by decide +kernel
theorem dX6_count_153 : decode cX6_count 153 = .ok (.iload_n 3, 1) := by decide +kernel
theorem dX6_count_154 : decode cX6_count 154 = .ok (.baload, 1) := by decide +kernel
theorem dX6_count_155 : decode cX6_count 155 = .ok (.ifCond .eq 7, 3) := by decide +kernel
theorem dX6_count_158 : decode cX6_count 158 = .ok (.iconst 1, 1) := by decide +kernel
theorem dX6_count_159 : decode cX6_count 159 = .ok (.goto 4, 3) := by decide +kernel
theorem dX6_count_162 : decode cX6_count 162 = .ok (.iconst 0, 1) := by decide +kernel
theorem dX6_count_163 : decode cX6_count 163 = .ok (.iadd, 1) := by decide +kernel
theorem dX6_count_164 : decode cX6_count 164 = .ok (.istore_n 2, 1) := by decide +kernel
theorem dX6_count_165 : decode cX6_count 165 = .ok (.iinc 3 1, 3) := by decide +kernel
theorem dX6_count_168 : decode cX6_count 168 = .ok (.goto (-26), 3) := by decide +kernel
theorem dX6_count_171 : decode cX6_count 171 = .ok (.iload_n 2, 1) := by decide +kernel
theorem dX6_count_172 : decode cX6_count 172 = .ok (.ireturn, 1) := by decide +kernel
theorem dX6_count_173 : decode cX6_count 173 = .ok (.bipush (-9), 2) := by decide +kernel
theorem dX6_count_175 : decode cX6_count 175 = .ok (.ireturn, 1) := by decide +kernel
theorem dJ6_highestOneBit_0f7a4_0 : decode cJ6_highestOneBit_0f7a4 0 = .ok (.iload_n 0, 1) := by decide +kernel
theorem dJ6_highestOneBit_0f7a4_1 : decode cJ6_highestOneBit_0f7a4 1 = .ok (.ldc 127, 2) := by decide +kernel
theorem dJ6_highestOneBit_0f7a4_3 : decode cJ6_highestOneBit_0f7a4 3 = .ok (.iload_n 0, 1) := by decide +kernel
theorem dJ6_highestOneBit_0f7a4_4 : decode cJ6_highestOneBit_0f7a4 4 = .ok (.invokestatic 51, 3) := by decide +kernel
theorem dJ6_highestOneBit_0f7a4_7 : decode cJ6_highestOneBit_0f7a4 7 = .ok (.iushr, 1) := by decide +kernel
theorem dJ6_highestOneBit_0f7a4_8 : decode cJ6_highestOneBit_0f7a4 8 = .ok (.iand, 1) := by decide +kernel
theorem dJ6_highestOneBit_0f7a4_9 : decode cJ6_highestOneBit_0f7a4 9 = .ok (.ireturn, 1) := by decide +kernel
theorem dJ6_numberOfLeadingZeros_0f7a4_0 : decode cJ6_numberOfLeadingZeros_0f7a4 0 = .ok (.iload_n 0, 1) := by decide +kernel
theorem dJ6_numberOfLeadingZeros_0f7a4_1 : decode cJ6_numberOfLeadingZeros_0f7a4 1 = .ok (.ifCond .gt 14, 3) := by decide +kernel
theorem dJ6_numberOfLeadingZeros_0f7a4_4 : decode cJ6_numberOfLeadingZeros_0f7a4 4 = .ok (.iload_n 0, 1) := by decide +kernel
theorem dJ6_numberOfLeadingZeros_0f7a4_5 : decode cJ6_numberOfLeadingZeros_0f7a4 5 = .ok (.ifCond .ne 8, 3) := by decide +kernel
theorem dJ6_numberOfLeadingZeros_0f7a4_8 : decode cJ6_numberOfLeadingZeros_0f7a4 8 = .ok (.bipush 32, 2) := by decide +kernel
theorem dJ6_numberOfLeadingZeros_0f7a4_10 : decode cJ6_numberOfLeadingZeros_0f7a4 10 = .ok (.goto 4, 3) := by decide +kernel
theorem dJ6_numberOfLeadingZeros_0f7a4_13 : decode cJ6_numberOfLeadingZeros_0f7a4 13 = .ok (.iconst 0, 1) := by decide +kernel
theorem dJ6_numberOfLeadingZeros_0f7a4_14 : decode cJ6_numberOfLeadingZeros_0f7a4 14 = .ok (.ireturn, 1) := by decide +kernel
theorem dJ6_numberOfLeadingZeros_0f7a4_15 : decode cJ6_numberOfLeadingZeros_0f7a4 15 = .ok (.bipush 31, 2) := by decide +kernel
theorem dJ6_numberOfLeadingZeros_0f7a4_17 : decode cJ6_numberOfLeadingZeros_0f7a4 17 = .ok (.istore_n 1, 1) := by decide +kernel
theorem dJ6_numberOfLeadingZeros_0f7a4_18 : decode cJ6_numberOfLeadingZeros_0f7a4 18 = .ok (.iload_n 0, 1) := by decide +kernel
theorem dJ6_numberOfLeadingZeros_0f7a4_19 : decode cJ6_numberOfLeadingZeros_0f7a4 19 = .ok (.ldc_w 264, 3) := by decide +kernel
theorem dJ6_numberOfLeadingZeros_0f7a4_22 : decode cJ6_numberOfLeadingZeros_0f7a4 22 = .ok (.if_icmp .lt 11, 3) := by decide +kernel
theorem dJ6_numberOfLeadingZeros_0f7a4_25 : decode cJ6_numberOfLeadingZeros_0f7a4 25 = .ok (.iinc 1 (-16), 3) := by decide +kernel
theorem dJ6_numberOfLeadingZeros_0f7a4_28 : decode cJ6_numberOfLeadingZeros_0f7a4 28 = .ok (.iload_n 0, 1) := by decide +kernel
theorem dJ6_numberOfLeadingZeros_0f7a4_29 : decode cJ6_numberOfLeadingZeros_0f7a4 29 = .ok (.bipush 16, 2) := by decide +kernel
theorem dJ6_numberOfLeadingZeros_0f7a4_31 : decode cJ6_numberOfLeadingZeros_0f7a4 31 = .ok (.iushr, 1) := by decide +kernel
theorem dJ6_numberOfLeadingZeros_0f7a4_32 : decode cJ6_numberOfLeadingZeros_0f7a4 32 = .ok (.istore_n 0, 1) := by decide +kernel
theorem dJ6_numberOfLeadingZeros_0f7a4_33 : decode cJ6_numberOfLeadingZeros_0f7a4 33 = .ok (.iload_n 0, 1) := by decide +kernel
theorem dJ6_numberOfLeadingZeros_0f7a4_34 : decode cJ6_numberOfLeadingZeros_0f7a4 34 = .ok (.sipush 256, 3) := by decide +kernel
theorem dJ6_numberOfLeadingZeros_0f7a4_37 : decode cJ6_numberOfLeadingZeros_0f7a4 37 = .ok (.if_icmp .lt 11, 3) := by decide +kernel
theorem dJ6_numberOfLeadingZeros_0f7a4_40 : decode cJ6_numberOfLeadingZeros_0f7a4 40 = .ok (.iinc 1 (-8), 3) := by decide +kernel
theorem dJ6_numberOfLeadingZeros_0f7a4_43 : decode cJ6_numberOfLeadingZeros_0f7a4 43 = .ok (.iload_n 0, 1) := by decide +kernel
theorem dJ6_numberOfLeadingZeros_0f7a4_44 : decode cJ6_numberOfLeadingZeros_0f7a4 44 = .ok (.bipush 8, 2) := by decide +kernel
theorem dJ6_numberOfLeadingZeros_0f7a4_46 : decode cJ6_numberOfLeadingZeros_0f7a4 46 = .ok (.iushr, 1) := by decide +kernel
theorem dJ6_numberOfLeadingZeros_0f7a4_47 : decode cJ6_numberOfLeadingZeros_0f7a4 47 = .ok (.istore_n 0, 1) := by decide +kernel
theorem dJ6_numberOfLeadingZeros_0f7a4_48 : decode cJ6_numberOfLeadingZeros_0f7a4 48 = .ok (.iload_n 0, 1) := by decide +kernel
theorem dJ6_numberOfLeadingZeros_0f7a4_49 : decode cJ6_numberOfLeadingZeros_0f7a4 49 = .ok (.bipush 16, 2) := by decide +kernel
theorem dJ6_numberOfLeadingZeros_0f7a4_51 : decode cJ6_numberOfLeadingZeros_0f7a4 51 = .ok (.if_icmp .lt 10, 3) := by decide +kernel
theorem dJ6_numberOfLeadingZeros_0f7a4_54 : decode cJ6_numberOfLeadingZeros_0f7a4 54 = .ok (.iinc 1 (-4), 3) := by decide +kernel
theorem dJ6_numberOfLeadingZeros_0f7a4_57 : decode cJ6_numberOfLeadingZeros_0f7a4 57 = .ok (.iload_n 0, 1) := by decide +kernel
theorem dJ6_numberOfLeadingZeros_0f7a4_58 : decode cJ6_numberOfLeadingZeros_0f7a4 58 = .ok (.iconst 4, 1) := by decide +kernel
theorem dJ6_numberOfLeadingZeros_0f7a4_59 : decode cJ6_numberOfLeadingZeros_0f7a4 59 = .ok (.iushr, 1) := by decide +kernel
theorem dJ6_numberOfLeadingZeros_0f7a4_60 : decode cJ6_numberOfLeadingZeros_0f7a4 60 = .ok (.istore_n 0, 1) := by decide +kernel
theorem dJ6_numberOfLeadingZeros_0f7a4_61 : decode cJ6_numberOfLeadingZeros_0f7a4 61 = .ok (.iload_n 0, 1) := by decide +kernel
theorem dJ6_numberOfLeadingZeros_0f7a4_62 : decode cJ6_numberOfLeadingZeros_0f7a4 62 = .ok (.iconst 4, 1) := by decide +kernel
theorem dJ6_numberOfLeadingZeros_0f7a4_63 : decode cJ6_numberOfLeadingZeros_0f7a4 63 = .ok (.if_icmp .lt 10, 3) := by decide +kernel
theorem dJ6_numberOfLeadingZeros_0f7a4_66 : decode cJ6_numberOfLeadingZeros_0f7a4 66 = .ok (.iinc 1 (-2), 3) := by decide +kernel
theorem dJ6_numberOfLeadingZeros_0f7a4_69 : decode cJ6_numberOfLeadingZeros_0f7a4 69 = .ok (.iload_n 0, 1) := by decide +kernel
theorem dJ6_numberOfLeadingZeros_0f7a4_70 : decode cJ6_numberOfLeadingZeros_0f7a4 70 = .ok (.iconst 2, 1) := by decide +kernel
theorem dJ6_numberOfLeadingZeros_0f7a4_71 : decode cJ6_numberOfLeadingZeros_0f7a4 71 = .ok (.iushr, 1) := by decide +kernel
theorem dJ6_numberOfLeadingZeros_0f7a4_72 : decode cJ6_numberOfLeadingZeros_0f7a4 72 = .ok (.istore_n 0, 1) := by decide +kernel
theorem dJ6_numberOfLeadingZeros_0f7a4_73 : decode cJ6_numberOfLeadingZeros_0f7a4 73 = .ok (.iload_n 1, 1) := by decide +kernel
theorem dJ6_numberOfLeadingZeros_0f7a4_74 : decode cJ6_numberOfLeadingZeros_0f7a4 74 = .ok (.iload_n 0, 1) := by decide +kernel
theorem dJ6_numberOfLeadingZeros_0f7a4_75 : decode cJ6_numberOfLeadingZeros_0f7a4 75 = .ok (.iconst 1, 1) := by decide +kernel
theorem dJ6_numberOfLeadingZeros_0f7a4_76 : decode cJ6_numberOfLeadingZeros_0f7a4 76 = .ok (.iushr, 1) := by decide +kernel
theorem dJ6_numberOfLeadingZeros_0f7a4_77 : decode cJ6_numberOfLeadingZeros_0f7a4 77 = .ok (.isub, 1) := by decide +kernel
theorem dJ6_numberOfLeadingZeros_0f7a4_78 : decode cJ6_numberOfLeadingZeros_0f7a4 78 = .ok (.ireturn, 1) := by decide +kernel
theorem dJ6_numberOfTrailingZeros_0f7a4_0 : decode cJ6_numberOfTrailingZeros_0f7a4 0 = .ok (.iload_n 0, 1) := by decide +kernel
theorem dJ6_numberOfTrailingZeros_0f7a4_1 : decode cJ6_numberOfTrailingZeros_0f7a4 1 = .ok (.iconst (-1), 1) := by decide +kernel
theorem dJ6_numberOfTrailingZeros_0f7a4_2 : decode cJ6_numberOfTrailingZeros_0f7a4 2 = .ok (.ixor, 1) := by decide +kernel
theorem dJ6_numberOfTrailingZeros_0f7a4_3 : decode cJ6_numberOfTrailingZeros_0f7a4 3 = .ok (.iload_n 0, 1) := by decide +kernel
theorem dJ6_numberOfTrailingZeros_0f7a4_4 : decode cJ6_numberOfTrailingZeros_0f7a4 4 = .ok (.iconst 1, 1) := by decide +kernel
theorem dJ6_numberOfTrailingZeros_0f7a4_5 : decode cJ6_numberOfTrailingZeros_0f7a4 5 = .ok (.isub, 1) := by decide +kernel
theorem dJ6_numberOfTrailingZeros_0f7a4_6 : decode cJ6_numberOfTrailingZeros_0f7a4 6 = .ok (.iand, 1) := by decide +kernel
theorem dJ6_numberOfTrailingZeros_0f7a4_7 : decode cJ6_numberOfTrailingZeros_0f7a4 7 = .ok (.istore_n 0, 1) := by decide +kernel
theorem dJ6_numberOfTrailingZeros_0f7a4_8 : decode cJ6_numberOfTrailingZeros_0f7a4 8 = .ok (.iload_n 0, 1) := by decide +kernel
theorem dJ6_numberOfTrailingZeros_0f7a4_9 : decode cJ6_numberOfTrailingZeros_0f7a4 9 = .ok (.ifCond .gt 8, 3) := by decide +kernel
theorem dJ6_numberOfTrailingZeros_0f7a4_12 : decode cJ6_numberOfTrailingZeros_0f7a4 12 = .ok (.iload_n 0, 1) := by decide +kernel
theorem dJ6_numberOfTrailingZeros_0f7a4_13 : decode cJ6_numberOfTrailingZeros_0f7a4 13 = .ok (.bipush 32, 2) := by decide +kernel
theorem dJ6_numberOfTrailingZeros_0f7a4_15 : decode cJ6_numberOfTrailingZeros_0f7a4 15 = .ok (.iand, 1) := by decide +kernel
theorem dJ6_numberOfTrailingZeros_0f7a4_16 : decode cJ6_numberOfTrailingZeros_0f7a4 16 = .ok (.ireturn, 1) := by decide +kernel
theorem dJ6_numberOfTrailingZeros_0f7a4_17 : decode cJ6_numberOfTrailingZeros_0f7a4 17 = .ok (.iconst 1, 1) := by decide +kernel
theorem dJ6_numberOfTrailingZeros_0f7a4_18 : decode cJ6_numberOfTrailingZeros_0f7a4 18 = .ok (.istore_n 1, 1) := by decide +kernel
theorem dJ6_numberOfTrailingZeros_0f7a4_19 : decode cJ6_numberOfTrailingZeros_0f7a4 19 = .ok (.iload_n 0, 1) := by decide +kernel
theorem dJ6_numberOfTrailingZeros_0f7a4_20 : decode cJ6_numberOfTrailingZeros_0f7a4 20 = .ok (.ldc_w 264, 3) := by decide +kernel
theorem dJ6_numberOfTrailingZeros_0f7a4_23 : decode cJ6_numberOfTrailingZeros_0f7a4 23 = .ok (.if_icmp .le 11, 3) := by decide +kernel
theorem dJ6_numberOfTrailingZeros_0f7a4_26 : decode cJ6_numberOfTrailingZeros_0f7a4 26 = .ok (.iinc 1 16, 3) := by decide +kernel
theorem dJ6_numberOfTrailingZeros_0f7a4_29 : decode cJ6_numberOfTrailingZeros_0f7a4 29 = .ok (.iload_n 0, 1) := by decide +kernel
theorem dJ6_numberOfTrailingZeros_0f7a4_30 : decode cJ6_numberOfTrailingZeros_0f7a4 30 = .ok (.bipush 16, 2) := by decide +kernel
theorem dJ6_numberOfTrailingZeros_0f7a4_32 : decode cJ6_numberOfTrailingZeros_0f7a4 32 = .ok (.iushr, 1) := by decide +kernel
theorem dJ6_numberOfTrailingZeros_0f7a4_33 : decode cJ6_numberOfTrailingZeros_0f7a4 33 = .ok (.istore_n 0, 1) := by decide +kernel
theorem dJ6_numberOfTrailingZeros_0f7a4_34 : decode cJ6_numberOfTrailingZeros_0f7a4 34 = .ok (.iload_n 0, 1) := by decide +kernel
theorem dJ6_numberOfTrailingZeros_0f7a4_35 : decode cJ6_numberOfTrailingZeros_0f7a4 35 = .ok (.sipush 256, 3) := by decide +kernel
theorem dJ6_numberOfTrailingZeros_0f7a4_38 : decode cJ6_numberOfTrailingZeros_0f7a4 38 = .ok (.if_icmp .le 11, 3) := by decide +kernel
theorem dJ6_numberOfTrailingZeros_0f7a4_41 : decode cJ6_numberOfTrailingZeros_0f7a4 41 = .ok (.iinc 1 8, 3) := by decide +kernel
theorem dJ6_numberOfTrailingZeros_0f7a4_44 : decode cJ6_numberOfTrailingZeros_0f7a4 44 = .ok (.iload_n 0, 1) := by decide +kernel
theorem dJ6_numberOfTrailingZeros_0f7a4_45 : decode cJ6_numberOfTrailingZeros_0f7a4 45 = .ok (.bipush 8, 2) := by decide +kernel
theorem dJ6_numberOfTrailingZeros_0f7a4_47 : decode cJ6_numberOfTrailingZeros_0f7a4 47 = .ok (.iushr, 1) := by decide +kernel
theorem dJ6_numberOfTrailingZeros_0f7a4_48 : decode cJ6_numberOfTrailingZeros_0f7a4 48 = .ok (.istore_n 0, 1) := by decide +kernel
theorem dJ6_numberOfTrailingZeros_0f7a4_49 : decode cJ6_numberOfTrailingZeros_0f7a4 49 = .ok (.iload_n 0, 1) := by decide +kernel
theorem dJ6_numberOfTrailingZeros_0f7a4_50 : decode cJ6_numberOfTrailingZeros_0f7a4 50 = .ok (.bipush 16, 2) := by decide +kernel
theorem dJ6_numberOfTrailingZeros_0f7a4_52 : decode cJ6_numberOfTrailingZeros_0f7a4 52 = .ok (.if_icmp .le 10, 3) := by decide +kernel
theorem dJ6_numberOfTrailingZeros_0f7a4_55 : decode cJ6_numberOfTrailingZeros_0f7a4 55 = .ok (.iinc 1 4, 3) := by decide +kernel
theorem dJ6_numberOfTrailingZeros_0f7a4_58 : decode cJ6_numberOfTrailingZeros_0f7a4 58 = .ok (.iload_n 0, 1) := by decide +kernel
theorem dJ6_numberOfTrailingZeros_0f7a4_59 : decode cJ6_numberOfTrailingZeros_0f7a4 59 = .ok (.iconst 4, 1) := by decide +kernel
theorem dJ6_numberOfTrailingZeros_0f7a4_60 : decode cJ6_numberOfTrailingZeros_0f7a4 60 = .ok (.iushr, 1) := by decide +kernel
theorem dJ6_numberOfTrailingZeros_0f7a4_61 : decode cJ6_numberOfTrailingZeros_0f7a4 61 = .ok (.istore_n 0, 1) := by decide +kernel
theorem dJ6_numberOfTrailingZeros_0f7a4_62 : decode cJ6_numberOfTrailingZeros_0f7a4 62 = .ok (.iload_n 0, 1) := by decide +kernel
theorem dJ6_numberOfTrailingZeros_0f7a4_63 : decode cJ6_numberOfTrailingZeros_0f7a4 63 = .ok (.iconst 4, 1) := by decide +kernel
theorem dJ6_numberOfTrailingZeros_0f7a4_64 : decode cJ6_numberOfTrailingZeros_0f7a4 64 = .ok (.if_icmp .le 10, 3) := by decide +kernel
theorem dJ6_numberOfTrailingZeros_0f7a4_67 : decode cJ6_numberOfTrailingZeros_0f7a4 67 = .ok (.iinc 1 2, 3) := by decide +kernel
theorem dJ6_numberOfTrailingZeros_0f7a4_70 : decode cJ6_numberOfTrailingZeros_0f7a4 70 = .ok (.iload_n 0, 1) := by decide +kernel
theorem dJ6_numberOfTrailingZeros_0f7a4_71 : decode cJ6_numberOfTrailingZeros_0f7a4 71 = .ok (.iconst 2, 1) := by decide +kernel
theorem dJ6_numberOfTrailingZeros_0f7a4_72 : decode cJ6_numberOfTrailingZeros_0f7a4 72 = .ok (.iushr, 1) := by decide +kernel
theorem dJ6_numberOfTrailingZeros_0f7a4_73 : decode cJ6_numberOfTrailingZeros_0f7a4 73 = .ok (.istore_n 0, 1) := by decide +kernel
theorem dJ6_numberOfTrailingZeros_0f7a4_74 : decode cJ6_numberOfTrailingZeros_0f7a4 74 = .ok (.iload_n 1, 1) := by decide +kernel
theorem dJ6_numberOfTrailingZeros_0f7a4_75 : decode cJ6_numberOfTrailingZeros_0f7a4 75 = .ok (.iload_n 0, 1) := by decide +kernel
theorem dJ6_numberOfTrailingZeros_0f7a4_76 : decode cJ6_numberOfTrailingZeros_0f7a4 76 = .ok (.iconst 1, 1) := by decide +kernel
theorem dJ6_numberOfTrailingZeros_0f7a4_77 : decode cJ6_numberOfTrailingZeros_0f7a4 77 = .ok (.iushr, 1) := by decide +kernel
theorem dJ6_numberOfTrailingZeros_0f7a4_78 : decode cJ6_numberOfTrailingZeros_0f7a4 78 = .ok (.iadd, 1) := by decide +kernel
theorem dJ6_numberOfTrailingZeros_0f7a4_79 : decode cJ6_numberOfTrailingZeros_0f7a4 79 = .ok (.ireturn, 1) := by decide +kernel
theorem dJ6_bitCount_0f7a4_0 : decode cJ6_bitCount_0f7a4 0 = .ok (.iload_n 0, 1) := by decide +kernel
theorem dJ6_bitCount_0f7a4_1 : decode cJ6_bitCount_0f7a4 1 = .ok (.iload_n 0, 1) := by decide +kernel
theorem dJ6_bitCount_0f7a4_2 : decode cJ6_bitCount_0f7a4 2 = .ok (.iconst 1, 1) := by decide +kernel
theorem dJ6_bitCount_0f7a4_3 : decode cJ6_bitCount_0f7a4 3 = .ok (.iushr, 1) := by decide +kernel
theorem dJ6_bitCount_0f7a4_4 : decode cJ6_bitCount_0f7a4 4 = .ok (.ldc_w 265, 3) := by decide +kernel
theorem dJ6_bitCount_0f7a4_7 : decode cJ6_bitCount_0f7a4 7 = .ok (.iand, 1) := by decide +kernel
theorem dJ6_bitCount_0f7a4_8 : decode cJ6_bitCount_0f7a4 8 = .ok (.isub, 1) := by decide +kernel
theorem dJ6_bitCount_0f7a4_9 : decode cJ6_bitCount_0f7a4 9 = .ok (.istore_n 0, 1) := by decide +kernel
theorem dJ6_bitCount_0f7a4_10 : decode cJ6_bitCount_0f7a4 10 = .ok (.iload_n 0, 1) := by decide +kernel
theorem dJ6_bitCount_0f7a4_11 : decode cJ6_bitCount_0f7a4 11 = .ok (.ldc_w 266, 3) := by decide +kernel
