theorem dX0_init_0 : decode cX0_init 0 = .ok (.aload_n 0, 1) := by decide +kernel
theorem dX0_init_1 : decode cX0_init 1 = .ok (.invokespecial 3, 3) := by decide +kernel
theorem dX0_init_4 : decode cX0_init 4 = .ok (.aload_n 0, 1) := by decide +kernel
theorem dX0_init_5 : decode cX0_init 5 = .ok (.bipush 8, 2) := by decide +kernel
theorem dX0_init_7 : decode cX0_init 7 = .ok (.putfield 9, 3) := by decide +kernel
theorem dX0_init_10 : decode cX0_init 10 = .ok (.aload_n 0, 1) := by decide +kernel
theorem dX0_init_11 : decode cX0_init 11 = .ok (.iconst 0, 1) := by decide +kernel
theorem dX0_init_12 : decode cX0_init 12 = .ok (.putfield 15, 3) := by decide +kernel
theorem dX0_init_15 : decode cX0_init 15 = .ok (.aload_n 0, 1) := by decide +kernel
theorem dX0_init_16 : decode cX0_init 16 = .ok (.iconst 3, 1) := by decide +kernel
theorem dX0_init_17 : decode cX0_init 17 = .ok (.bipush 14, 2) := by decide +kernel
theorem dX0_init_19 : decode cX0_init 19 = .ok (.multianewarray 18 2, 4) := by decide +kernel
theorem dX0_init_23 : decode cX0_init 23 = .ok (.putfield 20, 3) := by decide +kernel
theorem dX0_init_26 : decode cX0_init 26 = .ok (.iconst 0, 1) := by decide +kernel
theorem dX0_init_27 : decode cX0_init 27 = .ok (.istore_n 1, 1) := by decide +kernel
theorem dX0_init_28 : decode cX0_init 28 = .ok (.iload_n 1, 1) := by decide +kernel
theorem dX0_init_29 : decode cX0_init 29 = .ok (.bipush 14, 2) := by decide +kernel
theorem dX0_init_31 : decode cX0_init 31 = .ok (.if_icmp .ge 27, 3) := by decide +kernel
theorem dX0_init_34 : decode cX0_init 34 = .ok (.aload_n 0, 1) := by decide +kernel
theorem dX0_init_35 : decode cX0_init 35 = .ok (.getfield 20, 3) := by decide +kernel
theorem dX0_init_38 : decode cX0_init 38 = .ok (.iconst 0, 1) := by decide +kernel
theorem dX0_init_39 : decode cX0_init 39 = .ok (.aaload, 1) := by decide +kernel
theorem dX0_init_40 : decode cX0_init 40 = .ok (.iload_n 1, 1) := by decide +kernel
theorem dX0_init_41 : decode cX0_init 41 = .ok (.iconst 1, 1) := by decide +kernel
theorem dX0_init_42 : decode cX0_init 42 = .ok (.iastore, 1) := by decide +kernel
theorem dX0_init_43 : decode cX0_init 43 = .ok (.aload_n 0, 1) := by decide +kernel
theorem dX0_init_44 : decode cX0_init 44 = .ok (.getfield 20, 3) := by decide +kernel
theorem dX0_init_47 : decode cX0_init 47 = .ok (.iconst 2, 1) := by decide +kernel
theorem dX0_init_48 : decode cX0_init 48 = .ok (.aaload, 1) := by decide +kernel
theorem dX0_init_49 : decode cX0_init 49 = .ok (.iload_n 1, 1) := by decide +kernel
theorem dX0_init_50 : decode cX0_init 50 = .ok (.iconst 4, 1) := by decide +kernel
theorem dX0_init_51 : decode cX0_init 51 = .ok (.iastore, 1) := by decide +kernel
theorem dX0_init_52 : decode cX0_init 52 = .ok (.iinc 1 1, 3) := by decide +kernel
theorem dX0_init_55 : decode cX0_init 55 = .ok (.goto (-27), 3) := by decide +kernel
theorem dX0_init_58 : decode cX0_init 58 = .ok (.return_, 1) := by decide +kernel
theorem dX0_leastOf_0 : decode cX0_leastOf 0 = .ok (.iload_n 0, 1) := by decide +kernel
theorem dX0_leastOf_1 : decode cX0_leastOf 1 = .ok (.iconst 2, 1) := by decide +kernel
theorem dX0_leastOf_2 : decode cX0_leastOf 2 = .ok (.if_icmp .ne 7, 3) := by decide +kernel
theorem dX0_leastOf_5 : decode cX0_leastOf 5 = .ok (.iconst 1, 1) := by decide +kernel
theorem dX0_leastOf_6 : decode cX0_leastOf 6 = .ok (.goto 4, 3) := by decide +kernel
theorem dX0_leastOf_9 : decode cX0_leastOf 9 = .ok (.iconst 0, 1) := by decide +kernel
theorem dX0_leastOf_10 : decode cX0_leastOf 10 = .ok (.ireturn, 1) := by decide +kernel
theorem dX0_greatestOf_0 : decode cX0_greatestOf 0 = .ok (.iload_n 0, 1) := by decide +kernel
theorem dX0_greatestOf_1 : decode cX0_greatestOf 1 = .ok (.iconst 2, 1) := by decide +kernel
theorem dX0_greatestOf_2 : decode cX0_greatestOf 2 = .ok (.if_icmp .ne 8, 3) := by decide +kernel
theorem dX0_greatestOf_5 : decode cX0_greatestOf 5 = .ok (.bipush 7, 2) := by decide +kernel
theorem dX0_greatestOf_7 : decode cX0_greatestOf 7 = .ok (.goto 4, 3) := by decide +kernel
theorem dX0_greatestOf_10 : decode cX0_greatestOf 10 = .ok (.iconst 4, 1) := by decide +kernel
theorem dX0_greatestOf_11 : decode cX0_greatestOf 11 = .ok (.ireturn, 1) := by decide +kernel
theorem dX0_change_0 : decode cX0_change 0 = .ok (.aload_n 0, 1) := by decide +kernel
theorem dX0_change_1 : decode cX0_change 1 = .ok (.getfield 20, 3) := by decide +kernel
theorem dX0_change_4 : decode cX0_change 4 = .ok (.iload_n 2, 1) := by decide +kernel
theorem dX0_change_5 : decode cX0_change 5 = .ok (.aaload, 1) := by decide +kernel
theorem dX0_change_6 : decode cX0_change 6 = .ok (.iload_n 1, 1) := by decide +kernel
theorem dX0_change_7 : decode cX0_change 7 = .ok (.iaload, 1) := by decide +kernel
theorem dX0_change_8 : decode cX0_change 8 = .ok (.istore 4, 2) := by decide +kernel
theorem dX0_change_10 : decode cX0_change 10 = .ok (.aload_n 0, 1) := by decide +kernel
theorem dX0_change_11 : decode cX0_change 11 = .ok (.getfield 20, 3) := by decide +kernel
theorem dX0_change_14 : decode cX0_change 14 = .ok (.iload_n 2, 1) := by decide +kernel
theorem dX0_change_15 : decode cX0_change 15 = .ok (.aaload, 1) := by decide +kernel
theorem dX0_change_16 : decode cX0_change 16 = .ok (.iload_n 1, 1) := by decide +kernel
theorem dX0_change_17 : decode cX0_change 17 = .ok (.iload_n 3, 1) := by decide +kernel
theorem dX0_change_18 : decode cX0_change 18 = .ok (.iastore, 1) := by decide +kernel
theorem dX0_change_19 : decode cX0_change 19 = .ok (.iload 4, 2) := by decide +kernel
theorem dX0_change_21 : decode cX0_change 21 = .ok (.ireturn, 1) := by decide +kernel
theorem dX0_isCell_0 : decode cX0_isCell 0 = .ok (.iload_n 1, 1) := by decide +kernel
theorem dX0_isCell_1 : decode cX0_isCell 1 = .ok (.ifCond .lt 15, 3) := by decide +kernel
theorem dX0_isCell_4 : decode cX0_isCell 4 = .ok (.iload_n 1, 1) := by decide +kernel
theorem dX0_isCell_5 : decode cX0_isCell 5 = .ok (.aload_n 0, 1) := by decide +kernel
theorem dX0_isCell_6 : decode cX0_isCell 6 = .ok (.getfield 9, 3) := by decide +kernel
theorem dX0_isCell_9 : decode cX0_isCell 9 = .ok (.if_icmp .ge 7, 3) := by decide +kernel
theorem dX0_isCell_12 : decode cX0_isCell 12 = .ok (.iconst 1, 1) := by decide +kernel
theorem dX0_isCell_13 : decode cX0_isCell 13 = .ok (.goto 4, 3) := by decide +kernel
theorem dX0_isCell_16 : decode cX0_isCell 16 = .ok (.iconst 0, 1) := by decide +kernel
theorem dX0_isCell_17 : decode cX0_isCell 17 = .ok (.ireturn, 1) := by decide +kernel
theorem dX0_isWord_0 : decode cX0_isWord 0 = .ok (.iload_n 1, 1) := by decide +kernel
theorem dX0_isWord_1 : decode cX0_isWord 1 = .ok (.aload_n 0, 1) := by decide +kernel
theorem dX0_isWord_2 : decode cX0_isWord 2 = .ok (.getfield 9, 3) := by decide +kernel
theorem dX0_isWord_5 : decode cX0_isWord 5 = .ok (.ishr, 1) := by decide +kernel
theorem dX0_isWord_6 : decode cX0_isWord 6 = .ok (.ifCond .ne 7, 3) := by decide +kernel
theorem dX0_isWord_9 : decode cX0_isWord 9 = .ok (.iconst 1, 1) := by decide +kernel
theorem dX0_isWord_10 : decode cX0_isWord 10 = .ok (.goto 4, 3) := by decide +kernel
theorem dX0_isWord_13 : decode cX0_isWord 13 = .ok (.iconst 0, 1) := by decide +kernel
theorem dX0_isWord_14 : decode cX0_isWord 14 = .ok (.ireturn, 1) := by decide +kernel
theorem dX0_isMasked_0 : decode cX0_isMasked 0 = .ok (.aload_n 0, 1) := by decide +kernel
theorem dX0_isMasked_1 : decode cX0_isMasked 1 = .ok (.getfield 15, 3) := by decide +kernel
theorem dX0_isMasked_4 : decode cX0_isMasked 4 = .ok (.iload_n 1, 1) := by decide +kernel
theorem dX0_isMasked_5 : decode cX0_isMasked 5 = .ok (.ishr, 1) := by decide +kernel
theorem dX0_isMasked_6 : decode cX0_isMasked 6 = .ok (.iconst 1, 1) := by decide +kernel
theorem dX0_isMasked_7 : decode cX0_isMasked 7 = .ok (.iand, 1) := by decide +kernel
theorem dX0_isMasked_8 : decode cX0_isMasked 8 = .ok (.iconst 1, 1) := by decide +kernel
theorem dX0_isMasked_9 : decode cX0_isMasked 9 = .ok (.if_icmp .ne 7, 3) := by decide +kernel
theorem dX0_isMasked_12 : decode cX0_isMasked 12 = .ok (.iconst 1, 1) := by decide +kernel
theorem dX0_isMasked_13 : decode cX0_isMasked 13 = .ok (.goto 4, 3) := by decide +kernel
theorem dX0_isMasked_16 : decode cX0_isMasked 16 = .ok (.iconst 0, 1) := by decide +kernel
theorem dX0_isMasked_17 : decode cX0_isMasked 17 = .ok (.ireturn, 1) := by decide +kernel
theorem dX0_open_0 : decode cX0_open 0 = .ok (.iload_n 1, 1) := by decide +kernel
theorem dX0_open_1 : decode cX0_open 1 = .ok (.aload_n 0, 1) := by decide +kernel
theorem dX0_open_2 : decode cX0_open 2 = .ok (.getfield 15, 3) := by decide +kernel
theorem dX0_open_5 : decode cX0_open 5 = .ok (.iconst (-1), 1) := by decide +kernel
theorem dX0_open_6 : decode cX0_open 6 = .ok (.ixor, 1) := by decide +kernel
theorem dX0_open_7 : decode cX0_open 7 = .ok (.iand, 1) := by decide +kernel
theorem dX0_open_8 : decode cX0_open 8 = .ok (.ireturn, 1) := by decide +kernel
theorem dX0_openSet_0 : decode cX0_openSet 0 = .ok (.aload_n 0, 1) := by decide +kernel
theorem dX0_openSet_1 : decode cX0_openSet 1 = .ok (.iconst 1, 1) := by decide +kernel
theorem dX0_openSet_2 : decode cX0_openSet 2 = .ok (.aload_n 0, 1) := by decide +kernel
theorem dX0_openSet_3 : decode cX0_openSet 3 = .ok (.getfield 9, 3) := by decide +kernel
theorem dX0_openSet_6 : decode cX0_openSet 6 = .ok (.ishl, 1) := by decide +kernel
theorem dX0_openSet_7 : decode cX0_openSet 7 = .ok (.iconst 1, 1) := by decide +kernel
theorem dX0_openSet_8 : decode cX0_openSet 8 = .ok (.isub, 1) := by decide +kernel
theorem dX0_openSet_9 : decode cX0_openSet 9 = .ok (.invokevirtual 23, 3) := by decide +kernel
theorem dX0_openSet_12 : decode cX0_openSet 12 = .ok (.ireturn, 1) := by decide +kernel
theorem dX0_openCells_0 : decode cX0_openCells 0 = .ok (.aload_n 0, 1) := by decide +kernel
theorem dX0_openCells_1 : decode cX0_openCells 1 = .ok (.invokevirtual 27, 3) := by decide +kernel
theorem dX0_openCells_4 : decode cX0_openCells 4 = .ok (.invokestatic 31, 3) := by decide +kernel
theorem dX0_openCells_7 : decode cX0_openCells 7 = .ok (.ireturn, 1) := by decide +kernel
theorem dX0_allWays_0 : decode cX0_allWays 0 = .ok (.lconst 1, 1) := by decide +kernel
theorem dX0_allWays_1 : decode cX0_allWays 1 = .ok (.iconst 3, 1) := by decide +kernel
theorem dX0_allWays_2 : decode cX0_allWays 2 = .ok (.aload_n 0, 1) := by decide +kernel
theorem dX0_allWays_3 : decode cX0_allWays 3 = .ok (.invokevirtual 36, 3) := by decide +kernel
theorem dX0_allWays_6 : decode cX0_allWays 6 = .ok (.imul, 1) := by decide +kernel
theorem dX0_allWays_7 : decode cX0_allWays 7 = .ok (.lshl, 1) := by decide +kernel
theorem dX0_allWays_8 : decode cX0_allWays 8 = .ok (.lreturn, 1) := by decide +kernel
theorem dX0_agedChance_0 : decode cX0_agedChance 0 = .ok (.iconst 4, 1) := by decide +kernel
theorem dX0_agedChance_1 : decode cX0_agedChance 1 = .ok (.aload_n 0, 1) := by decide +kernel
theorem dX0_agedChance_2 : decode cX0_agedChance 2 = .ok (.getfield 20, 3) := by decide +kernel
theorem dX0_agedChance_5 : decode cX0_agedChance 5 = .ok (.iconst 0, 1) := by decide +kernel
theorem dX0_agedChance_6 : decode cX0_agedChance 6 = .ok (.aaload, 1) := by decide +kernel
theorem dX0_agedChance_7 : decode cX0_agedChance 7 = .ok (.iload_n 1, 1) := by decide +kernel
theorem dX0_agedChance_8 : decode cX0_agedChance 8 = .ok (.iaload, 1) := by decide +kernel
theorem dX0_agedChance_9 : decode cX0_agedChance 9 = .ok (.aload_n 0, 1) := by decide +kernel
theorem dX0_agedChance_10 : decode cX0_agedChance 10 = .ok (.getfield 20, 3) := by decide +kernel
theorem dX0_agedChance_13 : decode cX0_agedChance 13 = .ok (.iconst 1, 1) := by decide +kernel
theorem dX0_agedChance_14 : decode cX0_agedChance 14 = .ok (.aaload, 1) := by decide +kernel
theorem dX0_agedChance_15 : decode cX0_agedChance 15 = .ok (.iload_n 1, 1) := by decide +kernel
theorem dX0_agedChance_16 : decode cX0_agedChance 16 = .ok (.iaload, 1) := by decide +kernel
theorem dX0_agedChance_17 : decode cX0_agedChance 17 = .ok (.iload_n 2, 1) := by decide +kernel
theorem dX0_agedChance_18 : decode cX0_agedChance 18 = .ok (.imul, 1) := by decide +kernel
theorem dX0_agedChance_19 : decode cX0_agedChance 19 = .ok (.bipush 10, 2) := by decide +kernel
theorem dX0_agedChance_21 : decode cX0_agedChance 21 = .ok (.idiv, 1) := by decide +kernel
theorem dX0_agedChance_22 : decode cX0_agedChance 22 = .ok (.iadd, 1) := by decide +kernel
theorem dX0_agedChance_23 : decode cX0_agedChance 23 = .ok (.invokestatic 39, 3) := by decide +kernel
theorem dX0_agedChance_26 : decode cX0_agedChance 26 = .ok (.ireturn, 1) := by decide +kernel
theorem dX0_likelierThan_0 : decode cX0_likelierThan 0 = .ok (.iconst 0, 1) := by decide +kernel
theorem dX0_likelierThan_1 : decode cX0_likelierThan 1 = .ok (.istore_n 3, 1) := by decide +kernel
theorem dX0_likelierThan_2 : decode cX0_likelierThan 2 = .ok (.iconst 0, 1) := by decide +kernel
theorem dX0_likelierThan_3 : decode cX0_likelierThan 3 = .ok (.istore 4, 2) := by decide +kernel
theorem dX0_likelierThan_5 : decode cX0_likelierThan 5 = .ok (.iload 4, 2) := by decide +kernel
theorem dX0_likelierThan_7 : decode cX0_likelierThan 7 = .ok (.aload_n 0, 1) := by decide +kernel
theorem dX0_likelierThan_8 : decode cX0_likelierThan 8 = .ok (.getfield 9, 3) := by decide +kernel
theorem dX0_likelierThan_11 : decode cX0_likelierThan 11 = .ok (.if_icmp .ge 27, 3) := by decide +kernel
theorem dX0_likelierThan_14 : decode cX0_likelierThan 14 = .ok (.aload_n 0, 1) := by decide +kernel
theorem dX0_likelierThan_15 : decode cX0_likelierThan 15 = .ok (.iload 4, 2) := by decide +kernel
theorem dX0_likelierThan_17 : decode cX0_likelierThan 17 = .ok (.iload_n 2, 1) := by decide +kernel
theorem dX0_likelierThan_18 : decode cX0_likelierThan 18 = .ok (.invokevirtual 45, 3) := by decide +kernel
theorem dX0_likelierThan_21 : decode cX0_likelierThan 21 = .ok (.iload_n 1, 1) := by decide +kernel
theorem dX0_likelierThan_22 : decode cX0_likelierThan 22 = .ok (.if_icmp .le 10, 3) := by decide +kernel
theorem dX0_likelierThan_25 : decode cX0_likelierThan 25 = .ok (.iload_n 3, 1) := by decide +kernel
theorem dX0_likelierThan_26 : decode cX0_likelierThan 26 = .ok (.iconst 1, 1) := by decide +kernel
theorem dX0_likelierThan_27 : decode cX0_likelierThan 27 = .ok (.iload 4, 2) := by decide +kernel
theorem dX0_likelierThan_29 : decode cX0_likelierThan 29 = .ok (.ishl, 1) := by decide +kernel
theorem dX0_likelierThan_30 : decode cX0_likelierThan 30 = .ok (.ior, 1) := by decide +kernel
theorem dX0_likelierThan_31 : decode cX0_likelierThan 31 = .ok (.istore_n 3, 1) := by decide +kernel
theorem dX0_likelierThan_32 : decode cX0_likelierThan 32 = .ok (.iinc 4 1, 3) := by decide +kernel
theorem dX0_likelierThan_35 : decode cX0_likelierThan 35 = .ok (.goto (-30), 3) := by decide +kernel
theorem dX0_likelierThan_38 : decode cX0_likelierThan 38 = .ok (.iload_n 3, 1) := by decide +kernel
theorem dX0_likelierThan_39 : decode cX0_likelierThan 39 = .ok (.ireturn, 1) := by decide +kernel
theorem dX0_waysToBe_0 : decode cX0_waysToBe 0 = .ok (.lconst 1, 1) := by decide +kernel
theorem dX0_waysToBe_1 : decode cX0_waysToBe 1 = .ok (.lstore_n 2, 1) := by decide +kernel
theorem dX0_waysToBe_2 : decode cX0_waysToBe 2 = .ok (.iconst 0, 1) := by decide +kernel
theorem dX0_waysToBe_3 : decode cX0_waysToBe 3 = .ok (.istore 4, 2) := by decide +kernel
theorem dX0_waysToBe_5 : decode cX0_waysToBe 5 = .ok (.iload 4, 2) := by decide +kernel
theorem dX0_waysToBe_7 : decode cX0_waysToBe 7 = .ok (.aload_n 0, 1) := by decide +kernel
theorem dX0_waysToBe_8 : decode cX0_waysToBe 8 = .ok (.getfield 9, 3) := by decide +kernel
theorem dX0_waysToBe_11 : decode cX0_waysToBe 11 = .ok (.if_icmp .ge 54, 3) := by decide +kernel
theorem dX0_waysToBe_14 : decode cX0_waysToBe 14 = .ok (.aload_n 0, 1) := by decide +kernel
theorem dX0_waysToBe_15 : decode cX0_waysToBe 15 = .ok (.iload 4, 2) := by decide +kernel
theorem dX0_waysToBe_17 : decode cX0_waysToBe 17 = .ok (.invokevirtual 48, 3) := by decide +kernel
theorem dX0_waysToBe_20 : decode cX0_waysToBe 20 = .ok (.ifCond .ne 39, 3) := by decide +kernel
theorem dX0_waysToBe_23 : decode cX0_waysToBe 23 = .ok (.aload_n 0, 1) := by decide +kernel
theorem dX0_waysToBe_24 : decode cX0_waysToBe 24 = .ok (.getfield 20, 3) := by decide +kernel
theorem dX0_waysToBe_27 : decode cX0_waysToBe 27 = .ok (.iconst 2, 1) := by decide +kernel
theorem dX0_waysToBe_28 : decode cX0_waysToBe 28 = .ok (.aaload, 1) := by decide +kernel
theorem dX0_waysToBe_29 : decode cX0_waysToBe 29 = .ok (.iload 4, 2) := by decide +kernel
theorem dX0_waysToBe_31 : decode cX0_waysToBe 31 = .ok (.iaload, 1) := by decide +kernel
theorem dX0_waysToBe_32 : decode cX0_waysToBe 32 = .ok (.istore 5, 2) := by decide +kernel
theorem dX0_waysToBe_34 : decode cX0_waysToBe 34 = .ok (.lload_n 2, 1) := by decide +kernel
theorem dX0_waysToBe_35 : decode cX0_waysToBe 35 = .ok (.iload_n 1, 1) := by decide +kernel
theorem dX0_waysToBe_36 : decode cX0_waysToBe 36 = .ok (.iload 4, 2) := by decide +kernel
theorem dX0_waysToBe_38 : decode cX0_waysToBe 38 = .ok (.ishr, 1) := by decide +kernel
theorem dX0_waysToBe_39 : decode cX0_waysToBe 39 = .ok (.iconst 1, 1) := by decide +kernel
theorem dX0_waysToBe_40 : decode cX0_waysToBe 40 = .ok (.iand, 1) := by decide +kernel
theorem dX0_waysToBe_41 : decode cX0_waysToBe 41 = .ok (.iconst 1, 1) := by decide +kernel
theorem dX0_waysToBe_42 : decode cX0_waysToBe 42 = .ok (.if_icmp .ne 9, 3) := by decide +kernel
theorem dX0_waysToBe_45 : decode cX0_waysToBe 45 = .ok (.iload 5, 2) := by decide +kernel
theorem dX0_waysToBe_47 : decode cX0_waysToBe 47 = .ok (.i2l, 1) := by decide +kernel
theorem dX0_waysToBe_48 : decode cX0_waysToBe 48 = .ok (.goto 9, 3) := by decide +kernel
theorem dX0_waysToBe_51 : decode cX0_waysToBe 51 = .ok (.bipush 8, 2) := by decide +kernel
theorem dX0_waysToBe_53 : decode cX0_waysToBe 53 = .ok (.iload 5, 2) := by decide +kernel
theorem dX0_waysToBe_55 : decode cX0_waysToBe 55 = .ok (.isub, 1) := by decide +kernel
theorem dX0_waysToBe_56 : decode cX0_waysToBe 56 = .ok (.i2l, 1) := by decide +kernel
theorem dX0_waysToBe_57 : decode cX0_waysToBe 57 = .ok (.lmul, 1) := by decide +kernel
theorem dX0_waysToBe_58 : decode cX0_waysToBe 58 = .ok (.lstore_n 2, 1) := by decide +kernel
theorem dX0_waysToBe_59 : decode cX0_waysToBe 59 = .ok (.iinc 4 1, 3) := by decide +kernel
theorem dX0_waysToBe_62 : decode cX0_waysToBe 62 = .ok (.goto (-57), 3) := by decide +kernel
theorem dX0_waysToBe_65 : decode cX0_waysToBe 65 = .ok (.lload_n 2, 1) := by decide +kernel
theorem dX0_waysToBe_66 : decode cX0_waysToBe 66 = .ok (.lreturn, 1) := by decide +kernel
theorem dX0_evenBitsLedByOne_0 : decode cX0_evenBitsLedByOne 0 = .ok (.iconst 1, 1) := by decide +kernel
theorem dX0_evenBitsLedByOne_1 : decode cX0_evenBitsLedByOne 1 = .ok (.istore_n 2, 1) := by decide +kernel
theorem dX0_evenBitsLedByOne_2 : decode cX0_evenBitsLedByOne 2 = .ok (.iconst 0, 1) := by decide +kernel
theorem dX0_evenBitsLedByOne_3 : decode cX0_evenBitsLedByOne 3 = .ok (.istore_n 3, 1) := by decide +kernel
theorem dX0_evenBitsLedByOne_4 : decode cX0_evenBitsLedByOne 4 = .ok (.iload_n 3, 1) := by decide +kernel
theorem dX0_evenBitsLedByOne_5 : decode cX0_evenBitsLedByOne 5 = .ok (.aload_n 0, 1) := by decide +kernel
theorem dX0_evenBitsLedByOne_6 : decode cX0_evenBitsLedByOne 6 = .ok (.getfield 9, 3) := by decide +kernel
theorem dX0_evenBitsLedByOne_9 : decode cX0_evenBitsLedByOne 9 = .ok (.if_icmp .ge 46, 3) := by decide +kernel
theorem dX0_evenBitsLedByOne_12 : decode cX0_evenBitsLedByOne 12 = .ok (.aload_n 0, 1) := by decide +kernel
theorem dX0_evenBitsLedByOne_13 : decode cX0_evenBitsLedByOne 13 = .ok (.iload_n 3, 1) := by decide +kernel
theorem dX0_evenBitsLedByOne_14 : decode cX0_evenBitsLedByOne 14 = .ok (.invokevirtual 52, 3) := by decide +kernel
theorem dX0_evenBitsLedByOne_17 : decode cX0_evenBitsLedByOne 17 = .ok (.istore 4, 2) := by decide +kernel
theorem dX0_evenBitsLedByOne_19 : decode cX0_evenBitsLedByOne 19 = .ok (.iload 4, 2) := by decide +kernel
theorem dX0_evenBitsLedByOne_21 : decode cX0_evenBitsLedByOne 21 = .ok (.ifCond .lt 28, 3) := by decide +kernel
theorem dX0_evenBitsLedByOne_24 : decode cX0_evenBitsLedByOne 24 = .ok (.iload_n 1, 1) := by decide +kernel
theorem dX0_evenBitsLedByOne_25 : decode cX0_evenBitsLedByOne 25 = .ok (.iload 4, 2) := by decide +kernel
theorem dX0_evenBitsLedByOne_27 : decode cX0_evenBitsLedByOne 27 = .ok (.ishr, 1) := by decide +kernel
theorem dX0_evenBitsLedByOne_28 : decode cX0_evenBitsLedByOne 28 = .ok (.iconst 1, 1) := by decide +kernel
theorem dX0_evenBitsLedByOne_29 : decode cX0_evenBitsLedByOne 29 = .ok (.iand, 1) := by decide +kernel
theorem dX0_evenBitsLedByOne_30 : decode cX0_evenBitsLedByOne 30 = .ok (.iload_n 1, 1) := by decide +kernel
theorem dX0_evenBitsLedByOne_31 : decode cX0_evenBitsLedByOne 31 = .ok (.iload_n 3, 1) := by decide +kernel
theorem dX0_evenBitsLedByOne_32 : decode cX0_evenBitsLedByOne 32 = .ok (.ishr, 1) := by decide +kernel
theorem dX0_evenBitsLedByOne_33 : decode cX0_evenBitsLedByOne 33 = .ok (.iconst 1, 1) := by decide +kernel
theorem dX0_evenBitsLedByOne_34 : decode cX0_evenBitsLedByOne 34 = .ok (.iand, 1) := by decide +kernel
theorem dX0_evenBitsLedByOne_35 : decode cX0_evenBitsLedByOne 35 = .ok (.if_icmp .eq 14, 3) := by decide +kernel
theorem dX0_evenBitsLedByOne_38 : decode cX0_evenBitsLedByOne 38 = .ok (.iload_n 2, 1) := by decide +kernel
theorem dX0_evenBitsLedByOne_39 : decode cX0_evenBitsLedByOne 39 = .ok (.iconst 1, 1) := by decide +kernel
theorem dX0_evenBitsLedByOne_40 : decode cX0_evenBitsLedByOne 40 = .ok (.ishl, 1) := by decide +kernel
theorem dX0_evenBitsLedByOne_41 : decode cX0_evenBitsLedByOne 41 = .ok (.iload_n 1, 1) := by decide +kernel
theorem dX0_evenBitsLedByOne_42 : decode cX0_evenBitsLedByOne 42 = .ok (.iload 4, 2) := by decide +kernel
theorem dX0_evenBitsLedByOne_44 : decode cX0_evenBitsLedByOne 44 = .ok (.ishr, 1) := by decide +kernel
theorem dX0_evenBitsLedByOne_45 : decode cX0_evenBitsLedByOne 45 = .ok (.iconst 1, 1) := by decide +kernel
theorem dX0_evenBitsLedByOne_46 : decode cX0_evenBitsLedByOne 46 = .ok (.iand, 1) := by decide +kernel
theorem dX0_evenBitsLedByOne_47 : decode cX0_evenBitsLedByOne 47 = .ok (.ior, 1) := by decide +kernel
theorem dX0_evenBitsLedByOne_48 : decode cX0_evenBitsLedByOne 48 = .ok (.istore_n 2, 1) := by decide +kernel
theorem dX0_evenBitsLedByOne_49 : decode cX0_evenBitsLedByOne 49 = .ok (.iinc 3 1, 3) := by decide +kernel
theorem dX0_evenBitsLedByOne_52 : decode cX0_evenBitsLedByOne 52 = .ok (.goto (-48), 3) := by decide +kernel
theorem dX0_evenBitsLedByOne_55 : decode cX0_evenBitsLedByOne 55 = .ok (.iload_n 2, 1) := by decide +kernel
theorem dX0_evenBitsLedByOne_56 : decode cX0_evenBitsLedByOne 56 = .ok (.ireturn, 1) := by decide +kernel
theorem dX0_expectedEvenBits_0 : decode cX0_expectedEvenBits 0 = .ok (.iconst 0, 1) := by decide +kernel
theorem dX0_expectedEvenBits_1 : decode cX0_expectedEvenBits 1 = .ok (.istore_n 1, 1) := by decide +kernel
theorem dX0_expectedEvenBits_2 : decode cX0_expectedEvenBits 2 = .ok (.iconst 0, 1) := by decide +kernel
theorem dX0_expectedEvenBits_3 : decode cX0_expectedEvenBits 3 = .ok (.istore_n 2, 1) := by decide +kernel
theorem dX0_expectedEvenBits_4 : decode cX0_expectedEvenBits 4 = .ok (.iload_n 2, 1) := by decide +kernel
theorem dX0_expectedEvenBits_5 : decode cX0_expectedEvenBits 5 = .ok (.aload_n 0, 1) := by decide +kernel
theorem dX0_expectedEvenBits_6 : decode cX0_expectedEvenBits 6 = .ok (.getfield 9, 3) := by decide +kernel
theorem dX0_expectedEvenBits_9 : decode cX0_expectedEvenBits 9 = .ok (.if_icmp .ge 41, 3) := by decide +kernel
theorem dX0_expectedEvenBits_12 : decode cX0_expectedEvenBits 12 = .ok (.aload_n 0, 1) := by decide +kernel
theorem dX0_expectedEvenBits_13 : decode cX0_expectedEvenBits 13 = .ok (.iload_n 2, 1) := by decide +kernel
theorem dX0_expectedEvenBits_14 : decode cX0_expectedEvenBits 14 = .ok (.invokevirtual 52, 3) := by decide +kernel
theorem dX0_expectedEvenBits_17 : decode cX0_expectedEvenBits 17 = .ok (.istore_n 3, 1) := by decide +kernel
theorem dX0_expectedEvenBits_18 : decode cX0_expectedEvenBits 18 = .ok (.iload_n 3, 1) := by decide +kernel
theorem dX0_expectedEvenBits_19 : decode cX0_expectedEvenBits 19 = .ok (.ifCond .lt 25, 3) := by decide +kernel
theorem dX0_expectedEvenBits_22 : decode cX0_expectedEvenBits 22 = .ok (.iload_n 1, 1) := by decide +kernel
theorem dX0_expectedEvenBits_23 : decode cX0_expectedEvenBits 23 = .ok (.aload_n 0, 1) := by decide +kernel
theorem dX0_expectedEvenBits_24 : decode cX0_expectedEvenBits 24 = .ok (.getfield 20, 3) := by decide +kernel
theorem dX0_expectedEvenBits_27 : decode cX0_expectedEvenBits 27 = .ok (.iconst 2, 1) := by decide +kernel
theorem dX0_expectedEvenBits_28 : decode cX0_expectedEvenBits 28 = .ok (.aaload, 1) := by decide +kernel
theorem dX0_expectedEvenBits_29 : decode cX0_expectedEvenBits 29 = .ok (.iload_n 3, 1) := by decide +kernel
theorem dX0_expectedEvenBits_30 : decode cX0_expectedEvenBits 30 = .ok (.iaload, 1) := by decide +kernel
theorem dX0_expectedEvenBits_31 : decode cX0_expectedEvenBits 31 = .ok (.aload_n 0, 1) := by decide +kernel
theorem dX0_expectedEvenBits_32 : decode cX0_expectedEvenBits 32 = .ok (.getfield 20, 3) := by decide +kernel
theorem dX0_expectedEvenBits_35 : decode cX0_expectedEvenBits 35 = .ok (.iconst 2, 1) := by decide +kernel
theorem dX0_expectedEvenBits_36 : decode cX0_expectedEvenBits 36 = .ok (.aaload, 1) := by decide +kernel
theorem dX0_expectedEvenBits_37 : decode cX0_expectedEvenBits 37 = .ok (.iload_n 2, 1) := by decide +kernel
theorem dX0_expectedEvenBits_38 : decode cX0_expectedEvenBits 38 = .ok (.iaload, 1) := by decide +kernel
theorem dX0_expectedEvenBits_39 : decode cX0_expectedEvenBits 39 = .ok (.invokestatic 55, 3) := by decide +kernel
theorem dX0_expectedEvenBits_42 : decode cX0_expectedEvenBits 42 = .ok (.iadd, 1) := by decide +kernel
theorem dX0_expectedEvenBits_43 : decode cX0_expectedEvenBits 43 = .ok (.istore_n 1, 1) := by decide +kernel
theorem dX0_expectedEvenBits_44 : decode cX0_expectedEvenBits 44 = .ok (.iinc 2 1, 3) := by decide +kernel
theorem dX0_expectedEvenBits_47 : decode cX0_expectedEvenBits 47 = .ok (.goto (-43), 3) := by decide +kernel
theorem dX0_expectedEvenBits_50 : decode cX0_expectedEvenBits 50 = .ok (.iload_n 1, 1) := by decide +kernel
theorem dX0_expectedEvenBits_51 : decode cX0_expectedEvenBits 51 = .ok (.ireturn, 1) := by decide +kernel
theorem dX0_expectedOfTwo_0 : decode cX0_expectedOfTwo 0 = .ok (.iload_n 0, 1) := by decide +kernel
theorem dX0_expectedOfTwo_1 : decode cX0_expectedOfTwo 1 = .ok (.bipush 8, 2) := by decide +kernel
theorem dX0_expectedOfTwo_3 : decode cX0_expectedOfTwo 3 = .ok (.iload_n 1, 1) := by decide +kernel
theorem dX0_expectedOfTwo_4 : decode cX0_expectedOfTwo 4 = .ok (.isub, 1) := by decide +kernel
theorem dX0_expectedOfTwo_5 : decode cX0_expectedOfTwo 5 = .ok (.imul, 1) := by decide +kernel
theorem dX0_expectedOfTwo_6 : decode cX0_expectedOfTwo 6 = .ok (.bipush 8, 2) := by decide +kernel
theorem dX0_expectedOfTwo_8 : decode cX0_expectedOfTwo 8 = .ok (.iload_n 0, 1) := by decide +kernel
theorem dX0_expectedOfTwo_9 : decode cX0_expectedOfTwo 9 = .ok (.isub, 1) := by decide +kernel
theorem dX0_expectedOfTwo_10 : decode cX0_expectedOfTwo 10 = .ok (.iload_n 1, 1) := by decide +kernel
theorem dX0_expectedOfTwo_11 : decode cX0_expectedOfTwo 11 = .ok (.imul, 1) := by decide +kernel
theorem dX0_expectedOfTwo_12 : decode cX0_expectedOfTwo 12 = .ok (.iadd, 1) := by decide +kernel
theorem dX0_expectedOfTwo_13 : decode cX0_expectedOfTwo 13 = .ok (.ireturn, 1) := by decide +kernel
theorem dX0_mateOf_0 : decode cX0_mateOf 0 = .ok (.aload_n 0, 1) := by decide +kernel
theorem dX0_mateOf_1 : decode cX0_mateOf 1 = .ok (.iconst 1, 1) := by decide +kernel
theorem dX0_mateOf_2 : decode cX0_mateOf 2 = .ok (.iload_n 1, 1) := by decide +kernel
theorem dX0_mateOf_3 : decode cX0_mateOf 3 = .ok (.ishl, 1) := by decide +kernel
theorem dX0_mateOf_4 : decode cX0_mateOf 4 = .ok (.iconst 1, 1) := by decide +kernel
theorem dX0_mateOf_5 : decode cX0_mateOf 5 = .ok (.isub, 1) := by decide +kernel
theorem dX0_mateOf_6 : decode cX0_mateOf 6 = .ok (.invokevirtual 23, 3) := by decide +kernel
theorem dX0_mateOf_9 : decode cX0_mateOf 9 = .ok (.istore_n 2, 1) := by decide +kernel
theorem dX0_mateOf_10 : decode cX0_mateOf 10 = .ok (.aload_n 0, 1) := by decide +kernel
theorem dX0_mateOf_11 : decode cX0_mateOf 11 = .ok (.iload_n 1, 1) := by decide +kernel
theorem dX0_mateOf_12 : decode cX0_mateOf 12 = .ok (.invokevirtual 48, 3) := by decide +kernel
theorem dX0_mateOf_15 : decode cX0_mateOf 15 = .ok (.ifCond .ne 17, 3) := by decide +kernel
theorem dX0_mateOf_18 : decode cX0_mateOf 18 = .ok (.iload_n 2, 1) := by decide +kernel
theorem dX0_mateOf_19 : decode cX0_mateOf 19 = .ok (.invokestatic 31, 3) := by decide +kernel
theorem dX0_mateOf_22 : decode cX0_mateOf 22 = .ok (.iconst 2, 1) := by decide +kernel
theorem dX0_mateOf_23 : decode cX0_mateOf 23 = .ok (.irem, 1) := by decide +kernel
theorem dX0_mateOf_24 : decode cX0_mateOf 24 = .ok (.iconst 1, 1) := by decide +kernel
theorem dX0_mateOf_25 : decode cX0_mateOf 25 = .ok (.if_icmp .ne 7, 3) := by decide +kernel
theorem dX0_mateOf_28 : decode cX0_mateOf 28 = .ok (.iconst 1, 1) := by decide +kernel
theorem dX0_mateOf_29 : decode cX0_mateOf 29 = .ok (.goto 4, 3) := by decide +kernel
theorem dX0_mateOf_32 : decode cX0_mateOf 32 = .ok (.iconst 0, 1) := by decide +kernel
theorem dX0_mateOf_33 : decode cX0_mateOf 33 = .ok (.istore_n 3, 1) := by decide +kernel
theorem dX0_mateOf_34 : decode cX0_mateOf 34 = .ok (.iload_n 3, 1) := by decide +kernel
theorem dX0_mateOf_35 : decode cX0_mateOf 35 = .ok (.ifCond .eq 13, 3) := by decide +kernel
theorem dX0_mateOf_38 : decode cX0_mateOf 38 = .ok (.bipush 31, 2) := by decide +kernel
theorem dX0_mateOf_40 : decode cX0_mateOf 40 = .ok (.iload_n 2, 1) := by decide +kernel
theorem dX0_mateOf_41 : decode cX0_mateOf 41 = .ok (.invokestatic 58, 3) := by decide +kernel
theorem dX0_mateOf_44 : decode cX0_mateOf 44 = .ok (.isub, 1) := by decide +kernel
theorem dX0_mateOf_45 : decode cX0_mateOf 45 = .ok (.goto 4, 3) := by decide +kernel
theorem dX0_mateOf_48 : decode cX0_mateOf 48 = .ok (.iconst (-1), 1) := by decide +kernel
theorem dX0_mateOf_49 : decode cX0_mateOf 49 = .ok (.ireturn, 1) := by decide +kernel
theorem dX1_init_0 : decode cX1_init 0 = .ok (.aload_n 0, 1) := by decide +kernel
theorem dX1_init_1 : decode cX1_init 1 = .ok (.invokespecial 1, 3) := by decide +kernel
theorem dX1_init_4 : decode cX1_init 4 = .ok (.aload_n 0, 1) := by decide +kernel
theorem dX1_init_5 : decode cX1_init 5 = .ok (.iconst 0, 1) := by decide +kernel
theorem dX1_init_6 : decode cX1_init 6 = .ok (.putfield 7, 3) := by decide +kernel
theorem dX1_init_9 : decode cX1_init 9 = .ok (.aload_n 0, 1) := by decide +kernel
theorem dX1_init_10 : decode cX1_init 10 = .ok (.bipush 8, 2) := by decide +kernel
theorem dX1_init_12 : decode cX1_init 12 = .ok (.newarray .int, 2) := by decide +kernel
theorem dX1_init_14 : decode cX1_init 14 = .ok (.putfield 13, 3) := by decide +kernel
theorem dX1_init_17 : decode cX1_init 17 = .ok (.aload_n 0, 1) := by decide +kernel
theorem dX1_init_18 : decode cX1_init 18 = .ok (.bipush 8, 2) := by decide +kernel
theorem dX1_init_20 : decode cX1_init 20 = .ok (.newarray .boolean, 2) := by decide +kernel
theorem dX1_init_22 : decode cX1_init 22 = .ok (.putfield 17, 3) := by decide +kernel
theorem dX1_init_25 : decode cX1_init 25 = .ok (.aload_n 0, 1) := by decide +kernel
theorem dX1_init_26 : decode cX1_init 26 = .ok (.bipush 8, 2) := by decide +kernel
theorem dX1_init_28 : decode cX1_init 28 = .ok (.newarray .int, 2) := by decide +kernel
theorem dX1_init_30 : decode cX1_init 30 = .ok (.putfield 21, 3) := by decide +kernel
theorem dX1_init_33 : decode cX1_init 33 = .ok (.aload_n 0, 1) := by decide +kernel
theorem dX1_init_34 : decode cX1_init 34 = .ok (.bipush 8, 2) := by decide +kernel
theorem dX1_init_36 : decode cX1_init 36 = .ok (.newarray .int, 2) := by decide +kernel
theorem dX1_init_38 : decode cX1_init 38 = .ok (.putfield 24, 3) := by decide +kernel
theorem dX1_init_41 : decode cX1_init 41 = .ok (.return_, 1) := by decide +kernel
theorem dX1_isChip_0 : decode cX1_isChip 0 = .ok (.iload_n 1, 1) := by decide +kernel
theorem dX1_isChip_1 : decode cX1_isChip 1 = .ok (.ifCond .lt 15, 3) := by decide +kernel
theorem dX1_isChip_4 : decode cX1_isChip 4 = .ok (.iload_n 1, 1) := by decide +kernel
theorem dX1_isChip_5 : decode cX1_isChip 5 = .ok (.aload_n 0, 1) := by decide +kernel
theorem dX1_isChip_6 : decode cX1_isChip 6 = .ok (.getfield 7, 3) := by decide +kernel
theorem dX1_isChip_9 : decode cX1_isChip 9 = .ok (.if_icmp .ge 7, 3) := by decide +kernel
theorem dX1_isChip_12 : decode cX1_isChip 12 = .ok (.iconst 1, 1) := by decide +kernel
theorem dX1_isChip_13 : decode cX1_isChip 13 = .ok (.goto 4, 3) := by decide +kernel
theorem dX1_isChip_16 : decode cX1_isChip 16 = .ok (.iconst 0, 1) := by decide +kernel
theorem dX1_isChip_17 : decode cX1_isChip 17 = .ok (.ireturn, 1) := by decide +kernel
theorem dX1_add_0 : decode cX1_add 0 = .ok (.aload_n 0, 1) := by decide +kernel
theorem dX1_add_1 : decode cX1_add 1 = .ok (.getfield 7, 3) := by decide +kernel
theorem dX1_add_4 : decode cX1_add 4 = .ok (.istore_n 2, 1) := by decide +kernel
theorem dX1_add_5 : decode cX1_add 5 = .ok (.iload_n 2, 1) := by decide +kernel
theorem dX1_add_6 : decode cX1_add 6 = .ok (.bipush 8, 2) := by decide +kernel
theorem dX1_add_8 : decode cX1_add 8 = .ok (.if_icmp .ge 27, 3) := by decide +kernel
theorem dX1_add_11 : decode cX1_add 11 = .ok (.aload_n 0, 1) := by decide +kernel
theorem dX1_add_12 : decode cX1_add 12 = .ok (.getfield 13, 3) := by decide +kernel
theorem dX1_add_15 : decode cX1_add 15 = .ok (.iload_n 2, 1) := by decide +kernel
theorem dX1_add_16 : decode cX1_add 16 = .ok (.iload_n 1, 1) := by decide +kernel
theorem dX1_add_17 : decode cX1_add 17 = .ok (.iastore, 1) := by decide +kernel
theorem dX1_add_18 : decode cX1_add 18 = .ok (.aload_n 0, 1) := by decide +kernel
theorem dX1_add_19 : decode cX1_add 19 = .ok (.getfield 17, 3) := by decide +kernel
theorem dX1_add_22 : decode cX1_add 22 = .ok (.iload_n 2, 1) := by decide +kernel
theorem dX1_add_23 : decode cX1_add 23 = .ok (.iconst 0, 1) := by decide +kernel
theorem dX1_add_24 : decode cX1_add 24 = .ok (.bastore, 1) := by decide +kernel
theorem dX1_add_25 : decode cX1_add 25 = .ok (.aload_n 0, 1) := by decide +kernel
theorem dX1_add_26 : decode cX1_add 26 = .ok (.dup, 1) := by decide +kernel
theorem dX1_add_27 : decode cX1_add 27 = .ok (.getfield 7, 3) := by decide +kernel
theorem dX1_add_30 : decode cX1_add 30 = .ok (.iconst 1, 1) := by decide +kernel
theorem dX1_add_31 : decode cX1_add 31 = .ok (.iadd, 1) := by decide +kernel
theorem dX1_add_32 : decode cX1_add 32 = .ok (.putfield 7, 3) := by decide +kernel
theorem dX1_add_35 : decode cX1_add 35 = .ok (.iload_n 2, 1) := by decide +kernel
theorem dX1_add_36 : decode cX1_add 36 = .ok (.ireturn, 1) := by decide +kernel
theorem dX1_dropAll_0 : decode cX1_dropAll 0 = .ok (.aload_n 0, 1) := by decide +kernel
theorem dX1_dropAll_1 : decode cX1_dropAll 1 = .ok (.iconst 0, 1) := by decide +kernel
theorem dX1_dropAll_2 : decode cX1_dropAll 2 = .ok (.putfield 7, 3) := by decide +kernel
theorem dX1_dropAll_5 : decode cX1_dropAll 5 = .ok (.return_, 1) := by decide +kernel
theorem dX1_giveHelp_0 : decode cX1_giveHelp 0 = .ok (.aload_n 0, 1) := by decide +kernel
theorem dX1_giveHelp_1 : decode cX1_giveHelp 1 = .ok (.getfield 17, 3) := by decide +kernel
theorem dX1_giveHelp_4 : decode cX1_giveHelp 4 = .ok (.iload_n 1, 1) := by decide +kernel
theorem dX1_giveHelp_5 : decode cX1_giveHelp 5 = .ok (.iconst 1, 1) := by decide +kernel
theorem dX1_giveHelp_6 : decode cX1_giveHelp 6 = .ok (.bastore, 1) := by decide +kernel
theorem dX1_giveHelp_7 : decode cX1_giveHelp 7 = .ok (.aload_n 0, 1) := by decide +kernel
theorem dX1_giveHelp_8 : decode cX1_giveHelp 8 = .ok (.getfield 21, 3) := by decide +kernel
theorem dX1_giveHelp_11 : decode cX1_giveHelp 11 = .ok (.iload_n 1, 1) := by decide +kernel
theorem dX1_giveHelp_12 : decode cX1_giveHelp 12 = .ok (.iload_n 2, 1) := by decide +kernel
theorem dX1_giveHelp_13 : decode cX1_giveHelp 13 = .ok (.iastore, 1) := by decide +kernel
theorem dX1_giveHelp_14 : decode cX1_giveHelp 14 = .ok (.aload_n 0, 1) := by decide +kernel
theorem dX1_giveHelp_15 : decode cX1_giveHelp 15 = .ok (.getfield 24, 3) := by decide +kernel
theorem dX1_giveHelp_18 : decode cX1_giveHelp 18 = .ok (.iload_n 1, 1) := by decide +kernel
theorem dX1_giveHelp_19 : decode cX1_giveHelp 19 = .ok (.iload_n 3, 1) := by decide +kernel
theorem dX1_giveHelp_20 : decode cX1_giveHelp 20 = .ok (.iastore, 1) := by decide +kernel
theorem dX1_giveHelp_21 : decode cX1_giveHelp 21 = .ok (.return_, 1) := by decide +kernel
theorem dX1_dropHelp_0 : decode cX1_dropHelp 0 = .ok (.iconst 0, 1) := by decide +kernel
theorem dX1_dropHelp_1 : decode cX1_dropHelp 1 = .ok (.istore_n 1, 1) := by decide +kernel
theorem dX1_dropHelp_2 : decode cX1_dropHelp 2 = .ok (.iload_n 1, 1) := by decide +kernel
theorem dX1_dropHelp_3 : decode cX1_dropHelp 3 = .ok (.aload_n 0, 1) := by decide +kernel
theorem dX1_dropHelp_4 : decode cX1_dropHelp 4 = .ok (.getfield 7, 3) := by decide +kernel
theorem dX1_dropHelp_7 : decode cX1_dropHelp 7 = .ok (.if_icmp .ge 16, 3) := by decide +kernel
theorem dX1_dropHelp_10 : decode cX1_dropHelp 10 = .ok (.aload_n 0, 1) := by decide +kernel
theorem dX1_dropHelp_11 : decode cX1_dropHelp 11 = .ok (.getfield 17, 3) := by decide +kernel
theorem dX1_dropHelp_14 : decode cX1_dropHelp 14 = .ok (.iload_n 1, 1) := by decide +kernel
theorem dX1_dropHelp_15 : decode cX1_dropHelp 15 = .ok (.iconst 0, 1) := by decide +kernel
theorem dX1_dropHelp_16 : decode cX1_dropHelp 16 = .ok (.bastore, 1) := by decide +kernel
theorem dX1_dropHelp_17 : decode cX1_dropHelp 17 = .ok (.iinc 1 1, 3) := by decide +kernel
theorem dX1_dropHelp_20 : decode cX1_dropHelp 20 = .ok (.goto (-18), 3) := by decide +kernel
theorem dX1_dropHelp_23 : decode cX1_dropHelp 23 = .ok (.return_, 1) := by decide +kernel
theorem dX1_withHelp_0 : decode cX1_withHelp 0 = .ok (.iconst 0, 1) := by decide +kernel
theorem dX1_withHelp_1 : decode cX1_withHelp 1 = .ok (.istore_n 1, 1) := by decide +kernel
theorem dX1_withHelp_2 : decode cX1_withHelp 2 = .ok (.iconst 0, 1) := by decide +kernel
theorem dX1_withHelp_3 : decode cX1_withHelp 3 = .ok (.istore_n 2, 1) := by decide +kernel
theorem dX1_withHelp_4 : decode cX1_withHelp 4 = .ok (.iload_n 2, 1) := by decide +kernel
theorem dX1_withHelp_5 : decode cX1_withHelp 5 = .ok (.aload_n 0, 1) := by decide +kernel
theorem dX1_withHelp_6 : decode cX1_withHelp 6 = .ok (.getfield 7, 3) := by decide +kernel
theorem dX1_withHelp_9 : decode cX1_withHelp 9 = .ok (.if_icmp .ge 26, 3) := by decide +kernel
theorem dX1_withHelp_12 : decode cX1_withHelp 12 = .ok (.iload_n 1, 1) := by decide +kernel
theorem dX1_withHelp_13 : decode cX1_withHelp 13 = .ok (.aload_n 0, 1) := by decide +kernel
theorem dX1_withHelp_14 : decode cX1_withHelp 14 = .ok (.getfield 17, 3) := by decide +kernel
theorem dX1_withHelp_17 : decode cX1_withHelp 17 = .ok (.iload_n 2, 1) := by decide +kernel
theorem dX1_withHelp_18 : decode cX1_withHelp 18 = .ok (.baload, 1) := by decide +kernel
theorem dX1_withHelp_19 : decode cX1_withHelp 19 = .ok (.ifCond .eq 7, 3) := by decide +kernel
theorem dX1_withHelp_22 : decode cX1_withHelp 22 = .ok (.iconst 1, 1) := by decide +kernel
theorem dX1_withHelp_23 : decode cX1_withHelp 23 = .ok (.goto 4, 3) := by decide +kernel
theorem dX1_withHelp_26 : decode cX1_withHelp 26 = .ok (.iconst 0, 1) := by decide +kernel
theorem dX1_withHelp_27 : decode cX1_withHelp 27 = .ok (.iadd, 1) := by decide +kernel
theorem dX1_withHelp_28 : decode cX1_withHelp 28 = .ok (.istore_n 1, 1) := by decide +kernel
theorem dX1_withHelp_29 : decode cX1_withHelp 29 = .ok (.iinc 2 1, 3) := by decide +kernel
theorem dX1_withHelp_32 : decode cX1_withHelp 32 = .ok (.goto (-28), 3) := by decide +kernel
theorem dX1_withHelp_35 : decode cX1_withHelp 35 = .ok (.iload_n 1, 1) := by decide +kernel
theorem dX1_withHelp_36 : decode cX1_withHelp 36 = .ok (.ireturn, 1) := by decide +kernel
theorem dX1_nearest_0 : decode cX1_nearest 0 = .ok (.iconst (-1), 1) := by decide +kernel
theorem dX1_nearest_1 : decode cX1_nearest 1 = .ok (.istore_n 3, 1) := by decide +kernel
theorem dX1_nearest_2 : decode cX1_nearest 2 = .ok (.iconst 0, 1) := by decide +kernel
theorem dX1_nearest_3 : decode cX1_nearest 3 = .ok (.istore 4, 2) := by decide +kernel
theorem dX1_nearest_5 : decode cX1_nearest 5 = .ok (.iconst 0, 1) := by decide +kernel
theorem dX1_nearest_6 : decode cX1_nearest 6 = .ok (.istore 5, 2) := by decide +kernel
theorem dX1_nearest_8 : decode cX1_nearest 8 = .ok (.iload 5, 2) := by decide +kernel
theorem dX1_nearest_10 : decode cX1_nearest 10 = .ok (.aload_n 0, 1) := by decide +kernel
theorem dX1_nearest_11 : decode cX1_nearest 11 = .ok (.getfield 7, 3) := by decide +kernel
theorem dX1_nearest_14 : decode cX1_nearest 14 = .ok (.if_icmp .ge 43, 3) := by decide +kernel
theorem dX1_nearest_17 : decode cX1_nearest 17 = .ok (.aload_n 0, 1) := by decide +kernel
theorem dX1_nearest_18 : decode cX1_nearest 18 = .ok (.getfield 13, 3) := by decide +kernel
theorem dX1_nearest_21 : decode cX1_nearest 21 = .ok (.iload 5, 2) := by decide +kernel
theorem dX1_nearest_23 : decode cX1_nearest 23 = .ok (.iaload, 1) := by decide +kernel
theorem dX1_nearest_24 : decode cX1_nearest 24 = .ok (.iload_n 1, 1) := by decide +kernel
theorem dX1_nearest_25 : decode cX1_nearest 25 = .ok (.ixor, 1) := by decide +kernel
theorem dX1_nearest_26 : decode cX1_nearest 26 = .ok (.iload_n 2, 1) := by decide +kernel
theorem dX1_nearest_27 : decode cX1_nearest 27 = .ok (.iand, 1) := by decide +kernel
theorem dX1_nearest_28 : decode cX1_nearest 28 = .ok (.invokestatic 27, 3) := by decide +kernel
theorem dX1_nearest_31 : decode cX1_nearest 31 = .ok (.istore 6, 2) := by decide +kernel
theorem dX1_nearest_33 : decode cX1_nearest 33 = .ok (.iload_n 3, 1) := by decide +kernel
theorem dX1_nearest_34 : decode cX1_nearest 34 = .ok (.ifCond .lt 10, 3) := by decide +kernel
theorem dX1_nearest_37 : decode cX1_nearest 37 = .ok (.iload 6, 2) := by decide +kernel
theorem dX1_nearest_39 : decode cX1_nearest 39 = .ok (.iload 4, 2) := by decide +kernel
theorem dX1_nearest_41 : decode cX1_nearest 41 = .ok (.if_icmp .ge 10, 3) := by decide +kernel
theorem dX1_nearest_44 : decode cX1_nearest 44 = .ok (.iload 6, 2) := by decide +kernel
theorem dX1_nearest_46 : decode cX1_nearest 46 = .ok (.istore 4, 2) := by decide +kernel
theorem dX1_nearest_48 : decode cX1_nearest 48 = .ok (.iload 5, 2) := by decide +kernel
theorem dX1_nearest_50 : decode cX1_nearest 50 = .ok (.istore_n 3, 1) := by decide +kernel
theorem dX1_nearest_51 : decode cX1_nearest 51 = .ok (.iinc 5 1, 3) := by decide +kernel
theorem dX1_nearest_54 : decode cX1_nearest 54 = .ok (.goto (-46), 3) := by decide +kernel
theorem dX1_nearest_57 : decode cX1_nearest 57 = .ok (.iload_n 3, 1) := by decide +kernel
theorem dX1_nearest_58 : decode cX1_nearest 58 = .ok (.ireturn, 1) := by decide +kernel
theorem dX1_hasLoneNearest_0 : decode cX1_hasLoneNearest 0 = .ok (.aload_n 0, 1) := by decide +kernel
theorem dX1_hasLoneNearest_1 : decode cX1_hasLoneNearest 1 = .ok (.iload_n 1, 1) := by decide +kernel
theorem dX1_hasLoneNearest_2 : decode cX1_hasLoneNearest 2 = .ok (.iload_n 2, 1) := by decide +kernel
theorem dX1_hasLoneNearest_3 : decode cX1_hasLoneNearest 3 = .ok (.invokevirtual 33, 3) := by decide +kernel
theorem dX1_hasLoneNearest_6 : decode cX1_hasLoneNearest 6 = .ok (.istore_n 3, 1) := by decide +kernel
theorem dX1_hasLoneNearest_7 : decode cX1_hasLoneNearest 7 = .ok (.iload_n 3, 1) := by decide +kernel
theorem dX1_hasLoneNearest_8 : decode cX1_hasLoneNearest 8 = .ok (.ifCond .ge 5, 3) := by decide +kernel
theorem dX1_hasLoneNearest_11 : decode cX1_hasLoneNearest 11 = .ok (.iconst 0, 1) := by decide +kernel
theorem dX1_hasLoneNearest_12 : decode cX1_hasLoneNearest 12 = .ok (.ireturn, 1) := by decide +kernel
theorem dX1_hasLoneNearest_13 : decode cX1_hasLoneNearest 13 = .ok (.aload_n 0, 1) := by decide +kernel
theorem dX1_hasLoneNearest_14 : decode cX1_hasLoneNearest 14 = .ok (.getfield 13, 3) := by decide +kernel
theorem dX1_hasLoneNearest_17 : decode cX1_hasLoneNearest 17 = .ok (.iload_n 3, 1) := by decide +kernel
theorem dX1_hasLoneNearest_18 : decode cX1_hasLoneNearest 18 = .ok (.iaload, 1) := by decide +kernel
theorem dX1_hasLoneNearest_19 : decode cX1_hasLoneNearest 19 = .ok (.iload_n 1, 1) := by decide +kernel
theorem dX1_hasLoneNearest_20 : decode cX1_hasLoneNearest 20 = .ok (.ixor, 1) := by decide +kernel
theorem dX1_hasLoneNearest_21 : decode cX1_hasLoneNearest 21 = .ok (.iload_n 2, 1) := by decide +kernel
theorem dX1_hasLoneNearest_22 : decode cX1_hasLoneNearest 22 = .ok (.iand, 1) := by decide +kernel
theorem dX1_hasLoneNearest_23 : decode cX1_hasLoneNearest 23 = .ok (.invokestatic 27, 3) := by decide +kernel
theorem dX1_hasLoneNearest_26 : decode cX1_hasLoneNearest 26 = .ok (.iconst 3, 1) := by decide +kernel
theorem dX1_hasLoneNearest_27 : decode cX1_hasLoneNearest 27 = .ok (.iadd, 1) := by decide +kernel
theorem dX1_hasLoneNearest_28 : decode cX1_hasLoneNearest 28 = .ok (.istore 4, 2) := by decide +kernel
theorem dX1_hasLoneNearest_30 : decode cX1_hasLoneNearest 30 = .ok (.iconst 0, 1) := by decide +kernel
theorem dX1_hasLoneNearest_31 : decode cX1_hasLoneNearest 31 = .ok (.istore 5, 2) := by decide +kernel
theorem dX1_hasLoneNearest_33 : decode cX1_hasLoneNearest 33 = .ok (.iload 5, 2) := by decide +kernel
theorem dX1_hasLoneNearest_35 : decode cX1_hasLoneNearest 35 = .ok (.aload_n 0, 1) := by decide +kernel
theorem dX1_hasLoneNearest_36 : decode cX1_hasLoneNearest 36 = .ok (.getfield 7, 3) := by decide +kernel
theorem dX1_hasLoneNearest_39 : decode cX1_hasLoneNearest 39 = .ok (.if_icmp .ge 36, 3) := by decide +kernel
theorem dX1_hasLoneNearest_42 : decode cX1_hasLoneNearest 42 = .ok (.iload 5, 2) := by decide +kernel
theorem dX1_hasLoneNearest_44 : decode cX1_hasLoneNearest 44 = .ok (.iload_n 3, 1) := by decide +kernel
theorem dX1_hasLoneNearest_45 : decode cX1_hasLoneNearest 45 = .ok (.if_icmp .eq 24, 3) := by decide +kernel
theorem dX1_hasLoneNearest_48 : decode cX1_hasLoneNearest 48 = .ok (.aload_n 0, 1) := by decide +kernel
theorem dX1_hasLoneNearest_49 : decode cX1_hasLoneNearest 49 = .ok (.getfield 13, 3) := by decide +kernel
theorem dX1_hasLoneNearest_52 : decode cX1_hasLoneNearest 52 = .ok (.iload 5, 2) := by decide +kernel
theorem dX1_hasLoneNearest_54 : decode cX1_hasLoneNearest 54 = .ok (.iaload, 1) := by decide +kernel
theorem dX1_hasLoneNearest_55 : decode cX1_hasLoneNearest 55 = .ok (.iload_n 1, 1) := by decide +kernel
theorem dX1_hasLoneNearest_56 : decode cX1_hasLoneNearest 56 = .ok (.ixor, 1) := by decide +kernel
theorem dX1_hasLoneNearest_57 : decode cX1_hasLoneNearest 57 = .ok (.iload_n 2, 1) := by decide +kernel
theorem dX1_hasLoneNearest_58 : decode cX1_hasLoneNearest 58 = .ok (.iand, 1) := by decide +kernel
theorem dX1_hasLoneNearest_59 : decode cX1_hasLoneNearest 59 = .ok (.invokestatic 27, 3) := by decide +kernel
theorem dX1_hasLoneNearest_62 : decode cX1_hasLoneNearest 62 = .ok (.iload 4, 2) := by decide +kernel
theorem dX1_hasLoneNearest_64 : decode cX1_hasLoneNearest 64 = .ok (.if_icmp .ge 5, 3) := by decide +kernel
theorem dX1_hasLoneNearest_67 : decode cX1_hasLoneNearest 67 = .ok (.iconst 0, 1) := by decide +kernel
theorem dX1_hasLoneNearest_68 : decode cX1_hasLoneNearest 68 = .ok (.ireturn, 1) := by decide +kernel
theorem dX1_hasLoneNearest_69 : decode cX1_hasLoneNearest 69 = .ok (.iinc 5 1, 3) := by decide +kernel
theorem dX1_hasLoneNearest_72 : decode cX1_hasLoneNearest 72 = .ok (.goto (-39), 3) := by decide +kernel
theorem dX1_hasLoneNearest_75 : decode cX1_hasLoneNearest 75 = .ok (.iconst 1, 1) := by decide +kernel
theorem dX1_hasLoneNearest_76 : decode cX1_hasLoneNearest 76 = .ok (.ireturn, 1) := by decide +kernel
theorem dX1_fewestApart_0 : decode cX1_fewestApart 0 = .ok (.bipush 14, 2) := by decide +kernel
theorem dX1_fewestApart_2 : decode cX1_fewestApart 2 = .ok (.istore_n 2, 1) := by decide +kernel
theorem dX1_fewestApart_3 : decode cX1_fewestApart 3 = .ok (.iconst 0, 1) := by decide +kernel
theorem dX1_fewestApart_4 : decode cX1_fewestApart 4 = .ok (.istore_n 3, 1) := by decide +kernel
theorem dX1_fewestApart_5 : decode cX1_fewestApart 5 = .ok (.iload_n 3, 1) := by decide +kernel
theorem dX1_fewestApart_6 : decode cX1_fewestApart 6 = .ok (.aload_n 0, 1) := by decide +kernel
theorem dX1_fewestApart_7 : decode cX1_fewestApart 7 = .ok (.getfield 7, 3) := by decide +kernel
theorem dX1_fewestApart_10 : decode cX1_fewestApart 10 = .ok (.if_icmp .ge 48, 3) := by decide +kernel
theorem dX1_fewestApart_13 : decode cX1_fewestApart 13 = .ok (.iconst 0, 1) := by decide +kernel
theorem dX1_fewestApart_14 : decode cX1_fewestApart 14 = .ok (.istore 4, 2) := by decide +kernel
theorem dX1_fewestApart_16 : decode cX1_fewestApart 16 = .ok (.iload 4, 2) := by decide +kernel
theorem dX1_fewestApart_18 : decode cX1_fewestApart 18 = .ok (.iload_n 3, 1) := by decide +kernel
theorem dX1_fewestApart_19 : decode cX1_fewestApart 19 = .ok (.if_icmp .ge 33, 3) := by decide +kernel
theorem dX1_fewestApart_22 : decode cX1_fewestApart 22 = .ok (.iload_n 2, 1) := by decide +kernel
theorem dX1_fewestApart_23 : decode cX1_fewestApart 23 = .ok (.aload_n 0, 1) := by decide +kernel
theorem dX1_fewestApart_24 : decode cX1_fewestApart 24 = .ok (.getfield 13, 3) := by decide +kernel
theorem dX1_fewestApart_27 : decode cX1_fewestApart 27 = .ok (.iload_n 3, 1) := by decide +kernel
theorem dX1_fewestApart_28 : decode cX1_fewestApart 28 = .ok (.iaload, 1) := by decide +kernel
theorem dX1_fewestApart_29 : decode cX1_fewestApart 29 = .ok (.aload_n 0, 1) := by decide +kernel
theorem dX1_fewestApart_30 : decode cX1_fewestApart 30 = .ok (.getfield 13, 3) := by decide +kernel
theorem dX1_fewestApart_33 : decode cX1_fewestApart 33 = .ok (.iload 4, 2) := by decide +kernel
theorem dX1_fewestApart_35 : decode cX1_fewestApart 35 = .ok (.iaload, 1) := by decide +kernel
theorem dX1_fewestApart_36 : decode cX1_fewestApart 36 = .ok (.ixor, 1) := by decide +kernel
theorem dX1_fewestApart_37 : decode cX1_fewestApart 37 = .ok (.iload_n 1, 1) := by decide +kernel
theorem dX1_fewestApart_38 : decode cX1_fewestApart 38 = .ok (.iand, 1) := by decide +kernel
theorem dX1_fewestApart_39 : decode cX1_fewestApart 39 = .ok (.invokestatic 27, 3) := by decide +kernel
theorem dX1_fewestApart_42 : decode cX1_fewestApart 42 = .ok (.invokestatic 39, 3) := by decide +kernel
theorem dX1_fewestApart_45 : decode cX1_fewestApart 45 = .ok (.istore_n 2, 1) := by decide +kernel
theorem dX1_fewestApart_46 : decode cX1_fewestApart 46 = .ok (.iinc 4 1, 3) := by decide +kernel
theorem dX1_fewestApart_49 : decode cX1_fewestApart 49 = .ok (.goto (-33), 3) := by decide +kernel
theorem dX1_fewestApart_52 : decode cX1_fewestApart 52 = .ok (.iinc 3 1, 3) := by decide +kernel
theorem dX1_fewestApart_55 : decode cX1_fewestApart 55 = .ok (.goto (-50), 3) := by decide +kernel
theorem dX1_fewestApart_58 : decode cX1_fewestApart 58 = .ok (.iload_n 2, 1) := by decide +kernel
theorem dX1_fewestApart_59 : decode cX1_fewestApart 59 = .ok (.ireturn, 1) := by decide +kernel
theorem dX1_onesAt_0 : decode cX1_onesAt 0 = .ok (.iconst 0, 1) := by decide +kernel
theorem dX1_onesAt_1 : decode cX1_onesAt 1 = .ok (.istore_n 2, 1) := by decide +kernel
theorem dX1_onesAt_2 : decode cX1_onesAt 2 = .ok (.iconst 0, 1) := by decide +kernel
theorem dX1_onesAt_3 : decode cX1_onesAt 3 = .ok (.istore_n 3, 1) := by decide +kernel
theorem dX1_onesAt_4 : decode cX1_onesAt 4 = .ok (.iload_n 3, 1) := by decide +kernel
theorem dX1_onesAt_5 : decode cX1_onesAt 5 = .ok (.aload_n 0, 1) := by decide +kernel
theorem dX1_onesAt_6 : decode cX1_onesAt 6 = .ok (.getfield 7, 3) := by decide +kernel
theorem dX1_onesAt_9 : decode cX1_onesAt 9 = .ok (.if_icmp .ge 22, 3) := by decide +kernel
theorem dX1_onesAt_12 : decode cX1_onesAt 12 = .ok (.iload_n 2, 1) := by decide +kernel
theorem dX1_onesAt_13 : decode cX1_onesAt 13 = .ok (.aload_n 0, 1) := by decide +kernel
theorem dX1_onesAt_14 : decode cX1_onesAt 14 = .ok (.getfield 13, 3) := by decide +kernel
theorem dX1_onesAt_17 : decode cX1_onesAt 17 = .ok (.iload_n 3, 1) := by decide +kernel
theorem dX1_onesAt_18 : decode cX1_onesAt 18 = .ok (.iaload, 1) := by decide +kernel
theorem dX1_onesAt_19 : decode cX1_onesAt 19 = .ok (.iload_n 1, 1) := by decide +kernel
theorem dX1_onesAt_20 : decode cX1_onesAt 20 = .ok (.ishr, 1) := by decide +kernel
theorem dX1_onesAt_21 : decode cX1_onesAt 21 = .ok (.iconst 1, 1) := by decide +kernel
theorem dX1_onesAt_22 : decode cX1_onesAt 22 = .ok (.iand, 1) := by decide +kernel
theorem dX1_onesAt_23 : decode cX1_onesAt 23 = .ok (.iadd, 1) := by decide +kernel
theorem dX1_onesAt_24 : decode cX1_onesAt 24 = .ok (.istore_n 2, 1) := by decide +kernel
theorem dX1_onesAt_25 : decode cX1_onesAt 25 = .ok (.iinc 3 1, 3) := by decide +kernel
theorem dX1_onesAt_28 : decode cX1_onesAt 28 = .ok (.goto (-24), 3) := by decide +kernel
theorem dX1_onesAt_31 : decode cX1_onesAt 31 = .ok (.iload_n 2, 1) := by decide +kernel
theorem dX1_onesAt_32 : decode cX1_onesAt 32 = .ok (.ireturn, 1) := by decide +kernel
theorem dX2_init_0 : decode cX2_init 0 = .ok (.aload_n 0, 1) := by decide +kernel
theorem dX2_init_1 : decode cX2_init 1 = .ok (.invokespecial 1, 3) := by decide +kernel
theorem dX2_init_4 : decode cX2_init 4 = .ok (.aload_n 0, 1) := by decide +kernel
theorem dX2_init_5 : decode cX2_init 5 = .ok (.iconst 0, 1) := by decide +kernel
theorem dX2_init_6 : decode cX2_init 6 = .ok (.putfield 7, 3) := by decide +kernel
theorem dX2_init_9 : decode cX2_init 9 = .ok (.aload_n 0, 1) := by decide +kernel
theorem dX2_init_10 : decode cX2_init 10 = .ok (.bipush 64, 2) := by decide +kernel
theorem dX2_init_12 : decode cX2_init 12 = .ok (.newarray .int, 2) := by decide +kernel
theorem dX2_init_14 : decode cX2_init 14 = .ok (.putfield 13, 3) := by decide +kernel
theorem dX2_init_17 : decode cX2_init 17 = .ok (.return_, 1) := by decide +kernel
theorem dX2_keys_0 : decode cX2_keys 0 = .ok (.iconst 1, 1) := by decide +kernel
theorem dX2_keys_1 : decode cX2_keys 1 = .ok (.aload_n 0, 1) := by decide +kernel
theorem dX2_keys_2 : decode cX2_keys 2 = .ok (.getfield 7, 3) := by decide +kernel
theorem dX2_keys_5 : decode cX2_keys 5 = .ok (.ishl, 1) := by decide +kernel
theorem dX2_keys_6 : decode cX2_keys 6 = .ok (.ireturn, 1) := by decide +kernel
theorem dX2_isKey_0 : decode cX2_isKey 0 = .ok (.iload_n 1, 1) := by decide +kernel
theorem dX2_isKey_1 : decode cX2_isKey 1 = .ok (.ifCond .lt 15, 3) := by decide +kernel
theorem dX2_isKey_4 : decode cX2_isKey 4 = .ok (.iload_n 1, 1) := by decide +kernel
theorem dX2_isKey_5 : decode cX2_isKey 5 = .ok (.aload_n 0, 1) := by decide +kernel
theorem dX2_isKey_6 : decode cX2_isKey 6 = .ok (.invokevirtual 17, 3) := by decide +kernel
theorem dX2_isKey_9 : decode cX2_isKey 9 = .ok (.if_icmp .ge 7, 3) := by decide +kernel
theorem dX2_isKey_12 : decode cX2_isKey 12 = .ok (.iconst 1, 1) := by decide +kernel
theorem dX2_isKey_13 : decode cX2_isKey 13 = .ok (.goto 4, 3) := by decide +kernel
theorem dX2_isKey_16 : decode cX2_isKey 16 = .ok (.iconst 0, 1) := by decide +kernel
theorem dX2_isKey_17 : decode cX2_isKey 17 = .ok (.ireturn, 1) := by decide +kernel
theorem dX2_dropRows_0 : decode cX2_dropRows 0 = .ok (.aload_n 0, 1) := by decide +kernel
theorem dX2_dropRows_1 : decode cX2_dropRows 1 = .ok (.iconst 0, 1) := by decide +kernel
theorem dX2_dropRows_2 : decode cX2_dropRows 2 = .ok (.putfield 7, 3) := by decide +kernel
theorem dX2_dropRows_5 : decode cX2_dropRows 5 = .ok (.return_, 1) := by decide +kernel
theorem dX2_holds_0 : decode cX2_holds 0 = .ok (.iconst 0, 1) := by decide +kernel
theorem dX2_holds_1 : decode cX2_holds 1 = .ok (.istore_n 2, 1) := by decide +kernel
theorem dX2_holds_2 : decode cX2_holds 2 = .ok (.iload_n 2, 1) := by decide +kernel
theorem dX2_holds_3 : decode cX2_holds 3 = .ok (.aload_n 0, 1) := by decide +kernel
theorem dX2_holds_4 : decode cX2_holds 4 = .ok (.invokevirtual 17, 3) := by decide +kernel
theorem dX2_holds_7 : decode cX2_holds 7 = .ok (.if_icmp .ge 21, 3) := by decide +kernel
theorem dX2_holds_10 : decode cX2_holds 10 = .ok (.aload_n 0, 1) := by decide +kernel
theorem dX2_holds_11 : decode cX2_holds 11 = .ok (.getfield 13, 3) := by decide +kernel
theorem dX2_holds_14 : decode cX2_holds 14 = .ok (.iload_n 2, 1) := by decide +kernel
theorem dX2_holds_15 : decode cX2_holds 15 = .ok (.iaload, 1) := by decide +kernel
theorem dX2_holds_16 : decode cX2_holds 16 = .ok (.iload_n 1, 1) := by decide +kernel
theorem dX2_holds_17 : decode cX2_holds 17 = .ok (.if_icmp .ne 5, 3) := by decide +kernel
theorem dX2_holds_20 : decode cX2_holds 20 = .ok (.iconst 1, 1) := by decide +kernel
theorem dX2_holds_21 : decode cX2_holds 21 = .ok (.ireturn, 1) := by decide +kernel
theorem dX2_holds_22 : decode cX2_holds 22 = .ok (.iinc 2 1, 3) := by decide +kernel
theorem dX2_holds_25 : decode cX2_holds 25 = .ok (.goto (-23), 3) := by decide +kernel
theorem dX2_holds_28 : decode cX2_holds 28 = .ok (.iconst 0, 1) := by decide +kernel
theorem dX2_holds_29 : decode cX2_holds 29 = .ok (.ireturn, 1) := by decide +kernel
theorem dX2_addRow_0 : decode cX2_addRow 0 = .ok (.aload_n 0, 1) := by decide +kernel
theorem dX2_addRow_1 : decode cX2_addRow 1 = .ok (.getfield 7, 3) := by decide +kernel
theorem dX2_addRow_4 : decode cX2_addRow 4 = .ok (.bipush 6, 2) := by decide +kernel
theorem dX2_addRow_6 : decode cX2_addRow 6 = .ok (.if_icmp .ge 47, 3) := by decide +kernel
theorem dX2_addRow_9 : decode cX2_addRow 9 = .ok (.aload_n 0, 1) := by decide +kernel
theorem dX2_addRow_10 : decode cX2_addRow 10 = .ok (.invokevirtual 17, 3) := by decide +kernel
theorem dX2_addRow_13 : decode cX2_addRow 13 = .ok (.istore_n 2, 1) := by decide +kernel
theorem dX2_addRow_14 : decode cX2_addRow 14 = .ok (.iconst 0, 1) := by decide +kernel
theorem dX2_addRow_15 : decode cX2_addRow 15 = .ok (.istore_n 3, 1) := by decide +kernel
theorem dX2_addRow_16 : decode cX2_addRow 16 = .ok (.iload_n 3, 1) := by decide +kernel
theorem dX2_addRow_17 : decode cX2_addRow 17 = .ok (.iload_n 2, 1) := by decide +kernel
theorem dX2_addRow_18 : decode cX2_addRow 18 = .ok (.if_icmp .ge 25, 3) := by decide +kernel
theorem dX2_addRow_21 : decode cX2_addRow 21 = .ok (.aload_n 0, 1) := by decide +kernel
theorem dX2_addRow_22 : decode cX2_addRow 22 = .ok (.getfield 13, 3) := by decide +kernel
theorem dX2_addRow_25 : decode cX2_addRow 25 = .ok (.iload_n 2, 1) := by decide +kernel
theorem dX2_addRow_26 : decode cX2_addRow 26 = .ok (.iload_n 3, 1) := by decide +kernel
theorem dX2_addRow_27 : decode cX2_addRow 27 = .ok (.iadd, 1) := by decide +kernel
theorem dX2_addRow_28 : decode cX2_addRow 28 = .ok (.aload_n 0, 1) := by decide +kernel
theorem dX2_addRow_29 : decode cX2_addRow 29 = .ok (.getfield 13, 3) := by decide +kernel
theorem dX2_addRow_32 : decode cX2_addRow 32 = .ok (.iload_n 3, 1) := by decide +kernel
theorem dX2_addRow_33 : decode cX2_addRow 33 = .ok (.iaload, 1) := by decide +kernel
theorem dX2_addRow_34 : decode cX2_addRow 34 = .ok (.iload_n 1, 1) := by decide +kernel
theorem dX2_addRow_35 : decode cX2_addRow 35 = .ok (.ixor, 1) := by decide +kernel
theorem dX2_addRow_36 : decode cX2_addRow 36 = .ok (.iastore, 1) := by decide +kernel
theorem dX2_addRow_37 : decode cX2_addRow 37 = .ok (.iinc 3 1, 3) := by decide +kernel
theorem dX2_addRow_40 : decode cX2_addRow 40 = .ok (.goto (-24), 3) := by decide +kernel
theorem dX2_addRow_43 : decode cX2_addRow 43 = .ok (.aload_n 0, 1) := by decide +kernel
theorem dX2_addRow_44 : decode cX2_addRow 44 = .ok (.dup, 1) := by decide +kernel
theorem dX2_addRow_45 : decode cX2_addRow 45 = .ok (.getfield 7, 3) := by decide +kernel
theorem dX2_addRow_48 : decode cX2_addRow 48 = .ok (.iconst 1, 1) := by decide +kernel
theorem dX2_addRow_49 : decode cX2_addRow 49 = .ok (.iadd, 1) := by decide +kernel
theorem dX2_addRow_50 : decode cX2_addRow 50 = .ok (.putfield 7, 3) := by decide +kernel
theorem dX2_addRow_53 : decode cX2_addRow 53 = .ok (.return_, 1) := by decide +kernel
theorem dX2_fewestBits_0 : decode cX2_fewestBits 0 = .ok (.iconst 0, 1) := by decide +kernel
theorem dX2_fewestBits_1 : decode cX2_fewestBits 1 = .ok (.istore_n 1, 1) := by decide +kernel
theorem dX2_fewestBits_2 : decode cX2_fewestBits 2 = .ok (.iconst 1, 1) := by decide +kernel
theorem dX2_fewestBits_3 : decode cX2_fewestBits 3 = .ok (.istore_n 2, 1) := by decide +kernel
theorem dX2_fewestBits_4 : decode cX2_fewestBits 4 = .ok (.iload_n 2, 1) := by decide +kernel
theorem dX2_fewestBits_5 : decode cX2_fewestBits 5 = .ok (.aload_n 0, 1) := by decide +kernel
theorem dX2_fewestBits_6 : decode cX2_fewestBits 6 = .ok (.invokevirtual 17, 3) := by decide +kernel
theorem dX2_fewestBits_9 : decode cX2_fewestBits 9 = .ok (.if_icmp .ge 31, 3) := by decide +kernel
theorem dX2_fewestBits_12 : decode cX2_fewestBits 12 = .ok (.aload_n 0, 1) := by decide +kernel
theorem dX2_fewestBits_13 : decode cX2_fewestBits 13 = .ok (.getfield 13, 3) := by decide +kernel
theorem dX2_fewestBits_16 : decode cX2_fewestBits 16 = .ok (.iload_n 2, 1) := by decide +kernel
theorem dX2_fewestBits_17 : decode cX2_fewestBits 17 = .ok (.iaload, 1) := by decide +kernel
theorem dX2_fewestBits_18 : decode cX2_fewestBits 18 = .ok (.invokestatic 21, 3) := by decide +kernel
theorem dX2_fewestBits_21 : decode cX2_fewestBits 21 = .ok (.istore_n 3, 1) := by decide +kernel
theorem dX2_fewestBits_22 : decode cX2_fewestBits 22 = .ok (.iload_n 2, 1) := by decide +kernel
theorem dX2_fewestBits_23 : decode cX2_fewestBits 23 = .ok (.iconst 1, 1) := by decide +kernel
theorem dX2_fewestBits_24 : decode cX2_fewestBits 24 = .ok (.if_icmp .eq 8, 3) := by decide +kernel
theorem dX2_fewestBits_27 : decode cX2_fewestBits 27 = .ok (.iload_n 3, 1) := by decide +kernel
theorem dX2_fewestBits_28 : decode cX2_fewestBits 28 = .ok (.iload_n 1, 1) := by decide +kernel
theorem dX2_fewestBits_29 : decode cX2_fewestBits 29 = .ok (.if_icmp .ge 5, 3) := by decide +kernel
theorem dX2_fewestBits_32 : decode cX2_fewestBits 32 = .ok (.iload_n 3, 1) := by decide +kernel
theorem dX2_fewestBits_33 : decode cX2_fewestBits 33 = .ok (.istore_n 1, 1) := by decide +kernel
theorem dX2_fewestBits_34 : decode cX2_fewestBits 34 = .ok (.iinc 2 1, 3) := by decide +kernel
theorem dX2_fewestBits_37 : decode cX2_fewestBits 37 = .ok (.goto (-33), 3) := by decide +kernel
theorem dX2_fewestBits_40 : decode cX2_fewestBits 40 = .ok (.iload_n 1, 1) := by decide +kernel
theorem dX2_fewestBits_41 : decode cX2_fewestBits 41 = .ok (.ireturn, 1) := by decide +kernel
theorem dX2_nearestKey_0 : decode cX2_nearestKey 0 = .ok (.iconst 0, 1) := by decide +kernel
theorem dX2_nearestKey_1 : decode cX2_nearestKey 1 = .ok (.istore_n 2, 1) := by decide +kernel
theorem dX2_nearestKey_2 : decode cX2_nearestKey 2 = .ok (.aload_n 0, 1) := by decide +kernel
theorem dX2_nearestKey_3 : decode cX2_nearestKey 3 = .ok (.getfield 13, 3) := by decide +kernel
theorem dX2_nearestKey_6 : decode cX2_nearestKey 6 = .ok (.iconst 0, 1) := by decide +kernel
theorem dX2_nearestKey_7 : decode cX2_nearestKey 7 = .ok (.iaload, 1) := by decide +kernel
theorem dX2_nearestKey_8 : decode cX2_nearestKey 8 = .ok (.iload_n 1, 1) := by decide +kernel
theorem dX2_nearestKey_9 : decode cX2_nearestKey 9 = .ok (.ixor, 1) := by decide +kernel
theorem dX2_nearestKey_10 : decode cX2_nearestKey 10 = .ok (.invokestatic 21, 3) := by decide +kernel
theorem dX2_nearestKey_13 : decode cX2_nearestKey 13 = .ok (.istore_n 3, 1) := by decide +kernel
theorem dX2_nearestKey_14 : decode cX2_nearestKey 14 = .ok (.aload_n 0, 1) := by decide +kernel
theorem dX2_nearestKey_15 : decode cX2_nearestKey 15 = .ok (.invokevirtual 17, 3) := by decide +kernel
theorem dX2_nearestKey_18 : decode cX2_nearestKey 18 = .ok (.istore 4, 2) := by decide +kernel
theorem dX2_nearestKey_20 : decode cX2_nearestKey 20 = .ok (.iconst 1, 1) := by decide +kernel
theorem dX2_nearestKey_21 : decode cX2_nearestKey 21 = .ok (.istore 5, 2) := by decide +kernel
theorem dX2_nearestKey_23 : decode cX2_nearestKey 23 = .ok (.iload 5, 2) := by decide +kernel
theorem dX2_nearestKey_25 : decode cX2_nearestKey 25 = .ok (.iload 4, 2) := by decide +kernel
theorem dX2_nearestKey_27 : decode cX2_nearestKey 27 = .ok (.if_icmp .ge 35, 3) := by decide +kernel
theorem dX2_nearestKey_30 : decode cX2_nearestKey 30 = .ok (.aload_n 0, 1) := by decide +kernel
theorem dX2_nearestKey_31 : decode cX2_nearestKey 31 = .ok (.getfield 13, 3) := by decide +kernel
theorem dX2_nearestKey_34 : decode cX2_nearestKey 34 = .ok (.iload 5, 2) := by decide +kernel
theorem dX2_nearestKey_36 : decode cX2_nearestKey 36 = .ok (.iaload, 1) := by decide +kernel
theorem dX2_nearestKey_37 : decode cX2_nearestKey 37 = .ok (.iload_n 1, 1) := by decide +kernel
theorem dX2_nearestKey_38 : decode cX2_nearestKey 38 = .ok (.ixor, 1) := by decide +kernel
theorem dX2_nearestKey_39 : decode cX2_nearestKey 39 = .ok (.invokestatic 21, 3) := by decide +kernel
theorem dX2_nearestKey_42 : decode cX2_nearestKey 42 = .ok (.istore 6, 2) := by decide +kernel
theorem dX2_nearestKey_44 : decode cX2_nearestKey 44 = .ok (.iload 6, 2) := by decide +kernel
theorem dX2_nearestKey_46 : decode cX2_nearestKey 46 = .ok (.iload_n 3, 1) := by decide +kernel
theorem dX2_nearestKey_47 : decode cX2_nearestKey 47 = .ok (.if_icmp .ge 9, 3) := by decide +kernel
theorem dX2_nearestKey_50 : decode cX2_nearestKey 50 = .ok (.iload 6, 2) := by decide +kernel
theorem dX2_nearestKey_52 : decode cX2_nearestKey 52 = .ok (.istore_n 3, 1) := by decide +kernel
theorem dX2_nearestKey_53 : decode cX2_nearestKey 53 = .ok (.iload 5, 2) := by decide +kernel
theorem dX2_nearestKey_55 : decode cX2_nearestKey 55 = .ok (.istore_n 2, 1) := by decide +kernel
theorem dX2_nearestKey_56 : decode cX2_nearestKey 56 = .ok (.iinc 5 1, 3) := by decide +kernel
theorem dX2_nearestKey_59 : decode cX2_nearestKey 59 = .ok (.goto (-36), 3) := by decide +kernel
theorem dX2_nearestKey_62 : decode cX2_nearestKey 62 = .ok (.iload_n 2, 1) := by decide +kernel
theorem dX2_nearestKey_63 : decode cX2_nearestKey 63 = .ok (.ireturn, 1) := by decide +kernel
theorem dX2_hasOneNearest_0 : decode cX2_hasOneNearest 0 = .ok (.aload_n 0, 1) := by decide +kernel
theorem dX2_hasOneNearest_1 : decode cX2_hasOneNearest 1 = .ok (.iload_n 1, 1) := by decide +kernel
theorem dX2_hasOneNearest_2 : decode cX2_hasOneNearest 2 = .ok (.invokevirtual 27, 3) := by decide +kernel
theorem dX2_hasOneNearest_5 : decode cX2_hasOneNearest 5 = .ok (.istore_n 2, 1) := by decide +kernel
theorem dX2_hasOneNearest_6 : decode cX2_hasOneNearest 6 = .ok (.aload_n 0, 1) := by decide +kernel
theorem dX2_hasOneNearest_7 : decode cX2_hasOneNearest 7 = .ok (.getfield 13, 3) := by decide +kernel
theorem dX2_hasOneNearest_10 : decode cX2_hasOneNearest 10 = .ok (.iload_n 2, 1) := by decide +kernel
theorem dX2_hasOneNearest_11 : decode cX2_hasOneNearest 11 = .ok (.iaload, 1) := by decide +kernel
theorem dX2_hasOneNearest_12 : decode cX2_hasOneNearest 12 = .ok (.iload_n 1, 1) := by decide +kernel
theorem dX2_hasOneNearest_13 : decode cX2_hasOneNearest 13 = .ok (.ixor, 1) := by decide +kernel
theorem dX2_hasOneNearest_14 : decode cX2_hasOneNearest 14 = .ok (.invokestatic 21, 3) := by decide +kernel
theorem dX2_hasOneNearest_17 : decode cX2_hasOneNearest 17 = .ok (.istore_n 3, 1) := by decide +kernel
theorem dX2_hasOneNearest_18 : decode cX2_hasOneNearest 18 = .ok (.iload_n 2, 1) := by decide +kernel
theorem dX2_hasOneNearest_19 : decode cX2_hasOneNearest 19 = .ok (.iconst 1, 1) := by decide +kernel
theorem dX2_hasOneNearest_20 : decode cX2_hasOneNearest 20 = .ok (.iadd, 1) := by decide +kernel
theorem dX2_hasOneNearest_21 : decode cX2_hasOneNearest 21 = .ok (.istore 4, 2) := by decide +kernel
theorem dX2_hasOneNearest_23 : decode cX2_hasOneNearest 23 = .ok (.iload 4, 2) := by decide +kernel
theorem dX2_hasOneNearest_25 : decode cX2_hasOneNearest 25 = .ok (.aload_n 0, 1) := by decide +kernel
theorem dX2_hasOneNearest_26 : decode cX2_hasOneNearest 26 = .ok (.invokevirtual 17, 3) := by decide +kernel
theorem dX2_hasOneNearest_29 : decode cX2_hasOneNearest 29 = .ok (.if_icmp .ge 27, 3) := by decide +kernel
theorem dX2_hasOneNearest_32 : decode cX2_hasOneNearest 32 = .ok (.aload_n 0, 1) := by decide +kernel
theorem dX2_hasOneNearest_33 : decode cX2_hasOneNearest 33 = .ok (.getfield 13, 3) := by decide +kernel
theorem dX2_hasOneNearest_36 : decode cX2_hasOneNearest 36 = .ok (.iload 4, 2) := by decide +kernel
theorem dX2_hasOneNearest_38 : decode cX2_hasOneNearest 38 = .ok (.iaload, 1) := by decide +kernel
theorem dX2_hasOneNearest_39 : decode cX2_hasOneNearest 39 = .ok (.iload_n 1, 1) := by decide +kernel
theorem dX2_hasOneNearest_40 : decode cX2_hasOneNearest 40 = .ok (.ixor, 1) := by decide +kernel
theorem dX2_hasOneNearest_41 : decode cX2_hasOneNearest 41 = .ok (.invokestatic 21, 3) := by decide +kernel
theorem dX2_hasOneNearest_44 : decode cX2_hasOneNearest 44 = .ok (.iload_n 3, 1) := by decide +kernel
theorem dX2_hasOneNearest_45 : decode cX2_hasOneNearest 45 = .ok (.if_icmp .ne 5, 3) := by decide +kernel
theorem dX2_hasOneNearest_48 : decode cX2_hasOneNearest 48 = .ok (.iconst 0, 1) := by decide +kernel
theorem dX2_hasOneNearest_49 : decode cX2_hasOneNearest 49 = .ok (.ireturn, 1) := by decide +kernel
theorem dX2_hasOneNearest_50 : decode cX2_hasOneNearest 50 = .ok (.iinc 4 1, 3) := by decide +kernel
theorem dX2_hasOneNearest_53 : decode cX2_hasOneNearest 53 = .ok (.goto (-30), 3) := by decide +kernel
theorem dX2_hasOneNearest_56 : decode cX2_hasOneNearest 56 = .ok (.iconst 1, 1) := by decide +kernel
theorem dX2_hasOneNearest_57 : decode cX2_hasOneNearest 57 = .ok (.ireturn, 1) := by decide +kernel
theorem dX3_init_0 : decode cX3_init 0 = .ok (.aload_n 0, 1) := by decide +kernel
theorem dX3_init_1 : decode cX3_init 1 = .ok (.invokespecial 3, 3) := by decide +kernel
theorem dX3_init_4 : decode cX3_init 4 = .ok (.aload_n 0, 1) := by decide +kernel
theorem dX3_init_5 : decode cX3_init 5 = .ok (.bipush 14, 2) := by decide +kernel
theorem dX3_init_7 : decode cX3_init 7 = .ok (.newarray .int, 2) := by decide +kernel
theorem dX3_init_9 : decode cX3_init 9 = .ok (.putfield 11, 3) := by decide +kernel
theorem dX3_init_12 : decode cX3_init 12 = .ok (.aload_n 0, 1) := by decide +kernel
theorem dX3_init_13 : decode cX3_init 13 = .ok (.bipush 14, 2) := by decide +kernel
theorem dX3_init_15 : decode cX3_init 15 = .ok (.newarray .int, 2) := by decide +kernel
theorem dX3_init_17 : decode cX3_init 17 = .ok (.putfield 17, 3) := by decide +kernel
theorem dX3_init_20 : decode cX3_init 20 = .ok (.aload_n 0, 1) := by decide +kernel
theorem dX3_init_21 : decode cX3_init 21 = .ok (.aload_n 1, 1) := by decide +kernel
theorem dX3_init_22 : decode cX3_init 22 = .ok (.putfield 20, 3) := by decide +kernel
theorem dX3_init_25 : decode cX3_init 25 = .ok (.aload_n 0, 1) := by decide +kernel
theorem dX3_init_26 : decode cX3_init 26 = .ok (.aload_n 2, 1) := by decide +kernel
theorem dX3_init_27 : decode cX3_init 27 = .ok (.putfield 24, 3) := by decide +kernel
theorem dX3_init_30 : decode cX3_init 30 = .ok (.return_, 1) := by decide +kernel
theorem dX3_harmful_0 : decode cX3_harmful 0 = .ok (.aload_n 0, 1) := by decide +kernel
theorem dX3_harmful_1 : decode cX3_harmful 1 = .ok (.iload_n 2, 1) := by decide +kernel
theorem dX3_harmful_2 : decode cX3_harmful 2 = .ok (.invokevirtual 28, 3) := by decide +kernel
theorem dX3_harmful_5 : decode cX3_harmful 5 = .ok (.aload_n 0, 1) := by decide +kernel
theorem dX3_harmful_6 : decode cX3_harmful 6 = .ok (.getfield 24, 3) := by decide +kernel
theorem dX3_harmful_9 : decode cX3_harmful 9 = .ok (.iload_n 1, 1) := by decide +kernel
theorem dX3_harmful_10 : decode cX3_harmful 10 = .ok (.invokevirtual 32, 3) := by decide +kernel
theorem dX3_harmful_13 : decode cX3_harmful 13 = .ok (.ifCond .eq 15, 3) := by decide +kernel
theorem dX3_harmful_16 : decode cX3_harmful 16 = .ok (.aload_n 0, 1) := by decide +kernel
theorem dX3_harmful_17 : decode cX3_harmful 17 = .ok (.getfield 24, 3) := by decide +kernel
theorem dX3_harmful_20 : decode cX3_harmful 20 = .ok (.getfield 38, 3) := by decide +kernel
theorem dX3_harmful_23 : decode cX3_harmful 23 = .ok (.iload_n 1, 1) := by decide +kernel
theorem dX3_harmful_24 : decode cX3_harmful 24 = .ok (.iaload, 1) := by decide +kernel
theorem dX3_harmful_25 : decode cX3_harmful 25 = .ok (.goto 4, 3) := by decide +kernel
theorem dX3_harmful_28 : decode cX3_harmful 28 = .ok (.iconst 0, 1) := by decide +kernel
theorem dX3_harmful_29 : decode cX3_harmful 29 = .ok (.istore_n 3, 1) := by decide +kernel
theorem dX3_harmful_30 : decode cX3_harmful 30 = .ok (.aload_n 0, 1) := by decide +kernel
theorem dX3_harmful_31 : decode cX3_harmful 31 = .ok (.getfield 20, 3) := by decide +kernel
theorem dX3_harmful_34 : decode cX3_harmful 34 = .ok (.invokevirtual 41, 3) := by decide +kernel
theorem dX3_harmful_37 : decode cX3_harmful 37 = .ok (.aload_n 0, 1) := by decide +kernel
theorem dX3_harmful_38 : decode cX3_harmful 38 = .ok (.iload_n 1, 1) := by decide +kernel
theorem dX3_harmful_39 : decode cX3_harmful 39 = .ok (.iconst 0, 1) := by decide +kernel
theorem dX3_harmful_40 : decode cX3_harmful 40 = .ok (.iload_n 3, 1) := by decide +kernel
theorem dX3_harmful_41 : decode cX3_harmful 41 = .ok (.lconst 1, 1) := by decide +kernel
theorem dX3_harmful_42 : decode cX3_harmful 42 = .ok (.invokestatic 45, 3) := by decide +kernel
theorem dX3_harmful_45 : decode cX3_harmful 45 = .ok (.lsub, 1) := by decide +kernel
theorem dX3_harmful_46 : decode cX3_harmful 46 = .ok (.lreturn, 1) := by decide +kernel
theorem dX3_growTo_0 : decode cX3_growTo 0 = .ok (.iconst 0, 1) := by decide +kernel
theorem dX3_growTo_1 : decode cX3_growTo 1 = .ok (.istore_n 2, 1) := by decide +kernel
theorem dX3_growTo_2 : decode cX3_growTo 2 = .ok (.iload_n 2, 1) := by decide +kernel
theorem dX3_growTo_3 : decode cX3_growTo 3 = .ok (.aload_n 0, 1) := by decide +kernel
theorem dX3_growTo_4 : decode cX3_growTo 4 = .ok (.getfield 20, 3) := by decide +kernel
theorem dX3_growTo_7 : decode cX3_growTo 7 = .ok (.getfield 49, 3) := by decide +kernel
theorem dX3_growTo_10 : decode cX3_growTo 10 = .ok (.if_icmp .ge 64, 3) := by decide +kernel
theorem dX3_growTo_13 : decode cX3_growTo 13 = .ok (.aload_n 0, 1) := by decide +kernel
theorem dX3_growTo_14 : decode cX3_growTo 14 = .ok (.getfield 20, 3) := by decide +kernel
theorem dX3_growTo_17 : decode cX3_growTo 17 = .ok (.iload_n 2, 1) := by decide +kernel
theorem dX3_growTo_18 : decode cX3_growTo 18 = .ok (.invokevirtual 53, 3) := by decide +kernel
theorem dX3_growTo_21 : decode cX3_growTo 21 = .ok (.istore_n 3, 1) := by decide +kernel
theorem dX3_growTo_22 : decode cX3_growTo 22 = .ok (.aload_n 0, 1) := by decide +kernel
theorem dX3_growTo_23 : decode cX3_growTo 23 = .ok (.getfield 20, 3) := by decide +kernel
theorem dX3_growTo_26 : decode cX3_growTo 26 = .ok (.iload_n 2, 1) := by decide +kernel
theorem dX3_growTo_27 : decode cX3_growTo 27 = .ok (.iload_n 1, 1) := by decide +kernel
theorem dX3_growTo_28 : decode cX3_growTo 28 = .ok (.invokevirtual 56, 3) := by decide +kernel
theorem dX3_growTo_31 : decode cX3_growTo 31 = .ok (.istore 4, 2) := by decide +kernel
theorem dX3_growTo_33 : decode cX3_growTo 33 = .ok (.aload_n 0, 1) := by decide +kernel
theorem dX3_growTo_34 : decode cX3_growTo 34 = .ok (.getfield 11, 3) := by decide +kernel
theorem dX3_growTo_37 : decode cX3_growTo 37 = .ok (.iload_n 2, 1) := by decide +kernel
theorem dX3_growTo_38 : decode cX3_growTo 38 = .ok (.iload_n 3, 1) := by decide +kernel
theorem dX3_growTo_39 : decode cX3_growTo 39 = .ok (.ifCond .eq 7, 3) := by decide +kernel
theorem dX3_growTo_42 : decode cX3_growTo 42 = .ok (.iconst 0, 1) := by decide +kernel
theorem dX3_growTo_43 : decode cX3_growTo 43 = .ok (.goto 5, 3) := by decide +kernel
theorem dX3_growTo_46 : decode cX3_growTo 46 = .ok (.iload 4, 2) := by decide +kernel
theorem dX3_growTo_48 : decode cX3_growTo 48 = .ok (.iastore, 1) := by decide +kernel
theorem dX3_growTo_49 : decode cX3_growTo 49 = .ok (.aload_n 0, 1) := by decide +kernel
theorem dX3_growTo_50 : decode cX3_growTo 50 = .ok (.getfield 17, 3) := by decide +kernel
theorem dX3_growTo_53 : decode cX3_growTo 53 = .ok (.iload_n 2, 1) := by decide +kernel
theorem dX3_growTo_54 : decode cX3_growTo 54 = .ok (.iload_n 3, 1) := by decide +kernel
theorem dX3_growTo_55 : decode cX3_growTo 55 = .ok (.ifCond .eq 7, 3) := by decide +kernel
theorem dX3_growTo_58 : decode cX3_growTo 58 = .ok (.iconst 1, 1) := by decide +kernel
theorem dX3_growTo_59 : decode cX3_growTo 59 = .ok (.goto 8, 3) := by decide +kernel
theorem dX3_growTo_62 : decode cX3_growTo 62 = .ok (.bipush 8, 2) := by decide +kernel
theorem dX3_growTo_64 : decode cX3_growTo 64 = .ok (.iload 4, 2) := by decide +kernel
theorem dX3_growTo_66 : decode cX3_growTo 66 = .ok (.isub, 1) := by decide +kernel
theorem dX3_growTo_67 : decode cX3_growTo 67 = .ok (.iastore, 1) := by decide +kernel
theorem dX3_growTo_68 : decode cX3_growTo 68 = .ok (.iinc 2 1, 3) := by decide +kernel
theorem dX3_growTo_71 : decode cX3_growTo 71 = .ok (.goto (-69), 3) := by decide +kernel
theorem dX3_growTo_74 : decode cX3_growTo 74 = .ok (.return_, 1) := by decide +kernel
theorem dX3_harmless_0 : decode cX3_harmless 0 = .ok (.iload_n 2, 1) := by decide +kernel
theorem dX3_harmless_1 : decode cX3_harmless 1 = .ok (.aload_n 0, 1) := by decide +kernel
theorem dX3_harmless_2 : decode cX3_harmless 2 = .ok (.getfield 20, 3) := by decide +kernel
theorem dX3_harmless_5 : decode cX3_harmless 5 = .ok (.getfield 49, 3) := by decide +kernel
theorem dX3_harmless_8 : decode cX3_harmless 8 = .ok (.if_icmp .lt 6, 3) := by decide +kernel
theorem dX3_harmless_11 : decode cX3_harmless 11 = .ok (.lload 4, 2) := by decide +kernel
theorem dX3_harmless_13 : decode cX3_harmless 13 = .ok (.lreturn, 1) := by decide +kernel
theorem dX3_harmless_14 : decode cX3_harmless 14 = .ok (.aload_n 0, 1) := by decide +kernel
theorem dX3_harmless_15 : decode cX3_harmless 15 = .ok (.iload_n 1, 1) := by decide +kernel
theorem dX3_harmless_16 : decode cX3_harmless 16 = .ok (.iload_n 2, 1) := by decide +kernel
theorem dX3_harmless_17 : decode cX3_harmless 17 = .ok (.iconst 1, 1) := by decide +kernel
theorem dX3_harmless_18 : decode cX3_harmless 18 = .ok (.iadd, 1) := by decide +kernel
theorem dX3_harmless_19 : decode cX3_harmless 19 = .ok (.iload_n 3, 1) := by decide +kernel
theorem dX3_harmless_20 : decode cX3_harmless 20 = .ok (.lload 4, 2) := by decide +kernel
theorem dX3_harmless_22 : decode cX3_harmless 22 = .ok (.aload_n 0, 1) := by decide +kernel
theorem dX3_harmless_23 : decode cX3_harmless 23 = .ok (.getfield 17, 3) := by decide +kernel
theorem dX3_harmless_26 : decode cX3_harmless 26 = .ok (.iload_n 2, 1) := by decide +kernel
theorem dX3_harmless_27 : decode cX3_harmless 27 = .ok (.iaload, 1) := by decide +kernel
theorem dX3_harmless_28 : decode cX3_harmless 28 = .ok (.i2l, 1) := by decide +kernel
theorem dX3_harmless_29 : decode cX3_harmless 29 = .ok (.lmul, 1) := by decide +kernel
theorem dX3_harmless_30 : decode cX3_harmless 30 = .ok (.invokestatic 45, 3) := by decide +kernel
theorem dX3_harmless_33 : decode cX3_harmless 33 = .ok (.lstore 6, 2) := by decide +kernel
theorem dX3_harmless_35 : decode cX3_harmless 35 = .ok (.iload_n 3, 1) := by decide +kernel
theorem dX3_harmless_36 : decode cX3_harmless 36 = .ok (.iconst 1, 1) := by decide +kernel
theorem dX3_harmless_37 : decode cX3_harmless 37 = .ok (.iload_n 2, 1) := by decide +kernel
theorem dX3_harmless_38 : decode cX3_harmless 38 = .ok (.ishl, 1) := by decide +kernel
theorem dX3_harmless_39 : decode cX3_harmless 39 = .ok (.ixor, 1) := by decide +kernel
theorem dX3_harmless_40 : decode cX3_harmless 40 = .ok (.istore 8, 2) := by decide +kernel
theorem dX3_harmless_42 : decode cX3_harmless 42 = .ok (.aload_n 0, 1) := by decide +kernel
theorem dX3_harmless_43 : decode cX3_harmless 43 = .ok (.getfield 11, 3) := by decide +kernel
theorem dX3_harmless_46 : decode cX3_harmless 46 = .ok (.iload_n 2, 1) := by decide +kernel
theorem dX3_harmless_47 : decode cX3_harmless 47 = .ok (.iaload, 1) := by decide +kernel
theorem dX3_harmless_48 : decode cX3_harmless 48 = .ok (.ifCond .le 41, 3) := by decide +kernel
theorem dX3_harmless_51 : decode cX3_harmless 51 = .ok (.aload_n 0, 1) := by decide +kernel
theorem dX3_harmless_52 : decode cX3_harmless 52 = .ok (.getfield 24, 3) := by decide +kernel
theorem dX3_harmless_55 : decode cX3_harmless 55 = .ok (.iload 8, 2) := by decide +kernel
theorem dX3_harmless_57 : decode cX3_harmless 57 = .ok (.invokevirtual 60, 3) := by decide +kernel
theorem dX3_harmless_60 : decode cX3_harmless 60 = .ok (.iload_n 1, 1) := by decide +kernel
theorem dX3_harmless_61 : decode cX3_harmless 61 = .ok (.if_icmp .ne 28, 3) := by decide +kernel
theorem dX3_harmless_64 : decode cX3_harmless 64 = .ok (.lload 6, 2) := by decide +kernel
theorem dX3_harmless_66 : decode cX3_harmless 66 = .ok (.aload_n 0, 1) := by decide +kernel
theorem dX3_harmless_67 : decode cX3_harmless 67 = .ok (.iload_n 1, 1) := by decide +kernel
theorem dX3_harmless_68 : decode cX3_harmless 68 = .ok (.iload_n 2, 1) := by decide +kernel
theorem dX3_harmless_69 : decode cX3_harmless 69 = .ok (.iconst 1, 1) := by decide +kernel
theorem dX3_harmless_70 : decode cX3_harmless 70 = .ok (.iadd, 1) := by decide +kernel
theorem dX3_harmless_71 : decode cX3_harmless 71 = .ok (.iload 8, 2) := by decide +kernel
theorem dX3_harmless_73 : decode cX3_harmless 73 = .ok (.lload 4, 2) := by decide +kernel
theorem dX3_harmless_75 : decode cX3_harmless 75 = .ok (.aload_n 0, 1) := by decide +kernel
theorem dX3_harmless_76 : decode cX3_harmless 76 = .ok (.getfield 11, 3) := by decide +kernel
theorem dX3_harmless_79 : decode cX3_harmless 79 = .ok (.iload_n 2, 1) := by decide +kernel
theorem dX3_harmless_80 : decode cX3_harmless 80 = .ok (.iaload, 1) := by decide +kernel
theorem dX3_harmless_81 : decode cX3_harmless 81 = .ok (.i2l, 1) := by decide +kernel
theorem dX3_harmless_82 : decode cX3_harmless 82 = .ok (.lmul, 1) := by decide +kernel
theorem dX3_harmless_83 : decode cX3_harmless 83 = .ok (.invokestatic 45, 3) := by decide +kernel
theorem dX3_harmless_86 : decode cX3_harmless 86 = .ok (.ladd, 1) := by decide +kernel
theorem dX3_harmless_87 : decode cX3_harmless 87 = .ok (.lstore 6, 2) := by decide +kernel
theorem dX3_harmless_89 : decode cX3_harmless 89 = .ok (.lload 6, 2) := by decide +kernel
theorem dX3_harmless_91 : decode cX3_harmless 91 = .ok (.lreturn, 1) := by decide +kernel
theorem dX4_init_0 : decode cX4_init 0 = .ok (.aload_n 0, 1) := by decide +kernel
theorem dX4_init_1 : decode cX4_init 1 = .ok (.invokespecial 3, 3) := by decide +kernel
theorem dX4_init_4 : decode cX4_init 4 = .ok (.aload_n 0, 1) := by decide +kernel
theorem dX4_init_5 : decode cX4_init 5 = .ok (.iconst 0, 1) := by decide +kernel
theorem dX4_init_6 : decode cX4_init 6 = .ok (.putfield 9, 3) := by decide +kernel
theorem dX4_init_9 : decode cX4_init 9 = .ok (.aload_n 0, 1) := by decide +kernel
theorem dX4_init_10 : decode cX4_init 10 = .ok (.bipush 16, 2) := by decide +kernel
theorem dX4_init_12 : decode cX4_init 12 = .ok (.newarray .boolean, 2) := by decide +kernel
theorem dX4_init_14 : decode cX4_init 14 = .ok (.putfield 13, 3) := by decide +kernel
theorem dX4_init_17 : decode cX4_init 17 = .ok (.aload_n 0, 1) := by decide +kernel
theorem dX4_init_18 : decode cX4_init 18 = .ok (.bipush 16, 2) := by decide +kernel
theorem dX4_init_20 : decode cX4_init 20 = .ok (.newarray .int, 2) := by decide +kernel
theorem dX4_init_22 : decode cX4_init 22 = .ok (.putfield 17, 3) := by decide +kernel
theorem dX4_init_25 : decode cX4_init 25 = .ok (.aload_n 0, 1) := by decide +kernel
theorem dX4_init_26 : decode cX4_init 26 = .ok (.bipush 16, 2) := by decide +kernel
theorem dX4_init_28 : decode cX4_init 28 = .ok (.newarray .boolean, 2) := by decide +kernel
theorem dX4_init_30 : decode cX4_init 30 = .ok (.putfield 21, 3) := by decide +kernel
theorem dX4_init_33 : decode cX4_init 33 = .ok (.aload_n 0, 1) := by decide +kernel
theorem dX4_init_34 : decode cX4_init 34 = .ok (.iconst 0, 1) := by decide +kernel
theorem dX4_init_35 : decode cX4_init 35 = .ok (.putfield 24, 3) := by decide +kernel
theorem dX4_init_38 : decode cX4_init 38 = .ok (.aload_n 0, 1) := by decide +kernel
theorem dX4_init_39 : decode cX4_init 39 = .ok (.iconst 0, 1) := by decide +kernel
theorem dX4_init_40 : decode cX4_init 40 = .ok (.putfield 28, 3) := by decide +kernel
theorem dX4_init_43 : decode cX4_init 43 = .ok (.aload_n 0, 1) := by decide +kernel
theorem dX4_init_44 : decode cX4_init 44 = .ok (.iconst 5, 1) := by decide +kernel
theorem dX4_init_45 : decode cX4_init 45 = .ok (.newarray .int, 2) := by decide +kernel
theorem dX4_init_47 : decode cX4_init 47 = .ok (.putfield 31, 3) := by decide +kernel
theorem dX4_init_50 : decode cX4_init 50 = .ok (.aload_n 0, 1) := by decide +kernel
theorem dX4_init_51 : decode cX4_init 51 = .ok (.bipush 16, 2) := by decide +kernel
theorem dX4_init_53 : decode cX4_init 53 = .ok (.newarray .int, 2) := by decide +kernel
theorem dX4_init_55 : decode cX4_init 55 = .ok (.putfield 34, 3) := by decide +kernel
theorem dX4_init_58 : decode cX4_init 58 = .ok (.aload_n 0, 1) := by decide +kernel
theorem dX4_init_59 : decode cX4_init 59 = .ok (.iconst 4, 1) := by decide +kernel
theorem dX4_init_60 : decode cX4_init 60 = .ok (.newarray .int, 2) := by decide +kernel
theorem dX4_init_62 : decode cX4_init 62 = .ok (.putfield 37, 3) := by decide +kernel
theorem dX4_init_65 : decode cX4_init 65 = .ok (.aload_n 0, 1) := by decide +kernel
theorem dX4_init_66 : decode cX4_init 66 = .ok (.bipush 16, 2) := by decide +kernel
theorem dX4_init_68 : decode cX4_init 68 = .ok (.newarray .int, 2) := by decide +kernel
theorem dX4_init_70 : decode cX4_init 70 = .ok (.putfield 40, 3) := by decide +kernel
theorem dX4_init_73 : decode cX4_init 73 = .ok (.return_, 1) := by decide +kernel
theorem dX4_isQuestion_0 : decode cX4_isQuestion 0 = .ok (.iload_n 0, 1) := by decide +kernel
theorem dX4_isQuestion_1 : decode cX4_isQuestion 1 = .ok (.ifCond .lt 13, 3) := by decide +kernel
theorem dX4_isQuestion_4 : decode cX4_isQuestion 4 = .ok (.iload_n 0, 1) := by decide +kernel
theorem dX4_isQuestion_5 : decode cX4_isQuestion 5 = .ok (.bipush 16, 2) := by decide +kernel
theorem dX4_isQuestion_7 : decode cX4_isQuestion 7 = .ok (.if_icmp .ge 7, 3) := by decide +kernel
theorem dX4_isQuestion_10 : decode cX4_isQuestion 10 = .ok (.iconst 1, 1) := by decide +kernel
theorem dX4_isQuestion_11 : decode cX4_isQuestion 11 = .ok (.goto 4, 3) := by decide +kernel
theorem dX4_isQuestion_14 : decode cX4_isQuestion 14 = .ok (.iconst 0, 1) := by decide +kernel
theorem dX4_isQuestion_15 : decode cX4_isQuestion 15 = .ok (.ireturn, 1) := by decide +kernel
theorem dX4_isAnswer_0 : decode cX4_isAnswer 0 = .ok (.iload_n 0, 1) := by decide +kernel
theorem dX4_isAnswer_1 : decode cX4_isAnswer 1 = .ok (.ifCond .eq 8, 3) := by decide +kernel
theorem dX4_isAnswer_4 : decode cX4_isAnswer 4 = .ok (.iload_n 0, 1) := by decide +kernel
theorem dX4_isAnswer_5 : decode cX4_isAnswer 5 = .ok (.iconst 1, 1) := by decide +kernel
theorem dX4_isAnswer_6 : decode cX4_isAnswer 6 = .ok (.if_icmp .ne 7, 3) := by decide +kernel
theorem dX4_isAnswer_9 : decode cX4_isAnswer 9 = .ok (.iconst 1, 1) := by decide +kernel
theorem dX4_isAnswer_10 : decode cX4_isAnswer 10 = .ok (.goto 4, 3) := by decide +kernel
theorem dX4_isAnswer_13 : decode cX4_isAnswer 13 = .ok (.iconst 0, 1) := by decide +kernel
theorem dX4_isAnswer_14 : decode cX4_isAnswer 14 = .ok (.ireturn, 1) := by decide +kernel
theorem dX4_keep_0 : decode cX4_keep 0 = .ok (.aload_n 0, 1) := by decide +kernel
theorem dX4_keep_1 : decode cX4_keep 1 = .ok (.getfield 13, 3) := by decide +kernel
theorem dX4_keep_4 : decode cX4_keep 4 = .ok (.iload_n 1, 1) := by decide +kernel
theorem dX4_keep_5 : decode cX4_keep 5 = .ok (.baload, 1) := by decide +kernel
theorem dX4_keep_6 : decode cX4_keep 6 = .ok (.ifCond .ne 32, 3) := by decide +kernel
theorem dX4_keep_9 : decode cX4_keep 9 = .ok (.aload_n 0, 1) := by decide +kernel
theorem dX4_keep_10 : decode cX4_keep 10 = .ok (.getfield 13, 3) := by decide +kernel
theorem dX4_keep_13 : decode cX4_keep 13 = .ok (.iload_n 1, 1) := by decide +kernel
theorem dX4_keep_14 : decode cX4_keep 14 = .ok (.iconst 1, 1) := by decide +kernel
theorem dX4_keep_15 : decode cX4_keep 15 = .ok (.bastore, 1) := by decide +kernel
theorem dX4_keep_16 : decode cX4_keep 16 = .ok (.aload_n 0, 1) := by decide +kernel
theorem dX4_keep_17 : decode cX4_keep 17 = .ok (.getfield 17, 3) := by decide +kernel
theorem dX4_keep_20 : decode cX4_keep 20 = .ok (.iload_n 1, 1) := by decide +kernel
theorem dX4_keep_21 : decode cX4_keep 21 = .ok (.iload_n 2, 1) := by decide +kernel
theorem dX4_keep_22 : decode cX4_keep 22 = .ok (.iastore, 1) := by decide +kernel
theorem dX4_keep_23 : decode cX4_keep 23 = .ok (.aload_n 0, 1) := by decide +kernel
theorem dX4_keep_24 : decode cX4_keep 24 = .ok (.dup, 1) := by decide +kernel
theorem dX4_keep_25 : decode cX4_keep 25 = .ok (.getfield 9, 3) := by decide +kernel
theorem dX4_keep_28 : decode cX4_keep 28 = .ok (.iconst 1, 1) := by decide +kernel
theorem dX4_keep_29 : decode cX4_keep 29 = .ok (.iadd, 1) := by decide +kernel
theorem dX4_keep_30 : decode cX4_keep 30 = .ok (.putfield 9, 3) := by decide +kernel
theorem dX4_keep_33 : decode cX4_keep 33 = .ok (.aload_n 0, 1) := by decide +kernel
theorem dX4_keep_34 : decode cX4_keep 34 = .ok (.iconst 0, 1) := by decide +kernel
theorem dX4_keep_35 : decode cX4_keep 35 = .ok (.putfield 24, 3) := by decide +kernel
theorem dX4_keep_38 : decode cX4_keep 38 = .ok (.return_, 1) := by decide +kernel
theorem dX4_usedOnes_0 : decode cX4_usedOnes 0 = .ok (.iconst 0, 1) := by decide +kernel
theorem dX4_usedOnes_1 : decode cX4_usedOnes 1 = .ok (.istore_n 1, 1) := by decide +kernel
theorem dX4_usedOnes_2 : decode cX4_usedOnes 2 = .ok (.iconst 0, 1) := by decide +kernel
theorem dX4_usedOnes_3 : decode cX4_usedOnes 3 = .ok (.istore_n 2, 1) := by decide +kernel
theorem dX4_usedOnes_4 : decode cX4_usedOnes 4 = .ok (.iload_n 2, 1) := by decide +kernel
theorem dX4_usedOnes_5 : decode cX4_usedOnes 5 = .ok (.bipush 16, 2) := by decide +kernel
theorem dX4_usedOnes_7 : decode cX4_usedOnes 7 = .ok (.if_icmp .ge 26, 3) := by decide +kernel
theorem dX4_usedOnes_10 : decode cX4_usedOnes 10 = .ok (.iload_n 1, 1) := by decide +kernel
theorem dX4_usedOnes_11 : decode cX4_usedOnes 11 = .ok (.aload_n 0, 1) := by decide +kernel
theorem dX4_usedOnes_12 : decode cX4_usedOnes 12 = .ok (.getfield 21, 3) := by decide +kernel
theorem dX4_usedOnes_15 : decode cX4_usedOnes 15 = .ok (.iload_n 2, 1) := by decide +kernel
theorem dX4_usedOnes_16 : decode cX4_usedOnes 16 = .ok (.baload, 1) := by decide +kernel
theorem dX4_usedOnes_17 : decode cX4_usedOnes 17 = .ok (.ifCond .eq 7, 3) := by decide +kernel
theorem dX4_usedOnes_20 : decode cX4_usedOnes 20 = .ok (.iconst 1, 1) := by decide +kernel
theorem dX4_usedOnes_21 : decode cX4_usedOnes 21 = .ok (.goto 4, 3) := by decide +kernel
theorem dX4_usedOnes_24 : decode cX4_usedOnes 24 = .ok (.iconst 0, 1) := by decide +kernel
theorem dX4_usedOnes_25 : decode cX4_usedOnes 25 = .ok (.iadd, 1) := by decide +kernel
theorem dX4_usedOnes_26 : decode cX4_usedOnes 26 = .ok (.istore_n 1, 1) := by decide +kernel
theorem dX4_usedOnes_27 : decode cX4_usedOnes 27 = .ok (.iinc 2 1, 3) := by decide +kernel
theorem dX4_usedOnes_30 : decode cX4_usedOnes 30 = .ok (.goto (-26), 3) := by decide +kernel
theorem dX4_usedOnes_33 : decode cX4_usedOnes 33 = .ok (.iload_n 1, 1) := by decide +kernel
theorem dX4_usedOnes_34 : decode cX4_usedOnes 34 = .ok (.ireturn, 1) := by decide +kernel
theorem dX4_foretell_0 : decode cX4_foretell 0 = .ok (.aload_n 0, 1) := by decide +kernel
theorem dX4_foretell_1 : decode cX4_foretell 1 = .ok (.invokevirtual 43, 3) := by decide +kernel
theorem dX4_foretell_4 : decode cX4_foretell 4 = .ok (.aload_n 0, 1) := by decide +kernel
theorem dX4_foretell_5 : decode cX4_foretell 5 = .ok (.getfield 28, 3) := by decide +kernel
theorem dX4_foretell_8 : decode cX4_foretell 8 = .ok (.ifCond .ne 5, 3) := by decide +kernel
theorem dX4_foretell_11 : decode cX4_foretell 11 = .ok (.iconst 3, 1) := by decide +kernel
theorem dX4_foretell_12 : decode cX4_foretell 12 = .ok (.ireturn, 1) := by decide +kernel
theorem dX4_foretell_13 : decode cX4_foretell 13 = .ok (.aload_n 0, 1) := by decide +kernel
theorem dX4_foretell_14 : decode cX4_foretell 14 = .ok (.getfield 34, 3) := by decide +kernel
theorem dX4_foretell_17 : decode cX4_foretell 17 = .ok (.iload_n 1, 1) := by decide +kernel
theorem dX4_foretell_18 : decode cX4_foretell 18 = .ok (.iaload, 1) := by decide +kernel
theorem dX4_foretell_19 : decode cX4_foretell 19 = .ok (.aload_n 0, 1) := by decide +kernel
theorem dX4_foretell_20 : decode cX4_foretell 20 = .ok (.getfield 28, 3) := by decide +kernel
theorem dX4_foretell_23 : decode cX4_foretell 23 = .ok (.if_icmp .ne 5, 3) := by decide +kernel
theorem dX4_foretell_26 : decode cX4_foretell 26 = .ok (.iconst 1, 1) := by decide +kernel
theorem dX4_foretell_27 : decode cX4_foretell 27 = .ok (.ireturn, 1) := by decide +kernel
theorem dX4_foretell_28 : decode cX4_foretell 28 = .ok (.aload_n 0, 1) := by decide +kernel
theorem dX4_foretell_29 : decode cX4_foretell 29 = .ok (.getfield 34, 3) := by decide +kernel
theorem dX4_foretell_32 : decode cX4_foretell 32 = .ok (.iload_n 1, 1) := by decide +kernel
theorem dX4_foretell_33 : decode cX4_foretell 33 = .ok (.iaload, 1) := by decide +kernel
theorem dX4_foretell_34 : decode cX4_foretell 34 = .ok (.ifCond .ne 7, 3) := by decide +kernel
theorem dX4_foretell_37 : decode cX4_foretell 37 = .ok (.iconst 0, 1) := by decide +kernel
theorem dX4_foretell_38 : decode cX4_foretell 38 = .ok (.goto 4, 3) := by decide +kernel
theorem dX4_foretell_41 : decode cX4_foretell 41 = .ok (.iconst 2, 1) := by decide +kernel
theorem dX4_foretell_42 : decode cX4_foretell 42 = .ok (.ireturn, 1) := by decide +kernel
theorem dX4_halvingQuestion_0 : decode cX4_halvingQuestion 0 = .ok (.aload_n 0, 1) := by decide +kernel
theorem dX4_halvingQuestion_1 : decode cX4_halvingQuestion 1 = .ok (.invokevirtual 43, 3) := by decide +kernel
theorem dX4_halvingQuestion_4 : decode cX4_halvingQuestion 4 = .ok (.iconst (-1), 1) := by decide +kernel
theorem dX4_halvingQuestion_5 : decode cX4_halvingQuestion 5 = .ok (.istore_n 1, 1) := by decide +kernel
theorem dX4_halvingQuestion_6 : decode cX4_halvingQuestion 6 = .ok (.aload_n 0, 1) := by decide +kernel
theorem dX4_halvingQuestion_7 : decode cX4_halvingQuestion 7 = .ok (.getfield 28, 3) := by decide +kernel
theorem dX4_halvingQuestion_10 : decode cX4_halvingQuestion 10 = .ok (.istore_n 2, 1) := by decide +kernel
theorem dX4_halvingQuestion_11 : decode cX4_halvingQuestion 11 = .ok (.iconst 0, 1) := by decide +kernel
theorem dX4_halvingQuestion_12 : decode cX4_halvingQuestion 12 = .ok (.istore_n 3, 1) := by decide +kernel
theorem dX4_halvingQuestion_13 : decode cX4_halvingQuestion 13 = .ok (.iload_n 3, 1) := by decide +kernel
theorem dX4_halvingQuestion_14 : decode cX4_halvingQuestion 14 = .ok (.bipush 16, 2) := by decide +kernel
theorem dX4_halvingQuestion_16 : decode cX4_halvingQuestion 16 = .ok (.if_icmp .ge 62, 3) := by decide +kernel
theorem dX4_halvingQuestion_19 : decode cX4_halvingQuestion 19 = .ok (.aload_n 0, 1) := by decide +kernel
theorem dX4_halvingQuestion_20 : decode cX4_halvingQuestion 20 = .ok (.getfield 28, 3) := by decide +kernel
theorem dX4_halvingQuestion_23 : decode cX4_halvingQuestion 23 = .ok (.ifCond .le 55, 3) := by decide +kernel
theorem dX4_halvingQuestion_26 : decode cX4_halvingQuestion 26 = .ok (.aload_n 0, 1) := by decide +kernel
theorem dX4_halvingQuestion_27 : decode cX4_halvingQuestion 27 = .ok (.getfield 34, 3) := by decide +kernel
theorem dX4_halvingQuestion_30 : decode cX4_halvingQuestion 30 = .ok (.iload_n 3, 1) := by decide +kernel
theorem dX4_halvingQuestion_31 : decode cX4_halvingQuestion 31 = .ok (.iaload, 1) := by decide +kernel
theorem dX4_halvingQuestion_32 : decode cX4_halvingQuestion 32 = .ok (.aload_n 0, 1) := by decide +kernel
theorem dX4_halvingQuestion_33 : decode cX4_halvingQuestion 33 = .ok (.getfield 28, 3) := by decide +kernel
theorem dX4_halvingQuestion_36 : decode cX4_halvingQuestion 36 = .ok (.aload_n 0, 1) := by decide +kernel
theorem dX4_halvingQuestion_37 : decode cX4_halvingQuestion 37 = .ok (.getfield 34, 3) := by decide +kernel
theorem dX4_halvingQuestion_40 : decode cX4_halvingQuestion 40 = .ok (.iload_n 3, 1) := by decide +kernel
theorem dX4_halvingQuestion_41 : decode cX4_halvingQuestion 41 = .ok (.iaload, 1) := by decide +kernel
theorem dX4_halvingQuestion_42 : decode cX4_halvingQuestion 42 = .ok (.isub, 1) := by decide +kernel
theorem dX4_halvingQuestion_43 : decode cX4_halvingQuestion 43 = .ok (.invokestatic 46, 3) := by decide +kernel
theorem dX4_halvingQuestion_46 : decode cX4_halvingQuestion 46 = .ok (.istore 4, 2) := by decide +kernel
theorem dX4_halvingQuestion_48 : decode cX4_halvingQuestion 48 = .ok (.aload_n 0, 1) := by decide +kernel
theorem dX4_halvingQuestion_49 : decode cX4_halvingQuestion 49 = .ok (.getfield 13, 3) := by decide +kernel
theorem dX4_halvingQuestion_52 : decode cX4_halvingQuestion 52 = .ok (.iload_n 3, 1) := by decide +kernel
theorem dX4_halvingQuestion_53 : decode cX4_halvingQuestion 53 = .ok (.baload, 1) := by decide +kernel
theorem dX4_halvingQuestion_54 : decode cX4_halvingQuestion 54 = .ok (.ifCond .ne 18, 3) := by decide +kernel
theorem dX4_halvingQuestion_57 : decode cX4_halvingQuestion 57 = .ok (.iload_n 1, 1) := by decide +kernel
theorem dX4_halvingQuestion_58 : decode cX4_halvingQuestion 58 = .ok (.ifCond .lt 9, 3) := by decide +kernel
theorem dX4_halvingQuestion_61 : decode cX4_halvingQuestion 61 = .ok (.iload 4, 2) := by decide +kernel
theorem dX4_halvingQuestion_63 : decode cX4_halvingQuestion 63 = .ok (.iload_n 2, 1) := by decide +kernel
theorem dX4_halvingQuestion_64 : decode cX4_halvingQuestion 64 = .ok (.if_icmp .ge 8, 3) := by decide +kernel
theorem dX4_halvingQuestion_67 : decode cX4_halvingQuestion 67 = .ok (.iload 4, 2) := by decide +kernel
theorem dX4_halvingQuestion_69 : decode cX4_halvingQuestion 69 = .ok (.istore_n 2, 1) := by decide +kernel
theorem dX4_halvingQuestion_70 : decode cX4_halvingQuestion 70 = .ok (.iload_n 3, 1) := by decide +kernel
theorem dX4_halvingQuestion_71 : decode cX4_halvingQuestion 71 = .ok (.istore_n 1, 1) := by decide +kernel
theorem dX4_halvingQuestion_72 : decode cX4_halvingQuestion 72 = .ok (.iinc 3 1, 3) := by decide +kernel
theorem dX4_halvingQuestion_75 : decode cX4_halvingQuestion 75 = .ok (.goto (-62), 3) := by decide +kernel
theorem dX4_halvingQuestion_78 : decode cX4_halvingQuestion 78 = .ok (.iload_n 1, 1) := by decide +kernel
theorem dX4_halvingQuestion_79 : decode cX4_halvingQuestion 79 = .ok (.ireturn, 1) := by decide +kernel
theorem dX4_survey_0 : decode cX4_survey 0 = .ok (.aload_n 0, 1) := by decide +kernel
theorem dX4_survey_1 : decode cX4_survey 1 = .ok (.getfield 24, 3) := by decide +kernel
theorem dX4_survey_4 : decode cX4_survey 4 = .ok (.ifCond .eq 4, 3) := by decide +kernel
theorem dX4_survey_7 : decode cX4_survey 7 = .ok (.return_, 1) := by decide +kernel
theorem dX4_survey_8 : decode cX4_survey 8 = .ok (.aload_n 0, 1) := by decide +kernel
theorem dX4_survey_9 : decode cX4_survey 9 = .ok (.iconst 1, 1) := by decide +kernel
theorem dX4_survey_10 : decode cX4_survey 10 = .ok (.putfield 24, 3) := by decide +kernel
theorem dX4_survey_13 : decode cX4_survey 13 = .ok (.aload_n 0, 1) := by decide +kernel
theorem dX4_survey_14 : decode cX4_survey 14 = .ok (.iconst 0, 1) := by decide +kernel
theorem dX4_survey_15 : decode cX4_survey 15 = .ok (.putfield 28, 3) := by decide +kernel
theorem dX4_survey_18 : decode cX4_survey 18 = .ok (.iconst 0, 1) := by decide +kernel
theorem dX4_survey_19 : decode cX4_survey 19 = .ok (.istore_n 1, 1) := by decide +kernel
theorem dX4_survey_20 : decode cX4_survey 20 = .ok (.iload_n 1, 1) := by decide +kernel
theorem dX4_survey_21 : decode cX4_survey 21 = .ok (.bipush 16, 2) := by decide +kernel
theorem dX4_survey_23 : decode cX4_survey 23 = .ok (.if_icmp .ge 16, 3) := by decide +kernel
theorem dX4_survey_26 : decode cX4_survey 26 = .ok (.aload_n 0, 1) := by decide +kernel
theorem dX4_survey_27 : decode cX4_survey 27 = .ok (.getfield 34, 3) := by decide +kernel
theorem dX4_survey_30 : decode cX4_survey 30 = .ok (.iload_n 1, 1) := by decide +kernel
theorem dX4_survey_31 : decode cX4_survey 31 = .ok (.iconst 0, 1) := by decide +kernel
theorem dX4_survey_32 : decode cX4_survey 32 = .ok (.iastore, 1) := by decide +kernel
theorem dX4_survey_33 : decode cX4_survey 33 = .ok (.iinc 1 1, 3) := by decide +kernel
theorem dX4_survey_36 : decode cX4_survey 36 = .ok (.goto (-16), 3) := by decide +kernel
theorem dX4_survey_39 : decode cX4_survey 39 = .ok (.iconst 0, 1) := by decide +kernel
theorem dX4_survey_40 : decode cX4_survey 40 = .ok (.istore_n 1, 1) := by decide +kernel
theorem dX4_survey_41 : decode cX4_survey 41 = .ok (.iload_n 1, 1) := by decide +kernel
theorem dX4_survey_42 : decode cX4_survey 42 = .ok (.sipush 2401, 3) := by decide +kernel
theorem dX4_survey_45 : decode cX4_survey 45 = .ok (.if_icmp .ge 35, 3) := by decide +kernel
theorem dX4_survey_48 : decode cX4_survey 48 = .ok (.aload_n 0, 1) := by decide +kernel
theorem dX4_survey_49 : decode cX4_survey 49 = .ok (.iload_n 1, 1) := by decide +kernel
theorem dX4_survey_50 : decode cX4_survey 50 = .ok (.invokevirtual 52, 3) := by decide +kernel
theorem dX4_survey_53 : decode cX4_survey 53 = .ok (.aload_n 0, 1) := by decide +kernel
theorem dX4_survey_54 : decode cX4_survey 54 = .ok (.invokevirtual 56, 3) := by decide +kernel
theorem dX4_survey_57 : decode cX4_survey 57 = .ok (.istore_n 2, 1) := by decide +kernel
theorem dX4_survey_58 : decode cX4_survey 58 = .ok (.aload_n 0, 1) := by decide +kernel
theorem dX4_survey_59 : decode cX4_survey 59 = .ok (.invokevirtual 60, 3) := by decide +kernel
theorem dX4_survey_62 : decode cX4_survey 62 = .ok (.istore_n 3, 1) := by decide +kernel
theorem dX4_survey_63 : decode cX4_survey 63 = .ok (.iload_n 2, 1) := by decide +kernel
theorem dX4_survey_64 : decode cX4_survey 64 = .ok (.iload_n 3, 1) := by decide +kernel
theorem dX4_survey_65 : decode cX4_survey 65 = .ok (.if_icmp .gt 9, 3) := by decide +kernel
theorem dX4_survey_68 : decode cX4_survey 68 = .ok (.aload_n 0, 1) := by decide +kernel
theorem dX4_survey_69 : decode cX4_survey 69 = .ok (.iload_n 2, 1) := by decide +kernel
theorem dX4_survey_70 : decode cX4_survey 70 = .ok (.iload_n 3, 1) := by decide +kernel
theorem dX4_survey_71 : decode cX4_survey 71 = .ok (.invokevirtual 63, 3) := by decide +kernel
theorem dX4_survey_74 : decode cX4_survey 74 = .ok (.iinc 1 1, 3) := by decide +kernel
theorem dX4_survey_77 : decode cX4_survey 77 = .ok (.goto (-36), 3) := by decide +kernel
theorem dX4_survey_80 : decode cX4_survey 80 = .ok (.return_, 1) := by decide +kernel
theorem dX4_weigh_0 : decode cX4_weigh 0 = .ok (.iload_n 1, 1) := by decide +kernel
theorem dX4_weigh_1 : decode cX4_weigh 1 = .ok (.istore_n 2, 1) := by decide +kernel
theorem dX4_weigh_2 : decode cX4_weigh 2 = .ok (.iconst 0, 1) := by decide +kernel
theorem dX4_weigh_3 : decode cX4_weigh 3 = .ok (.istore_n 3, 1) := by decide +kernel
theorem dX4_weigh_4 : decode cX4_weigh 4 = .ok (.iconst 3, 1) := by decide +kernel
theorem dX4_weigh_5 : decode cX4_weigh 5 = .ok (.istore 4, 2) := by decide +kernel
theorem dX4_weigh_7 : decode cX4_weigh 7 = .ok (.iload 4, 2) := by decide +kernel
theorem dX4_weigh_9 : decode cX4_weigh 9 = .ok (.ifCond .lt 37, 3) := by decide +kernel
theorem dX4_weigh_12 : decode cX4_weigh 12 = .ok (.aload_n 0, 1) := by decide +kernel
theorem dX4_weigh_13 : decode cX4_weigh 13 = .ok (.getfield 37, 3) := by decide +kernel
theorem dX4_weigh_16 : decode cX4_weigh 16 = .ok (.iload 4, 2) := by decide +kernel
theorem dX4_weigh_18 : decode cX4_weigh 18 = .ok (.iload_n 2, 1) := by decide +kernel
theorem dX4_weigh_19 : decode cX4_weigh 19 = .ok (.bipush 7, 2) := by decide +kernel
theorem dX4_weigh_21 : decode cX4_weigh 21 = .ok (.irem, 1) := by decide +kernel
theorem dX4_weigh_22 : decode cX4_weigh 22 = .ok (.iconst 3, 1) := by decide +kernel
theorem dX4_weigh_23 : decode cX4_weigh 23 = .ok (.isub, 1) := by decide +kernel
theorem dX4_weigh_24 : decode cX4_weigh 24 = .ok (.iastore, 1) := by decide +kernel
theorem dX4_weigh_25 : decode cX4_weigh 25 = .ok (.iload_n 2, 1) := by decide +kernel
theorem dX4_weigh_26 : decode cX4_weigh 26 = .ok (.bipush 7, 2) := by decide +kernel
theorem dX4_weigh_28 : decode cX4_weigh 28 = .ok (.idiv, 1) := by decide +kernel
theorem dX4_weigh_29 : decode cX4_weigh 29 = .ok (.istore_n 2, 1) := by decide +kernel
theorem dX4_weigh_30 : decode cX4_weigh 30 = .ok (.iload_n 3, 1) := by decide +kernel
theorem dX4_weigh_31 : decode cX4_weigh 31 = .ok (.aload_n 0, 1) := by decide +kernel
theorem dX4_weigh_32 : decode cX4_weigh 32 = .ok (.getfield 37, 3) := by decide +kernel
theorem dX4_weigh_35 : decode cX4_weigh 35 = .ok (.iload 4, 2) := by decide +kernel
theorem dX4_weigh_37 : decode cX4_weigh 37 = .ok (.iaload, 1) := by decide +kernel
theorem dX4_weigh_38 : decode cX4_weigh 38 = .ok (.iadd, 1) := by decide +kernel
theorem dX4_weigh_39 : decode cX4_weigh 39 = .ok (.istore_n 3, 1) := by decide +kernel
theorem dX4_weigh_40 : decode cX4_weigh 40 = .ok (.iinc 4 (-1), 3) := by decide +kernel
theorem dX4_weigh_43 : decode cX4_weigh 43 = .ok (.goto (-36), 3) := by decide +kernel
theorem dX4_weigh_46 : decode cX4_weigh 46 = .ok (.aload_n 0, 1) := by decide +kernel
theorem dX4_weigh_47 : decode cX4_weigh 47 = .ok (.getfield 40, 3) := by decide +kernel
theorem dX4_weigh_50 : decode cX4_weigh 50 = .ok (.iconst 0, 1) := by decide +kernel
theorem dX4_weigh_51 : decode cX4_weigh 51 = .ok (.iload_n 3, 1) := by decide +kernel
theorem dX4_weigh_52 : decode cX4_weigh 52 = .ok (.ineg, 1) := by decide +kernel
theorem dX4_weigh_53 : decode cX4_weigh 53 = .ok (.iastore, 1) := by decide +kernel
theorem dX4_weigh_54 : decode cX4_weigh 54 = .ok (.iconst 0, 1) := by decide +kernel
theorem dX4_weigh_55 : decode cX4_weigh 55 = .ok (.istore 4, 2) := by decide +kernel
theorem dX4_weigh_57 : decode cX4_weigh 57 = .ok (.iload 4, 2) := by decide +kernel
theorem dX4_weigh_59 : decode cX4_weigh 59 = .ok (.iconst 4, 1) := by decide +kernel
theorem dX4_weigh_60 : decode cX4_weigh 60 = .ok (.if_icmp .ge 58, 3) := by decide +kernel
theorem dX4_weigh_63 : decode cX4_weigh 63 = .ok (.iconst 1, 1) := by decide +kernel
theorem dX4_weigh_64 : decode cX4_weigh 64 = .ok (.iload 4, 2) := by decide +kernel
theorem dX4_weigh_66 : decode cX4_weigh 66 = .ok (.ishl, 1) := by decide +kernel
theorem dX4_weigh_67 : decode cX4_weigh 67 = .ok (.istore 5, 2) := by decide +kernel
theorem dX4_weigh_69 : decode cX4_weigh 69 = .ok (.iconst 0, 1) := by decide +kernel
theorem dX4_weigh_70 : decode cX4_weigh 70 = .ok (.istore 6, 2) := by decide +kernel
theorem dX4_weigh_72 : decode cX4_weigh 72 = .ok (.iload 6, 2) := by decide +kernel
theorem dX4_weigh_74 : decode cX4_weigh 74 = .ok (.iload 5, 2) := by decide +kernel
theorem dX4_weigh_76 : decode cX4_weigh 76 = .ok (.if_icmp .ge 36, 3) := by decide +kernel
theorem dX4_weigh_79 : decode cX4_weigh 79 = .ok (.aload_n 0, 1) := by decide +kernel
theorem dX4_weigh_80 : decode cX4_weigh 80 = .ok (.getfield 40, 3) := by decide +kernel
theorem dX4_weigh_83 : decode cX4_weigh 83 = .ok (.iload 5, 2) := by decide +kernel
theorem dX4_weigh_85 : decode cX4_weigh 85 = .ok (.iload 6, 2) := by decide +kernel
theorem dX4_weigh_87 : decode cX4_weigh 87 = .ok (.iadd, 1) := by decide +kernel
theorem dX4_weigh_88 : decode cX4_weigh 88 = .ok (.aload_n 0, 1) := by decide +kernel
theorem dX4_weigh_89 : decode cX4_weigh 89 = .ok (.getfield 40, 3) := by decide +kernel
theorem dX4_weigh_92 : decode cX4_weigh 92 = .ok (.iload 6, 2) := by decide +kernel
theorem dX4_weigh_94 : decode cX4_weigh 94 = .ok (.iaload, 1) := by decide +kernel
theorem dX4_weigh_95 : decode cX4_weigh 95 = .ok (.iconst 2, 1) := by decide +kernel
theorem dX4_weigh_96 : decode cX4_weigh 96 = .ok (.aload_n 0, 1) := by decide +kernel
theorem dX4_weigh_97 : decode cX4_weigh 97 = .ok (.getfield 37, 3) := by decide +kernel
theorem dX4_weigh_100 : decode cX4_weigh 100 = .ok (.iload 4, 2) := by decide +kernel
theorem dX4_weigh_102 : decode cX4_weigh 102 = .ok (.iaload, 1) := by decide +kernel
theorem dX4_weigh_103 : decode cX4_weigh 103 = .ok (.imul, 1) := by decide +kernel
theorem dX4_weigh_104 : decode cX4_weigh 104 = .ok (.iadd, 1) := by decide +kernel
theorem dX4_weigh_105 : decode cX4_weigh 105 = .ok (.iastore, 1) := by decide +kernel
theorem dX4_weigh_106 : decode cX4_weigh 106 = .ok (.iinc 6 1, 3) := by decide +kernel
theorem dX4_weigh_109 : decode cX4_weigh 109 = .ok (.goto (-37), 3) := by decide +kernel
theorem dX4_weigh_112 : decode cX4_weigh 112 = .ok (.iinc 4 1, 3) := by decide +kernel
theorem dX4_weigh_115 : decode cX4_weigh 115 = .ok (.goto (-58), 3) := by decide +kernel
theorem dX4_weigh_118 : decode cX4_weigh 118 = .ok (.return_, 1) := by decide +kernel
theorem dX4_leastLimit_0 : decode cX4_leastLimit 0 = .ok (.bipush (-6), 2) := by decide +kernel
theorem dX4_leastLimit_2 : decode cX4_leastLimit 2 = .ok (.istore_n 1, 1) := by decide +kernel
theorem dX4_leastLimit_3 : decode cX4_leastLimit 3 = .ok (.iconst 0, 1) := by decide +kernel
theorem dX4_leastLimit_4 : decode cX4_leastLimit 4 = .ok (.istore_n 2, 1) := by decide +kernel
theorem dX4_leastLimit_5 : decode cX4_leastLimit 5 = .ok (.iload_n 2, 1) := by decide +kernel
theorem dX4_leastLimit_6 : decode cX4_leastLimit 6 = .ok (.bipush 16, 2) := by decide +kernel
theorem dX4_leastLimit_8 : decode cX4_leastLimit 8 = .ok (.if_icmp .ge 40, 3) := by decide +kernel
theorem dX4_leastLimit_11 : decode cX4_leastLimit 11 = .ok (.aload_n 0, 1) := by decide +kernel
theorem dX4_leastLimit_12 : decode cX4_leastLimit 12 = .ok (.getfield 13, 3) := by decide +kernel
theorem dX4_leastLimit_15 : decode cX4_leastLimit 15 = .ok (.iload_n 2, 1) := by decide +kernel
theorem dX4_leastLimit_16 : decode cX4_leastLimit 16 = .ok (.baload, 1) := by decide +kernel
theorem dX4_leastLimit_17 : decode cX4_leastLimit 17 = .ok (.ifCond .eq 25, 3) := by decide +kernel
theorem dX4_leastLimit_20 : decode cX4_leastLimit 20 = .ok (.aload_n 0, 1) := by decide +kernel
theorem dX4_leastLimit_21 : decode cX4_leastLimit 21 = .ok (.getfield 17, 3) := by decide +kernel
theorem dX4_leastLimit_24 : decode cX4_leastLimit 24 = .ok (.iload_n 2, 1) := by decide +kernel
theorem dX4_leastLimit_25 : decode cX4_leastLimit 25 = .ok (.iaload, 1) := by decide +kernel
theorem dX4_leastLimit_26 : decode cX4_leastLimit 26 = .ok (.ifCond .ne 16, 3) := by decide +kernel
theorem dX4_leastLimit_29 : decode cX4_leastLimit 29 = .ok (.iload_n 1, 1) := by decide +kernel
theorem dX4_leastLimit_30 : decode cX4_leastLimit 30 = .ok (.aload_n 0, 1) := by decide +kernel
theorem dX4_leastLimit_31 : decode cX4_leastLimit 31 = .ok (.getfield 40, 3) := by decide +kernel
theorem dX4_leastLimit_34 : decode cX4_leastLimit 34 = .ok (.iload_n 2, 1) := by decide +kernel
theorem dX4_leastLimit_35 : decode cX4_leastLimit 35 = .ok (.iaload, 1) := by decide +kernel
theorem dX4_leastLimit_36 : decode cX4_leastLimit 36 = .ok (.iconst 1, 1) := by decide +kernel
theorem dX4_leastLimit_37 : decode cX4_leastLimit 37 = .ok (.iadd, 1) := by decide +kernel
theorem dX4_leastLimit_38 : decode cX4_leastLimit 38 = .ok (.invokestatic 46, 3) := by decide +kernel
theorem dX4_leastLimit_41 : decode cX4_leastLimit 41 = .ok (.istore_n 1, 1) := by decide +kernel
theorem dX4_leastLimit_42 : decode cX4_leastLimit 42 = .ok (.iinc 2 1, 3) := by decide +kernel
theorem dX4_leastLimit_45 : decode cX4_leastLimit 45 = .ok (.goto (-40), 3) := by decide +kernel
theorem dX4_leastLimit_48 : decode cX4_leastLimit 48 = .ok (.iload_n 1, 1) := by decide +kernel
theorem dX4_leastLimit_49 : decode cX4_leastLimit 49 = .ok (.ireturn, 1) := by decide +kernel
theorem dX4_greatestLimit_0 : decode cX4_greatestLimit 0 = .ok (.bipush 6, 2) := by decide +kernel
theorem dX4_greatestLimit_2 : decode cX4_greatestLimit 2 = .ok (.istore_n 1, 1) := by decide +kernel
theorem dX4_greatestLimit_3 : decode cX4_greatestLimit 3 = .ok (.iconst 0, 1) := by decide +kernel
theorem dX4_greatestLimit_4 : decode cX4_greatestLimit 4 = .ok (.istore_n 2, 1) := by decide +kernel
theorem dX4_greatestLimit_5 : decode cX4_greatestLimit 5 = .ok (.iload_n 2, 1) := by decide +kernel
theorem dX4_greatestLimit_6 : decode cX4_greatestLimit 6 = .ok (.bipush 16, 2) := by decide +kernel
theorem dX4_greatestLimit_8 : decode cX4_greatestLimit 8 = .ok (.if_icmp .ge 39, 3) := by decide +kernel
theorem dX4_greatestLimit_11 : decode cX4_greatestLimit 11 = .ok (.aload_n 0, 1) := by decide +kernel
theorem dX4_greatestLimit_12 : decode cX4_greatestLimit 12 = .ok (.getfield 13, 3) := by decide +kernel
theorem dX4_greatestLimit_15 : decode cX4_greatestLimit 15 = .ok (.iload_n 2, 1) := by decide +kernel
theorem dX4_greatestLimit_16 : decode cX4_greatestLimit 16 = .ok (.baload, 1) := by decide +kernel
theorem dX4_greatestLimit_17 : decode cX4_greatestLimit 17 = .ok (.ifCond .eq 24, 3) := by decide +kernel
theorem dX4_greatestLimit_20 : decode cX4_greatestLimit 20 = .ok (.aload_n 0, 1) := by decide +kernel
theorem dX4_greatestLimit_21 : decode cX4_greatestLimit 21 = .ok (.getfield 17, 3) := by decide +kernel
theorem dX4_greatestLimit_24 : decode cX4_greatestLimit 24 = .ok (.iload_n 2, 1) := by decide +kernel
theorem dX4_greatestLimit_25 : decode cX4_greatestLimit 25 = .ok (.iaload, 1) := by decide +kernel
theorem dX4_greatestLimit_26 : decode cX4_greatestLimit 26 = .ok (.iconst 1, 1) := by decide +kernel
theorem dX4_greatestLimit_27 : decode cX4_greatestLimit 27 = .ok (.if_icmp .ne 14, 3) := by decide +kernel
theorem dX4_greatestLimit_30 : decode cX4_greatestLimit 30 = .ok (.iload_n 1, 1) := by decide +kernel
theorem dX4_greatestLimit_31 : decode cX4_greatestLimit 31 = .ok (.aload_n 0, 1) := by decide +kernel
theorem dX4_greatestLimit_32 : decode cX4_greatestLimit 32 = .ok (.getfield 40, 3) := by decide +kernel
theorem dX4_greatestLimit_35 : decode cX4_greatestLimit 35 = .ok (.iload_n 2, 1) := by decide +kernel
theorem dX4_greatestLimit_36 : decode cX4_greatestLimit 36 = .ok (.iaload, 1) := by decide +kernel
theorem dX4_greatestLimit_37 : decode cX4_greatestLimit 37 = .ok (.invokestatic 67, 3) := by decide +kernel
theorem dX4_greatestLimit_40 : decode cX4_greatestLimit 40 = .ok (.istore_n 1, 1) := by decide +kernel
theorem dX4_greatestLimit_41 : decode cX4_greatestLimit 41 = .ok (.iinc 2 1, 3) := by decide +kernel
theorem dX4_greatestLimit_44 : decode cX4_greatestLimit 44 = .ok (.goto (-39), 3) := by decide +kernel
theorem dX4_greatestLimit_47 : decode cX4_greatestLimit 47 = .ok (.iload_n 1, 1) := by decide +kernel
theorem dX4_greatestLimit_48 : decode cX4_greatestLimit 48 = .ok (.ireturn, 1) := by decide +kernel
theorem dX4_countPlanes_0 : decode cX4_countPlanes 0 = .ok (.aload_n 0, 1) := by decide +kernel
theorem dX4_countPlanes_1 : decode cX4_countPlanes 1 = .ok (.getfield 28, 3) := by decide +kernel
theorem dX4_countPlanes_4 : decode cX4_countPlanes 4 = .ok (.ifCond .ne 24, 3) := by decide +kernel
theorem dX4_countPlanes_7 : decode cX4_countPlanes 7 = .ok (.aload_n 0, 1) := by decide +kernel
theorem dX4_countPlanes_8 : decode cX4_countPlanes 8 = .ok (.getfield 37, 3) := by decide +kernel
theorem dX4_countPlanes_11 : decode cX4_countPlanes 11 = .ok (.iconst 0, 1) := by decide +kernel
theorem dX4_countPlanes_12 : decode cX4_countPlanes 12 = .ok (.aload_n 0, 1) := by decide +kernel
theorem dX4_countPlanes_13 : decode cX4_countPlanes 13 = .ok (.getfield 31, 3) := by decide +kernel
theorem dX4_countPlanes_16 : decode cX4_countPlanes 16 = .ok (.iconst 0, 1) := by decide +kernel
theorem dX4_countPlanes_17 : decode cX4_countPlanes 17 = .ok (.iconst 4, 1) := by decide +kernel
theorem dX4_countPlanes_18 : decode cX4_countPlanes 18 = .ok (.invokestatic 70, 3) := by decide +kernel
theorem dX4_countPlanes_21 : decode cX4_countPlanes 21 = .ok (.aload_n 0, 1) := by decide +kernel
theorem dX4_countPlanes_22 : decode cX4_countPlanes 22 = .ok (.getfield 31, 3) := by decide +kernel
theorem dX4_countPlanes_25 : decode cX4_countPlanes 25 = .ok (.iconst 4, 1) := by decide +kernel
theorem dX4_countPlanes_26 : decode cX4_countPlanes 26 = .ok (.iload_n 1, 1) := by decide +kernel
theorem dX4_countPlanes_27 : decode cX4_countPlanes 27 = .ok (.iastore, 1) := by decide +kernel
theorem dX4_countPlanes_28 : decode cX4_countPlanes 28 = .ok (.aload_n 0, 1) := by decide +kernel
theorem dX4_countPlanes_29 : decode cX4_countPlanes 29 = .ok (.dup, 1) := by decide +kernel
theorem dX4_countPlanes_30 : decode cX4_countPlanes 30 = .ok (.getfield 28, 3) := by decide +kernel
theorem dX4_countPlanes_33 : decode cX4_countPlanes 33 = .ok (.iload_n 2, 1) := by decide +kernel
theorem dX4_countPlanes_34 : decode cX4_countPlanes 34 = .ok (.iload_n 1, 1) := by decide +kernel
theorem dX4_countPlanes_35 : decode cX4_countPlanes 35 = .ok (.isub, 1) := by decide +kernel
theorem dX4_countPlanes_36 : decode cX4_countPlanes 36 = .ok (.iconst 1, 1) := by decide +kernel
theorem dX4_countPlanes_37 : decode cX4_countPlanes 37 = .ok (.iadd, 1) := by decide +kernel
theorem dX4_countPlanes_38 : decode cX4_countPlanes 38 = .ok (.iadd, 1) := by decide +kernel
theorem dX4_countPlanes_39 : decode cX4_countPlanes 39 = .ok (.putfield 28, 3) := by decide +kernel
theorem dX4_countPlanes_42 : decode cX4_countPlanes 42 = .ok (.iconst 0, 1) := by decide +kernel
theorem dX4_countPlanes_43 : decode cX4_countPlanes 43 = .ok (.istore_n 3, 1) := by decide +kernel
theorem dX4_countPlanes_44 : decode cX4_countPlanes 44 = .ok (.iload_n 3, 1) := by decide +kernel
theorem dX4_countPlanes_45 : decode cX4_countPlanes 45 = .ok (.bipush 16, 2) := by decide +kernel
theorem dX4_countPlanes_47 : decode cX4_countPlanes 47 = .ok (.if_icmp .ge 40, 3) := by decide +kernel
theorem dX4_countPlanes_50 : decode cX4_countPlanes 50 = .ok (.iload_n 2, 1) := by decide +kernel
theorem dX4_countPlanes_51 : decode cX4_countPlanes 51 = .ok (.aload_n 0, 1) := by decide +kernel
theorem dX4_countPlanes_52 : decode cX4_countPlanes 52 = .ok (.getfield 40, 3) := by decide +kernel
theorem dX4_countPlanes_55 : decode cX4_countPlanes 55 = .ok (.iload_n 3, 1) := by decide +kernel
theorem dX4_countPlanes_56 : decode cX4_countPlanes 56 = .ok (.iaload, 1) := by decide +kernel
theorem dX4_countPlanes_57 : decode cX4_countPlanes 57 = .ok (.invokestatic 67, 3) := by decide +kernel
theorem dX4_countPlanes_60 : decode cX4_countPlanes 60 = .ok (.istore 4, 2) := by decide +kernel
theorem dX4_countPlanes_62 : decode cX4_countPlanes 62 = .ok (.aload_n 0, 1) := by decide +kernel
theorem dX4_countPlanes_63 : decode cX4_countPlanes 63 = .ok (.getfield 34, 3) := by decide +kernel
theorem dX4_countPlanes_66 : decode cX4_countPlanes 66 = .ok (.iload_n 3, 1) := by decide +kernel
theorem dX4_countPlanes_67 : decode cX4_countPlanes 67 = .ok (.dup2, 1) := by decide +kernel
theorem dX4_countPlanes_68 : decode cX4_countPlanes 68 = .ok (.iaload, 1) := by decide +kernel
theorem dX4_countPlanes_69 : decode cX4_countPlanes 69 = .ok (.iconst 0, 1) := by decide +kernel
theorem dX4_countPlanes_70 : decode cX4_countPlanes 70 = .ok (.iload 4, 2) := by decide +kernel
theorem dX4_countPlanes_72 : decode cX4_countPlanes 72 = .ok (.iload_n 1, 1) := by decide +kernel
theorem dX4_countPlanes_73 : decode cX4_countPlanes 73 = .ok (.isub, 1) := by decide +kernel
theorem dX4_countPlanes_74 : decode cX4_countPlanes 74 = .ok (.iconst 1, 1) := by decide +kernel
theorem dX4_countPlanes_75 : decode cX4_countPlanes 75 = .ok (.iadd, 1) := by decide +kernel
theorem dX4_countPlanes_76 : decode cX4_countPlanes 76 = .ok (.invokestatic 46, 3) := by decide +kernel
theorem dX4_countPlanes_79 : decode cX4_countPlanes 79 = .ok (.iadd, 1) := by decide +kernel
theorem dX4_countPlanes_80 : decode cX4_countPlanes 80 = .ok (.iastore, 1) := by decide +kernel
theorem dX4_countPlanes_81 : decode cX4_countPlanes 81 = .ok (.iinc 3 1, 3) := by decide +kernel
theorem dX4_countPlanes_84 : decode cX4_countPlanes 84 = .ok (.goto (-40), 3) := by decide +kernel
theorem dX4_countPlanes_87 : decode cX4_countPlanes 87 = .ok (.return_, 1) := by decide +kernel
theorem dX5_init_0 : decode cX5_init 0 = .ok (.aload_n 0, 1) := by decide +kernel
theorem dX5_init_1 : decode cX5_init 1 = .ok (.invokespecial 1, 3) := by decide +kernel
theorem dX5_init_4 : decode cX5_init 4 = .ok (.aload_n 0, 1) := by decide +kernel
theorem dX5_init_5 : decode cX5_init 5 = .ok (.new 7, 3) := by decide +kernel
theorem dX5_init_8 : decode cX5_init 8 = .ok (.dup, 1) := by decide +kernel
theorem dX5_init_9 : decode cX5_init 9 = .ok (.invokespecial 9, 3) := by decide +kernel
theorem dX5_init_12 : decode cX5_init 12 = .ok (.putfield 10, 3) := by decide +kernel
theorem dX5_init_15 : decode cX5_init 15 = .ok (.aload_n 0, 1) := by decide +kernel
theorem dX5_init_16 : decode cX5_init 16 = .ok (.new 16, 3) := by decide +kernel
theorem dX5_init_19 : decode cX5_init 19 = .ok (.dup, 1) := by decide +kernel
theorem dX5_init_20 : decode cX5_init 20 = .ok (.invokespecial 18, 3) := by decide +kernel
theorem dX5_init_23 : decode cX5_init 23 = .ok (.putfield 19, 3) := by decide +kernel
theorem dX5_init_26 : decode cX5_init 26 = .ok (.aload_n 0, 1) := by decide +kernel
theorem dX5_init_27 : decode cX5_init 27 = .ok (.new 23, 3) := by decide +kernel
theorem dX5_init_30 : decode cX5_init 30 = .ok (.dup, 1) := by decide +kernel
theorem dX5_init_31 : decode cX5_init 31 = .ok (.invokespecial 25, 3) := by decide +kernel
theorem dX5_init_34 : decode cX5_init 34 = .ok (.putfield 26, 3) := by decide +kernel
theorem dX5_init_37 : decode cX5_init 37 = .ok (.aload_n 0, 1) := by decide +kernel
theorem dX5_init_38 : decode cX5_init 38 = .ok (.new 30, 3) := by decide +kernel
theorem dX5_init_41 : decode cX5_init 41 = .ok (.dup, 1) := by decide +kernel
theorem dX5_init_42 : decode cX5_init 42 = .ok (.invokespecial 32, 3) := by decide +kernel
theorem dX5_init_45 : decode cX5_init 45 = .ok (.putfield 33, 3) := by decide +kernel
theorem dX5_init_48 : decode cX5_init 48 = .ok (.aload_n 0, 1) := by decide +kernel
theorem dX5_init_49 : decode cX5_init 49 = .ok (.new 37, 3) := by decide +kernel
theorem dX5_init_52 : decode cX5_init 52 = .ok (.dup, 1) := by decide +kernel
theorem dX5_init_53 : decode cX5_init 53 = .ok (.aload_n 0, 1) := by decide +kernel
theorem dX5_init_54 : decode cX5_init 54 = .ok (.getfield 10, 3) := by decide +kernel
theorem dX5_init_57 : decode cX5_init 57 = .ok (.aload_n 0, 1) := by decide +kernel
theorem dX5_init_58 : decode cX5_init 58 = .ok (.getfield 19, 3) := by decide +kernel
theorem dX5_init_61 : decode cX5_init 61 = .ok (.invokespecial 39, 3) := by decide +kernel
theorem dX5_init_64 : decode cX5_init 64 = .ok (.putfield 42, 3) := by decide +kernel
theorem dX5_init_67 : decode cX5_init 67 = .ok (.aload_n 0, 1) := by decide +kernel
theorem dX5_init_68 : decode cX5_init 68 = .ok (.bipush 7, 2) := by decide +kernel
theorem dX5_init_70 : decode cX5_init 70 = .ok (.newarray .int, 2) := by decide +kernel
theorem dX5_init_72 : decode cX5_init 72 = .ok (.putfield 46, 3) := by decide +kernel
theorem dX5_init_75 : decode cX5_init 75 = .ok (.return_, 1) := by decide +kernel
theorem dX5_cells_0 : decode cX5_cells 0 = .ok (.iload_n 1, 1) := by decide +kernel
theorem dX5_cells_1 : decode cX5_cells 1 = .ok (.iconst 4, 1) := by decide +kernel
theorem dX5_cells_2 : decode cX5_cells 2 = .ok (.if_icmp .ge 10, 3) := by decide +kernel
theorem dX5_cells_5 : decode cX5_cells 5 = .ok (.aload_n 0, 1) := by decide +kernel
theorem dX5_cells_6 : decode cX5_cells 6 = .ok (.bipush (-4), 2) := by decide +kernel
theorem dX5_cells_8 : decode cX5_cells 8 = .ok (.invokevirtual 50, 3) := by decide +kernel
theorem dX5_cells_11 : decode cX5_cells 11 = .ok (.ireturn, 1) := by decide +kernel
theorem dX5_cells_12 : decode cX5_cells 12 = .ok (.iload_n 1, 1) := by decide +kernel
theorem dX5_cells_13 : decode cX5_cells 13 = .ok (.bipush 14, 2) := by decide +kernel
theorem dX5_cells_15 : decode cX5_cells 15 = .ok (.if_icmp .le 10, 3) := by decide +kernel
theorem dX5_cells_18 : decode cX5_cells 18 = .ok (.aload_n 0, 1) := by decide +kernel
theorem dX5_cells_19 : decode cX5_cells 19 = .ok (.bipush (-6), 2) := by decide +kernel
theorem dX5_cells_21 : decode cX5_cells 21 = .ok (.invokevirtual 50, 3) := by decide +kernel
theorem dX5_cells_24 : decode cX5_cells 24 = .ok (.ireturn, 1) := by decide +kernel
theorem dX5_cells_25 : decode cX5_cells 25 = .ok (.aload_n 0, 1) := by decide +kernel
theorem dX5_cells_26 : decode cX5_cells 26 = .ok (.getfield 10, 3) := by decide +kernel
theorem dX5_cells_29 : decode cX5_cells 29 = .ok (.getfield 54, 3) := by decide +kernel
theorem dX5_cells_32 : decode cX5_cells 32 = .ok (.istore_n 2, 1) := by decide +kernel
theorem dX5_cells_33 : decode cX5_cells 33 = .ok (.aload_n 0, 1) := by decide +kernel
theorem dX5_cells_34 : decode cX5_cells 34 = .ok (.getfield 10, 3) := by decide +kernel
theorem dX5_cells_37 : decode cX5_cells 37 = .ok (.iload_n 1, 1) := by decide +kernel
theorem dX5_cells_38 : decode cX5_cells 38 = .ok (.putfield 54, 3) := by decide +kernel
theorem dX5_cells_41 : decode cX5_cells 41 = .ok (.aload_n 0, 1) := by decide +kernel
theorem dX5_cells_42 : decode cX5_cells 42 = .ok (.getfield 10, 3) := by decide +kernel
theorem dX5_cells_45 : decode cX5_cells 45 = .ok (.iconst 0, 1) := by decide +kernel
theorem dX5_cells_46 : decode cX5_cells 46 = .ok (.putfield 58, 3) := by decide +kernel
theorem dX5_cells_49 : decode cX5_cells 49 = .ok (.aload_n 0, 1) := by decide +kernel
theorem dX5_cells_50 : decode cX5_cells 50 = .ok (.getfield 19, 3) := by decide +kernel
theorem dX5_cells_53 : decode cX5_cells 53 = .ok (.invokevirtual 61, 3) := by decide +kernel
theorem dX5_cells_56 : decode cX5_cells 56 = .ok (.aload_n 0, 1) := by decide +kernel
theorem dX5_cells_57 : decode cX5_cells 57 = .ok (.getfield 26, 3) := by decide +kernel
theorem dX5_cells_60 : decode cX5_cells 60 = .ok (.invokevirtual 64, 3) := by decide +kernel
theorem dX5_cells_63 : decode cX5_cells 63 = .ok (.iload_n 2, 1) := by decide +kernel
theorem dX5_cells_64 : decode cX5_cells 64 = .ok (.ireturn, 1) := by decide +kernel
theorem dX5_chip_0 : decode cX5_chip 0 = .ok (.aload_n 0, 1) := by decide +kernel
theorem dX5_chip_1 : decode cX5_chip 1 = .ok (.getfield 10, 3) := by decide +kernel
theorem dX5_chip_4 : decode cX5_chip 4 = .ok (.iload_n 1, 1) := by decide +kernel
theorem dX5_chip_5 : decode cX5_chip 5 = .ok (.invokevirtual 67, 3) := by decide +kernel
theorem dX5_chip_8 : decode cX5_chip 8 = .ok (.ifCond .ne 9, 3) := by decide +kernel
theorem dX5_chip_11 : decode cX5_chip 11 = .ok (.aload_n 0, 1) := by decide +kernel
theorem dX5_chip_12 : decode cX5_chip 12 = .ok (.iconst (-1), 1) := by decide +kernel
theorem dX5_chip_13 : decode cX5_chip 13 = .ok (.invokevirtual 50, 3) := by decide +kernel
theorem dX5_chip_16 : decode cX5_chip 16 = .ok (.ireturn, 1) := by decide +kernel
theorem dX5_chip_17 : decode cX5_chip 17 = .ok (.aload_n 0, 1) := by decide +kernel
theorem dX5_chip_18 : decode cX5_chip 18 = .ok (.getfield 26, 3) := by decide +kernel
theorem dX5_chip_21 : decode cX5_chip 21 = .ok (.getfield 71, 3) := by decide +kernel
theorem dX5_chip_24 : decode cX5_chip 24 = .ok (.bipush 8, 2) := by decide +kernel
theorem dX5_chip_26 : decode cX5_chip 26 = .ok (.if_icmp .lt 10, 3) := by decide +kernel
theorem dX5_chip_29 : decode cX5_chip 29 = .ok (.aload_n 0, 1) := by decide +kernel
theorem dX5_chip_30 : decode cX5_chip 30 = .ok (.bipush (-6), 2) := by decide +kernel
theorem dX5_chip_32 : decode cX5_chip 32 = .ok (.invokevirtual 50, 3) := by decide +kernel
theorem dX5_chip_35 : decode cX5_chip 35 = .ok (.ireturn, 1) := by decide +kernel
theorem dX5_chip_36 : decode cX5_chip 36 = .ok (.aload_n 0, 1) := by decide +kernel
theorem dX5_chip_37 : decode cX5_chip 37 = .ok (.getfield 26, 3) := by decide +kernel
theorem dX5_chip_40 : decode cX5_chip 40 = .ok (.iload_n 1, 1) := by decide +kernel
theorem dX5_chip_41 : decode cX5_chip 41 = .ok (.invokevirtual 74, 3) := by decide +kernel
theorem dX5_chip_44 : decode cX5_chip 44 = .ok (.ireturn, 1) := by decide +kernel
theorem dX5_set_0 : decode cX5_set 0 = .ok (.iload_n 1, 1) := by decide +kernel
theorem dX5_set_1 : decode cX5_set 1 = .ok (.ifCond .lt 9, 3) := by decide +kernel
theorem dX5_set_4 : decode cX5_set 4 = .ok (.iload_n 1, 1) := by decide +kernel
theorem dX5_set_5 : decode cX5_set 5 = .ok (.bipush 14, 2) := by decide +kernel
theorem dX5_set_7 : decode cX5_set 7 = .ok (.if_icmp .lt 9, 3) := by decide +kernel
theorem dX5_set_10 : decode cX5_set 10 = .ok (.aload_n 0, 1) := by decide +kernel
theorem dX5_set_11 : decode cX5_set 11 = .ok (.iconst (-1), 1) := by decide +kernel
theorem dX5_set_12 : decode cX5_set 12 = .ok (.invokevirtual 50, 3) := by decide +kernel
theorem dX5_set_15 : decode cX5_set 15 = .ok (.ireturn, 1) := by decide +kernel
theorem dX5_set_16 : decode cX5_set 16 = .ok (.iload_n 2, 1) := by decide +kernel
theorem dX5_set_17 : decode cX5_set 17 = .ok (.ifCond .lt 8, 3) := by decide +kernel
theorem dX5_set_20 : decode cX5_set 20 = .ok (.iload_n 2, 1) := by decide +kernel
theorem dX5_set_21 : decode cX5_set 21 = .ok (.iconst 2, 1) := by decide +kernel
theorem dX5_set_22 : decode cX5_set 22 = .ok (.if_icmp .le 10, 3) := by decide +kernel
theorem dX5_set_25 : decode cX5_set 25 = .ok (.aload_n 0, 1) := by decide +kernel
theorem dX5_set_26 : decode cX5_set 26 = .ok (.bipush (-2), 2) := by decide +kernel
theorem dX5_set_28 : decode cX5_set 28 = .ok (.invokevirtual 50, 3) := by decide +kernel
theorem dX5_set_31 : decode cX5_set 31 = .ok (.ireturn, 1) := by decide +kernel
theorem dX5_set_32 : decode cX5_set 32 = .ok (.iload_n 3, 1) := by decide +kernel
theorem dX5_set_33 : decode cX5_set 33 = .ok (.iload_n 2, 1) := by decide +kernel
theorem dX5_set_34 : decode cX5_set 34 = .ok (.invokestatic 77, 3) := by decide +kernel
theorem dX5_set_37 : decode cX5_set 37 = .ok (.if_icmp .ge 10, 3) := by decide +kernel
