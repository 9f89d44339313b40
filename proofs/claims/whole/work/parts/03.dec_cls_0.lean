theorem dX0_init_0 : decode cX0_init 0 = .ok (.aload_n 0, 1) := by decide +kernel
theorem dX0_init_1 : decode cX0_init 1 = .ok (.invokespecial 3, 3) := by decide +kernel
theorem dX0_init_4 : decode cX0_init 4 = .ok (.aload_n 0, 1) := by decide +kernel
theorem dX0_init_5 : decode cX0_init 5 = .ok (.bipush 72, 2) := by decide +kernel
theorem dX0_init_7 : decode cX0_init 7 = .ok (.newarray .int, 2) := by decide +kernel
theorem dX0_init_9 : decode cX0_init 9 = .ok (.putfield 11, 3) := by decide +kernel
theorem dX0_init_12 : decode cX0_init 12 = .ok (.aload_n 0, 1) := by decide +kernel
theorem dX0_init_13 : decode cX0_init 13 = .ok (.bipush 56, 2) := by decide +kernel
theorem dX0_init_15 : decode cX0_init 15 = .ok (.newarray .int, 2) := by decide +kernel
theorem dX0_init_17 : decode cX0_init 17 = .ok (.putfield 15, 3) := by decide +kernel
theorem dX0_init_20 : decode cX0_init 20 = .ok (.aload_n 0, 1) := by decide +kernel
theorem dX0_init_21 : decode cX0_init 21 = .ok (.bipush 14, 2) := by decide +kernel
theorem dX0_init_23 : decode cX0_init 23 = .ok (.newarray .int, 2) := by decide +kernel
theorem dX0_init_25 : decode cX0_init 25 = .ok (.putfield 18, 3) := by decide +kernel
theorem dX0_init_28 : decode cX0_init 28 = .ok (.aload_n 0, 1) := by decide +kernel
theorem dX0_init_29 : decode cX0_init 29 = .ok (.bipush 14, 2) := by decide +kernel
theorem dX0_init_31 : decode cX0_init 31 = .ok (.newarray .int, 2) := by decide +kernel
theorem dX0_init_33 : decode cX0_init 33 = .ok (.putfield 21, 3) := by decide +kernel
theorem dX0_init_36 : decode cX0_init 36 = .ok (.aload_n 0, 1) := by decide +kernel
theorem dX0_init_37 : decode cX0_init 37 = .ok (.bipush 14, 2) := by decide +kernel
theorem dX0_init_39 : decode cX0_init 39 = .ok (.newarray .int, 2) := by decide +kernel
theorem dX0_init_41 : decode cX0_init 41 = .ok (.putfield 24, 3) := by decide +kernel
theorem dX0_init_44 : decode cX0_init 44 = .ok (.aload_n 0, 1) := by decide +kernel
theorem dX0_init_45 : decode cX0_init 45 = .ok (.bipush 52, 2) := by decide +kernel
theorem dX0_init_47 : decode cX0_init 47 = .ok (.newarray .int, 2) := by decide +kernel
theorem dX0_init_49 : decode cX0_init 49 = .ok (.putfield 27, 3) := by decide +kernel
theorem dX0_init_52 : decode cX0_init 52 = .ok (.aload_n 0, 1) := by decide +kernel
theorem dX0_init_53 : decode cX0_init 53 = .ok (.iconst 2, 1) := by decide +kernel
theorem dX0_init_54 : decode cX0_init 54 = .ok (.putfield 30, 3) := by decide +kernel
theorem dX0_init_57 : decode cX0_init 57 = .ok (.aload_n 0, 1) := by decide +kernel
theorem dX0_init_58 : decode cX0_init 58 = .ok (.bipush 20, 2) := by decide +kernel
theorem dX0_init_60 : decode cX0_init 60 = .ok (.putfield 34, 3) := by decide +kernel
theorem dX0_init_63 : decode cX0_init 63 = .ok (.iconst 0, 1) := by decide +kernel
theorem dX0_init_64 : decode cX0_init 64 = .ok (.istore_n 1, 1) := by decide +kernel
theorem dX0_init_65 : decode cX0_init 65 = .ok (.iload_n 1, 1) := by decide +kernel
theorem dX0_init_66 : decode cX0_init 66 = .ok (.bipush 14, 2) := by decide +kernel
theorem dX0_init_68 : decode cX0_init 68 = .ok (.if_icmp .ge 20, 3) := by decide +kernel
theorem dX0_init_71 : decode cX0_init 71 = .ok (.aload_n 0, 1) := by decide +kernel
theorem dX0_init_72 : decode cX0_init 72 = .ok (.getfield 21, 3) := by decide +kernel
theorem dX0_init_75 : decode cX0_init 75 = .ok (.iload_n 1, 1) := by decide +kernel
theorem dX0_init_76 : decode cX0_init 76 = .ok (.sipush 2000, 3) := by decide +kernel
theorem dX0_init_79 : decode cX0_init 79 = .ok (.invokestatic 37, 3) := by decide +kernel
theorem dX0_init_82 : decode cX0_init 82 = .ok (.iinc 1 1, 3) := by decide +kernel
theorem dX0_init_85 : decode cX0_init 85 = .ok (.goto (-20), 3) := by decide +kernel
theorem dX0_init_88 : decode cX0_init 88 = .ok (.return_, 1) := by decide +kernel
theorem dX0_isBundle_0 : decode cX0_isBundle 0 = .ok (.iload_n 1, 1) := by decide +kernel
theorem dX0_isBundle_1 : decode cX0_isBundle 1 = .ok (.iconst 0, 1) := by decide +kernel
theorem dX0_isBundle_2 : decode cX0_isBundle 2 = .ok (.bipush 7, 2) := by decide +kernel
theorem dX0_isBundle_4 : decode cX0_isBundle 4 = .ok (.invokestatic 41, 3) := by decide +kernel
theorem dX0_isBundle_7 : decode cX0_isBundle 7 = .ok (.ifCond .eq 18, 3) := by decide +kernel
theorem dX0_isBundle_10 : decode cX0_isBundle 10 = .ok (.aload_n 0, 1) := by decide +kernel
theorem dX0_isBundle_11 : decode cX0_isBundle 11 = .ok (.getfield 45, 3) := by decide +kernel
theorem dX0_isBundle_14 : decode cX0_isBundle 14 = .ok (.iload_n 1, 1) := by decide +kernel
theorem dX0_isBundle_15 : decode cX0_isBundle 15 = .ok (.invokestatic 48, 3) := by decide +kernel
theorem dX0_isBundle_18 : decode cX0_isBundle 18 = .ok (.ifCond .eq 7, 3) := by decide +kernel
theorem dX0_isBundle_21 : decode cX0_isBundle 21 = .ok (.iconst 1, 1) := by decide +kernel
theorem dX0_isBundle_22 : decode cX0_isBundle 22 = .ok (.goto 4, 3) := by decide +kernel
theorem dX0_isBundle_25 : decode cX0_isBundle 25 = .ok (.iconst 0, 1) := by decide +kernel
theorem dX0_isBundle_26 : decode cX0_isBundle 26 = .ok (.ireturn, 1) := by decide +kernel
theorem dX0_isThing_0 : decode cX0_isThing 0 = .ok (.iload_n 1, 1) := by decide +kernel
theorem dX0_isThing_1 : decode cX0_isThing 1 = .ok (.iconst 0, 1) := by decide +kernel
theorem dX0_isThing_2 : decode cX0_isThing 2 = .ok (.bipush 13, 2) := by decide +kernel
theorem dX0_isThing_4 : decode cX0_isThing 4 = .ok (.invokestatic 41, 3) := by decide +kernel
theorem dX0_isThing_7 : decode cX0_isThing 7 = .ok (.ifCond .eq 18, 3) := by decide +kernel
theorem dX0_isThing_10 : decode cX0_isThing 10 = .ok (.aload_n 0, 1) := by decide +kernel
theorem dX0_isThing_11 : decode cX0_isThing 11 = .ok (.getfield 45, 3) := by decide +kernel
theorem dX0_isThing_14 : decode cX0_isThing 14 = .ok (.iload_n 1, 1) := by decide +kernel
theorem dX0_isThing_15 : decode cX0_isThing 15 = .ok (.invokestatic 48, 3) := by decide +kernel
theorem dX0_isThing_18 : decode cX0_isThing 18 = .ok (.ifCond .eq 7, 3) := by decide +kernel
theorem dX0_isThing_21 : decode cX0_isThing 21 = .ok (.iconst 1, 1) := by decide +kernel
theorem dX0_isThing_22 : decode cX0_isThing 22 = .ok (.goto 4, 3) := by decide +kernel
theorem dX0_isThing_25 : decode cX0_isThing 25 = .ok (.iconst 0, 1) := by decide +kernel
theorem dX0_isThing_26 : decode cX0_isThing 26 = .ok (.ireturn, 1) := by decide +kernel
theorem dX0_toldBundles_0 : decode cX0_toldBundles 0 = .ok (.aload_n 0, 1) := by decide +kernel
theorem dX0_toldBundles_1 : decode cX0_toldBundles 1 = .ok (.getfield 45, 3) := by decide +kernel
theorem dX0_toldBundles_4 : decode cX0_toldBundles 4 = .ok (.sipush 255, 3) := by decide +kernel
theorem dX0_toldBundles_7 : decode cX0_toldBundles 7 = .ok (.iand, 1) := by decide +kernel
theorem dX0_toldBundles_8 : decode cX0_toldBundles 8 = .ok (.ireturn, 1) := by decide +kernel
theorem dX0_part_0 : decode cX0_part 0 = .ok (.aload_n 0, 1) := by decide +kernel
theorem dX0_part_1 : decode cX0_part 1 = .ok (.getfield 11, 3) := by decide +kernel
theorem dX0_part_4 : decode cX0_part 4 = .ok (.iload_n 1, 1) := by decide +kernel
theorem dX0_part_5 : decode cX0_part 5 = .ok (.bipush 9, 2) := by decide +kernel
theorem dX0_part_7 : decode cX0_part 7 = .ok (.imul, 1) := by decide +kernel
theorem dX0_part_8 : decode cX0_part 8 = .ok (.iload_n 2, 1) := by decide +kernel
theorem dX0_part_9 : decode cX0_part 9 = .ok (.iadd, 1) := by decide +kernel
theorem dX0_part_10 : decode cX0_part 10 = .ok (.invokestatic 52, 3) := by decide +kernel
theorem dX0_part_13 : decode cX0_part 13 = .ok (.ireturn, 1) := by decide +kernel
theorem dX0_yards_0 : decode cX0_yards 0 = .ok (.aload_n 0, 1) := by decide +kernel
theorem dX0_yards_1 : decode cX0_yards 1 = .ok (.iload_n 1, 1) := by decide +kernel
theorem dX0_yards_2 : decode cX0_yards 2 = .ok (.iconst 3, 1) := by decide +kernel
theorem dX0_yards_3 : decode cX0_yards 3 = .ok (.invokevirtual 56, 3) := by decide +kernel
theorem dX0_yards_6 : decode cX0_yards 6 = .ok (.aload_n 0, 1) := by decide +kernel
theorem dX0_yards_7 : decode cX0_yards 7 = .ok (.iload_n 1, 1) := by decide +kernel
theorem dX0_yards_8 : decode cX0_yards 8 = .ok (.iconst 4, 1) := by decide +kernel
theorem dX0_yards_9 : decode cX0_yards 9 = .ok (.invokevirtual 56, 3) := by decide +kernel
theorem dX0_yards_12 : decode cX0_yards 12 = .ok (.imul, 1) := by decide +kernel
theorem dX0_yards_13 : decode cX0_yards 13 = .ok (.aload_n 0, 1) := by decide +kernel
theorem dX0_yards_14 : decode cX0_yards 14 = .ok (.iload_n 1, 1) := by decide +kernel
theorem dX0_yards_15 : decode cX0_yards 15 = .ok (.iconst 5, 1) := by decide +kernel
theorem dX0_yards_16 : decode cX0_yards 16 = .ok (.invokevirtual 56, 3) := by decide +kernel
theorem dX0_yards_19 : decode cX0_yards 19 = .ok (.imul, 1) := by decide +kernel
theorem dX0_yards_20 : decode cX0_yards 20 = .ok (.ireturn, 1) := by decide +kernel
theorem dX0_boxPart_0 : decode cX0_boxPart 0 = .ok (.aload_n 0, 1) := by decide +kernel
theorem dX0_boxPart_1 : decode cX0_boxPart 1 = .ok (.getfield 15, 3) := by decide +kernel
theorem dX0_boxPart_4 : decode cX0_boxPart 4 = .ok (.iload_n 1, 1) := by decide +kernel
theorem dX0_boxPart_5 : decode cX0_boxPart 5 = .ok (.iconst 4, 1) := by decide +kernel
theorem dX0_boxPart_6 : decode cX0_boxPart 6 = .ok (.imul, 1) := by decide +kernel
theorem dX0_boxPart_7 : decode cX0_boxPart 7 = .ok (.iload_n 2, 1) := by decide +kernel
theorem dX0_boxPart_8 : decode cX0_boxPart 8 = .ok (.iadd, 1) := by decide +kernel
theorem dX0_boxPart_9 : decode cX0_boxPart 9 = .ok (.invokestatic 52, 3) := by decide +kernel
theorem dX0_boxPart_12 : decode cX0_boxPart 12 = .ok (.ireturn, 1) := by decide +kernel
theorem dX0_begins_0 : decode cX0_begins 0 = .ok (.aload_n 0, 1) := by decide +kernel
theorem dX0_begins_1 : decode cX0_begins 1 = .ok (.getfield 15, 3) := by decide +kernel
theorem dX0_begins_4 : decode cX0_begins 4 = .ok (.iload_n 1, 1) := by decide +kernel
theorem dX0_begins_5 : decode cX0_begins 5 = .ok (.iconst 4, 1) := by decide +kernel
theorem dX0_begins_6 : decode cX0_begins 6 = .ok (.imul, 1) := by decide +kernel
theorem dX0_begins_7 : decode cX0_begins 7 = .ok (.iload_n 2, 1) := by decide +kernel
theorem dX0_begins_8 : decode cX0_begins 8 = .ok (.iadd, 1) := by decide +kernel
theorem dX0_begins_9 : decode cX0_begins 9 = .ok (.invokestatic 52, 3) := by decide +kernel
theorem dX0_begins_12 : decode cX0_begins 12 = .ok (.ireturn, 1) := by decide +kernel
theorem dX0_ends_0 : decode cX0_ends 0 = .ok (.aload_n 0, 1) := by decide +kernel
theorem dX0_ends_1 : decode cX0_ends 1 = .ok (.getfield 15, 3) := by decide +kernel
theorem dX0_ends_4 : decode cX0_ends 4 = .ok (.iload_n 1, 1) := by decide +kernel
theorem dX0_ends_5 : decode cX0_ends 5 = .ok (.iconst 4, 1) := by decide +kernel
theorem dX0_ends_6 : decode cX0_ends 6 = .ok (.imul, 1) := by decide +kernel
theorem dX0_ends_7 : decode cX0_ends 7 = .ok (.iload_n 2, 1) := by decide +kernel
theorem dX0_ends_8 : decode cX0_ends 8 = .ok (.iadd, 1) := by decide +kernel
theorem dX0_ends_9 : decode cX0_ends 9 = .ok (.invokestatic 52, 3) := by decide +kernel
theorem dX0_ends_12 : decode cX0_ends 12 = .ok (.aload_n 0, 1) := by decide +kernel
theorem dX0_ends_13 : decode cX0_ends 13 = .ok (.getfield 15, 3) := by decide +kernel
theorem dX0_ends_16 : decode cX0_ends 16 = .ok (.iload_n 1, 1) := by decide +kernel
theorem dX0_ends_17 : decode cX0_ends 17 = .ok (.iconst 4, 1) := by decide +kernel
theorem dX0_ends_18 : decode cX0_ends 18 = .ok (.imul, 1) := by decide +kernel
theorem dX0_ends_19 : decode cX0_ends 19 = .ok (.iconst 2, 1) := by decide +kernel
theorem dX0_ends_20 : decode cX0_ends 20 = .ok (.iadd, 1) := by decide +kernel
theorem dX0_ends_21 : decode cX0_ends 21 = .ok (.iload_n 2, 1) := by decide +kernel
theorem dX0_ends_22 : decode cX0_ends 22 = .ok (.iadd, 1) := by decide +kernel
theorem dX0_ends_23 : decode cX0_ends 23 = .ok (.invokestatic 52, 3) := by decide +kernel
theorem dX0_ends_26 : decode cX0_ends 26 = .ok (.iadd, 1) := by decide +kernel
theorem dX0_ends_27 : decode cX0_ends 27 = .ok (.ireturn, 1) := by decide +kernel
theorem dX0_yardsBetween_0 : decode cX0_yardsBetween 0 = .ok (.aload_n 0, 1) := by decide +kernel
theorem dX0_yardsBetween_1 : decode cX0_yardsBetween 1 = .ok (.iload_n 1, 1) := by decide +kernel
theorem dX0_yardsBetween_2 : decode cX0_yardsBetween 2 = .ok (.iload_n 3, 1) := by decide +kernel
theorem dX0_yardsBetween_3 : decode cX0_yardsBetween 3 = .ok (.invokevirtual 60, 3) := by decide +kernel
theorem dX0_yardsBetween_6 : decode cX0_yardsBetween 6 = .ok (.aload_n 0, 1) := by decide +kernel
theorem dX0_yardsBetween_7 : decode cX0_yardsBetween 7 = .ok (.iload_n 2, 1) := by decide +kernel
theorem dX0_yardsBetween_8 : decode cX0_yardsBetween 8 = .ok (.iload_n 3, 1) := by decide +kernel
theorem dX0_yardsBetween_9 : decode cX0_yardsBetween 9 = .ok (.invokevirtual 60, 3) := by decide +kernel
theorem dX0_yardsBetween_12 : decode cX0_yardsBetween 12 = .ok (.invokestatic 63, 3) := by decide +kernel
theorem dX0_yardsBetween_15 : decode cX0_yardsBetween 15 = .ok (.aload_n 0, 1) := by decide +kernel
theorem dX0_yardsBetween_16 : decode cX0_yardsBetween 16 = .ok (.iload_n 1, 1) := by decide +kernel
theorem dX0_yardsBetween_17 : decode cX0_yardsBetween 17 = .ok (.iload_n 3, 1) := by decide +kernel
theorem dX0_yardsBetween_18 : decode cX0_yardsBetween 18 = .ok (.invokevirtual 68, 3) := by decide +kernel
theorem dX0_yardsBetween_21 : decode cX0_yardsBetween 21 = .ok (.aload_n 0, 1) := by decide +kernel
theorem dX0_yardsBetween_22 : decode cX0_yardsBetween 22 = .ok (.iload_n 2, 1) := by decide +kernel
theorem dX0_yardsBetween_23 : decode cX0_yardsBetween 23 = .ok (.iload_n 3, 1) := by decide +kernel
theorem dX0_yardsBetween_24 : decode cX0_yardsBetween 24 = .ok (.invokevirtual 68, 3) := by decide +kernel
theorem dX0_yardsBetween_27 : decode cX0_yardsBetween 27 = .ok (.invokestatic 71, 3) := by decide +kernel
theorem dX0_yardsBetween_30 : decode cX0_yardsBetween 30 = .ok (.isub, 1) := by decide +kernel
theorem dX0_yardsBetween_31 : decode cX0_yardsBetween 31 = .ok (.ireturn, 1) := by decide +kernel
theorem dX0_rightUnder_0 : decode cX0_rightUnder 0 = .ok (.aload_n 0, 1) := by decide +kernel
theorem dX0_rightUnder_1 : decode cX0_rightUnder 1 = .ok (.getfield 45, 3) := by decide +kernel
theorem dX0_rightUnder_4 : decode cX0_rightUnder 4 = .ok (.iload_n 1, 1) := by decide +kernel
theorem dX0_rightUnder_5 : decode cX0_rightUnder 5 = .ok (.invokestatic 48, 3) := by decide +kernel
theorem dX0_rightUnder_8 : decode cX0_rightUnder 8 = .ok (.ifCond .eq 19, 3) := by decide +kernel
theorem dX0_rightUnder_11 : decode cX0_rightUnder 11 = .ok (.aload_n 0, 1) := by decide +kernel
theorem dX0_rightUnder_12 : decode cX0_rightUnder 12 = .ok (.getfield 24, 3) := by decide +kernel
theorem dX0_rightUnder_15 : decode cX0_rightUnder 15 = .ok (.iload_n 1, 1) := by decide +kernel
theorem dX0_rightUnder_16 : decode cX0_rightUnder 16 = .ok (.invokestatic 52, 3) := by decide +kernel
theorem dX0_rightUnder_19 : decode cX0_rightUnder 19 = .ok (.aload_n 0, 1) := by decide +kernel
theorem dX0_rightUnder_20 : decode cX0_rightUnder 20 = .ok (.getfield 45, 3) := by decide +kernel
theorem dX0_rightUnder_23 : decode cX0_rightUnder 23 = .ok (.iand, 1) := by decide +kernel
theorem dX0_rightUnder_24 : decode cX0_rightUnder 24 = .ok (.goto 4, 3) := by decide +kernel
theorem dX0_rightUnder_27 : decode cX0_rightUnder 27 = .ok (.iconst 0, 1) := by decide +kernel
theorem dX0_rightUnder_28 : decode cX0_rightUnder 28 = .ok (.ireturn, 1) := by decide +kernel
theorem dX0_fittingTeams_0 : decode cX0_fittingTeams 0 = .ok (.aload_n 0, 1) := by decide +kernel
theorem dX0_fittingTeams_1 : decode cX0_fittingTeams 1 = .ok (.iload_n 1, 1) := by decide +kernel
theorem dX0_fittingTeams_2 : decode cX0_fittingTeams 2 = .ok (.bipush 6, 2) := by decide +kernel
theorem dX0_fittingTeams_4 : decode cX0_fittingTeams 4 = .ok (.invokevirtual 56, 3) := by decide +kernel
theorem dX0_fittingTeams_7 : decode cX0_fittingTeams 7 = .ok (.istore_n 2, 1) := by decide +kernel
theorem dX0_fittingTeams_8 : decode cX0_fittingTeams 8 = .ok (.iconst 0, 1) := by decide +kernel
theorem dX0_fittingTeams_9 : decode cX0_fittingTeams 9 = .ok (.istore_n 3, 1) := by decide +kernel
theorem dX0_fittingTeams_10 : decode cX0_fittingTeams 10 = .ok (.iconst 1, 1) := by decide +kernel
theorem dX0_fittingTeams_11 : decode cX0_fittingTeams 11 = .ok (.istore 4, 2) := by decide +kernel
theorem dX0_fittingTeams_13 : decode cX0_fittingTeams 13 = .ok (.iload 4, 2) := by decide +kernel
theorem dX0_fittingTeams_15 : decode cX0_fittingTeams 15 = .ok (.bipush 12, 2) := by decide +kernel
theorem dX0_fittingTeams_17 : decode cX0_fittingTeams 17 = .ok (.if_icmp .gt 49, 3) := by decide +kernel
theorem dX0_fittingTeams_20 : decode cX0_fittingTeams 20 = .ok (.aload_n 0, 1) := by decide +kernel
theorem dX0_fittingTeams_21 : decode cX0_fittingTeams 21 = .ok (.getfield 74, 3) := by decide +kernel
theorem dX0_fittingTeams_24 : decode cX0_fittingTeams 24 = .ok (.iload 4, 2) := by decide +kernel
theorem dX0_fittingTeams_26 : decode cX0_fittingTeams 26 = .ok (.invokestatic 48, 3) := by decide +kernel
theorem dX0_fittingTeams_29 : decode cX0_fittingTeams 29 = .ok (.ifCond .eq 31, 3) := by decide +kernel
theorem dX0_fittingTeams_32 : decode cX0_fittingTeams 32 = .ok (.iload_n 2, 1) := by decide +kernel
theorem dX0_fittingTeams_33 : decode cX0_fittingTeams 33 = .ok (.aload_n 0, 1) := by decide +kernel
theorem dX0_fittingTeams_34 : decode cX0_fittingTeams 34 = .ok (.iload 4, 2) := by decide +kernel
theorem dX0_fittingTeams_36 : decode cX0_fittingTeams 36 = .ok (.iconst 0, 1) := by decide +kernel
theorem dX0_fittingTeams_37 : decode cX0_fittingTeams 37 = .ok (.invokevirtual 77, 3) := by decide +kernel
theorem dX0_fittingTeams_40 : decode cX0_fittingTeams 40 = .ok (.aload_n 0, 1) := by decide +kernel
theorem dX0_fittingTeams_41 : decode cX0_fittingTeams 41 = .ok (.iload 4, 2) := by decide +kernel
theorem dX0_fittingTeams_43 : decode cX0_fittingTeams 43 = .ok (.iconst 1, 1) := by decide +kernel
theorem dX0_fittingTeams_44 : decode cX0_fittingTeams 44 = .ok (.invokevirtual 77, 3) := by decide +kernel
theorem dX0_fittingTeams_47 : decode cX0_fittingTeams 47 = .ok (.invokestatic 41, 3) := by decide +kernel
theorem dX0_fittingTeams_50 : decode cX0_fittingTeams 50 = .ok (.ifCond .eq 10, 3) := by decide +kernel
theorem dX0_fittingTeams_53 : decode cX0_fittingTeams 53 = .ok (.iload_n 3, 1) := by decide +kernel
theorem dX0_fittingTeams_54 : decode cX0_fittingTeams 54 = .ok (.iconst 1, 1) := by decide +kernel
theorem dX0_fittingTeams_55 : decode cX0_fittingTeams 55 = .ok (.iload 4, 2) := by decide +kernel
theorem dX0_fittingTeams_57 : decode cX0_fittingTeams 57 = .ok (.ishl, 1) := by decide +kernel
theorem dX0_fittingTeams_58 : decode cX0_fittingTeams 58 = .ok (.ior, 1) := by decide +kernel
theorem dX0_fittingTeams_59 : decode cX0_fittingTeams 59 = .ok (.istore_n 3, 1) := by decide +kernel
theorem dX0_fittingTeams_60 : decode cX0_fittingTeams 60 = .ok (.iinc 4 1, 3) := by decide +kernel
theorem dX0_fittingTeams_63 : decode cX0_fittingTeams 63 = .ok (.goto (-50), 3) := by decide +kernel
theorem dX0_fittingTeams_66 : decode cX0_fittingTeams 66 = .ok (.iload_n 3, 1) := by decide +kernel
theorem dX0_fittingTeams_67 : decode cX0_fittingTeams 67 = .ok (.ireturn, 1) := by decide +kernel
theorem dX0_teamPart_0 : decode cX0_teamPart 0 = .ok (.aload_n 0, 1) := by decide +kernel
theorem dX0_teamPart_1 : decode cX0_teamPart 1 = .ok (.getfield 27, 3) := by decide +kernel
theorem dX0_teamPart_4 : decode cX0_teamPart 4 = .ok (.iload_n 1, 1) := by decide +kernel
theorem dX0_teamPart_5 : decode cX0_teamPart 5 = .ok (.iconst 4, 1) := by decide +kernel
theorem dX0_teamPart_6 : decode cX0_teamPart 6 = .ok (.imul, 1) := by decide +kernel
theorem dX0_teamPart_7 : decode cX0_teamPart 7 = .ok (.iload_n 2, 1) := by decide +kernel
theorem dX0_teamPart_8 : decode cX0_teamPart 8 = .ok (.iadd, 1) := by decide +kernel
theorem dX0_teamPart_9 : decode cX0_teamPart 9 = .ok (.invokestatic 52, 3) := by decide +kernel
theorem dX0_teamPart_12 : decode cX0_teamPart 12 = .ok (.ireturn, 1) := by decide +kernel
theorem dX0_doLine_0 : decode cX0_doLine 0 = .ok (.aload_n 1, 1) := by decide +kernel
theorem dX0_doLine_1 : decode cX0_doLine 1 = .ok (.iload_n 2, 1) := by decide +kernel
theorem dX0_doLine_2 : decode cX0_doLine 2 = .ok (.iconst 0, 1) := by decide +kernel
theorem dX0_doLine_3 : decode cX0_doLine 3 = .ok (.invokevirtual 80, 3) := by decide +kernel
theorem dX0_doLine_6 : decode cX0_doLine 6 = .ok (.istore_n 3, 1) := by decide +kernel
theorem dX0_doLine_7 : decode cX0_doLine 7 = .ok (.aload_n 1, 1) := by decide +kernel
theorem dX0_doLine_8 : decode cX0_doLine 8 = .ok (.iload_n 2, 1) := by decide +kernel
theorem dX0_doLine_9 : decode cX0_doLine 9 = .ok (.invokevirtual 85, 3) := by decide +kernel
theorem dX0_doLine_12 : decode cX0_doLine 12 = .ok (.tableswitch 123 0 5 #[40, 50, 60, 91, 105, 115], 40) := by decide +kernel
theorem dX0_doLine_52 : decode cX0_doLine 52 = .ok (.aload_n 0, 1) := by decide +kernel
theorem dX0_doLine_53 : decode cX0_doLine 53 = .ok (.aload_n 1, 1) := by decide +kernel
theorem dX0_doLine_54 : decode cX0_doLine 54 = .ok (.iload_n 2, 1) := by decide +kernel
theorem dX0_doLine_55 : decode cX0_doLine 55 = .ok (.iload_n 3, 1) := by decide +kernel
theorem dX0_doLine_56 : decode cX0_doLine 56 = .ok (.invokevirtual 89, 3) := by decide +kernel
theorem dX0_doLine_59 : decode cX0_doLine 59 = .ok (.goto 81, 3) := by decide +kernel
theorem dX0_doLine_62 : decode cX0_doLine 62 = .ok (.aload_n 0, 1) := by decide +kernel
theorem dX0_doLine_63 : decode cX0_doLine 63 = .ok (.aload_n 1, 1) := by decide +kernel
theorem dX0_doLine_64 : decode cX0_doLine 64 = .ok (.iload_n 2, 1) := by decide +kernel
theorem dX0_doLine_65 : decode cX0_doLine 65 = .ok (.iload_n 3, 1) := by decide +kernel
theorem dX0_doLine_66 : decode cX0_doLine 66 = .ok (.invokevirtual 93, 3) := by decide +kernel
theorem dX0_doLine_69 : decode cX0_doLine 69 = .ok (.goto 71, 3) := by decide +kernel
theorem dX0_doLine_72 : decode cX0_doLine 72 = .ok (.aload_n 0, 1) := by decide +kernel
theorem dX0_doLine_73 : decode cX0_doLine 73 = .ok (.getfield 18, 3) := by decide +kernel
theorem dX0_doLine_76 : decode cX0_doLine 76 = .ok (.iload_n 3, 1) := by decide +kernel
theorem dX0_doLine_77 : decode cX0_doLine 77 = .ok (.aload_n 1, 1) := by decide +kernel
theorem dX0_doLine_78 : decode cX0_doLine 78 = .ok (.iload_n 2, 1) := by decide +kernel
theorem dX0_doLine_79 : decode cX0_doLine 79 = .ok (.iconst 1, 1) := by decide +kernel
theorem dX0_doLine_80 : decode cX0_doLine 80 = .ok (.invokevirtual 80, 3) := by decide +kernel
theorem dX0_doLine_83 : decode cX0_doLine 83 = .ok (.invokestatic 37, 3) := by decide +kernel
theorem dX0_doLine_86 : decode cX0_doLine 86 = .ok (.aload_n 0, 1) := by decide +kernel
theorem dX0_doLine_87 : decode cX0_doLine 87 = .ok (.getfield 21, 3) := by decide +kernel
theorem dX0_doLine_90 : decode cX0_doLine 90 = .ok (.iload_n 3, 1) := by decide +kernel
theorem dX0_doLine_91 : decode cX0_doLine 91 = .ok (.aload_n 1, 1) := by decide +kernel
theorem dX0_doLine_92 : decode cX0_doLine 92 = .ok (.iload_n 2, 1) := by decide +kernel
theorem dX0_doLine_93 : decode cX0_doLine 93 = .ok (.iconst 2, 1) := by decide +kernel
theorem dX0_doLine_94 : decode cX0_doLine 94 = .ok (.invokevirtual 80, 3) := by decide +kernel
theorem dX0_doLine_97 : decode cX0_doLine 97 = .ok (.invokestatic 37, 3) := by decide +kernel
theorem dX0_doLine_100 : decode cX0_doLine 100 = .ok (.goto 40, 3) := by decide +kernel
theorem dX0_doLine_103 : decode cX0_doLine 103 = .ok (.aload_n 0, 1) := by decide +kernel
theorem dX0_doLine_104 : decode cX0_doLine 104 = .ok (.iload_n 3, 1) := by decide +kernel
theorem dX0_doLine_105 : decode cX0_doLine 105 = .ok (.aload_n 1, 1) := by decide +kernel
theorem dX0_doLine_106 : decode cX0_doLine 106 = .ok (.iload_n 2, 1) := by decide +kernel
theorem dX0_doLine_107 : decode cX0_doLine 107 = .ok (.iconst 1, 1) := by decide +kernel
theorem dX0_doLine_108 : decode cX0_doLine 108 = .ok (.invokevirtual 80, 3) := by decide +kernel
theorem dX0_doLine_111 : decode cX0_doLine 111 = .ok (.invokevirtual 96, 3) := by decide +kernel
theorem dX0_doLine_114 : decode cX0_doLine 114 = .ok (.goto 26, 3) := by decide +kernel
theorem dX0_doLine_117 : decode cX0_doLine 117 = .ok (.aload_n 0, 1) := by decide +kernel
theorem dX0_doLine_118 : decode cX0_doLine 118 = .ok (.aload_n 1, 1) := by decide +kernel
theorem dX0_doLine_119 : decode cX0_doLine 119 = .ok (.iload_n 2, 1) := by decide +kernel
theorem dX0_doLine_120 : decode cX0_doLine 120 = .ok (.iload_n 3, 1) := by decide +kernel
theorem dX0_doLine_121 : decode cX0_doLine 121 = .ok (.invokevirtual 100, 3) := by decide +kernel
theorem dX0_doLine_124 : decode cX0_doLine 124 = .ok (.goto 16, 3) := by decide +kernel
theorem dX0_doLine_127 : decode cX0_doLine 127 = .ok (.aload_n 0, 1) := by decide +kernel
theorem dX0_doLine_128 : decode cX0_doLine 128 = .ok (.iload_n 3, 1) := by decide +kernel
theorem dX0_doLine_129 : decode cX0_doLine 129 = .ok (.putfield 30, 3) := by decide +kernel
theorem dX0_doLine_132 : decode cX0_doLine 132 = .ok (.goto 8, 3) := by decide +kernel
theorem dX0_doLine_135 : decode cX0_doLine 135 = .ok (.aload_n 0, 1) := by decide +kernel
theorem dX0_doLine_136 : decode cX0_doLine 136 = .ok (.iload_n 3, 1) := by decide +kernel
theorem dX0_doLine_137 : decode cX0_doLine 137 = .ok (.putfield 34, 3) := by decide +kernel
theorem dX0_doLine_140 : decode cX0_doLine 140 = .ok (.return_, 1) := by decide +kernel
theorem dX0_tellBundle_0 : decode cX0_tellBundle 0 = .ok (.iconst 0, 1) := by decide +kernel
theorem dX0_tellBundle_1 : decode cX0_tellBundle 1 = .ok (.istore 4, 2) := by decide +kernel
theorem dX0_tellBundle_3 : decode cX0_tellBundle 3 = .ok (.iload 4, 2) := by decide +kernel
theorem dX0_tellBundle_5 : decode cX0_tellBundle 5 = .ok (.bipush 9, 2) := by decide +kernel
theorem dX0_tellBundle_7 : decode cX0_tellBundle 7 = .ok (.if_icmp .ge 32, 3) := by decide +kernel
theorem dX0_tellBundle_10 : decode cX0_tellBundle 10 = .ok (.aload_n 0, 1) := by decide +kernel
theorem dX0_tellBundle_11 : decode cX0_tellBundle 11 = .ok (.getfield 11, 3) := by decide +kernel
theorem dX0_tellBundle_14 : decode cX0_tellBundle 14 = .ok (.iload_n 3, 1) := by decide +kernel
theorem dX0_tellBundle_15 : decode cX0_tellBundle 15 = .ok (.bipush 9, 2) := by decide +kernel
theorem dX0_tellBundle_17 : decode cX0_tellBundle 17 = .ok (.imul, 1) := by decide +kernel
theorem dX0_tellBundle_18 : decode cX0_tellBundle 18 = .ok (.iload 4, 2) := by decide +kernel
theorem dX0_tellBundle_20 : decode cX0_tellBundle 20 = .ok (.iadd, 1) := by decide +kernel
theorem dX0_tellBundle_21 : decode cX0_tellBundle 21 = .ok (.aload_n 1, 1) := by decide +kernel
theorem dX0_tellBundle_22 : decode cX0_tellBundle 22 = .ok (.iload_n 2, 1) := by decide +kernel
theorem dX0_tellBundle_23 : decode cX0_tellBundle 23 = .ok (.iload 4, 2) := by decide +kernel
theorem dX0_tellBundle_25 : decode cX0_tellBundle 25 = .ok (.iconst 1, 1) := by decide +kernel
theorem dX0_tellBundle_26 : decode cX0_tellBundle 26 = .ok (.iadd, 1) := by decide +kernel
theorem dX0_tellBundle_27 : decode cX0_tellBundle 27 = .ok (.invokevirtual 80, 3) := by decide +kernel
theorem dX0_tellBundle_30 : decode cX0_tellBundle 30 = .ok (.invokestatic 37, 3) := by decide +kernel
theorem dX0_tellBundle_33 : decode cX0_tellBundle 33 = .ok (.iinc 4 1, 3) := by decide +kernel
theorem dX0_tellBundle_36 : decode cX0_tellBundle 36 = .ok (.goto (-33), 3) := by decide +kernel
theorem dX0_tellBundle_39 : decode cX0_tellBundle 39 = .ok (.aload_n 0, 1) := by decide +kernel
theorem dX0_tellBundle_40 : decode cX0_tellBundle 40 = .ok (.iload_n 3, 1) := by decide +kernel
theorem dX0_tellBundle_41 : decode cX0_tellBundle 41 = .ok (.iconst 2, 1) := by decide +kernel
theorem dX0_tellBundle_42 : decode cX0_tellBundle 42 = .ok (.invokevirtual 56, 3) := by decide +kernel
theorem dX0_tellBundle_45 : decode cX0_tellBundle 45 = .ok (.istore 4, 2) := by decide +kernel
theorem dX0_tellBundle_47 : decode cX0_tellBundle 47 = .ok (.iconst 1, 1) := by decide +kernel
theorem dX0_tellBundle_48 : decode cX0_tellBundle 48 = .ok (.iload 4, 2) := by decide +kernel
theorem dX0_tellBundle_50 : decode cX0_tellBundle 50 = .ok (.isub, 1) := by decide +kernel
theorem dX0_tellBundle_51 : decode cX0_tellBundle 51 = .ok (.istore 5, 2) := by decide +kernel
theorem dX0_tellBundle_53 : decode cX0_tellBundle 53 = .ok (.aload_n 0, 1) := by decide +kernel
theorem dX0_tellBundle_54 : decode cX0_tellBundle 54 = .ok (.getfield 15, 3) := by decide +kernel
theorem dX0_tellBundle_57 : decode cX0_tellBundle 57 = .ok (.iload_n 3, 1) := by decide +kernel
theorem dX0_tellBundle_58 : decode cX0_tellBundle 58 = .ok (.iconst 4, 1) := by decide +kernel
theorem dX0_tellBundle_59 : decode cX0_tellBundle 59 = .ok (.imul, 1) := by decide +kernel
theorem dX0_tellBundle_60 : decode cX0_tellBundle 60 = .ok (.aload_n 0, 1) := by decide +kernel
theorem dX0_tellBundle_61 : decode cX0_tellBundle 61 = .ok (.iload_n 3, 1) := by decide +kernel
theorem dX0_tellBundle_62 : decode cX0_tellBundle 62 = .ok (.iconst 0, 1) := by decide +kernel
theorem dX0_tellBundle_63 : decode cX0_tellBundle 63 = .ok (.invokevirtual 56, 3) := by decide +kernel
theorem dX0_tellBundle_66 : decode cX0_tellBundle 66 = .ok (.invokestatic 37, 3) := by decide +kernel
theorem dX0_tellBundle_69 : decode cX0_tellBundle 69 = .ok (.aload_n 0, 1) := by decide +kernel
theorem dX0_tellBundle_70 : decode cX0_tellBundle 70 = .ok (.getfield 15, 3) := by decide +kernel
theorem dX0_tellBundle_73 : decode cX0_tellBundle 73 = .ok (.iload_n 3, 1) := by decide +kernel
theorem dX0_tellBundle_74 : decode cX0_tellBundle 74 = .ok (.iconst 4, 1) := by decide +kernel
theorem dX0_tellBundle_75 : decode cX0_tellBundle 75 = .ok (.imul, 1) := by decide +kernel
theorem dX0_tellBundle_76 : decode cX0_tellBundle 76 = .ok (.iconst 1, 1) := by decide +kernel
theorem dX0_tellBundle_77 : decode cX0_tellBundle 77 = .ok (.iadd, 1) := by decide +kernel
theorem dX0_tellBundle_78 : decode cX0_tellBundle 78 = .ok (.aload_n 0, 1) := by decide +kernel
theorem dX0_tellBundle_79 : decode cX0_tellBundle 79 = .ok (.iload_n 3, 1) := by decide +kernel
theorem dX0_tellBundle_80 : decode cX0_tellBundle 80 = .ok (.iconst 1, 1) := by decide +kernel
theorem dX0_tellBundle_81 : decode cX0_tellBundle 81 = .ok (.invokevirtual 56, 3) := by decide +kernel
theorem dX0_tellBundle_84 : decode cX0_tellBundle 84 = .ok (.invokestatic 37, 3) := by decide +kernel
theorem dX0_tellBundle_87 : decode cX0_tellBundle 87 = .ok (.aload_n 0, 1) := by decide +kernel
theorem dX0_tellBundle_88 : decode cX0_tellBundle 88 = .ok (.getfield 15, 3) := by decide +kernel
theorem dX0_tellBundle_91 : decode cX0_tellBundle 91 = .ok (.iload_n 3, 1) := by decide +kernel
theorem dX0_tellBundle_92 : decode cX0_tellBundle 92 = .ok (.iconst 4, 1) := by decide +kernel
theorem dX0_tellBundle_93 : decode cX0_tellBundle 93 = .ok (.imul, 1) := by decide +kernel
theorem dX0_tellBundle_94 : decode cX0_tellBundle 94 = .ok (.iconst 2, 1) := by decide +kernel
theorem dX0_tellBundle_95 : decode cX0_tellBundle 95 = .ok (.iadd, 1) := by decide +kernel
theorem dX0_tellBundle_96 : decode cX0_tellBundle 96 = .ok (.iload 4, 2) := by decide +kernel
theorem dX0_tellBundle_98 : decode cX0_tellBundle 98 = .ok (.iadd, 1) := by decide +kernel
theorem dX0_tellBundle_99 : decode cX0_tellBundle 99 = .ok (.aload_n 0, 1) := by decide +kernel
theorem dX0_tellBundle_100 : decode cX0_tellBundle 100 = .ok (.iload_n 3, 1) := by decide +kernel
theorem dX0_tellBundle_101 : decode cX0_tellBundle 101 = .ok (.iconst 5, 1) := by decide +kernel
theorem dX0_tellBundle_102 : decode cX0_tellBundle 102 = .ok (.invokevirtual 56, 3) := by decide +kernel
theorem dX0_tellBundle_105 : decode cX0_tellBundle 105 = .ok (.invokestatic 37, 3) := by decide +kernel
theorem dX0_tellBundle_108 : decode cX0_tellBundle 108 = .ok (.aload_n 0, 1) := by decide +kernel
theorem dX0_tellBundle_109 : decode cX0_tellBundle 109 = .ok (.getfield 15, 3) := by decide +kernel
theorem dX0_tellBundle_112 : decode cX0_tellBundle 112 = .ok (.iload_n 3, 1) := by decide +kernel
theorem dX0_tellBundle_113 : decode cX0_tellBundle 113 = .ok (.iconst 4, 1) := by decide +kernel
theorem dX0_tellBundle_114 : decode cX0_tellBundle 114 = .ok (.imul, 1) := by decide +kernel
theorem dX0_tellBundle_115 : decode cX0_tellBundle 115 = .ok (.iconst 2, 1) := by decide +kernel
theorem dX0_tellBundle_116 : decode cX0_tellBundle 116 = .ok (.iadd, 1) := by decide +kernel
theorem dX0_tellBundle_117 : decode cX0_tellBundle 117 = .ok (.iload 5, 2) := by decide +kernel
theorem dX0_tellBundle_119 : decode cX0_tellBundle 119 = .ok (.iadd, 1) := by decide +kernel
theorem dX0_tellBundle_120 : decode cX0_tellBundle 120 = .ok (.aload_n 0, 1) := by decide +kernel
theorem dX0_tellBundle_121 : decode cX0_tellBundle 121 = .ok (.iload_n 3, 1) := by decide +kernel
theorem dX0_tellBundle_122 : decode cX0_tellBundle 122 = .ok (.iconst 3, 1) := by decide +kernel
theorem dX0_tellBundle_123 : decode cX0_tellBundle 123 = .ok (.invokevirtual 56, 3) := by decide +kernel
theorem dX0_tellBundle_126 : decode cX0_tellBundle 126 = .ok (.aload_n 0, 1) := by decide +kernel
theorem dX0_tellBundle_127 : decode cX0_tellBundle 127 = .ok (.iload_n 3, 1) := by decide +kernel
theorem dX0_tellBundle_128 : decode cX0_tellBundle 128 = .ok (.iconst 4, 1) := by decide +kernel
theorem dX0_tellBundle_129 : decode cX0_tellBundle 129 = .ok (.invokevirtual 56, 3) := by decide +kernel
theorem dX0_tellBundle_132 : decode cX0_tellBundle 132 = .ok (.imul, 1) := by decide +kernel
theorem dX0_tellBundle_133 : decode cX0_tellBundle 133 = .ok (.invokestatic 37, 3) := by decide +kernel
theorem dX0_tellBundle_136 : decode cX0_tellBundle 136 = .ok (.aload_n 0, 1) := by decide +kernel
theorem dX0_tellBundle_137 : decode cX0_tellBundle 137 = .ok (.dup, 1) := by decide +kernel
theorem dX0_tellBundle_138 : decode cX0_tellBundle 138 = .ok (.getfield 45, 3) := by decide +kernel
theorem dX0_tellBundle_141 : decode cX0_tellBundle 141 = .ok (.iconst 1, 1) := by decide +kernel
theorem dX0_tellBundle_142 : decode cX0_tellBundle 142 = .ok (.iload_n 3, 1) := by decide +kernel
theorem dX0_tellBundle_143 : decode cX0_tellBundle 143 = .ok (.ishl, 1) := by decide +kernel
theorem dX0_tellBundle_144 : decode cX0_tellBundle 144 = .ok (.ior, 1) := by decide +kernel
theorem dX0_tellBundle_145 : decode cX0_tellBundle 145 = .ok (.putfield 45, 3) := by decide +kernel
theorem dX0_tellBundle_148 : decode cX0_tellBundle 148 = .ok (.return_, 1) := by decide +kernel
theorem dX0_tellMark_0 : decode cX0_tellMark 0 = .ok (.iconst 0, 1) := by decide +kernel
theorem dX0_tellMark_1 : decode cX0_tellMark 1 = .ok (.istore 4, 2) := by decide +kernel
theorem dX0_tellMark_3 : decode cX0_tellMark 3 = .ok (.iload 4, 2) := by decide +kernel
theorem dX0_tellMark_5 : decode cX0_tellMark 5 = .ok (.iconst 4, 1) := by decide +kernel
theorem dX0_tellMark_6 : decode cX0_tellMark 6 = .ok (.if_icmp .ge 31, 3) := by decide +kernel
theorem dX0_tellMark_9 : decode cX0_tellMark 9 = .ok (.aload_n 0, 1) := by decide +kernel
theorem dX0_tellMark_10 : decode cX0_tellMark 10 = .ok (.getfield 15, 3) := by decide +kernel
theorem dX0_tellMark_13 : decode cX0_tellMark 13 = .ok (.iload_n 3, 1) := by decide +kernel
theorem dX0_tellMark_14 : decode cX0_tellMark 14 = .ok (.iconst 4, 1) := by decide +kernel
theorem dX0_tellMark_15 : decode cX0_tellMark 15 = .ok (.imul, 1) := by decide +kernel
theorem dX0_tellMark_16 : decode cX0_tellMark 16 = .ok (.iload 4, 2) := by decide +kernel
theorem dX0_tellMark_18 : decode cX0_tellMark 18 = .ok (.iadd, 1) := by decide +kernel
theorem dX0_tellMark_19 : decode cX0_tellMark 19 = .ok (.aload_n 1, 1) := by decide +kernel
theorem dX0_tellMark_20 : decode cX0_tellMark 20 = .ok (.iload_n 2, 1) := by decide +kernel
theorem dX0_tellMark_21 : decode cX0_tellMark 21 = .ok (.iload 4, 2) := by decide +kernel
theorem dX0_tellMark_23 : decode cX0_tellMark 23 = .ok (.iconst 1, 1) := by decide +kernel
theorem dX0_tellMark_24 : decode cX0_tellMark 24 = .ok (.iadd, 1) := by decide +kernel
theorem dX0_tellMark_25 : decode cX0_tellMark 25 = .ok (.invokevirtual 80, 3) := by decide +kernel
theorem dX0_tellMark_28 : decode cX0_tellMark 28 = .ok (.invokestatic 37, 3) := by decide +kernel
theorem dX0_tellMark_31 : decode cX0_tellMark 31 = .ok (.iinc 4 1, 3) := by decide +kernel
theorem dX0_tellMark_34 : decode cX0_tellMark 34 = .ok (.goto (-31), 3) := by decide +kernel
theorem dX0_tellMark_37 : decode cX0_tellMark 37 = .ok (.aload_n 0, 1) := by decide +kernel
theorem dX0_tellMark_38 : decode cX0_tellMark 38 = .ok (.dup, 1) := by decide +kernel
theorem dX0_tellMark_39 : decode cX0_tellMark 39 = .ok (.getfield 45, 3) := by decide +kernel
theorem dX0_tellMark_42 : decode cX0_tellMark 42 = .ok (.iconst 1, 1) := by decide +kernel
theorem dX0_tellMark_43 : decode cX0_tellMark 43 = .ok (.iload_n 3, 1) := by decide +kernel
theorem dX0_tellMark_44 : decode cX0_tellMark 44 = .ok (.ishl, 1) := by decide +kernel
theorem dX0_tellMark_45 : decode cX0_tellMark 45 = .ok (.ior, 1) := by decide +kernel
theorem dX0_tellMark_46 : decode cX0_tellMark 46 = .ok (.putfield 45, 3) := by decide +kernel
theorem dX0_tellMark_49 : decode cX0_tellMark 49 = .ok (.return_, 1) := by decide +kernel
theorem dX0_tellPair_0 : decode cX0_tellPair 0 = .ok (.aload_n 0, 1) := by decide +kernel
theorem dX0_tellPair_1 : decode cX0_tellPair 1 = .ok (.getfield 24, 3) := by decide +kernel
theorem dX0_tellPair_4 : decode cX0_tellPair 4 = .ok (.iload_n 1, 1) := by decide +kernel
theorem dX0_tellPair_5 : decode cX0_tellPair 5 = .ok (.invokestatic 52, 3) := by decide +kernel
theorem dX0_tellPair_8 : decode cX0_tellPair 8 = .ok (.istore_n 3, 1) := by decide +kernel
theorem dX0_tellPair_9 : decode cX0_tellPair 9 = .ok (.iload_n 3, 1) := by decide +kernel
theorem dX0_tellPair_10 : decode cX0_tellPair 10 = .ok (.iload_n 2, 1) := by decide +kernel
theorem dX0_tellPair_11 : decode cX0_tellPair 11 = .ok (.invokestatic 48, 3) := by decide +kernel
theorem dX0_tellPair_14 : decode cX0_tellPair 14 = .ok (.ifCond .ne 35, 3) := by decide +kernel
theorem dX0_tellPair_17 : decode cX0_tellPair 17 = .ok (.aload_n 0, 1) := by decide +kernel
theorem dX0_tellPair_18 : decode cX0_tellPair 18 = .ok (.getfield 103, 3) := by decide +kernel
theorem dX0_tellPair_21 : decode cX0_tellPair 21 = .ok (.bipush 24, 2) := by decide +kernel
theorem dX0_tellPair_23 : decode cX0_tellPair 23 = .ok (.if_icmp .ge 26, 3) := by decide +kernel
theorem dX0_tellPair_26 : decode cX0_tellPair 26 = .ok (.aload_n 0, 1) := by decide +kernel
theorem dX0_tellPair_27 : decode cX0_tellPair 27 = .ok (.getfield 24, 3) := by decide +kernel
theorem dX0_tellPair_30 : decode cX0_tellPair 30 = .ok (.iload_n 1, 1) := by decide +kernel
theorem dX0_tellPair_31 : decode cX0_tellPair 31 = .ok (.iload_n 3, 1) := by decide +kernel
theorem dX0_tellPair_32 : decode cX0_tellPair 32 = .ok (.iconst 1, 1) := by decide +kernel
theorem dX0_tellPair_33 : decode cX0_tellPair 33 = .ok (.iload_n 2, 1) := by decide +kernel
theorem dX0_tellPair_34 : decode cX0_tellPair 34 = .ok (.ishl, 1) := by decide +kernel
theorem dX0_tellPair_35 : decode cX0_tellPair 35 = .ok (.ior, 1) := by decide +kernel
theorem dX0_tellPair_36 : decode cX0_tellPair 36 = .ok (.invokestatic 37, 3) := by decide +kernel
theorem dX0_tellPair_39 : decode cX0_tellPair 39 = .ok (.aload_n 0, 1) := by decide +kernel
theorem dX0_tellPair_40 : decode cX0_tellPair 40 = .ok (.dup, 1) := by decide +kernel
theorem dX0_tellPair_41 : decode cX0_tellPair 41 = .ok (.getfield 103, 3) := by decide +kernel
theorem dX0_tellPair_44 : decode cX0_tellPair 44 = .ok (.iconst 1, 1) := by decide +kernel
theorem dX0_tellPair_45 : decode cX0_tellPair 45 = .ok (.iadd, 1) := by decide +kernel
theorem dX0_tellPair_46 : decode cX0_tellPair 46 = .ok (.putfield 103, 3) := by decide +kernel
theorem dX0_tellPair_49 : decode cX0_tellPair 49 = .ok (.return_, 1) := by decide +kernel
theorem dX0_tellTeam_0 : decode cX0_tellTeam 0 = .ok (.iconst 0, 1) := by decide +kernel
theorem dX0_tellTeam_1 : decode cX0_tellTeam 1 = .ok (.istore 4, 2) := by decide +kernel
theorem dX0_tellTeam_3 : decode cX0_tellTeam 3 = .ok (.iload 4, 2) := by decide +kernel
theorem dX0_tellTeam_5 : decode cX0_tellTeam 5 = .ok (.iconst 4, 1) := by decide +kernel
theorem dX0_tellTeam_6 : decode cX0_tellTeam 6 = .ok (.if_icmp .ge 31, 3) := by decide +kernel
theorem dX0_tellTeam_9 : decode cX0_tellTeam 9 = .ok (.aload_n 0, 1) := by decide +kernel
theorem dX0_tellTeam_10 : decode cX0_tellTeam 10 = .ok (.getfield 27, 3) := by decide +kernel
theorem dX0_tellTeam_13 : decode cX0_tellTeam 13 = .ok (.iload_n 3, 1) := by decide +kernel
theorem dX0_tellTeam_14 : decode cX0_tellTeam 14 = .ok (.iconst 4, 1) := by decide +kernel
theorem dX0_tellTeam_15 : decode cX0_tellTeam 15 = .ok (.imul, 1) := by decide +kernel
theorem dX0_tellTeam_16 : decode cX0_tellTeam 16 = .ok (.iload 4, 2) := by decide +kernel
theorem dX0_tellTeam_18 : decode cX0_tellTeam 18 = .ok (.iadd, 1) := by decide +kernel
theorem dX0_tellTeam_19 : decode cX0_tellTeam 19 = .ok (.aload_n 1, 1) := by decide +kernel
theorem dX0_tellTeam_20 : decode cX0_tellTeam 20 = .ok (.iload_n 2, 1) := by decide +kernel
theorem dX0_tellTeam_21 : decode cX0_tellTeam 21 = .ok (.iload 4, 2) := by decide +kernel
theorem dX0_tellTeam_23 : decode cX0_tellTeam 23 = .ok (.iconst 1, 1) := by decide +kernel
theorem dX0_tellTeam_24 : decode cX0_tellTeam 24 = .ok (.iadd, 1) := by decide +kernel
theorem dX0_tellTeam_25 : decode cX0_tellTeam 25 = .ok (.invokevirtual 80, 3) := by decide +kernel
theorem dX0_tellTeam_28 : decode cX0_tellTeam 28 = .ok (.invokestatic 37, 3) := by decide +kernel
theorem dX0_tellTeam_31 : decode cX0_tellTeam 31 = .ok (.iinc 4 1, 3) := by decide +kernel
theorem dX0_tellTeam_34 : decode cX0_tellTeam 34 = .ok (.goto (-31), 3) := by decide +kernel
theorem dX0_tellTeam_37 : decode cX0_tellTeam 37 = .ok (.aload_n 0, 1) := by decide +kernel
theorem dX0_tellTeam_38 : decode cX0_tellTeam 38 = .ok (.dup, 1) := by decide +kernel
theorem dX0_tellTeam_39 : decode cX0_tellTeam 39 = .ok (.getfield 74, 3) := by decide +kernel
theorem dX0_tellTeam_42 : decode cX0_tellTeam 42 = .ok (.iconst 1, 1) := by decide +kernel
theorem dX0_tellTeam_43 : decode cX0_tellTeam 43 = .ok (.iload_n 3, 1) := by decide +kernel
theorem dX0_tellTeam_44 : decode cX0_tellTeam 44 = .ok (.ishl, 1) := by decide +kernel
theorem dX0_tellTeam_45 : decode cX0_tellTeam 45 = .ok (.ior, 1) := by decide +kernel
theorem dX0_tellTeam_46 : decode cX0_tellTeam 46 = .ok (.putfield 74, 3) := by decide +kernel
theorem dX0_tellTeam_49 : decode cX0_tellTeam 49 = .ok (.return_, 1) := by decide +kernel
theorem dX1_init_0 : decode cX1_init 0 = .ok (.aload_n 0, 1) := by decide +kernel
theorem dX1_init_1 : decode cX1_init 1 = .ok (.invokespecial 3, 3) := by decide +kernel
theorem dX1_init_4 : decode cX1_init 4 = .ok (.aload_n 0, 1) := by decide +kernel
theorem dX1_init_5 : decode cX1_init 5 = .ok (.bipush 8, 2) := by decide +kernel
theorem dX1_init_7 : decode cX1_init 7 = .ok (.newarray .int, 2) := by decide +kernel
theorem dX1_init_9 : decode cX1_init 9 = .ok (.putfield 9, 3) := by decide +kernel
theorem dX1_init_12 : decode cX1_init 12 = .ok (.aload_n 0, 1) := by decide +kernel
theorem dX1_init_13 : decode cX1_init 13 = .ok (.aload_n 1, 1) := by decide +kernel
theorem dX1_init_14 : decode cX1_init 14 = .ok (.putfield 15, 3) := by decide +kernel
theorem dX1_init_17 : decode cX1_init 17 = .ok (.aload_n 0, 1) := by decide +kernel
theorem dX1_init_18 : decode cX1_init 18 = .ok (.aload_n 2, 1) := by decide +kernel
theorem dX1_init_19 : decode cX1_init 19 = .ok (.putfield 19, 3) := by decide +kernel
theorem dX1_init_22 : decode cX1_init 22 = .ok (.return_, 1) := by decide +kernel
theorem dX1_areJoined_0 : decode cX1_areJoined 0 = .ok (.aload_n 0, 1) := by decide +kernel
theorem dX1_areJoined_1 : decode cX1_areJoined 1 = .ok (.getfield 15, 3) := by decide +kernel
theorem dX1_areJoined_4 : decode cX1_areJoined 4 = .ok (.iload_n 1, 1) := by decide +kernel
theorem dX1_areJoined_5 : decode cX1_areJoined 5 = .ok (.iconst 2, 1) := by decide +kernel
theorem dX1_areJoined_6 : decode cX1_areJoined 6 = .ok (.invokevirtual 23, 3) := by decide +kernel
theorem dX1_areJoined_9 : decode cX1_areJoined 9 = .ok (.istore_n 3, 1) := by decide +kernel
theorem dX1_areJoined_10 : decode cX1_areJoined 10 = .ok (.aload_n 0, 1) := by decide +kernel
theorem dX1_areJoined_11 : decode cX1_areJoined 11 = .ok (.iload_n 1, 1) := by decide +kernel
theorem dX1_areJoined_12 : decode cX1_areJoined 12 = .ok (.iload_n 2, 1) := by decide +kernel
theorem dX1_areJoined_13 : decode cX1_areJoined 13 = .ok (.iconst 2, 1) := by decide +kernel
theorem dX1_areJoined_14 : decode cX1_areJoined 14 = .ok (.invokevirtual 29, 3) := by decide +kernel
theorem dX1_areJoined_17 : decode cX1_areJoined 17 = .ok (.ifCond .eq 87, 3) := by decide +kernel
theorem dX1_areJoined_20 : decode cX1_areJoined 20 = .ok (.aload_n 0, 1) := by decide +kernel
theorem dX1_areJoined_21 : decode cX1_areJoined 21 = .ok (.iload_n 1, 1) := by decide +kernel
theorem dX1_areJoined_22 : decode cX1_areJoined 22 = .ok (.iload_n 2, 1) := by decide +kernel
theorem dX1_areJoined_23 : decode cX1_areJoined 23 = .ok (.iconst 4, 1) := by decide +kernel
theorem dX1_areJoined_24 : decode cX1_areJoined 24 = .ok (.invokevirtual 29, 3) := by decide +kernel
theorem dX1_areJoined_27 : decode cX1_areJoined 27 = .ok (.ifCond .eq 77, 3) := by decide +kernel
theorem dX1_areJoined_30 : decode cX1_areJoined 30 = .ok (.aload_n 0, 1) := by decide +kernel
theorem dX1_areJoined_31 : decode cX1_areJoined 31 = .ok (.iload_n 1, 1) := by decide +kernel
theorem dX1_areJoined_32 : decode cX1_areJoined 32 = .ok (.iload_n 2, 1) := by decide +kernel
theorem dX1_areJoined_33 : decode cX1_areJoined 33 = .ok (.bipush 6, 2) := by decide +kernel
theorem dX1_areJoined_35 : decode cX1_areJoined 35 = .ok (.invokevirtual 29, 3) := by decide +kernel
theorem dX1_areJoined_38 : decode cX1_areJoined 38 = .ok (.ifCond .eq 66, 3) := by decide +kernel
theorem dX1_areJoined_41 : decode cX1_areJoined 41 = .ok (.aload_n 0, 1) := by decide +kernel
theorem dX1_areJoined_42 : decode cX1_areJoined 42 = .ok (.iload_n 1, 1) := by decide +kernel
theorem dX1_areJoined_43 : decode cX1_areJoined 43 = .ok (.iload_n 2, 1) := by decide +kernel
theorem dX1_areJoined_44 : decode cX1_areJoined 44 = .ok (.bipush 7, 2) := by decide +kernel
theorem dX1_areJoined_46 : decode cX1_areJoined 46 = .ok (.invokevirtual 29, 3) := by decide +kernel
theorem dX1_areJoined_49 : decode cX1_areJoined 49 = .ok (.ifCond .eq 55, 3) := by decide +kernel
theorem dX1_areJoined_52 : decode cX1_areJoined 52 = .ok (.aload_n 0, 1) := by decide +kernel
theorem dX1_areJoined_53 : decode cX1_areJoined 53 = .ok (.getfield 15, 3) := by decide +kernel
theorem dX1_areJoined_56 : decode cX1_areJoined 56 = .ok (.iload_n 1, 1) := by decide +kernel
theorem dX1_areJoined_57 : decode cX1_areJoined 57 = .ok (.iload_n 2, 1) := by decide +kernel
theorem dX1_areJoined_58 : decode cX1_areJoined 58 = .ok (.iload_n 3, 1) := by decide +kernel
theorem dX1_areJoined_59 : decode cX1_areJoined 59 = .ok (.invokevirtual 33, 3) := by decide +kernel
theorem dX1_areJoined_62 : decode cX1_areJoined 62 = .ok (.iconst 0, 1) := by decide +kernel
theorem dX1_areJoined_63 : decode cX1_areJoined 63 = .ok (.aload_n 0, 1) := by decide +kernel
theorem dX1_areJoined_64 : decode cX1_areJoined 64 = .ok (.getfield 15, 3) := by decide +kernel
theorem dX1_areJoined_67 : decode cX1_areJoined 67 = .ok (.getfield 37, 3) := by decide +kernel
theorem dX1_areJoined_70 : decode cX1_areJoined 70 = .ok (.invokestatic 41, 3) := by decide +kernel
theorem dX1_areJoined_73 : decode cX1_areJoined 73 = .ok (.ifCond .eq 31, 3) := by decide +kernel
theorem dX1_areJoined_76 : decode cX1_areJoined 76 = .ok (.aload_n 0, 1) := by decide +kernel
theorem dX1_areJoined_77 : decode cX1_areJoined 77 = .ok (.getfield 15, 3) := by decide +kernel
theorem dX1_areJoined_80 : decode cX1_areJoined 80 = .ok (.iload_n 1, 1) := by decide +kernel
theorem dX1_areJoined_81 : decode cX1_areJoined 81 = .ok (.iload_n 2, 1) := by decide +kernel
theorem dX1_areJoined_82 : decode cX1_areJoined 82 = .ok (.iconst 1, 1) := by decide +kernel
theorem dX1_areJoined_83 : decode cX1_areJoined 83 = .ok (.iload_n 3, 1) := by decide +kernel
theorem dX1_areJoined_84 : decode cX1_areJoined 84 = .ok (.isub, 1) := by decide +kernel
theorem dX1_areJoined_85 : decode cX1_areJoined 85 = .ok (.invokevirtual 33, 3) := by decide +kernel
theorem dX1_areJoined_88 : decode cX1_areJoined 88 = .ok (.ifCond .ge 16, 3) := by decide +kernel
theorem dX1_areJoined_91 : decode cX1_areJoined 91 = .ok (.aload_n 0, 1) := by decide +kernel
theorem dX1_areJoined_92 : decode cX1_areJoined 92 = .ok (.iload_n 1, 1) := by decide +kernel
theorem dX1_areJoined_93 : decode cX1_areJoined 93 = .ok (.iload_n 2, 1) := by decide +kernel
theorem dX1_areJoined_94 : decode cX1_areJoined 94 = .ok (.invokevirtual 44, 3) := by decide +kernel
theorem dX1_areJoined_97 : decode cX1_areJoined 97 = .ok (.ifCond .eq 7, 3) := by decide +kernel
theorem dX1_areJoined_100 : decode cX1_areJoined 100 = .ok (.iconst 1, 1) := by decide +kernel
theorem dX1_areJoined_101 : decode cX1_areJoined 101 = .ok (.goto 4, 3) := by decide +kernel
theorem dX1_areJoined_104 : decode cX1_areJoined 104 = .ok (.iconst 0, 1) := by decide +kernel
theorem dX1_areJoined_105 : decode cX1_areJoined 105 = .ok (.ireturn, 1) := by decide +kernel
theorem dX1_areAlike_0 : decode cX1_areAlike 0 = .ok (.aload_n 0, 1) := by decide +kernel
theorem dX1_areAlike_1 : decode cX1_areAlike 1 = .ok (.getfield 15, 3) := by decide +kernel
theorem dX1_areAlike_4 : decode cX1_areAlike 4 = .ok (.iload_n 1, 1) := by decide +kernel
theorem dX1_areAlike_5 : decode cX1_areAlike 5 = .ok (.iload_n 3, 1) := by decide +kernel
theorem dX1_areAlike_6 : decode cX1_areAlike 6 = .ok (.invokevirtual 23, 3) := by decide +kernel
theorem dX1_areAlike_9 : decode cX1_areAlike 9 = .ok (.aload_n 0, 1) := by decide +kernel
theorem dX1_areAlike_10 : decode cX1_areAlike 10 = .ok (.getfield 15, 3) := by decide +kernel
theorem dX1_areAlike_13 : decode cX1_areAlike 13 = .ok (.iload_n 2, 1) := by decide +kernel
theorem dX1_areAlike_14 : decode cX1_areAlike 14 = .ok (.iload_n 3, 1) := by decide +kernel
theorem dX1_areAlike_15 : decode cX1_areAlike 15 = .ok (.invokevirtual 23, 3) := by decide +kernel
theorem dX1_areAlike_18 : decode cX1_areAlike 18 = .ok (.if_icmp .ne 7, 3) := by decide +kernel
theorem dX1_areAlike_21 : decode cX1_areAlike 21 = .ok (.iconst 1, 1) := by decide +kernel
theorem dX1_areAlike_22 : decode cX1_areAlike 22 = .ok (.goto 4, 3) := by decide +kernel
theorem dX1_areAlike_25 : decode cX1_areAlike 25 = .ok (.iconst 0, 1) := by decide +kernel
theorem dX1_areAlike_26 : decode cX1_areAlike 26 = .ok (.ireturn, 1) := by decide +kernel
theorem dX1_areInLine_0 : decode cX1_areInLine 0 = .ok (.iconst 1, 1) := by decide +kernel
theorem dX1_areInLine_1 : decode cX1_areInLine 1 = .ok (.aload_n 0, 1) := by decide +kernel
theorem dX1_areInLine_2 : decode cX1_areInLine 2 = .ok (.getfield 15, 3) := by decide +kernel
theorem dX1_areInLine_5 : decode cX1_areInLine 5 = .ok (.iload_n 1, 1) := by decide +kernel
theorem dX1_areInLine_6 : decode cX1_areInLine 6 = .ok (.iconst 2, 1) := by decide +kernel
theorem dX1_areInLine_7 : decode cX1_areInLine 7 = .ok (.invokevirtual 23, 3) := by decide +kernel
theorem dX1_areInLine_10 : decode cX1_areInLine 10 = .ok (.isub, 1) := by decide +kernel
theorem dX1_areInLine_11 : decode cX1_areInLine 11 = .ok (.istore_n 3, 1) := by decide +kernel
theorem dX1_areInLine_12 : decode cX1_areInLine 12 = .ok (.aload_n 0, 1) := by decide +kernel
theorem dX1_areInLine_13 : decode cX1_areInLine 13 = .ok (.getfield 15, 3) := by decide +kernel
theorem dX1_areInLine_16 : decode cX1_areInLine 16 = .ok (.iload_n 1, 1) := by decide +kernel
theorem dX1_areInLine_17 : decode cX1_areInLine 17 = .ok (.iload_n 3, 1) := by decide +kernel
theorem dX1_areInLine_18 : decode cX1_areInLine 18 = .ok (.invokevirtual 48, 3) := by decide +kernel
theorem dX1_areInLine_21 : decode cX1_areInLine 21 = .ok (.aload_n 0, 1) := by decide +kernel
theorem dX1_areInLine_22 : decode cX1_areInLine 22 = .ok (.getfield 15, 3) := by decide +kernel
theorem dX1_areInLine_25 : decode cX1_areInLine 25 = .ok (.iload_n 2, 1) := by decide +kernel
theorem dX1_areInLine_26 : decode cX1_areInLine 26 = .ok (.iload_n 3, 1) := by decide +kernel
theorem dX1_areInLine_27 : decode cX1_areInLine 27 = .ok (.invokevirtual 48, 3) := by decide +kernel
theorem dX1_areInLine_30 : decode cX1_areInLine 30 = .ok (.isub, 1) := by decide +kernel
theorem dX1_areInLine_31 : decode cX1_areInLine 31 = .ok (.invokestatic 51, 3) := by decide +kernel
theorem dX1_areInLine_34 : decode cX1_areInLine 34 = .ok (.istore 4, 2) := by decide +kernel
theorem dX1_areInLine_36 : decode cX1_areInLine 36 = .ok (.aload_n 0, 1) := by decide +kernel
theorem dX1_areInLine_37 : decode cX1_areInLine 37 = .ok (.getfield 15, 3) := by decide +kernel
theorem dX1_areInLine_40 : decode cX1_areInLine 40 = .ok (.iload_n 1, 1) := by decide +kernel
theorem dX1_areInLine_41 : decode cX1_areInLine 41 = .ok (.iconst 4, 1) := by decide +kernel
theorem dX1_areInLine_42 : decode cX1_areInLine 42 = .ok (.invokevirtual 23, 3) := by decide +kernel
theorem dX1_areInLine_45 : decode cX1_areInLine 45 = .ok (.istore 5, 2) := by decide +kernel
theorem dX1_areInLine_47 : decode cX1_areInLine 47 = .ok (.aload_n 0, 1) := by decide +kernel
theorem dX1_areInLine_48 : decode cX1_areInLine 48 = .ok (.iload 4, 2) := by decide +kernel
theorem dX1_areInLine_50 : decode cX1_areInLine 50 = .ok (.iload 5, 2) := by decide +kernel
theorem dX1_areInLine_52 : decode cX1_areInLine 52 = .ok (.invokestatic 57, 3) := by decide +kernel
theorem dX1_areInLine_55 : decode cX1_areInLine 55 = .ok (.iload 5, 2) := by decide +kernel
theorem dX1_areInLine_57 : decode cX1_areInLine 57 = .ok (.invokevirtual 60, 3) := by decide +kernel
theorem dX1_areInLine_60 : decode cX1_areInLine 60 = .ok (.ireturn, 1) := by decide +kernel
theorem dX1_wouldDo_0 : decode cX1_wouldDo 0 = .ok (.iload_n 1, 1) := by decide +kernel
theorem dX1_wouldDo_1 : decode cX1_wouldDo 1 = .ok (.iload_n 2, 1) := by decide +kernel
theorem dX1_wouldDo_2 : decode cX1_wouldDo 2 = .ok (.iload_n 1, 1) := by decide +kernel
theorem dX1_wouldDo_3 : decode cX1_wouldDo 3 = .ok (.isub, 1) := by decide +kernel
theorem dX1_wouldDo_4 : decode cX1_wouldDo 4 = .ok (.invokestatic 63, 3) := by decide +kernel
theorem dX1_wouldDo_7 : decode cX1_wouldDo 7 = .ok (.aload_n 0, 1) := by decide +kernel
theorem dX1_wouldDo_8 : decode cX1_wouldDo 8 = .ok (.getfield 15, 3) := by decide +kernel
theorem dX1_wouldDo_11 : decode cX1_wouldDo 11 = .ok (.getfield 66, 3) := by decide +kernel
theorem dX1_wouldDo_14 : decode cX1_wouldDo 14 = .ok (.if_icmp .gt 7, 3) := by decide +kernel
theorem dX1_wouldDo_17 : decode cX1_wouldDo 17 = .ok (.iconst 1, 1) := by decide +kernel
theorem dX1_wouldDo_18 : decode cX1_wouldDo 18 = .ok (.goto 4, 3) := by decide +kernel
theorem dX1_wouldDo_21 : decode cX1_wouldDo 21 = .ok (.iconst 0, 1) := by decide +kernel
theorem dX1_wouldDo_22 : decode cX1_wouldDo 22 = .ok (.ireturn, 1) := by decide +kernel
theorem dX1_marksBetween_0 : decode cX1_marksBetween 0 = .ok (.aload_n 0, 1) := by decide +kernel
theorem dX1_marksBetween_1 : decode cX1_marksBetween 1 = .ok (.getfield 15, 3) := by decide +kernel
theorem dX1_marksBetween_4 : decode cX1_marksBetween 4 = .ok (.iload_n 1, 1) := by decide +kernel
theorem dX1_marksBetween_5 : decode cX1_marksBetween 5 = .ok (.iconst 2, 1) := by decide +kernel
theorem dX1_marksBetween_6 : decode cX1_marksBetween 6 = .ok (.invokevirtual 23, 3) := by decide +kernel
theorem dX1_marksBetween_9 : decode cX1_marksBetween 9 = .ok (.istore_n 3, 1) := by decide +kernel
theorem dX1_marksBetween_10 : decode cX1_marksBetween 10 = .ok (.iconst 1, 1) := by decide +kernel
theorem dX1_marksBetween_11 : decode cX1_marksBetween 11 = .ok (.iload_n 3, 1) := by decide +kernel
theorem dX1_marksBetween_12 : decode cX1_marksBetween 12 = .ok (.isub, 1) := by decide +kernel
theorem dX1_marksBetween_13 : decode cX1_marksBetween 13 = .ok (.istore 4, 2) := by decide +kernel
theorem dX1_marksBetween_15 : decode cX1_marksBetween 15 = .ok (.aload_n 0, 1) := by decide +kernel
theorem dX1_marksBetween_16 : decode cX1_marksBetween 16 = .ok (.getfield 15, 3) := by decide +kernel
theorem dX1_marksBetween_19 : decode cX1_marksBetween 19 = .ok (.iload_n 1, 1) := by decide +kernel
theorem dX1_marksBetween_20 : decode cX1_marksBetween 20 = .ok (.iload_n 3, 1) := by decide +kernel
theorem dX1_marksBetween_21 : decode cX1_marksBetween 21 = .ok (.invokevirtual 69, 3) := by decide +kernel
theorem dX1_marksBetween_24 : decode cX1_marksBetween 24 = .ok (.aload_n 0, 1) := by decide +kernel
theorem dX1_marksBetween_25 : decode cX1_marksBetween 25 = .ok (.getfield 15, 3) := by decide +kernel
theorem dX1_marksBetween_28 : decode cX1_marksBetween 28 = .ok (.iload_n 2, 1) := by decide +kernel
theorem dX1_marksBetween_29 : decode cX1_marksBetween 29 = .ok (.iload_n 3, 1) := by decide +kernel
theorem dX1_marksBetween_30 : decode cX1_marksBetween 30 = .ok (.invokevirtual 69, 3) := by decide +kernel
theorem dX1_marksBetween_33 : decode cX1_marksBetween 33 = .ok (.invokestatic 63, 3) := by decide +kernel
theorem dX1_marksBetween_36 : decode cX1_marksBetween 36 = .ok (.istore 5, 2) := by decide +kernel
theorem dX1_marksBetween_38 : decode cX1_marksBetween 38 = .ok (.aload_n 0, 1) := by decide +kernel
theorem dX1_marksBetween_39 : decode cX1_marksBetween 39 = .ok (.getfield 15, 3) := by decide +kernel
theorem dX1_marksBetween_42 : decode cX1_marksBetween 42 = .ok (.iload_n 1, 1) := by decide +kernel
theorem dX1_marksBetween_43 : decode cX1_marksBetween 43 = .ok (.iload_n 3, 1) := by decide +kernel
theorem dX1_marksBetween_44 : decode cX1_marksBetween 44 = .ok (.invokevirtual 48, 3) := by decide +kernel
theorem dX1_marksBetween_47 : decode cX1_marksBetween 47 = .ok (.aload_n 0, 1) := by decide +kernel
theorem dX1_marksBetween_48 : decode cX1_marksBetween 48 = .ok (.getfield 15, 3) := by decide +kernel
theorem dX1_marksBetween_51 : decode cX1_marksBetween 51 = .ok (.iload_n 2, 1) := by decide +kernel
theorem dX1_marksBetween_52 : decode cX1_marksBetween 52 = .ok (.iload_n 3, 1) := by decide +kernel
theorem dX1_marksBetween_53 : decode cX1_marksBetween 53 = .ok (.invokevirtual 48, 3) := by decide +kernel
theorem dX1_marksBetween_56 : decode cX1_marksBetween 56 = .ok (.invokestatic 72, 3) := by decide +kernel
theorem dX1_marksBetween_59 : decode cX1_marksBetween 59 = .ok (.istore 6, 2) := by decide +kernel
theorem dX1_marksBetween_61 : decode cX1_marksBetween 61 = .ok (.aload_n 0, 1) := by decide +kernel
theorem dX1_marksBetween_62 : decode cX1_marksBetween 62 = .ok (.getfield 15, 3) := by decide +kernel
theorem dX1_marksBetween_65 : decode cX1_marksBetween 65 = .ok (.iload_n 1, 1) := by decide +kernel
theorem dX1_marksBetween_66 : decode cX1_marksBetween 66 = .ok (.iload 4, 2) := by decide +kernel
theorem dX1_marksBetween_68 : decode cX1_marksBetween 68 = .ok (.invokevirtual 48, 3) := by decide +kernel
theorem dX1_marksBetween_71 : decode cX1_marksBetween 71 = .ok (.aload_n 0, 1) := by decide +kernel
theorem dX1_marksBetween_72 : decode cX1_marksBetween 72 = .ok (.getfield 15, 3) := by decide +kernel
theorem dX1_marksBetween_75 : decode cX1_marksBetween 75 = .ok (.iload_n 2, 1) := by decide +kernel
theorem dX1_marksBetween_76 : decode cX1_marksBetween 76 = .ok (.iload 4, 2) := by decide +kernel
theorem dX1_marksBetween_78 : decode cX1_marksBetween 78 = .ok (.invokevirtual 48, 3) := by decide +kernel
theorem dX1_marksBetween_81 : decode cX1_marksBetween 81 = .ok (.invokestatic 63, 3) := by decide +kernel
theorem dX1_marksBetween_84 : decode cX1_marksBetween 84 = .ok (.istore 7, 2) := by decide +kernel
theorem dX1_marksBetween_86 : decode cX1_marksBetween 86 = .ok (.aload_n 0, 1) := by decide +kernel
theorem dX1_marksBetween_87 : decode cX1_marksBetween 87 = .ok (.getfield 15, 3) := by decide +kernel
theorem dX1_marksBetween_90 : decode cX1_marksBetween 90 = .ok (.iload_n 1, 1) := by decide +kernel
theorem dX1_marksBetween_91 : decode cX1_marksBetween 91 = .ok (.iload 4, 2) := by decide +kernel
theorem dX1_marksBetween_93 : decode cX1_marksBetween 93 = .ok (.invokevirtual 69, 3) := by decide +kernel
theorem dX1_marksBetween_96 : decode cX1_marksBetween 96 = .ok (.aload_n 0, 1) := by decide +kernel
theorem dX1_marksBetween_97 : decode cX1_marksBetween 97 = .ok (.getfield 15, 3) := by decide +kernel
theorem dX1_marksBetween_100 : decode cX1_marksBetween 100 = .ok (.iload_n 2, 1) := by decide +kernel
theorem dX1_marksBetween_101 : decode cX1_marksBetween 101 = .ok (.iload 4, 2) := by decide +kernel
theorem dX1_marksBetween_103 : decode cX1_marksBetween 103 = .ok (.invokevirtual 69, 3) := by decide +kernel
theorem dX1_marksBetween_106 : decode cX1_marksBetween 106 = .ok (.invokestatic 72, 3) := by decide +kernel
theorem dX1_marksBetween_109 : decode cX1_marksBetween 109 = .ok (.istore 8, 2) := by decide +kernel
theorem dX1_marksBetween_111 : decode cX1_marksBetween 111 = .ok (.iconst 0, 1) := by decide +kernel
theorem dX1_marksBetween_112 : decode cX1_marksBetween 112 = .ok (.istore 9, 2) := by decide +kernel
theorem dX1_marksBetween_114 : decode cX1_marksBetween 114 = .ok (.bipush 8, 2) := by decide +kernel
theorem dX1_marksBetween_116 : decode cX1_marksBetween 116 = .ok (.istore 10, 2) := by decide +kernel
theorem dX1_marksBetween_118 : decode cX1_marksBetween 118 = .ok (.iload 10, 2) := by decide +kernel
theorem dX1_marksBetween_120 : decode cX1_marksBetween 120 = .ok (.bipush 14, 2) := by decide +kernel
theorem dX1_marksBetween_122 : decode cX1_marksBetween 122 = .ok (.if_icmp .ge 59, 3) := by decide +kernel
theorem dX1_marksBetween_125 : decode cX1_marksBetween 125 = .ok (.aload_n 0, 1) := by decide +kernel
theorem dX1_marksBetween_126 : decode cX1_marksBetween 126 = .ok (.getfield 15, 3) := by decide +kernel
theorem dX1_marksBetween_129 : decode cX1_marksBetween 129 = .ok (.iload 10, 2) := by decide +kernel
theorem dX1_marksBetween_131 : decode cX1_marksBetween 131 = .ok (.invokevirtual 75, 3) := by decide +kernel
theorem dX1_marksBetween_134 : decode cX1_marksBetween 134 = .ok (.ifCond .eq 41, 3) := by decide +kernel
theorem dX1_marksBetween_137 : decode cX1_marksBetween 137 = .ok (.aload_n 0, 1) := by decide +kernel
theorem dX1_marksBetween_138 : decode cX1_marksBetween 138 = .ok (.iload 10, 2) := by decide +kernel
theorem dX1_marksBetween_140 : decode cX1_marksBetween 140 = .ok (.iload_n 3, 1) := by decide +kernel
theorem dX1_marksBetween_141 : decode cX1_marksBetween 141 = .ok (.iload 5, 2) := by decide +kernel
theorem dX1_marksBetween_143 : decode cX1_marksBetween 143 = .ok (.iload 6, 2) := by decide +kernel
theorem dX1_marksBetween_145 : decode cX1_marksBetween 145 = .ok (.invokevirtual 79, 3) := by decide +kernel
theorem dX1_marksBetween_148 : decode cX1_marksBetween 148 = .ok (.ifCond .eq 27, 3) := by decide +kernel
theorem dX1_marksBetween_151 : decode cX1_marksBetween 151 = .ok (.aload_n 0, 1) := by decide +kernel
theorem dX1_marksBetween_152 : decode cX1_marksBetween 152 = .ok (.iload 10, 2) := by decide +kernel
theorem dX1_marksBetween_154 : decode cX1_marksBetween 154 = .ok (.iload 4, 2) := by decide +kernel
theorem dX1_marksBetween_156 : decode cX1_marksBetween 156 = .ok (.iload 7, 2) := by decide +kernel
theorem dX1_marksBetween_158 : decode cX1_marksBetween 158 = .ok (.iload 8, 2) := by decide +kernel
theorem dX1_marksBetween_160 : decode cX1_marksBetween 160 = .ok (.invokevirtual 79, 3) := by decide +kernel
theorem dX1_marksBetween_163 : decode cX1_marksBetween 163 = .ok (.ifCond .eq 12, 3) := by decide +kernel
theorem dX1_marksBetween_166 : decode cX1_marksBetween 166 = .ok (.iload 9, 2) := by decide +kernel
theorem dX1_marksBetween_168 : decode cX1_marksBetween 168 = .ok (.iconst 1, 1) := by decide +kernel
theorem dX1_marksBetween_169 : decode cX1_marksBetween 169 = .ok (.iload 10, 2) := by decide +kernel
theorem dX1_marksBetween_171 : decode cX1_marksBetween 171 = .ok (.ishl, 1) := by decide +kernel
theorem dX1_marksBetween_172 : decode cX1_marksBetween 172 = .ok (.ior, 1) := by decide +kernel
theorem dX1_marksBetween_173 : decode cX1_marksBetween 173 = .ok (.istore 9, 2) := by decide +kernel
theorem dX1_marksBetween_175 : decode cX1_marksBetween 175 = .ok (.iinc 10 1, 3) := by decide +kernel
theorem dX1_marksBetween_178 : decode cX1_marksBetween 178 = .ok (.goto (-60), 3) := by decide +kernel
theorem dX1_marksBetween_181 : decode cX1_marksBetween 181 = .ok (.iload 9, 2) := by decide +kernel
theorem dX1_marksBetween_183 : decode cX1_marksBetween 183 = .ok (.ireturn, 1) := by decide +kernel
theorem dX1_coversSome_0 : decode cX1_coversSome 0 = .ok (.aload_n 0, 1) := by decide +kernel
theorem dX1_coversSome_1 : decode cX1_coversSome 1 = .ok (.getfield 15, 3) := by decide +kernel
theorem dX1_coversSome_4 : decode cX1_coversSome 4 = .ok (.iload_n 1, 1) := by decide +kernel
theorem dX1_coversSome_5 : decode cX1_coversSome 5 = .ok (.iload_n 2, 1) := by decide +kernel
theorem dX1_coversSome_6 : decode cX1_coversSome 6 = .ok (.invokevirtual 48, 3) := by decide +kernel
theorem dX1_coversSome_9 : decode cX1_coversSome 9 = .ok (.iload_n 3, 1) := by decide +kernel
theorem dX1_coversSome_10 : decode cX1_coversSome 10 = .ok (.invokestatic 72, 3) := by decide +kernel
theorem dX1_coversSome_13 : decode cX1_coversSome 13 = .ok (.aload_n 0, 1) := by decide +kernel
theorem dX1_coversSome_14 : decode cX1_coversSome 14 = .ok (.getfield 15, 3) := by decide +kernel
theorem dX1_coversSome_17 : decode cX1_coversSome 17 = .ok (.iload_n 1, 1) := by decide +kernel
theorem dX1_coversSome_18 : decode cX1_coversSome 18 = .ok (.iload_n 2, 1) := by decide +kernel
theorem dX1_coversSome_19 : decode cX1_coversSome 19 = .ok (.invokevirtual 69, 3) := by decide +kernel
theorem dX1_coversSome_22 : decode cX1_coversSome 22 = .ok (.iload 4, 2) := by decide +kernel
theorem dX1_coversSome_24 : decode cX1_coversSome 24 = .ok (.invokestatic 63, 3) := by decide +kernel
theorem dX1_coversSome_27 : decode cX1_coversSome 27 = .ok (.if_icmp .ge 7, 3) := by decide +kernel
theorem dX1_coversSome_30 : decode cX1_coversSome 30 = .ok (.iconst 1, 1) := by decide +kernel
theorem dX1_coversSome_31 : decode cX1_coversSome 31 = .ok (.goto 4, 3) := by decide +kernel
theorem dX1_coversSome_34 : decode cX1_coversSome 34 = .ok (.iconst 0, 1) := by decide +kernel
theorem dX1_coversSome_35 : decode cX1_coversSome 35 = .ok (.ireturn, 1) := by decide +kernel
theorem dX1_oddsPart_0 : decode cX1_oddsPart 0 = .ok (.aload_n 0, 1) := by decide +kernel
theorem dX1_oddsPart_1 : decode cX1_oddsPart 1 = .ok (.getfield 15, 3) := by decide +kernel
theorem dX1_oddsPart_4 : decode cX1_oddsPart 4 = .ok (.iload_n 1, 1) := by decide +kernel
theorem dX1_oddsPart_5 : decode cX1_oddsPart 5 = .ok (.iconst 4, 1) := by decide +kernel
theorem dX1_oddsPart_6 : decode cX1_oddsPart 6 = .ok (.invokevirtual 23, 3) := by decide +kernel
theorem dX1_oddsPart_9 : decode cX1_oddsPart 9 = .ok (.istore_n 3, 1) := by decide +kernel
theorem dX1_oddsPart_10 : decode cX1_oddsPart 10 = .ok (.iconst 0, 1) := by decide +kernel
theorem dX1_oddsPart_11 : decode cX1_oddsPart 11 = .ok (.istore 4, 2) := by decide +kernel
theorem dX1_oddsPart_13 : decode cX1_oddsPart 13 = .ok (.iconst 0, 1) := by decide +kernel
theorem dX1_oddsPart_14 : decode cX1_oddsPart 14 = .ok (.istore 5, 2) := by decide +kernel
theorem dX1_oddsPart_16 : decode cX1_oddsPart 16 = .ok (.iload 5, 2) := by decide +kernel
theorem dX1_oddsPart_18 : decode cX1_oddsPart 18 = .ok (.iload_n 3, 1) := by decide +kernel
theorem dX1_oddsPart_19 : decode cX1_oddsPart 19 = .ok (.if_icmp .ge 22, 3) := by decide +kernel
theorem dX1_oddsPart_22 : decode cX1_oddsPart 22 = .ok (.aload_n 0, 1) := by decide +kernel
theorem dX1_oddsPart_23 : decode cX1_oddsPart 23 = .ok (.iload 5, 2) := by decide +kernel
theorem dX1_oddsPart_25 : decode cX1_oddsPart 25 = .ok (.iload_n 3, 1) := by decide +kernel
theorem dX1_oddsPart_26 : decode cX1_oddsPart 26 = .ok (.invokevirtual 60, 3) := by decide +kernel
theorem dX1_oddsPart_29 : decode cX1_oddsPart 29 = .ok (.ifCond .eq 6, 3) := by decide +kernel
theorem dX1_oddsPart_32 : decode cX1_oddsPart 32 = .ok (.iinc 4 1, 3) := by decide +kernel
theorem dX1_oddsPart_35 : decode cX1_oddsPart 35 = .ok (.iinc 5 1, 3) := by decide +kernel
theorem dX1_oddsPart_38 : decode cX1_oddsPart 38 = .ok (.goto (-22), 3) := by decide +kernel
theorem dX1_oddsPart_41 : decode cX1_oddsPart 41 = .ok (.iload 4, 2) := by decide +kernel
theorem dX1_oddsPart_43 : decode cX1_oddsPart 43 = .ok (.iload_n 3, 1) := by decide +kernel
theorem dX1_oddsPart_44 : decode cX1_oddsPart 44 = .ok (.invokestatic 83, 3) := by decide +kernel
theorem dX1_oddsPart_47 : decode cX1_oddsPart 47 = .ok (.istore 5, 2) := by decide +kernel
theorem dX1_oddsPart_49 : decode cX1_oddsPart 49 = .ok (.iload 5, 2) := by decide +kernel
theorem dX1_oddsPart_51 : decode cX1_oddsPart 51 = .ok (.iconst 1, 1) := by decide +kernel
theorem dX1_oddsPart_52 : decode cX1_oddsPart 52 = .ok (.if_icmp .ge 5, 3) := by decide +kernel
theorem dX1_oddsPart_55 : decode cX1_oddsPart 55 = .ok (.iconst (-1), 1) := by decide +kernel
theorem dX1_oddsPart_56 : decode cX1_oddsPart 56 = .ok (.ireturn, 1) := by decide +kernel
theorem dX1_oddsPart_57 : decode cX1_oddsPart 57 = .ok (.iload_n 2, 1) := by decide +kernel
theorem dX1_oddsPart_58 : decode cX1_oddsPart 58 = .ok (.ifCond .ne 11, 3) := by decide +kernel
theorem dX1_oddsPart_61 : decode cX1_oddsPart 61 = .ok (.iload 4, 2) := by decide +kernel
theorem dX1_oddsPart_63 : decode cX1_oddsPart 63 = .ok (.iload 5, 2) := by decide +kernel
theorem dX1_oddsPart_65 : decode cX1_oddsPart 65 = .ok (.idiv, 1) := by decide +kernel
theorem dX1_oddsPart_66 : decode cX1_oddsPart 66 = .ok (.goto 7, 3) := by decide +kernel
theorem dX1_oddsPart_69 : decode cX1_oddsPart 69 = .ok (.iload_n 3, 1) := by decide +kernel
theorem dX1_oddsPart_70 : decode cX1_oddsPart 70 = .ok (.iload 5, 2) := by decide +kernel
theorem dX1_oddsPart_72 : decode cX1_oddsPart 72 = .ok (.idiv, 1) := by decide +kernel
theorem dX1_oddsPart_73 : decode cX1_oddsPart 73 = .ok (.ireturn, 1) := by decide +kernel
theorem dX1_commonDivisor_0 : decode cX1_commonDivisor 0 = .ok (.iload_n 1, 1) := by decide +kernel
theorem dX1_commonDivisor_1 : decode cX1_commonDivisor 1 = .ok (.istore_n 2, 1) := by decide +kernel
theorem dX1_commonDivisor_2 : decode cX1_commonDivisor 2 = .ok (.iload_n 2, 1) := by decide +kernel
theorem dX1_commonDivisor_3 : decode cX1_commonDivisor 3 = .ok (.iconst 1, 1) := by decide +kernel
theorem dX1_commonDivisor_4 : decode cX1_commonDivisor 4 = .ok (.if_icmp .le 27, 3) := by decide +kernel
theorem dX1_commonDivisor_7 : decode cX1_commonDivisor 7 = .ok (.iload_n 0, 1) := by decide +kernel
theorem dX1_commonDivisor_8 : decode cX1_commonDivisor 8 = .ok (.iload_n 2, 1) := by decide +kernel
theorem dX1_commonDivisor_9 : decode cX1_commonDivisor 9 = .ok (.invokestatic 57, 3) := by decide +kernel
theorem dX1_commonDivisor_12 : decode cX1_commonDivisor 12 = .ok (.ifCond .ne 13, 3) := by decide +kernel
theorem dX1_commonDivisor_15 : decode cX1_commonDivisor 15 = .ok (.iload_n 1, 1) := by decide +kernel
theorem dX1_commonDivisor_16 : decode cX1_commonDivisor 16 = .ok (.iload_n 2, 1) := by decide +kernel
theorem dX1_commonDivisor_17 : decode cX1_commonDivisor 17 = .ok (.invokestatic 57, 3) := by decide +kernel
theorem dX1_commonDivisor_20 : decode cX1_commonDivisor 20 = .ok (.ifCond .ne 5, 3) := by decide +kernel
theorem dX1_commonDivisor_23 : decode cX1_commonDivisor 23 = .ok (.iload_n 2, 1) := by decide +kernel
theorem dX1_commonDivisor_24 : decode cX1_commonDivisor 24 = .ok (.ireturn, 1) := by decide +kernel
theorem dX1_commonDivisor_25 : decode cX1_commonDivisor 25 = .ok (.iinc 2 (-1), 3) := by decide +kernel
theorem dX1_commonDivisor_28 : decode cX1_commonDivisor 28 = .ok (.goto (-26), 3) := by decide +kernel
theorem dX1_commonDivisor_31 : decode cX1_commonDivisor 31 = .ok (.iconst 1, 1) := by decide +kernel
theorem dX1_commonDivisor_32 : decode cX1_commonDivisor 32 = .ok (.ireturn, 1) := by decide +kernel
theorem dX1_membersWith_0 : decode cX1_membersWith 0 = .ok (.aload_n 0, 1) := by decide +kernel
theorem dX1_membersWith_1 : decode cX1_membersWith 1 = .ok (.invokevirtual 86, 3) := by decide +kernel
theorem dX1_membersWith_4 : decode cX1_membersWith 4 = .ok (.aload_n 0, 1) := by decide +kernel
theorem dX1_membersWith_5 : decode cX1_membersWith 5 = .ok (.iload_n 1, 1) := by decide +kernel
theorem dX1_membersWith_6 : decode cX1_membersWith 6 = .ok (.invokevirtual 89, 3) := by decide +kernel
theorem dX1_membersWith_9 : decode cX1_membersWith 9 = .ok (.ireturn, 1) := by decide +kernel
theorem dX1_howManyFields_0 : decode cX1_howManyFields 0 = .ok (.aload_n 0, 1) := by decide +kernel
theorem dX1_howManyFields_1 : decode cX1_howManyFields 1 = .ok (.invokevirtual 86, 3) := by decide +kernel
theorem dX1_howManyFields_4 : decode cX1_howManyFields 4 = .ok (.iconst 0, 1) := by decide +kernel
theorem dX1_howManyFields_5 : decode cX1_howManyFields 5 = .ok (.istore_n 1, 1) := by decide +kernel
theorem dX1_howManyFields_6 : decode cX1_howManyFields 6 = .ok (.iconst 0, 1) := by decide +kernel
theorem dX1_howManyFields_7 : decode cX1_howManyFields 7 = .ok (.istore_n 2, 1) := by decide +kernel
theorem dX1_howManyFields_8 : decode cX1_howManyFields 8 = .ok (.iconst 0, 1) := by decide +kernel
theorem dX1_howManyFields_9 : decode cX1_howManyFields 9 = .ok (.istore_n 3, 1) := by decide +kernel
theorem dX1_howManyFields_10 : decode cX1_howManyFields 10 = .ok (.iload_n 3, 1) := by decide +kernel
theorem dX1_howManyFields_11 : decode cX1_howManyFields 11 = .ok (.bipush 8, 2) := by decide +kernel
theorem dX1_howManyFields_13 : decode cX1_howManyFields 13 = .ok (.if_icmp .ge 39, 3) := by decide +kernel
theorem dX1_howManyFields_16 : decode cX1_howManyFields 16 = .ok (.aload_n 0, 1) := by decide +kernel
theorem dX1_howManyFields_17 : decode cX1_howManyFields 17 = .ok (.getfield 15, 3) := by decide +kernel
theorem dX1_howManyFields_20 : decode cX1_howManyFields 20 = .ok (.iload_n 3, 1) := by decide +kernel
theorem dX1_howManyFields_21 : decode cX1_howManyFields 21 = .ok (.invokevirtual 92, 3) := by decide +kernel
theorem dX1_howManyFields_24 : decode cX1_howManyFields 24 = .ok (.ifCond .eq 22, 3) := by decide +kernel
theorem dX1_howManyFields_27 : decode cX1_howManyFields 27 = .ok (.iload_n 2, 1) := by decide +kernel
theorem dX1_howManyFields_28 : decode cX1_howManyFields 28 = .ok (.iload_n 3, 1) := by decide +kernel
theorem dX1_howManyFields_29 : decode cX1_howManyFields 29 = .ok (.invokestatic 95, 3) := by decide +kernel
theorem dX1_howManyFields_32 : decode cX1_howManyFields 32 = .ok (.ifCond .ne 14, 3) := by decide +kernel
theorem dX1_howManyFields_35 : decode cX1_howManyFields 35 = .ok (.iload_n 2, 1) := by decide +kernel
theorem dX1_howManyFields_36 : decode cX1_howManyFields 36 = .ok (.aload_n 0, 1) := by decide +kernel
theorem dX1_howManyFields_37 : decode cX1_howManyFields 37 = .ok (.iload_n 3, 1) := by decide +kernel
theorem dX1_howManyFields_38 : decode cX1_howManyFields 38 = .ok (.invokevirtual 89, 3) := by decide +kernel
theorem dX1_howManyFields_41 : decode cX1_howManyFields 41 = .ok (.ior, 1) := by decide +kernel
theorem dX1_howManyFields_42 : decode cX1_howManyFields 42 = .ok (.istore_n 2, 1) := by decide +kernel
theorem dX1_howManyFields_43 : decode cX1_howManyFields 43 = .ok (.iinc 1 1, 3) := by decide +kernel
theorem dX1_howManyFields_46 : decode cX1_howManyFields 46 = .ok (.iinc 3 1, 3) := by decide +kernel
theorem dX1_howManyFields_49 : decode cX1_howManyFields 49 = .ok (.goto (-39), 3) := by decide +kernel
theorem dX1_howManyFields_52 : decode cX1_howManyFields 52 = .ok (.iload_n 1, 1) := by decide +kernel
theorem dX1_howManyFields_53 : decode cX1_howManyFields 53 = .ok (.ireturn, 1) := by decide +kernel
theorem dX1_linkAll_0 : decode cX1_linkAll 0 = .ok (.iconst 0, 1) := by decide +kernel
theorem dX1_linkAll_1 : decode cX1_linkAll 1 = .ok (.istore_n 1, 1) := by decide +kernel
theorem dX1_linkAll_2 : decode cX1_linkAll 2 = .ok (.iload_n 1, 1) := by decide +kernel
theorem dX1_linkAll_3 : decode cX1_linkAll 3 = .ok (.bipush 8, 2) := by decide +kernel
theorem dX1_linkAll_5 : decode cX1_linkAll 5 = .ok (.if_icmp .ge 76, 3) := by decide +kernel
theorem dX1_linkAll_8 : decode cX1_linkAll 8 = .ok (.iconst 0, 1) := by decide +kernel
theorem dX1_linkAll_9 : decode cX1_linkAll 9 = .ok (.istore_n 2, 1) := by decide +kernel
theorem dX1_linkAll_10 : decode cX1_linkAll 10 = .ok (.iconst 0, 1) := by decide +kernel
theorem dX1_linkAll_11 : decode cX1_linkAll 11 = .ok (.istore_n 3, 1) := by decide +kernel
theorem dX1_linkAll_12 : decode cX1_linkAll 12 = .ok (.iload_n 3, 1) := by decide +kernel
theorem dX1_linkAll_13 : decode cX1_linkAll 13 = .ok (.bipush 8, 2) := by decide +kernel
theorem dX1_linkAll_15 : decode cX1_linkAll 15 = .ok (.if_icmp .ge 51, 3) := by decide +kernel
theorem dX1_linkAll_18 : decode cX1_linkAll 18 = .ok (.iload_n 1, 1) := by decide +kernel
theorem dX1_linkAll_19 : decode cX1_linkAll 19 = .ok (.iload_n 3, 1) := by decide +kernel
theorem dX1_linkAll_20 : decode cX1_linkAll 20 = .ok (.if_icmp .eq 40, 3) := by decide +kernel
theorem dX1_linkAll_23 : decode cX1_linkAll 23 = .ok (.aload_n 0, 1) := by decide +kernel
theorem dX1_linkAll_24 : decode cX1_linkAll 24 = .ok (.getfield 15, 3) := by decide +kernel
theorem dX1_linkAll_27 : decode cX1_linkAll 27 = .ok (.iload_n 1, 1) := by decide +kernel
theorem dX1_linkAll_28 : decode cX1_linkAll 28 = .ok (.invokevirtual 92, 3) := by decide +kernel
theorem dX1_linkAll_31 : decode cX1_linkAll 31 = .ok (.ifCond .eq 29, 3) := by decide +kernel
theorem dX1_linkAll_34 : decode cX1_linkAll 34 = .ok (.aload_n 0, 1) := by decide +kernel
theorem dX1_linkAll_35 : decode cX1_linkAll 35 = .ok (.getfield 15, 3) := by decide +kernel
theorem dX1_linkAll_38 : decode cX1_linkAll 38 = .ok (.iload_n 3, 1) := by decide +kernel
theorem dX1_linkAll_39 : decode cX1_linkAll 39 = .ok (.invokevirtual 92, 3) := by decide +kernel
theorem dX1_linkAll_42 : decode cX1_linkAll 42 = .ok (.ifCond .eq 18, 3) := by decide +kernel
theorem dX1_linkAll_45 : decode cX1_linkAll 45 = .ok (.aload_n 0, 1) := by decide +kernel
theorem dX1_linkAll_46 : decode cX1_linkAll 46 = .ok (.iload_n 1, 1) := by decide +kernel
theorem dX1_linkAll_47 : decode cX1_linkAll 47 = .ok (.iload_n 3, 1) := by decide +kernel
theorem dX1_linkAll_48 : decode cX1_linkAll 48 = .ok (.invokevirtual 98, 3) := by decide +kernel
theorem dX1_linkAll_51 : decode cX1_linkAll 51 = .ok (.ifCond .eq 9, 3) := by decide +kernel
theorem dX1_linkAll_54 : decode cX1_linkAll 54 = .ok (.iload_n 2, 1) := by decide +kernel
theorem dX1_linkAll_55 : decode cX1_linkAll 55 = .ok (.iconst 1, 1) := by decide +kernel
theorem dX1_linkAll_56 : decode cX1_linkAll 56 = .ok (.iload_n 3, 1) := by decide +kernel
theorem dX1_linkAll_57 : decode cX1_linkAll 57 = .ok (.ishl, 1) := by decide +kernel
theorem dX1_linkAll_58 : decode cX1_linkAll 58 = .ok (.ior, 1) := by decide +kernel
theorem dX1_linkAll_59 : decode cX1_linkAll 59 = .ok (.istore_n 2, 1) := by decide +kernel
theorem dX1_linkAll_60 : decode cX1_linkAll 60 = .ok (.iinc 3 1, 3) := by decide +kernel
theorem dX1_linkAll_63 : decode cX1_linkAll 63 = .ok (.goto (-51), 3) := by decide +kernel
theorem dX1_linkAll_66 : decode cX1_linkAll 66 = .ok (.aload_n 0, 1) := by decide +kernel
theorem dX1_linkAll_67 : decode cX1_linkAll 67 = .ok (.getfield 9, 3) := by decide +kernel
theorem dX1_linkAll_70 : decode cX1_linkAll 70 = .ok (.iload_n 1, 1) := by decide +kernel
theorem dX1_linkAll_71 : decode cX1_linkAll 71 = .ok (.iload_n 2, 1) := by decide +kernel
theorem dX1_linkAll_72 : decode cX1_linkAll 72 = .ok (.invokestatic 101, 3) := by decide +kernel
theorem dX1_linkAll_75 : decode cX1_linkAll 75 = .ok (.iinc 1 1, 3) := by decide +kernel
theorem dX1_linkAll_78 : decode cX1_linkAll 78 = .ok (.goto (-76), 3) := by decide +kernel
theorem dX1_linkAll_81 : decode cX1_linkAll 81 = .ok (.return_, 1) := by decide +kernel
theorem dX1_reachFrom_0 : decode cX1_reachFrom 0 = .ok (.iconst 1, 1) := by decide +kernel
theorem dX1_reachFrom_1 : decode cX1_reachFrom 1 = .ok (.iload_n 1, 1) := by decide +kernel
theorem dX1_reachFrom_2 : decode cX1_reachFrom 2 = .ok (.ishl, 1) := by decide +kernel
theorem dX1_reachFrom_3 : decode cX1_reachFrom 3 = .ok (.istore_n 2, 1) := by decide +kernel
theorem dX1_reachFrom_4 : decode cX1_reachFrom 4 = .ok (.iconst 0, 1) := by decide +kernel
theorem dX1_reachFrom_5 : decode cX1_reachFrom 5 = .ok (.istore_n 3, 1) := by decide +kernel
theorem dX1_reachFrom_6 : decode cX1_reachFrom 6 = .ok (.iload_n 3, 1) := by decide +kernel
theorem dX1_reachFrom_7 : decode cX1_reachFrom 7 = .ok (.bipush 8, 2) := by decide +kernel
theorem dX1_reachFrom_9 : decode cX1_reachFrom 9 = .ok (.if_icmp .ge 46, 3) := by decide +kernel
theorem dX1_reachFrom_12 : decode cX1_reachFrom 12 = .ok (.iconst 0, 1) := by decide +kernel
theorem dX1_reachFrom_13 : decode cX1_reachFrom 13 = .ok (.istore 4, 2) := by decide +kernel
theorem dX1_reachFrom_15 : decode cX1_reachFrom 15 = .ok (.iload 4, 2) := by decide +kernel
theorem dX1_reachFrom_17 : decode cX1_reachFrom 17 = .ok (.bipush 8, 2) := by decide +kernel
theorem dX1_reachFrom_19 : decode cX1_reachFrom 19 = .ok (.if_icmp .ge 30, 3) := by decide +kernel
theorem dX1_reachFrom_22 : decode cX1_reachFrom 22 = .ok (.iload_n 2, 1) := by decide +kernel
theorem dX1_reachFrom_23 : decode cX1_reachFrom 23 = .ok (.iload 4, 2) := by decide +kernel
theorem dX1_reachFrom_25 : decode cX1_reachFrom 25 = .ok (.invokestatic 95, 3) := by decide +kernel
theorem dX1_reachFrom_28 : decode cX1_reachFrom 28 = .ok (.ifCond .eq 15, 3) := by decide +kernel
theorem dX1_reachFrom_31 : decode cX1_reachFrom 31 = .ok (.iload_n 2, 1) := by decide +kernel
theorem dX1_reachFrom_32 : decode cX1_reachFrom 32 = .ok (.aload_n 0, 1) := by decide +kernel
theorem dX1_reachFrom_33 : decode cX1_reachFrom 33 = .ok (.getfield 9, 3) := by decide +kernel
theorem dX1_reachFrom_36 : decode cX1_reachFrom 36 = .ok (.iload 4, 2) := by decide +kernel
theorem dX1_reachFrom_38 : decode cX1_reachFrom 38 = .ok (.invokestatic 105, 3) := by decide +kernel
theorem dX1_reachFrom_41 : decode cX1_reachFrom 41 = .ok (.ior, 1) := by decide +kernel
theorem dX1_reachFrom_42 : decode cX1_reachFrom 42 = .ok (.istore_n 2, 1) := by decide +kernel
theorem dX1_reachFrom_43 : decode cX1_reachFrom 43 = .ok (.iinc 4 1, 3) := by decide +kernel
theorem dX1_reachFrom_46 : decode cX1_reachFrom 46 = .ok (.goto (-31), 3) := by decide +kernel
theorem dX1_reachFrom_49 : decode cX1_reachFrom 49 = .ok (.iinc 3 1, 3) := by decide +kernel
theorem dX1_reachFrom_52 : decode cX1_reachFrom 52 = .ok (.goto (-46), 3) := by decide +kernel
theorem dX1_reachFrom_55 : decode cX1_reachFrom 55 = .ok (.iload_n 2, 1) := by decide +kernel
theorem dX1_reachFrom_56 : decode cX1_reachFrom 56 = .ok (.ireturn, 1) := by decide +kernel
theorem dX1_yardsOf_0 : decode cX1_yardsOf 0 = .ok (.iconst 0, 1) := by decide +kernel
theorem dX1_yardsOf_1 : decode cX1_yardsOf 1 = .ok (.istore_n 2, 1) := by decide +kernel
theorem dX1_yardsOf_2 : decode cX1_yardsOf 2 = .ok (.iconst 0, 1) := by decide +kernel
theorem dX1_yardsOf_3 : decode cX1_yardsOf 3 = .ok (.istore_n 3, 1) := by decide +kernel
theorem dX1_yardsOf_4 : decode cX1_yardsOf 4 = .ok (.iload_n 3, 1) := by decide +kernel
theorem dX1_yardsOf_5 : decode cX1_yardsOf 5 = .ok (.bipush 8, 2) := by decide +kernel
theorem dX1_yardsOf_7 : decode cX1_yardsOf 7 = .ok (.if_icmp .ge 28, 3) := by decide +kernel
theorem dX1_yardsOf_10 : decode cX1_yardsOf 10 = .ok (.iload_n 1, 1) := by decide +kernel
theorem dX1_yardsOf_11 : decode cX1_yardsOf 11 = .ok (.iload_n 3, 1) := by decide +kernel
theorem dX1_yardsOf_12 : decode cX1_yardsOf 12 = .ok (.invokestatic 95, 3) := by decide +kernel
theorem dX1_yardsOf_15 : decode cX1_yardsOf 15 = .ok (.ifCond .eq 14, 3) := by decide +kernel
theorem dX1_yardsOf_18 : decode cX1_yardsOf 18 = .ok (.iload_n 2, 1) := by decide +kernel
theorem dX1_yardsOf_19 : decode cX1_yardsOf 19 = .ok (.aload_n 0, 1) := by decide +kernel
theorem dX1_yardsOf_20 : decode cX1_yardsOf 20 = .ok (.getfield 15, 3) := by decide +kernel
theorem dX1_yardsOf_23 : decode cX1_yardsOf 23 = .ok (.iload_n 3, 1) := by decide +kernel
theorem dX1_yardsOf_24 : decode cX1_yardsOf 24 = .ok (.invokevirtual 109, 3) := by decide +kernel
theorem dX1_yardsOf_27 : decode cX1_yardsOf 27 = .ok (.iadd, 1) := by decide +kernel
theorem dX1_yardsOf_28 : decode cX1_yardsOf 28 = .ok (.istore_n 2, 1) := by decide +kernel
theorem dX1_yardsOf_29 : decode cX1_yardsOf 29 = .ok (.iinc 3 1, 3) := by decide +kernel
theorem dX1_yardsOf_32 : decode cX1_yardsOf 32 = .ok (.goto (-28), 3) := by decide +kernel
theorem dX1_yardsOf_35 : decode cX1_yardsOf 35 = .ok (.iload_n 2, 1) := by decide +kernel
theorem dX1_yardsOf_36 : decode cX1_yardsOf 36 = .ok (.ireturn, 1) := by decide +kernel
theorem dX1_firstYearOf_0 : decode cX1_firstYearOf 0 = .ok (.aload_n 0, 1) := by decide +kernel
theorem dX1_firstYearOf_1 : decode cX1_firstYearOf 1 = .ok (.getfield 19, 3) := by decide +kernel
theorem dX1_firstYearOf_4 : decode cX1_firstYearOf 4 = .ok (.invokevirtual 112, 3) := by decide +kernel
theorem dX1_firstYearOf_7 : decode cX1_firstYearOf 7 = .ok (.ifCond .ne 5, 3) := by decide +kernel
theorem dX1_firstYearOf_10 : decode cX1_firstYearOf 10 = .ok (.iconst (-1), 1) := by decide +kernel
theorem dX1_firstYearOf_11 : decode cX1_firstYearOf 11 = .ok (.ireturn, 1) := by decide +kernel
theorem dX1_firstYearOf_12 : decode cX1_firstYearOf 12 = .ok (.sipush 2000, 3) := by decide +kernel
theorem dX1_firstYearOf_15 : decode cX1_firstYearOf 15 = .ok (.istore_n 2, 1) := by decide +kernel
theorem dX1_firstYearOf_16 : decode cX1_firstYearOf 16 = .ok (.iconst 0, 1) := by decide +kernel
theorem dX1_firstYearOf_17 : decode cX1_firstYearOf 17 = .ok (.istore_n 3, 1) := by decide +kernel
theorem dX1_firstYearOf_18 : decode cX1_firstYearOf 18 = .ok (.iload_n 3, 1) := by decide +kernel
theorem dX1_firstYearOf_19 : decode cX1_firstYearOf 19 = .ok (.bipush 8, 2) := by decide +kernel
theorem dX1_firstYearOf_21 : decode cX1_firstYearOf 21 = .ok (.if_icmp .ge 30, 3) := by decide +kernel
theorem dX1_firstYearOf_24 : decode cX1_firstYearOf 24 = .ok (.iload_n 1, 1) := by decide +kernel
theorem dX1_firstYearOf_25 : decode cX1_firstYearOf 25 = .ok (.iload_n 3, 1) := by decide +kernel
theorem dX1_firstYearOf_26 : decode cX1_firstYearOf 26 = .ok (.invokestatic 95, 3) := by decide +kernel
theorem dX1_firstYearOf_29 : decode cX1_firstYearOf 29 = .ok (.ifCond .eq 16, 3) := by decide +kernel
theorem dX1_firstYearOf_32 : decode cX1_firstYearOf 32 = .ok (.iload_n 2, 1) := by decide +kernel
theorem dX1_firstYearOf_33 : decode cX1_firstYearOf 33 = .ok (.aload_n 0, 1) := by decide +kernel
theorem dX1_firstYearOf_34 : decode cX1_firstYearOf 34 = .ok (.getfield 19, 3) := by decide +kernel
theorem dX1_firstYearOf_37 : decode cX1_firstYearOf 37 = .ok (.iload_n 3, 1) := by decide +kernel
theorem dX1_firstYearOf_38 : decode cX1_firstYearOf 38 = .ok (.invokevirtual 118, 3) := by decide +kernel
theorem dX1_firstYearOf_41 : decode cX1_firstYearOf 41 = .ok (.invokestatic 63, 3) := by decide +kernel
theorem dX1_firstYearOf_44 : decode cX1_firstYearOf 44 = .ok (.istore_n 2, 1) := by decide +kernel
theorem dX1_firstYearOf_45 : decode cX1_firstYearOf 45 = .ok (.iinc 3 1, 3) := by decide +kernel
theorem dX1_firstYearOf_48 : decode cX1_firstYearOf 48 = .ok (.goto (-30), 3) := by decide +kernel
theorem dX1_firstYearOf_51 : decode cX1_firstYearOf 51 = .ok (.iload_n 2, 1) := by decide +kernel
theorem dX1_firstYearOf_52 : decode cX1_firstYearOf 52 = .ok (.ireturn, 1) := by decide +kernel
theorem dX2_init_0 : decode cX2_init 0 = .ok (.aload_n 0, 1) := by decide +kernel
theorem dX2_init_1 : decode cX2_init 1 = .ok (.invokespecial 3, 3) := by decide +kernel
theorem dX2_init_4 : decode cX2_init 4 = .ok (.aload_n 0, 1) := by decide +kernel
theorem dX2_init_5 : decode cX2_init 5 = .ok (.bipush 8, 2) := by decide +kernel
theorem dX2_init_7 : decode cX2_init 7 = .ok (.newarray .int, 2) := by decide +kernel
theorem dX2_init_9 : decode cX2_init 9 = .ok (.putfield 11, 3) := by decide +kernel
theorem dX2_init_12 : decode cX2_init 12 = .ok (.aload_n 0, 1) := by decide +kernel
theorem dX2_init_13 : decode cX2_init 13 = .ok (.bipush 8, 2) := by decide +kernel
theorem dX2_init_15 : decode cX2_init 15 = .ok (.newarray .int, 2) := by decide +kernel
theorem dX2_init_17 : decode cX2_init 17 = .ok (.putfield 15, 3) := by decide +kernel
theorem dX2_init_20 : decode cX2_init 20 = .ok (.aload_n 0, 1) := by decide +kernel
theorem dX2_init_21 : decode cX2_init 21 = .ok (.bipush 8, 2) := by decide +kernel
theorem dX2_init_23 : decode cX2_init 23 = .ok (.newarray .int, 2) := by decide +kernel
theorem dX2_init_25 : decode cX2_init 25 = .ok (.putfield 18, 3) := by decide +kernel
theorem dX2_init_28 : decode cX2_init 28 = .ok (.aload_n 0, 1) := by decide +kernel
theorem dX2_init_29 : decode cX2_init 29 = .ok (.aload_n 1, 1) := by decide +kernel
theorem dX2_init_30 : decode cX2_init 30 = .ok (.putfield 21, 3) := by decide +kernel
theorem dX2_init_33 : decode cX2_init 33 = .ok (.return_, 1) := by decide +kernel
theorem dX2_add_0 : decode cX2_add 0 = .ok (.aload_n 0, 1) := by decide +kernel
theorem dX2_add_1 : decode cX2_add 1 = .ok (.getfield 25, 3) := by decide +kernel
theorem dX2_add_4 : decode cX2_add 4 = .ok (.bipush 8, 2) := by decide +kernel
theorem dX2_add_6 : decode cX2_add 6 = .ok (.if_icmp .lt 5, 3) := by decide +kernel
theorem dX2_add_9 : decode cX2_add 9 = .ok (.iconst 0, 1) := by decide +kernel
theorem dX2_add_10 : decode cX2_add 10 = .ok (.ireturn, 1) := by decide +kernel
theorem dX2_add_11 : decode cX2_add 11 = .ok (.aload_n 0, 1) := by decide +kernel
theorem dX2_add_12 : decode cX2_add 12 = .ok (.getfield 11, 3) := by decide +kernel
theorem dX2_add_15 : decode cX2_add 15 = .ok (.aload_n 0, 1) := by decide +kernel
theorem dX2_add_16 : decode cX2_add 16 = .ok (.getfield 25, 3) := by decide +kernel
theorem dX2_add_19 : decode cX2_add 19 = .ok (.iload_n 1, 1) := by decide +kernel
theorem dX2_add_20 : decode cX2_add 20 = .ok (.invokestatic 29, 3) := by decide +kernel
theorem dX2_add_23 : decode cX2_add 23 = .ok (.aload_n 0, 1) := by decide +kernel
theorem dX2_add_24 : decode cX2_add 24 = .ok (.getfield 15, 3) := by decide +kernel
theorem dX2_add_27 : decode cX2_add 27 = .ok (.aload_n 0, 1) := by decide +kernel
theorem dX2_add_28 : decode cX2_add 28 = .ok (.getfield 25, 3) := by decide +kernel
theorem dX2_add_31 : decode cX2_add 31 = .ok (.iload_n 2, 1) := by decide +kernel
theorem dX2_add_32 : decode cX2_add 32 = .ok (.invokestatic 29, 3) := by decide +kernel
theorem dX2_add_35 : decode cX2_add 35 = .ok (.aload_n 0, 1) := by decide +kernel
theorem dX2_add_36 : decode cX2_add 36 = .ok (.getfield 18, 3) := by decide +kernel
theorem dX2_add_39 : decode cX2_add 39 = .ok (.aload_n 0, 1) := by decide +kernel
theorem dX2_add_40 : decode cX2_add 40 = .ok (.getfield 25, 3) := by decide +kernel
theorem dX2_add_43 : decode cX2_add 43 = .ok (.iload_n 3, 1) := by decide +kernel
theorem dX2_add_44 : decode cX2_add 44 = .ok (.invokestatic 29, 3) := by decide +kernel
theorem dX2_add_47 : decode cX2_add 47 = .ok (.aload_n 0, 1) := by decide +kernel
theorem dX2_add_48 : decode cX2_add 48 = .ok (.dup, 1) := by decide +kernel
theorem dX2_add_49 : decode cX2_add 49 = .ok (.getfield 25, 3) := by decide +kernel
theorem dX2_add_52 : decode cX2_add 52 = .ok (.iconst 1, 1) := by decide +kernel
theorem dX2_add_53 : decode cX2_add 53 = .ok (.iadd, 1) := by decide +kernel
theorem dX2_add_54 : decode cX2_add 54 = .ok (.putfield 25, 3) := by decide +kernel
theorem dX2_add_57 : decode cX2_add 57 = .ok (.iconst 1, 1) := by decide +kernel
theorem dX2_add_58 : decode cX2_add 58 = .ok (.ireturn, 1) := by decide +kernel
theorem dX2_shouldShow_0 : decode cX2_shouldShow 0 = .ok (.aload_n 0, 1) := by decide +kernel
theorem dX2_shouldShow_1 : decode cX2_shouldShow 1 = .ok (.getfield 21, 3) := by decide +kernel
theorem dX2_shouldShow_4 : decode cX2_shouldShow 4 = .ok (.iload_n 2, 1) := by decide +kernel
theorem dX2_shouldShow_5 : decode cX2_shouldShow 5 = .ok (.iconst 2, 1) := by decide +kernel
theorem dX2_shouldShow_6 : decode cX2_shouldShow 6 = .ok (.invokevirtual 33, 3) := by decide +kernel
theorem dX2_shouldShow_9 : decode cX2_shouldShow 9 = .ok (.aload_n 0, 1) := by decide +kernel
theorem dX2_shouldShow_10 : decode cX2_shouldShow 10 = .ok (.getfield 11, 3) := by decide +kernel
theorem dX2_shouldShow_13 : decode cX2_shouldShow 13 = .ok (.iload_n 1, 1) := by decide +kernel
theorem dX2_shouldShow_14 : decode cX2_shouldShow 14 = .ok (.invokestatic 39, 3) := by decide +kernel
theorem dX2_shouldShow_17 : decode cX2_shouldShow 17 = .ok (.if_icmp .eq 28, 3) := by decide +kernel
theorem dX2_shouldShow_20 : decode cX2_shouldShow 20 = .ok (.aload_n 0, 1) := by decide +kernel
theorem dX2_shouldShow_21 : decode cX2_shouldShow 21 = .ok (.getfield 21, 3) := by decide +kernel
theorem dX2_shouldShow_24 : decode cX2_shouldShow 24 = .ok (.iload_n 2, 1) := by decide +kernel
theorem dX2_shouldShow_25 : decode cX2_shouldShow 25 = .ok (.bipush 8, 2) := by decide +kernel
