theorem dX2_shouldShow_27 : decode cX2_shouldShow 27 = .ok (.invokevirtual 33, 3) := by decide +kernel
theorem dX2_shouldShow_30 : decode cX2_shouldShow 30 = .ok (.aload_n 0, 1) := by decide +kernel
theorem dX2_shouldShow_31 : decode cX2_shouldShow 31 = .ok (.getfield 15, 3) := by decide +kernel
theorem dX2_shouldShow_34 : decode cX2_shouldShow 34 = .ok (.iload_n 1, 1) := by decide +kernel
theorem dX2_shouldShow_35 : decode cX2_shouldShow 35 = .ok (.invokestatic 39, 3) := by decide +kernel
theorem dX2_shouldShow_38 : decode cX2_shouldShow 38 = .ok (.if_icmp .lt 7, 3) := by decide +kernel
theorem dX2_shouldShow_41 : decode cX2_shouldShow 41 = .ok (.iconst 1, 1) := by decide +kernel
theorem dX2_shouldShow_42 : decode cX2_shouldShow 42 = .ok (.goto 4, 3) := by decide +kernel
theorem dX2_shouldShow_45 : decode cX2_shouldShow 45 = .ok (.iconst 0, 1) := by decide +kernel
theorem dX2_shouldShow_46 : decode cX2_shouldShow 46 = .ok (.ireturn, 1) := by decide +kernel
theorem dX2_flat_0 : decode cX2_flat 0 = .ok (.aload_n 0, 1) := by decide +kernel
theorem dX2_flat_1 : decode cX2_flat 1 = .ok (.invokevirtual 43, 3) := by decide +kernel
theorem dX2_flat_4 : decode cX2_flat 4 = .ok (.aload_n 0, 1) := by decide +kernel
theorem dX2_flat_5 : decode cX2_flat 5 = .ok (.invokevirtual 47, 3) := by decide +kernel
theorem dX2_flat_8 : decode cX2_flat 8 = .ok (.iconst (-1), 1) := by decide +kernel
theorem dX2_flat_9 : decode cX2_flat 9 = .ok (.ixor, 1) := by decide +kernel
theorem dX2_flat_10 : decode cX2_flat 10 = .ok (.iand, 1) := by decide +kernel
theorem dX2_flat_11 : decode cX2_flat 11 = .ok (.ireturn, 1) := by decide +kernel
theorem dX2_due_0 : decode cX2_due 0 = .ok (.iconst 0, 1) := by decide +kernel
theorem dX2_due_1 : decode cX2_due 1 = .ok (.istore_n 1, 1) := by decide +kernel
theorem dX2_due_2 : decode cX2_due 2 = .ok (.iconst 0, 1) := by decide +kernel
theorem dX2_due_3 : decode cX2_due 3 = .ok (.istore_n 2, 1) := by decide +kernel
theorem dX2_due_4 : decode cX2_due 4 = .ok (.iload_n 2, 1) := by decide +kernel
theorem dX2_due_5 : decode cX2_due 5 = .ok (.aload_n 0, 1) := by decide +kernel
theorem dX2_due_6 : decode cX2_due 6 = .ok (.getfield 25, 3) := by decide +kernel
theorem dX2_due_9 : decode cX2_due 9 = .ok (.if_icmp .ge 17, 3) := by decide +kernel
theorem dX2_due_12 : decode cX2_due 12 = .ok (.iload_n 1, 1) := by decide +kernel
theorem dX2_due_13 : decode cX2_due 13 = .ok (.aload_n 0, 1) := by decide +kernel
theorem dX2_due_14 : decode cX2_due 14 = .ok (.iload_n 2, 1) := by decide +kernel
theorem dX2_due_15 : decode cX2_due 15 = .ok (.invokevirtual 50, 3) := by decide +kernel
theorem dX2_due_18 : decode cX2_due 18 = .ok (.ior, 1) := by decide +kernel
theorem dX2_due_19 : decode cX2_due 19 = .ok (.istore_n 1, 1) := by decide +kernel
theorem dX2_due_20 : decode cX2_due 20 = .ok (.iinc 2 1, 3) := by decide +kernel
theorem dX2_due_23 : decode cX2_due 23 = .ok (.goto (-19), 3) := by decide +kernel
theorem dX2_due_26 : decode cX2_due 26 = .ok (.iload_n 1, 1) := by decide +kernel
theorem dX2_due_27 : decode cX2_due 27 = .ok (.ireturn, 1) := by decide +kernel
theorem dX2_standing_0 : decode cX2_standing 0 = .ok (.iconst 0, 1) := by decide +kernel
theorem dX2_standing_1 : decode cX2_standing 1 = .ok (.istore_n 1, 1) := by decide +kernel
theorem dX2_standing_2 : decode cX2_standing 2 = .ok (.iconst 0, 1) := by decide +kernel
theorem dX2_standing_3 : decode cX2_standing 3 = .ok (.istore_n 2, 1) := by decide +kernel
theorem dX2_standing_4 : decode cX2_standing 4 = .ok (.iload_n 2, 1) := by decide +kernel
theorem dX2_standing_5 : decode cX2_standing 5 = .ok (.aload_n 0, 1) := by decide +kernel
theorem dX2_standing_6 : decode cX2_standing 6 = .ok (.getfield 25, 3) := by decide +kernel
theorem dX2_standing_9 : decode cX2_standing 9 = .ok (.if_icmp .ge 26, 3) := by decide +kernel
theorem dX2_standing_12 : decode cX2_standing 12 = .ok (.iload_n 1, 1) := by decide +kernel
theorem dX2_standing_13 : decode cX2_standing 13 = .ok (.aload_n 0, 1) := by decide +kernel
theorem dX2_standing_14 : decode cX2_standing 14 = .ok (.iload_n 2, 1) := by decide +kernel
theorem dX2_standing_15 : decode cX2_standing 15 = .ok (.invokevirtual 50, 3) := by decide +kernel
theorem dX2_standing_18 : decode cX2_standing 18 = .ok (.aload_n 0, 1) := by decide +kernel
theorem dX2_standing_19 : decode cX2_standing 19 = .ok (.getfield 18, 3) := by decide +kernel
theorem dX2_standing_22 : decode cX2_standing 22 = .ok (.iload_n 2, 1) := by decide +kernel
theorem dX2_standing_23 : decode cX2_standing 23 = .ok (.invokestatic 39, 3) := by decide +kernel
theorem dX2_standing_26 : decode cX2_standing 26 = .ok (.iand, 1) := by decide +kernel
theorem dX2_standing_27 : decode cX2_standing 27 = .ok (.ior, 1) := by decide +kernel
theorem dX2_standing_28 : decode cX2_standing 28 = .ok (.istore_n 1, 1) := by decide +kernel
theorem dX2_standing_29 : decode cX2_standing 29 = .ok (.iinc 2 1, 3) := by decide +kernel
theorem dX2_standing_32 : decode cX2_standing 32 = .ok (.goto (-28), 3) := by decide +kernel
theorem dX2_standing_35 : decode cX2_standing 35 = .ok (.iload_n 1, 1) := by decide +kernel
theorem dX2_standing_36 : decode cX2_standing 36 = .ok (.ireturn, 1) := by decide +kernel
theorem dX2_dueIn_0 : decode cX2_dueIn 0 = .ok (.iconst 0, 1) := by decide +kernel
theorem dX2_dueIn_1 : decode cX2_dueIn 1 = .ok (.istore_n 2, 1) := by decide +kernel
theorem dX2_dueIn_2 : decode cX2_dueIn 2 = .ok (.iconst 0, 1) := by decide +kernel
theorem dX2_dueIn_3 : decode cX2_dueIn 3 = .ok (.istore_n 3, 1) := by decide +kernel
theorem dX2_dueIn_4 : decode cX2_dueIn 4 = .ok (.iload_n 3, 1) := by decide +kernel
theorem dX2_dueIn_5 : decode cX2_dueIn 5 = .ok (.bipush 8, 2) := by decide +kernel
theorem dX2_dueIn_7 : decode cX2_dueIn 7 = .ok (.if_icmp .ge 35, 3) := by decide +kernel
theorem dX2_dueIn_10 : decode cX2_dueIn 10 = .ok (.aload_n 0, 1) := by decide +kernel
theorem dX2_dueIn_11 : decode cX2_dueIn 11 = .ok (.getfield 21, 3) := by decide +kernel
theorem dX2_dueIn_14 : decode cX2_dueIn 14 = .ok (.iload_n 3, 1) := by decide +kernel
theorem dX2_dueIn_15 : decode cX2_dueIn 15 = .ok (.invokevirtual 54, 3) := by decide +kernel
theorem dX2_dueIn_18 : decode cX2_dueIn 18 = .ok (.ifCond .eq 18, 3) := by decide +kernel
theorem dX2_dueIn_21 : decode cX2_dueIn 21 = .ok (.aload_n 0, 1) := by decide +kernel
theorem dX2_dueIn_22 : decode cX2_dueIn 22 = .ok (.iload_n 1, 1) := by decide +kernel
theorem dX2_dueIn_23 : decode cX2_dueIn 23 = .ok (.iload_n 3, 1) := by decide +kernel
theorem dX2_dueIn_24 : decode cX2_dueIn 24 = .ok (.invokevirtual 58, 3) := by decide +kernel
theorem dX2_dueIn_27 : decode cX2_dueIn 27 = .ok (.ifCond .eq 9, 3) := by decide +kernel
theorem dX2_dueIn_30 : decode cX2_dueIn 30 = .ok (.iload_n 2, 1) := by decide +kernel
theorem dX2_dueIn_31 : decode cX2_dueIn 31 = .ok (.iconst 1, 1) := by decide +kernel
theorem dX2_dueIn_32 : decode cX2_dueIn 32 = .ok (.iload_n 3, 1) := by decide +kernel
theorem dX2_dueIn_33 : decode cX2_dueIn 33 = .ok (.ishl, 1) := by decide +kernel
theorem dX2_dueIn_34 : decode cX2_dueIn 34 = .ok (.ior, 1) := by decide +kernel
theorem dX2_dueIn_35 : decode cX2_dueIn 35 = .ok (.istore_n 2, 1) := by decide +kernel
theorem dX2_dueIn_36 : decode cX2_dueIn 36 = .ok (.iinc 3 1, 3) := by decide +kernel
theorem dX2_dueIn_39 : decode cX2_dueIn 39 = .ok (.goto (-35), 3) := by decide +kernel
theorem dX2_dueIn_42 : decode cX2_dueIn 42 = .ok (.iload_n 2, 1) := by decide +kernel
theorem dX2_dueIn_43 : decode cX2_dueIn 43 = .ok (.ireturn, 1) := by decide +kernel
theorem dX2_bestSun_0 : decode cX2_bestSun 0 = .ok (.aload_n 0, 1) := by decide +kernel
theorem dX2_bestSun_1 : decode cX2_bestSun 1 = .ok (.getfield 21, 3) := by decide +kernel
theorem dX2_bestSun_4 : decode cX2_bestSun 4 = .ok (.invokevirtual 62, 3) := by decide +kernel
theorem dX2_bestSun_7 : decode cX2_bestSun 7 = .ok (.aload_n 0, 1) := by decide +kernel
theorem dX2_bestSun_8 : decode cX2_bestSun 8 = .ok (.invokevirtual 43, 3) := by decide +kernel
theorem dX2_bestSun_11 : decode cX2_bestSun 11 = .ok (.iconst (-1), 1) := by decide +kernel
theorem dX2_bestSun_12 : decode cX2_bestSun 12 = .ok (.ixor, 1) := by decide +kernel
theorem dX2_bestSun_13 : decode cX2_bestSun 13 = .ok (.iand, 1) := by decide +kernel
theorem dX2_bestSun_14 : decode cX2_bestSun 14 = .ok (.istore_n 1, 1) := by decide +kernel
theorem dX2_bestSun_15 : decode cX2_bestSun 15 = .ok (.iconst 0, 1) := by decide +kernel
theorem dX2_bestSun_16 : decode cX2_bestSun 16 = .ok (.istore_n 2, 1) := by decide +kernel
theorem dX2_bestSun_17 : decode cX2_bestSun 17 = .ok (.iconst 0, 1) := by decide +kernel
theorem dX2_bestSun_18 : decode cX2_bestSun 18 = .ok (.istore_n 3, 1) := by decide +kernel
theorem dX2_bestSun_19 : decode cX2_bestSun 19 = .ok (.iconst 0, 1) := by decide +kernel
theorem dX2_bestSun_20 : decode cX2_bestSun 20 = .ok (.istore 4, 2) := by decide +kernel
theorem dX2_bestSun_22 : decode cX2_bestSun 22 = .ok (.iload 4, 2) := by decide +kernel
theorem dX2_bestSun_24 : decode cX2_bestSun 24 = .ok (.bipush 8, 2) := by decide +kernel
theorem dX2_bestSun_26 : decode cX2_bestSun 26 = .ok (.if_icmp .ge 41, 3) := by decide +kernel
theorem dX2_bestSun_29 : decode cX2_bestSun 29 = .ok (.iload_n 1, 1) := by decide +kernel
theorem dX2_bestSun_30 : decode cX2_bestSun 30 = .ok (.iload 4, 2) := by decide +kernel
theorem dX2_bestSun_32 : decode cX2_bestSun 32 = .ok (.invokestatic 65, 3) := by decide +kernel
theorem dX2_bestSun_35 : decode cX2_bestSun 35 = .ok (.ifCond .eq 26, 3) := by decide +kernel
theorem dX2_bestSun_38 : decode cX2_bestSun 38 = .ok (.aload_n 0, 1) := by decide +kernel
theorem dX2_bestSun_39 : decode cX2_bestSun 39 = .ok (.getfield 21, 3) := by decide +kernel
theorem dX2_bestSun_42 : decode cX2_bestSun 42 = .ok (.iload 4, 2) := by decide +kernel
theorem dX2_bestSun_44 : decode cX2_bestSun 44 = .ok (.iconst 2, 1) := by decide +kernel
theorem dX2_bestSun_45 : decode cX2_bestSun 45 = .ok (.invokevirtual 33, 3) := by decide +kernel
theorem dX2_bestSun_48 : decode cX2_bestSun 48 = .ok (.iconst 1, 1) := by decide +kernel
theorem dX2_bestSun_49 : decode cX2_bestSun 49 = .ok (.if_icmp .ne 9, 3) := by decide +kernel
theorem dX2_bestSun_52 : decode cX2_bestSun 52 = .ok (.iinc 2 1, 3) := by decide +kernel
theorem dX2_bestSun_55 : decode cX2_bestSun 55 = .ok (.goto 6, 3) := by decide +kernel
theorem dX2_bestSun_58 : decode cX2_bestSun 58 = .ok (.iinc 3 1, 3) := by decide +kernel
theorem dX2_bestSun_61 : decode cX2_bestSun 61 = .ok (.iinc 4 1, 3) := by decide +kernel
theorem dX2_bestSun_64 : decode cX2_bestSun 64 = .ok (.goto (-42), 3) := by decide +kernel
theorem dX2_bestSun_67 : decode cX2_bestSun 67 = .ok (.iload_n 3, 1) := by decide +kernel
theorem dX2_bestSun_68 : decode cX2_bestSun 68 = .ok (.iload_n 2, 1) := by decide +kernel
theorem dX2_bestSun_69 : decode cX2_bestSun 69 = .ok (.if_icmp .le 7, 3) := by decide +kernel
theorem dX2_bestSun_72 : decode cX2_bestSun 72 = .ok (.iconst 1, 1) := by decide +kernel
theorem dX2_bestSun_73 : decode cX2_bestSun 73 = .ok (.goto 4, 3) := by decide +kernel
theorem dX2_bestSun_76 : decode cX2_bestSun 76 = .ok (.iconst 0, 1) := by decide +kernel
theorem dX2_bestSun_77 : decode cX2_bestSun 77 = .ok (.ireturn, 1) := by decide +kernel
theorem dX3_init_0 : decode cX3_init 0 = .ok (.aload_n 0, 1) := by decide +kernel
theorem dX3_init_1 : decode cX3_init 1 = .ok (.invokespecial 3, 3) := by decide +kernel
theorem dX3_init_4 : decode cX3_init 4 = .ok (.aload_n 0, 1) := by decide +kernel
theorem dX3_init_5 : decode cX3_init 5 = .ok (.aload_n 1, 1) := by decide +kernel
theorem dX3_init_6 : decode cX3_init 6 = .ok (.putfield 9, 3) := by decide +kernel
theorem dX3_init_9 : decode cX3_init 9 = .ok (.aload_n 0, 1) := by decide +kernel
theorem dX3_init_10 : decode cX3_init 10 = .ok (.aload_n 2, 1) := by decide +kernel
theorem dX3_init_11 : decode cX3_init 11 = .ok (.putfield 15, 3) := by decide +kernel
theorem dX3_init_14 : decode cX3_init 14 = .ok (.return_, 1) := by decide +kernel
theorem dX3_yardsIn_0 : decode cX3_yardsIn 0 = .ok (.iconst 0, 1) := by decide +kernel
theorem dX3_yardsIn_1 : decode cX3_yardsIn 1 = .ok (.istore_n 3, 1) := by decide +kernel
theorem dX3_yardsIn_2 : decode cX3_yardsIn 2 = .ok (.iconst 0, 1) := by decide +kernel
theorem dX3_yardsIn_3 : decode cX3_yardsIn 3 = .ok (.istore 4, 2) := by decide +kernel
theorem dX3_yardsIn_5 : decode cX3_yardsIn 5 = .ok (.iload 4, 2) := by decide +kernel
theorem dX3_yardsIn_7 : decode cX3_yardsIn 7 = .ok (.bipush 8, 2) := by decide +kernel
theorem dX3_yardsIn_9 : decode cX3_yardsIn 9 = .ok (.if_icmp .ge 44, 3) := by decide +kernel
theorem dX3_yardsIn_12 : decode cX3_yardsIn 12 = .ok (.aload_n 0, 1) := by decide +kernel
theorem dX3_yardsIn_13 : decode cX3_yardsIn 13 = .ok (.getfield 9, 3) := by decide +kernel
theorem dX3_yardsIn_16 : decode cX3_yardsIn 16 = .ok (.iload 4, 2) := by decide +kernel
theorem dX3_yardsIn_18 : decode cX3_yardsIn 18 = .ok (.invokevirtual 19, 3) := by decide +kernel
theorem dX3_yardsIn_21 : decode cX3_yardsIn 21 = .ok (.ifCond .eq 26, 3) := by decide +kernel
theorem dX3_yardsIn_24 : decode cX3_yardsIn 24 = .ok (.aload_n 0, 1) := by decide +kernel
theorem dX3_yardsIn_25 : decode cX3_yardsIn 25 = .ok (.iload 4, 2) := by decide +kernel
theorem dX3_yardsIn_27 : decode cX3_yardsIn 27 = .ok (.iload_n 1, 1) := by decide +kernel
theorem dX3_yardsIn_28 : decode cX3_yardsIn 28 = .ok (.iload_n 2, 1) := by decide +kernel
theorem dX3_yardsIn_29 : decode cX3_yardsIn 29 = .ok (.invokevirtual 25, 3) := by decide +kernel
theorem dX3_yardsIn_32 : decode cX3_yardsIn 32 = .ok (.ifCond .eq 15, 3) := by decide +kernel
theorem dX3_yardsIn_35 : decode cX3_yardsIn 35 = .ok (.iload_n 3, 1) := by decide +kernel
theorem dX3_yardsIn_36 : decode cX3_yardsIn 36 = .ok (.aload_n 0, 1) := by decide +kernel
theorem dX3_yardsIn_37 : decode cX3_yardsIn 37 = .ok (.getfield 9, 3) := by decide +kernel
theorem dX3_yardsIn_40 : decode cX3_yardsIn 40 = .ok (.iload 4, 2) := by decide +kernel
theorem dX3_yardsIn_42 : decode cX3_yardsIn 42 = .ok (.invokevirtual 29, 3) := by decide +kernel
theorem dX3_yardsIn_45 : decode cX3_yardsIn 45 = .ok (.iadd, 1) := by decide +kernel
theorem dX3_yardsIn_46 : decode cX3_yardsIn 46 = .ok (.istore_n 3, 1) := by decide +kernel
theorem dX3_yardsIn_47 : decode cX3_yardsIn 47 = .ok (.iinc 4 1, 3) := by decide +kernel
theorem dX3_yardsIn_50 : decode cX3_yardsIn 50 = .ok (.goto (-45), 3) := by decide +kernel
theorem dX3_yardsIn_53 : decode cX3_yardsIn 53 = .ok (.iload_n 3, 1) := by decide +kernel
theorem dX3_yardsIn_54 : decode cX3_yardsIn 54 = .ok (.ireturn, 1) := by decide +kernel
theorem dX3_isPloughed_0 : decode cX3_isPloughed 0 = .ok (.iload_n 3, 1) := by decide +kernel
theorem dX3_isPloughed_1 : decode cX3_isPloughed 1 = .ok (.iconst 1, 1) := by decide +kernel
theorem dX3_isPloughed_2 : decode cX3_isPloughed 2 = .ok (.if_icmp .ne 14, 3) := by decide +kernel
theorem dX3_isPloughed_5 : decode cX3_isPloughed 5 = .ok (.aload_n 0, 1) := by decide +kernel
theorem dX3_isPloughed_6 : decode cX3_isPloughed 6 = .ok (.getfield 15, 3) := by decide +kernel
theorem dX3_isPloughed_9 : decode cX3_isPloughed 9 = .ok (.iload_n 1, 1) := by decide +kernel
theorem dX3_isPloughed_10 : decode cX3_isPloughed 10 = .ok (.invokevirtual 33, 3) := by decide +kernel
theorem dX3_isPloughed_13 : decode cX3_isPloughed 13 = .ok (.goto 11, 3) := by decide +kernel
theorem dX3_isPloughed_16 : decode cX3_isPloughed 16 = .ok (.aload_n 0, 1) := by decide +kernel
theorem dX3_isPloughed_17 : decode cX3_isPloughed 17 = .ok (.getfield 15, 3) := by decide +kernel
theorem dX3_isPloughed_20 : decode cX3_isPloughed 20 = .ok (.iload_n 1, 1) := by decide +kernel
theorem dX3_isPloughed_21 : decode cX3_isPloughed 21 = .ok (.invokevirtual 38, 3) := by decide +kernel
theorem dX3_isPloughed_24 : decode cX3_isPloughed 24 = .ok (.istore 4, 2) := by decide +kernel
theorem dX3_isPloughed_26 : decode cX3_isPloughed 26 = .ok (.iload 4, 2) := by decide +kernel
theorem dX3_isPloughed_28 : decode cX3_isPloughed 28 = .ok (.iload_n 2, 1) := by decide +kernel
theorem dX3_isPloughed_29 : decode cX3_isPloughed 29 = .ok (.if_icmp .gt 17, 3) := by decide +kernel
theorem dX3_isPloughed_32 : decode cX3_isPloughed 32 = .ok (.iload_n 2, 1) := by decide +kernel
theorem dX3_isPloughed_33 : decode cX3_isPloughed 33 = .ok (.aload_n 0, 1) := by decide +kernel
theorem dX3_isPloughed_34 : decode cX3_isPloughed 34 = .ok (.iload_n 1, 1) := by decide +kernel
theorem dX3_isPloughed_35 : decode cX3_isPloughed 35 = .ok (.iload_n 3, 1) := by decide +kernel
theorem dX3_isPloughed_36 : decode cX3_isPloughed 36 = .ok (.invokevirtual 41, 3) := by decide +kernel
theorem dX3_isPloughed_39 : decode cX3_isPloughed 39 = .ok (.if_icmp .ge 7, 3) := by decide +kernel
theorem dX3_isPloughed_42 : decode cX3_isPloughed 42 = .ok (.iconst 1, 1) := by decide +kernel
theorem dX3_isPloughed_43 : decode cX3_isPloughed 43 = .ok (.goto 4, 3) := by decide +kernel
theorem dX3_isPloughed_46 : decode cX3_isPloughed 46 = .ok (.iconst 0, 1) := by decide +kernel
theorem dX3_isPloughed_47 : decode cX3_isPloughed 47 = .ok (.ireturn, 1) := by decide +kernel
theorem dX3_yearOfLoss_0 : decode cX3_yearOfLoss 0 = .ok (.sipush 2001, 3) := by decide +kernel
theorem dX3_yearOfLoss_3 : decode cX3_yearOfLoss 3 = .ok (.istore_n 3, 1) := by decide +kernel
theorem dX3_yearOfLoss_4 : decode cX3_yearOfLoss 4 = .ok (.bipush 8, 2) := by decide +kernel
theorem dX3_yearOfLoss_6 : decode cX3_yearOfLoss 6 = .ok (.istore 4, 2) := by decide +kernel
theorem dX3_yearOfLoss_8 : decode cX3_yearOfLoss 8 = .ok (.iload 4, 2) := by decide +kernel
theorem dX3_yearOfLoss_10 : decode cX3_yearOfLoss 10 = .ok (.bipush 14, 2) := by decide +kernel
theorem dX3_yearOfLoss_12 : decode cX3_yearOfLoss 12 = .ok (.if_icmp .ge 56, 3) := by decide +kernel
theorem dX3_yearOfLoss_15 : decode cX3_yearOfLoss 15 = .ok (.aload_n 0, 1) := by decide +kernel
theorem dX3_yearOfLoss_16 : decode cX3_yearOfLoss 16 = .ok (.getfield 9, 3) := by decide +kernel
theorem dX3_yearOfLoss_19 : decode cX3_yearOfLoss 19 = .ok (.iload 4, 2) := by decide +kernel
theorem dX3_yearOfLoss_21 : decode cX3_yearOfLoss 21 = .ok (.invokevirtual 45, 3) := by decide +kernel
theorem dX3_yearOfLoss_24 : decode cX3_yearOfLoss 24 = .ok (.iload_n 1, 1) := by decide +kernel
theorem dX3_yearOfLoss_25 : decode cX3_yearOfLoss 25 = .ok (.invokestatic 48, 3) := by decide +kernel
theorem dX3_yearOfLoss_28 : decode cX3_yearOfLoss 28 = .ok (.ifCond .eq 34, 3) := by decide +kernel
theorem dX3_yearOfLoss_31 : decode cX3_yearOfLoss 31 = .ok (.iload_n 3, 1) := by decide +kernel
theorem dX3_yearOfLoss_32 : decode cX3_yearOfLoss 32 = .ok (.iload_n 2, 1) := by decide +kernel
theorem dX3_yearOfLoss_33 : decode cX3_yearOfLoss 33 = .ok (.iconst 1, 1) := by decide +kernel
theorem dX3_yearOfLoss_34 : decode cX3_yearOfLoss 34 = .ok (.if_icmp .ne 15, 3) := by decide +kernel
theorem dX3_yearOfLoss_37 : decode cX3_yearOfLoss 37 = .ok (.aload_n 0, 1) := by decide +kernel
theorem dX3_yearOfLoss_38 : decode cX3_yearOfLoss 38 = .ok (.getfield 15, 3) := by decide +kernel
theorem dX3_yearOfLoss_41 : decode cX3_yearOfLoss 41 = .ok (.iload 4, 2) := by decide +kernel
theorem dX3_yearOfLoss_43 : decode cX3_yearOfLoss 43 = .ok (.invokevirtual 38, 3) := by decide +kernel
theorem dX3_yearOfLoss_46 : decode cX3_yearOfLoss 46 = .ok (.goto 12, 3) := by decide +kernel
theorem dX3_yearOfLoss_49 : decode cX3_yearOfLoss 49 = .ok (.aload_n 0, 1) := by decide +kernel
theorem dX3_yearOfLoss_50 : decode cX3_yearOfLoss 50 = .ok (.getfield 15, 3) := by decide +kernel
theorem dX3_yearOfLoss_53 : decode cX3_yearOfLoss 53 = .ok (.iload 4, 2) := by decide +kernel
theorem dX3_yearOfLoss_55 : decode cX3_yearOfLoss 55 = .ok (.invokevirtual 33, 3) := by decide +kernel
theorem dX3_yearOfLoss_58 : decode cX3_yearOfLoss 58 = .ok (.invokestatic 52, 3) := by decide +kernel
theorem dX3_yearOfLoss_61 : decode cX3_yearOfLoss 61 = .ok (.istore_n 3, 1) := by decide +kernel
theorem dX3_yearOfLoss_62 : decode cX3_yearOfLoss 62 = .ok (.iinc 4 1, 3) := by decide +kernel
theorem dX3_yearOfLoss_65 : decode cX3_yearOfLoss 65 = .ok (.goto (-57), 3) := by decide +kernel
theorem dX3_yearOfLoss_68 : decode cX3_yearOfLoss 68 = .ok (.iload_n 3, 1) := by decide +kernel
theorem dX3_yearOfLoss_69 : decode cX3_yearOfLoss 69 = .ok (.ireturn, 1) := by decide +kernel
theorem dX3_yearOfMost_0 : decode cX3_yearOfMost 0 = .ok (.iconst 0, 1) := by decide +kernel
theorem dX3_yearOfMost_1 : decode cX3_yearOfMost 1 = .ok (.istore_n 1, 1) := by decide +kernel
theorem dX3_yearOfMost_2 : decode cX3_yearOfMost 2 = .ok (.aload_n 0, 1) := by decide +kernel
theorem dX3_yearOfMost_3 : decode cX3_yearOfMost 3 = .ok (.iconst 0, 1) := by decide +kernel
theorem dX3_yearOfMost_4 : decode cX3_yearOfMost 4 = .ok (.iconst 1, 1) := by decide +kernel
theorem dX3_yearOfMost_5 : decode cX3_yearOfMost 5 = .ok (.invokevirtual 57, 3) := by decide +kernel
theorem dX3_yearOfMost_8 : decode cX3_yearOfMost 8 = .ok (.istore_n 2, 1) := by decide +kernel
theorem dX3_yearOfMost_9 : decode cX3_yearOfMost 9 = .ok (.iconst 0, 1) := by decide +kernel
theorem dX3_yearOfMost_10 : decode cX3_yearOfMost 10 = .ok (.istore_n 3, 1) := by decide +kernel
theorem dX3_yearOfMost_11 : decode cX3_yearOfMost 11 = .ok (.iload_n 3, 1) := by decide +kernel
theorem dX3_yearOfMost_12 : decode cX3_yearOfMost 12 = .ok (.bipush 8, 2) := by decide +kernel
theorem dX3_yearOfMost_14 : decode cX3_yearOfMost 14 = .ok (.if_icmp .ge 63, 3) := by decide +kernel
theorem dX3_yearOfMost_17 : decode cX3_yearOfMost 17 = .ok (.aload_n 0, 1) := by decide +kernel
theorem dX3_yearOfMost_18 : decode cX3_yearOfMost 18 = .ok (.getfield 9, 3) := by decide +kernel
theorem dX3_yearOfMost_21 : decode cX3_yearOfMost 21 = .ok (.iload_n 3, 1) := by decide +kernel
theorem dX3_yearOfMost_22 : decode cX3_yearOfMost 22 = .ok (.invokevirtual 19, 3) := by decide +kernel
theorem dX3_yearOfMost_25 : decode cX3_yearOfMost 25 = .ok (.ifCond .eq 46, 3) := by decide +kernel
theorem dX3_yearOfMost_28 : decode cX3_yearOfMost 28 = .ok (.aload_n 0, 1) := by decide +kernel
theorem dX3_yearOfMost_29 : decode cX3_yearOfMost 29 = .ok (.getfield 15, 3) := by decide +kernel
theorem dX3_yearOfMost_32 : decode cX3_yearOfMost 32 = .ok (.iload_n 3, 1) := by decide +kernel
theorem dX3_yearOfMost_33 : decode cX3_yearOfMost 33 = .ok (.invokevirtual 33, 3) := by decide +kernel
theorem dX3_yearOfMost_36 : decode cX3_yearOfMost 36 = .ok (.istore 4, 2) := by decide +kernel
theorem dX3_yearOfMost_38 : decode cX3_yearOfMost 38 = .ok (.aload_n 0, 1) := by decide +kernel
theorem dX3_yearOfMost_39 : decode cX3_yearOfMost 39 = .ok (.iload 4, 2) := by decide +kernel
theorem dX3_yearOfMost_41 : decode cX3_yearOfMost 41 = .ok (.iconst 1, 1) := by decide +kernel
theorem dX3_yearOfMost_42 : decode cX3_yearOfMost 42 = .ok (.invokevirtual 57, 3) := by decide +kernel
theorem dX3_yearOfMost_45 : decode cX3_yearOfMost 45 = .ok (.istore 5, 2) := by decide +kernel
theorem dX3_yearOfMost_47 : decode cX3_yearOfMost 47 = .ok (.iload 5, 2) := by decide +kernel
theorem dX3_yearOfMost_49 : decode cX3_yearOfMost 49 = .ok (.iload_n 2, 1) := by decide +kernel
theorem dX3_yearOfMost_50 : decode cX3_yearOfMost 50 = .ok (.if_icmp .gt 15, 3) := by decide +kernel
theorem dX3_yearOfMost_53 : decode cX3_yearOfMost 53 = .ok (.iload 5, 2) := by decide +kernel
theorem dX3_yearOfMost_55 : decode cX3_yearOfMost 55 = .ok (.iload_n 2, 1) := by decide +kernel
theorem dX3_yearOfMost_56 : decode cX3_yearOfMost 56 = .ok (.if_icmp .ne 15, 3) := by decide +kernel
theorem dX3_yearOfMost_59 : decode cX3_yearOfMost 59 = .ok (.iload 4, 2) := by decide +kernel
theorem dX3_yearOfMost_61 : decode cX3_yearOfMost 61 = .ok (.iload_n 1, 1) := by decide +kernel
theorem dX3_yearOfMost_62 : decode cX3_yearOfMost 62 = .ok (.if_icmp .ge 9, 3) := by decide +kernel
theorem dX3_yearOfMost_65 : decode cX3_yearOfMost 65 = .ok (.iload 4, 2) := by decide +kernel
theorem dX3_yearOfMost_67 : decode cX3_yearOfMost 67 = .ok (.istore_n 1, 1) := by decide +kernel
theorem dX3_yearOfMost_68 : decode cX3_yearOfMost 68 = .ok (.iload 5, 2) := by decide +kernel
theorem dX3_yearOfMost_70 : decode cX3_yearOfMost 70 = .ok (.istore_n 2, 1) := by decide +kernel
theorem dX3_yearOfMost_71 : decode cX3_yearOfMost 71 = .ok (.iinc 3 1, 3) := by decide +kernel
theorem dX3_yearOfMost_74 : decode cX3_yearOfMost 74 = .ok (.goto (-63), 3) := by decide +kernel
theorem dX3_yearOfMost_77 : decode cX3_yearOfMost 77 = .ok (.iload_n 1, 1) := by decide +kernel
theorem dX3_yearOfMost_78 : decode cX3_yearOfMost 78 = .ok (.ireturn, 1) := by decide +kernel
theorem dX4_init_0 : decode cX4_init 0 = .ok (.aload_n 0, 1) := by decide +kernel
theorem dX4_init_1 : decode cX4_init 1 = .ok (.invokespecial 5, 3) := by decide +kernel
theorem dX4_init_4 : decode cX4_init 4 = .ok (.aload_n 0, 1) := by decide +kernel
theorem dX4_init_5 : decode cX4_init 5 = .ok (.bipush 88, 2) := by decide +kernel
theorem dX4_init_7 : decode cX4_init 7 = .ok (.newarray .int, 2) := by decide +kernel
theorem dX4_init_9 : decode cX4_init 9 = .ok (.putfield 11, 3) := by decide +kernel
theorem dX4_init_12 : decode cX4_init 12 = .ok (.aload_n 0, 1) := by decide +kernel
theorem dX4_init_13 : decode cX4_init 13 = .ok (.aload_n 1, 1) := by decide +kernel
theorem dX4_init_14 : decode cX4_init 14 = .ok (.putfield 15, 3) := by decide +kernel
theorem dX4_init_17 : decode cX4_init 17 = .ok (.return_, 1) := by decide +kernel
theorem dX4_firstFault_0 : decode cX4_firstFault 0 = .ok (.aload_n 0, 1) := by decide +kernel
theorem dX4_firstFault_1 : decode cX4_firstFault 1 = .ok (.iconst 0, 1) := by decide +kernel
theorem dX4_firstFault_2 : decode cX4_firstFault 2 = .ok (.putfield 19, 3) := by decide +kernel
theorem dX4_firstFault_5 : decode cX4_firstFault 5 = .ok (.aload_n 0, 1) := by decide +kernel
theorem dX4_firstFault_6 : decode cX4_firstFault 6 = .ok (.iconst 0, 1) := by decide +kernel
theorem dX4_firstFault_7 : decode cX4_firstFault 7 = .ok (.putfield 23, 3) := by decide +kernel
theorem dX4_firstFault_10 : decode cX4_firstFault 10 = .ok (.iconst 0, 1) := by decide +kernel
theorem dX4_firstFault_11 : decode cX4_firstFault 11 = .ok (.istore_n 1, 1) := by decide +kernel
theorem dX4_firstFault_12 : decode cX4_firstFault 12 = .ok (.iload_n 1, 1) := by decide +kernel
theorem dX4_firstFault_13 : decode cX4_firstFault 13 = .ok (.bipush 8, 2) := by decide +kernel
theorem dX4_firstFault_15 : decode cX4_firstFault 15 = .ok (.if_icmp .ge 63, 3) := by decide +kernel
theorem dX4_firstFault_18 : decode cX4_firstFault 18 = .ok (.aload_n 0, 1) := by decide +kernel
theorem dX4_firstFault_19 : decode cX4_firstFault 19 = .ok (.iload_n 1, 1) := by decide +kernel
theorem dX4_firstFault_20 : decode cX4_firstFault 20 = .ok (.invokevirtual 26, 3) := by decide +kernel
theorem dX4_firstFault_23 : decode cX4_firstFault 23 = .ok (.ifCond .ne 8, 3) := by decide +kernel
theorem dX4_firstFault_26 : decode cX4_firstFault 26 = .ok (.aload_n 0, 1) := by decide +kernel
theorem dX4_firstFault_27 : decode cX4_firstFault 27 = .ok (.getfield 30, 3) := by decide +kernel
theorem dX4_firstFault_30 : decode cX4_firstFault 30 = .ok (.ireturn, 1) := by decide +kernel
theorem dX4_firstFault_31 : decode cX4_firstFault 31 = .ok (.aload_n 0, 1) := by decide +kernel
theorem dX4_firstFault_32 : decode cX4_firstFault 32 = .ok (.iload_n 1, 1) := by decide +kernel
theorem dX4_firstFault_33 : decode cX4_firstFault 33 = .ok (.iconst 1, 1) := by decide +kernel
theorem dX4_firstFault_34 : decode cX4_firstFault 34 = .ok (.iadd, 1) := by decide +kernel
theorem dX4_firstFault_35 : decode cX4_firstFault 35 = .ok (.putfield 19, 3) := by decide +kernel
theorem dX4_firstFault_38 : decode cX4_firstFault 38 = .ok (.aload_n 0, 1) := by decide +kernel
theorem dX4_firstFault_39 : decode cX4_firstFault 39 = .ok (.invokevirtual 33, 3) := by decide +kernel
theorem dX4_firstFault_42 : decode cX4_firstFault 42 = .ok (.aload_n 0, 1) := by decide +kernel
theorem dX4_firstFault_43 : decode cX4_firstFault 43 = .ok (.getfield 30, 3) := by decide +kernel
theorem dX4_firstFault_46 : decode cX4_firstFault 46 = .ok (.aload_n 0, 1) := by decide +kernel
theorem dX4_firstFault_47 : decode cX4_firstFault 47 = .ok (.getfield 15, 3) := by decide +kernel
theorem dX4_firstFault_50 : decode cX4_firstFault 50 = .ok (.getfield 36, 3) := by decide +kernel
theorem dX4_firstFault_53 : decode cX4_firstFault 53 = .ok (.if_icmp .ne 5, 3) := by decide +kernel
theorem dX4_firstFault_56 : decode cX4_firstFault 56 = .ok (.iconst (-1), 1) := by decide +kernel
theorem dX4_firstFault_57 : decode cX4_firstFault 57 = .ok (.ireturn, 1) := by decide +kernel
theorem dX4_firstFault_58 : decode cX4_firstFault 58 = .ok (.aload_n 0, 1) := by decide +kernel
theorem dX4_firstFault_59 : decode cX4_firstFault 59 = .ok (.ldc 41, 2) := by decide +kernel
theorem dX4_firstFault_61 : decode cX4_firstFault 61 = .ok (.invokevirtual 43, 3) := by decide +kernel
theorem dX4_firstFault_64 : decode cX4_firstFault 64 = .ok (.ifCond .ne 8, 3) := by decide +kernel
theorem dX4_firstFault_67 : decode cX4_firstFault 67 = .ok (.aload_n 0, 1) := by decide +kernel
theorem dX4_firstFault_68 : decode cX4_firstFault 68 = .ok (.getfield 30, 3) := by decide +kernel
theorem dX4_firstFault_71 : decode cX4_firstFault 71 = .ok (.ireturn, 1) := by decide +kernel
theorem dX4_firstFault_72 : decode cX4_firstFault 72 = .ok (.iinc 1 1, 3) := by decide +kernel
theorem dX4_firstFault_75 : decode cX4_firstFault 75 = .ok (.goto (-63), 3) := by decide +kernel
theorem dX4_firstFault_78 : decode cX4_firstFault 78 = .ok (.aload_n 0, 1) := by decide +kernel
theorem dX4_firstFault_79 : decode cX4_firstFault 79 = .ok (.getfield 30, 3) := by decide +kernel
theorem dX4_firstFault_82 : decode cX4_firstFault 82 = .ok (.ireturn, 1) := by decide +kernel
theorem dX4_kindOf_0 : decode cX4_kindOf 0 = .ok (.aload_n 0, 1) := by decide +kernel
theorem dX4_kindOf_1 : decode cX4_kindOf 1 = .ok (.getfield 11, 3) := by decide +kernel
theorem dX4_kindOf_4 : decode cX4_kindOf 4 = .ok (.iload_n 1, 1) := by decide +kernel
theorem dX4_kindOf_5 : decode cX4_kindOf 5 = .ok (.bipush 11, 2) := by decide +kernel
theorem dX4_kindOf_7 : decode cX4_kindOf 7 = .ok (.imul, 1) := by decide +kernel
theorem dX4_kindOf_8 : decode cX4_kindOf 8 = .ok (.invokestatic 47, 3) := by decide +kernel
theorem dX4_kindOf_11 : decode cX4_kindOf 11 = .ok (.ireturn, 1) := by decide +kernel
theorem dX4_number_0 : decode cX4_number 0 = .ok (.aload_n 0, 1) := by decide +kernel
theorem dX4_number_1 : decode cX4_number 1 = .ok (.getfield 11, 3) := by decide +kernel
theorem dX4_number_4 : decode cX4_number 4 = .ok (.iload_n 1, 1) := by decide +kernel
theorem dX4_number_5 : decode cX4_number 5 = .ok (.bipush 11, 2) := by decide +kernel
theorem dX4_number_7 : decode cX4_number 7 = .ok (.imul, 1) := by decide +kernel
theorem dX4_number_8 : decode cX4_number 8 = .ok (.iconst 1, 1) := by decide +kernel
theorem dX4_number_9 : decode cX4_number 9 = .ok (.iadd, 1) := by decide +kernel
theorem dX4_number_10 : decode cX4_number 10 = .ok (.iload_n 2, 1) := by decide +kernel
theorem dX4_number_11 : decode cX4_number 11 = .ok (.iadd, 1) := by decide +kernel
theorem dX4_number_12 : decode cX4_number 12 = .ok (.invokestatic 47, 3) := by decide +kernel
theorem dX4_number_15 : decode cX4_number 15 = .ok (.ireturn, 1) := by decide +kernel
theorem dX4_readLine_0 : decode cX4_readLine 0 = .ok (.aload_n 0, 1) := by decide +kernel
theorem dX4_readLine_1 : decode cX4_readLine 1 = .ok (.invokevirtual 33, 3) := by decide +kernel
theorem dX4_readLine_4 : decode cX4_readLine 4 = .ok (.aload_n 0, 1) := by decide +kernel
theorem dX4_readLine_5 : decode cX4_readLine 5 = .ok (.invokevirtual 51, 3) := by decide +kernel
theorem dX4_readLine_8 : decode cX4_readLine 8 = .ok (.istore_n 2, 1) := by decide +kernel
theorem dX4_readLine_9 : decode cX4_readLine 9 = .ok (.iload_n 2, 1) := by decide +kernel
theorem dX4_readLine_10 : decode cX4_readLine 10 = .ok (.iconst (-1), 1) := by decide +kernel
theorem dX4_readLine_11 : decode cX4_readLine 11 = .ok (.if_icmp .ne 5, 3) := by decide +kernel
theorem dX4_readLine_14 : decode cX4_readLine 14 = .ok (.iconst 0, 1) := by decide +kernel
theorem dX4_readLine_15 : decode cX4_readLine 15 = .ok (.ireturn, 1) := by decide +kernel
theorem dX4_readLine_16 : decode cX4_readLine 16 = .ok (.aload_n 0, 1) := by decide +kernel
theorem dX4_readLine_17 : decode cX4_readLine 17 = .ok (.getfield 11, 3) := by decide +kernel
theorem dX4_readLine_20 : decode cX4_readLine 20 = .ok (.iload_n 1, 1) := by decide +kernel
theorem dX4_readLine_21 : decode cX4_readLine 21 = .ok (.bipush 11, 2) := by decide +kernel
theorem dX4_readLine_23 : decode cX4_readLine 23 = .ok (.imul, 1) := by decide +kernel
theorem dX4_readLine_24 : decode cX4_readLine 24 = .ok (.iload_n 2, 1) := by decide +kernel
theorem dX4_readLine_25 : decode cX4_readLine 25 = .ok (.invokestatic 55, 3) := by decide +kernel
theorem dX4_readLine_28 : decode cX4_readLine 28 = .ok (.getstatic 59, 3) := by decide +kernel
theorem dX4_readLine_31 : decode cX4_readLine 31 = .ok (.iload_n 2, 1) := by decide +kernel
theorem dX4_readLine_32 : decode cX4_readLine 32 = .ok (.invokestatic 47, 3) := by decide +kernel
theorem dX4_readLine_35 : decode cX4_readLine 35 = .ok (.istore_n 3, 1) := by decide +kernel
theorem dX4_readLine_36 : decode cX4_readLine 36 = .ok (.getstatic 59, 3) := by decide +kernel
theorem dX4_readLine_39 : decode cX4_readLine 39 = .ok (.iload_n 2, 1) := by decide +kernel
theorem dX4_readLine_40 : decode cX4_readLine 40 = .ok (.iconst 1, 1) := by decide +kernel
theorem dX4_readLine_41 : decode cX4_readLine 41 = .ok (.iadd, 1) := by decide +kernel
theorem dX4_readLine_42 : decode cX4_readLine 42 = .ok (.invokestatic 47, 3) := by decide +kernel
theorem dX4_readLine_45 : decode cX4_readLine 45 = .ok (.iload_n 3, 1) := by decide +kernel
theorem dX4_readLine_46 : decode cX4_readLine 46 = .ok (.isub, 1) := by decide +kernel
theorem dX4_readLine_47 : decode cX4_readLine 47 = .ok (.istore 4, 2) := by decide +kernel
theorem dX4_readLine_49 : decode cX4_readLine 49 = .ok (.iconst (-1), 1) := by decide +kernel
theorem dX4_readLine_50 : decode cX4_readLine 50 = .ok (.istore 5, 2) := by decide +kernel
theorem dX4_readLine_52 : decode cX4_readLine 52 = .ok (.iconst 0, 1) := by decide +kernel
theorem dX4_readLine_53 : decode cX4_readLine 53 = .ok (.istore 6, 2) := by decide +kernel
theorem dX4_readLine_55 : decode cX4_readLine 55 = .ok (.iload 6, 2) := by decide +kernel
theorem dX4_readLine_57 : decode cX4_readLine 57 = .ok (.iload 4, 2) := by decide +kernel
theorem dX4_readLine_59 : decode cX4_readLine 59 = .ok (.if_icmp .ge 51, 3) := by decide +kernel
theorem dX4_readLine_62 : decode cX4_readLine 62 = .ok (.aload_n 0, 1) := by decide +kernel
theorem dX4_readLine_63 : decode cX4_readLine 63 = .ok (.invokevirtual 33, 3) := by decide +kernel
theorem dX4_readLine_66 : decode cX4_readLine 66 = .ok (.aload_n 0, 1) := by decide +kernel
theorem dX4_readLine_67 : decode cX4_readLine 67 = .ok (.iload_n 3, 1) := by decide +kernel
theorem dX4_readLine_68 : decode cX4_readLine 68 = .ok (.iload 6, 2) := by decide +kernel
theorem dX4_readLine_70 : decode cX4_readLine 70 = .ok (.iadd, 1) := by decide +kernel
theorem dX4_readLine_71 : decode cX4_readLine 71 = .ok (.iload 5, 2) := by decide +kernel
theorem dX4_readLine_73 : decode cX4_readLine 73 = .ok (.invokevirtual 62, 3) := by decide +kernel
theorem dX4_readLine_76 : decode cX4_readLine 76 = .ok (.istore 5, 2) := by decide +kernel
theorem dX4_readLine_78 : decode cX4_readLine 78 = .ok (.iload 5, 2) := by decide +kernel
theorem dX4_readLine_80 : decode cX4_readLine 80 = .ok (.iconst (-1), 1) := by decide +kernel
theorem dX4_readLine_81 : decode cX4_readLine 81 = .ok (.if_icmp .ne 5, 3) := by decide +kernel
theorem dX4_readLine_84 : decode cX4_readLine 84 = .ok (.iconst 0, 1) := by decide +kernel
theorem dX4_readLine_85 : decode cX4_readLine 85 = .ok (.ireturn, 1) := by decide +kernel
theorem dX4_readLine_86 : decode cX4_readLine 86 = .ok (.aload_n 0, 1) := by decide +kernel
theorem dX4_readLine_87 : decode cX4_readLine 87 = .ok (.getfield 11, 3) := by decide +kernel
theorem dX4_readLine_90 : decode cX4_readLine 90 = .ok (.iload_n 1, 1) := by decide +kernel
theorem dX4_readLine_91 : decode cX4_readLine 91 = .ok (.bipush 11, 2) := by decide +kernel
theorem dX4_readLine_93 : decode cX4_readLine 93 = .ok (.imul, 1) := by decide +kernel
theorem dX4_readLine_94 : decode cX4_readLine 94 = .ok (.iconst 1, 1) := by decide +kernel
theorem dX4_readLine_95 : decode cX4_readLine 95 = .ok (.iadd, 1) := by decide +kernel
theorem dX4_readLine_96 : decode cX4_readLine 96 = .ok (.iload 6, 2) := by decide +kernel
theorem dX4_readLine_98 : decode cX4_readLine 98 = .ok (.iadd, 1) := by decide +kernel
theorem dX4_readLine_99 : decode cX4_readLine 99 = .ok (.iload 5, 2) := by decide +kernel
theorem dX4_readLine_101 : decode cX4_readLine 101 = .ok (.invokestatic 55, 3) := by decide +kernel
theorem dX4_readLine_104 : decode cX4_readLine 104 = .ok (.iinc 6 1, 3) := by decide +kernel
theorem dX4_readLine_107 : decode cX4_readLine 107 = .ok (.goto (-52), 3) := by decide +kernel
theorem dX4_readLine_110 : decode cX4_readLine 110 = .ok (.iconst 1, 1) := by decide +kernel
theorem dX4_readLine_111 : decode cX4_readLine 111 = .ok (.ireturn, 1) := by decide +kernel
theorem dX4_takeToken_0 : decode cX4_takeToken 0 = .ok (.aload_n 0, 1) := by decide +kernel
theorem dX4_takeToken_1 : decode cX4_takeToken 1 = .ok (.aload_n 0, 1) := by decide +kernel
theorem dX4_takeToken_2 : decode cX4_takeToken 2 = .ok (.getfield 23, 3) := by decide +kernel
theorem dX4_takeToken_5 : decode cX4_takeToken 5 = .ok (.putfield 30, 3) := by decide +kernel
theorem dX4_takeToken_8 : decode cX4_takeToken 8 = .ok (.aload_n 0, 1) := by decide +kernel
theorem dX4_takeToken_9 : decode cX4_takeToken 9 = .ok (.getfield 30, 3) := by decide +kernel
theorem dX4_takeToken_12 : decode cX4_takeToken 12 = .ok (.aload_n 0, 1) := by decide +kernel
theorem dX4_takeToken_13 : decode cX4_takeToken 13 = .ok (.getfield 15, 3) := by decide +kernel
theorem dX4_takeToken_16 : decode cX4_takeToken 16 = .ok (.getfield 36, 3) := by decide +kernel
theorem dX4_takeToken_19 : decode cX4_takeToken 19 = .ok (.if_icmp .ge 35, 3) := by decide +kernel
theorem dX4_takeToken_22 : decode cX4_takeToken 22 = .ok (.aload_n 0, 1) := by decide +kernel
theorem dX4_takeToken_23 : decode cX4_takeToken 23 = .ok (.getfield 15, 3) := by decide +kernel
theorem dX4_takeToken_26 : decode cX4_takeToken 26 = .ok (.getfield 66, 3) := by decide +kernel
theorem dX4_takeToken_29 : decode cX4_takeToken 29 = .ok (.aload_n 0, 1) := by decide +kernel
theorem dX4_takeToken_30 : decode cX4_takeToken 30 = .ok (.getfield 30, 3) := by decide +kernel
theorem dX4_takeToken_33 : decode cX4_takeToken 33 = .ok (.invokestatic 47, 3) := by decide +kernel
theorem dX4_takeToken_36 : decode cX4_takeToken 36 = .ok (.bipush 32, 2) := by decide +kernel
theorem dX4_takeToken_38 : decode cX4_takeToken 38 = .ok (.if_icmp .ne 16, 3) := by decide +kernel
theorem dX4_takeToken_41 : decode cX4_takeToken 41 = .ok (.aload_n 0, 1) := by decide +kernel
theorem dX4_takeToken_42 : decode cX4_takeToken 42 = .ok (.dup, 1) := by decide +kernel
theorem dX4_takeToken_43 : decode cX4_takeToken 43 = .ok (.getfield 30, 3) := by decide +kernel
theorem dX4_takeToken_46 : decode cX4_takeToken 46 = .ok (.iconst 1, 1) := by decide +kernel
theorem dX4_takeToken_47 : decode cX4_takeToken 47 = .ok (.iadd, 1) := by decide +kernel
theorem dX4_takeToken_48 : decode cX4_takeToken 48 = .ok (.putfield 30, 3) := by decide +kernel
theorem dX4_takeToken_51 : decode cX4_takeToken 51 = .ok (.goto (-43), 3) := by decide +kernel
theorem dX4_takeToken_54 : decode cX4_takeToken 54 = .ok (.aload_n 0, 1) := by decide +kernel
theorem dX4_takeToken_55 : decode cX4_takeToken 55 = .ok (.aload_n 0, 1) := by decide +kernel
theorem dX4_takeToken_56 : decode cX4_takeToken 56 = .ok (.getfield 30, 3) := by decide +kernel
theorem dX4_takeToken_59 : decode cX4_takeToken 59 = .ok (.putfield 23, 3) := by decide +kernel
theorem dX4_takeToken_62 : decode cX4_takeToken 62 = .ok (.aload_n 0, 1) := by decide +kernel
theorem dX4_takeToken_63 : decode cX4_takeToken 63 = .ok (.getfield 30, 3) := by decide +kernel
theorem dX4_takeToken_66 : decode cX4_takeToken 66 = .ok (.aload_n 0, 1) := by decide +kernel
theorem dX4_takeToken_67 : decode cX4_takeToken 67 = .ok (.getfield 15, 3) := by decide +kernel
theorem dX4_takeToken_70 : decode cX4_takeToken 70 = .ok (.getfield 36, 3) := by decide +kernel
theorem dX4_takeToken_73 : decode cX4_takeToken 73 = .ok (.if_icmp .ge 84, 3) := by decide +kernel
theorem dX4_takeToken_76 : decode cX4_takeToken 76 = .ok (.aload_n 0, 1) := by decide +kernel
theorem dX4_takeToken_77 : decode cX4_takeToken 77 = .ok (.getfield 15, 3) := by decide +kernel
theorem dX4_takeToken_80 : decode cX4_takeToken 80 = .ok (.getfield 66, 3) := by decide +kernel
theorem dX4_takeToken_83 : decode cX4_takeToken 83 = .ok (.aload_n 0, 1) := by decide +kernel
theorem dX4_takeToken_84 : decode cX4_takeToken 84 = .ok (.getfield 30, 3) := by decide +kernel
theorem dX4_takeToken_87 : decode cX4_takeToken 87 = .ok (.invokestatic 47, 3) := by decide +kernel
theorem dX4_takeToken_90 : decode cX4_takeToken 90 = .ok (.invokestatic 69, 3) := by decide +kernel
theorem dX4_takeToken_93 : decode cX4_takeToken 93 = .ok (.istore_n 1, 1) := by decide +kernel
theorem dX4_takeToken_94 : decode cX4_takeToken 94 = .ok (.aload_n 0, 1) := by decide +kernel
theorem dX4_takeToken_95 : decode cX4_takeToken 95 = .ok (.aload_n 0, 1) := by decide +kernel
theorem dX4_takeToken_96 : decode cX4_takeToken 96 = .ok (.getfield 30, 3) := by decide +kernel
theorem dX4_takeToken_99 : decode cX4_takeToken 99 = .ok (.iconst 1, 1) := by decide +kernel
theorem dX4_takeToken_100 : decode cX4_takeToken 100 = .ok (.iadd, 1) := by decide +kernel
theorem dX4_takeToken_101 : decode cX4_takeToken 101 = .ok (.putfield 23, 3) := by decide +kernel
theorem dX4_takeToken_104 : decode cX4_takeToken 104 = .ok (.iload_n 1, 1) := by decide +kernel
theorem dX4_takeToken_105 : decode cX4_takeToken 105 = .ok (.iconst 2, 1) := by decide +kernel
theorem dX4_takeToken_106 : decode cX4_takeToken 106 = .ok (.if_icmp .eq 51, 3) := by decide +kernel
theorem dX4_takeToken_109 : decode cX4_takeToken 109 = .ok (.aload_n 0, 1) := by decide +kernel
theorem dX4_takeToken_110 : decode cX4_takeToken 110 = .ok (.getfield 23, 3) := by decide +kernel
theorem dX4_takeToken_113 : decode cX4_takeToken 113 = .ok (.aload_n 0, 1) := by decide +kernel
theorem dX4_takeToken_114 : decode cX4_takeToken 114 = .ok (.getfield 15, 3) := by decide +kernel
theorem dX4_takeToken_117 : decode cX4_takeToken 117 = .ok (.getfield 36, 3) := by decide +kernel
theorem dX4_takeToken_120 : decode cX4_takeToken 120 = .ok (.if_icmp .ge 37, 3) := by decide +kernel
theorem dX4_takeToken_123 : decode cX4_takeToken 123 = .ok (.aload_n 0, 1) := by decide +kernel
theorem dX4_takeToken_124 : decode cX4_takeToken 124 = .ok (.getfield 15, 3) := by decide +kernel
theorem dX4_takeToken_127 : decode cX4_takeToken 127 = .ok (.getfield 66, 3) := by decide +kernel
theorem dX4_takeToken_130 : decode cX4_takeToken 130 = .ok (.aload_n 0, 1) := by decide +kernel
theorem dX4_takeToken_131 : decode cX4_takeToken 131 = .ok (.getfield 23, 3) := by decide +kernel
theorem dX4_takeToken_134 : decode cX4_takeToken 134 = .ok (.invokestatic 47, 3) := by decide +kernel
theorem dX4_takeToken_137 : decode cX4_takeToken 137 = .ok (.invokestatic 69, 3) := by decide +kernel
theorem dX4_takeToken_140 : decode cX4_takeToken 140 = .ok (.iload_n 1, 1) := by decide +kernel
theorem dX4_takeToken_141 : decode cX4_takeToken 141 = .ok (.if_icmp .ne 16, 3) := by decide +kernel
theorem dX4_takeToken_144 : decode cX4_takeToken 144 = .ok (.aload_n 0, 1) := by decide +kernel
theorem dX4_takeToken_145 : decode cX4_takeToken 145 = .ok (.dup, 1) := by decide +kernel
theorem dX4_takeToken_146 : decode cX4_takeToken 146 = .ok (.getfield 23, 3) := by decide +kernel
theorem dX4_takeToken_149 : decode cX4_takeToken 149 = .ok (.iconst 1, 1) := by decide +kernel
theorem dX4_takeToken_150 : decode cX4_takeToken 150 = .ok (.iadd, 1) := by decide +kernel
theorem dX4_takeToken_151 : decode cX4_takeToken 151 = .ok (.putfield 23, 3) := by decide +kernel
theorem dX4_takeToken_154 : decode cX4_takeToken 154 = .ok (.goto (-50), 3) := by decide +kernel
theorem dX4_takeToken_157 : decode cX4_takeToken 157 = .ok (.return_, 1) := by decide +kernel
theorem dX4_sortOf_0 : decode cX4_sortOf 0 = .ok (.iload_n 0, 1) := by decide +kernel
theorem dX4_sortOf_1 : decode cX4_sortOf 1 = .ok (.bipush 97, 2) := by decide +kernel
theorem dX4_sortOf_3 : decode cX4_sortOf 3 = .ok (.bipush 122, 2) := by decide +kernel
theorem dX4_sortOf_5 : decode cX4_sortOf 5 = .ok (.invokestatic 73, 3) := by decide +kernel
theorem dX4_sortOf_8 : decode cX4_sortOf 8 = .ok (.ifCond .eq 5, 3) := by decide +kernel
theorem dX4_sortOf_11 : decode cX4_sortOf 11 = .ok (.iconst 0, 1) := by decide +kernel
theorem dX4_sortOf_12 : decode cX4_sortOf 12 = .ok (.ireturn, 1) := by decide +kernel
theorem dX4_sortOf_13 : decode cX4_sortOf 13 = .ok (.iload_n 0, 1) := by decide +kernel
theorem dX4_sortOf_14 : decode cX4_sortOf 14 = .ok (.bipush 48, 2) := by decide +kernel
theorem dX4_sortOf_16 : decode cX4_sortOf 16 = .ok (.bipush 57, 2) := by decide +kernel
theorem dX4_sortOf_18 : decode cX4_sortOf 18 = .ok (.invokestatic 73, 3) := by decide +kernel
theorem dX4_sortOf_21 : decode cX4_sortOf 21 = .ok (.ifCond .eq 7, 3) := by decide +kernel
theorem dX4_sortOf_24 : decode cX4_sortOf 24 = .ok (.iconst 1, 1) := by decide +kernel
theorem dX4_sortOf_25 : decode cX4_sortOf 25 = .ok (.goto 4, 3) := by decide +kernel
theorem dX4_sortOf_28 : decode cX4_sortOf 28 = .ok (.iconst 2, 1) := by decide +kernel
theorem dX4_sortOf_29 : decode cX4_sortOf 29 = .ok (.ireturn, 1) := by decide +kernel
theorem dX4_kindTold_0 : decode cX4_kindTold 0 = .ok (.iconst 0, 1) := by decide +kernel
theorem dX4_kindTold_1 : decode cX4_kindTold 1 = .ok (.istore_n 1, 1) := by decide +kernel
theorem dX4_kindTold_2 : decode cX4_kindTold 2 = .ok (.iload_n 1, 1) := by decide +kernel
theorem dX4_kindTold_3 : decode cX4_kindTold 3 = .ok (.bipush 7, 2) := by decide +kernel
theorem dX4_kindTold_5 : decode cX4_kindTold 5 = .ok (.if_icmp .ge 22, 3) := by decide +kernel
theorem dX4_kindTold_8 : decode cX4_kindTold 8 = .ok (.aload_n 0, 1) := by decide +kernel
theorem dX4_kindTold_9 : decode cX4_kindTold 9 = .ok (.iload_n 1, 1) := by decide +kernel
theorem dX4_kindTold_10 : decode cX4_kindTold 10 = .ok (.invokestatic 77, 3) := by decide +kernel
theorem dX4_kindTold_13 : decode cX4_kindTold 13 = .ok (.invokevirtual 43, 3) := by decide +kernel
theorem dX4_kindTold_16 : decode cX4_kindTold 16 = .ok (.ifCond .eq 5, 3) := by decide +kernel
theorem dX4_kindTold_19 : decode cX4_kindTold 19 = .ok (.iload_n 1, 1) := by decide +kernel
theorem dX4_kindTold_20 : decode cX4_kindTold 20 = .ok (.ireturn, 1) := by decide +kernel
theorem dX4_kindTold_21 : decode cX4_kindTold 21 = .ok (.iinc 1 1, 3) := by decide +kernel
theorem dX4_kindTold_24 : decode cX4_kindTold 24 = .ok (.goto (-22), 3) := by decide +kernel
theorem dX4_kindTold_27 : decode cX4_kindTold 27 = .ok (.iconst (-1), 1) := by decide +kernel
theorem dX4_kindTold_28 : decode cX4_kindTold 28 = .ok (.ireturn, 1) := by decide +kernel
theorem dX4_nameOf_0 : decode cX4_nameOf 0 = .ok (.iload_n 0, 1) := by decide +kernel
theorem dX4_nameOf_1 : decode cX4_nameOf 1 = .ok (.tableswitch 57 0 5 #[39, 42, 45, 48, 51, 54], 39) := by decide +kernel
theorem dX4_nameOf_40 : decode cX4_nameOf 40 = .ok (.ldc 81, 2) := by decide +kernel
theorem dX4_nameOf_42 : decode cX4_nameOf 42 = .ok (.areturn, 1) := by decide +kernel
theorem dX4_nameOf_43 : decode cX4_nameOf 43 = .ok (.ldc 83, 2) := by decide +kernel
theorem dX4_nameOf_45 : decode cX4_nameOf 45 = .ok (.areturn, 1) := by decide +kernel
theorem dX4_nameOf_46 : decode cX4_nameOf 46 = .ok (.ldc 85, 2) := by decide +kernel
theorem dX4_nameOf_48 : decode cX4_nameOf 48 = .ok (.areturn, 1) := by decide +kernel
theorem dX4_nameOf_49 : decode cX4_nameOf 49 = .ok (.ldc 87, 2) := by decide +kernel
theorem dX4_nameOf_51 : decode cX4_nameOf 51 = .ok (.areturn, 1) := by decide +kernel
theorem dX4_nameOf_52 : decode cX4_nameOf 52 = .ok (.ldc 89, 2) := by decide +kernel
theorem dX4_nameOf_54 : decode cX4_nameOf 54 = .ok (.areturn, 1) := by decide +kernel
theorem dX4_nameOf_55 : decode cX4_nameOf 55 = .ok (.ldc 91, 2) := by decide +kernel
theorem dX4_nameOf_57 : decode cX4_nameOf 57 = .ok (.areturn, 1) := by decide +kernel
theorem dX4_nameOf_58 : decode cX4_nameOf 58 = .ok (.ldc 93, 2) := by decide +kernel
theorem dX4_nameOf_60 : decode cX4_nameOf 60 = .ok (.areturn, 1) := by decide +kernel
theorem dX4_valueIn_0 : decode cX4_valueIn 0 = .ok (.getstatic 95, 3) := by decide +kernel
theorem dX4_valueIn_3 : decode cX4_valueIn 3 = .ok (.iload_n 1, 1) := by decide +kernel
theorem dX4_valueIn_4 : decode cX4_valueIn 4 = .ok (.iconst 3, 1) := by decide +kernel
theorem dX4_valueIn_5 : decode cX4_valueIn 5 = .ok (.imul, 1) := by decide +kernel
theorem dX4_valueIn_6 : decode cX4_valueIn 6 = .ok (.invokestatic 47, 3) := by decide +kernel
theorem dX4_valueIn_9 : decode cX4_valueIn 9 = .ok (.istore_n 3, 1) := by decide +kernel
theorem dX4_valueIn_10 : decode cX4_valueIn 10 = .ok (.iload_n 3, 1) := by decide +kernel
theorem dX4_valueIn_11 : decode cX4_valueIn 11 = .ok (.iconst 3, 1) := by decide +kernel
theorem dX4_valueIn_12 : decode cX4_valueIn 12 = .ok (.if_icmp .ne 12, 3) := by decide +kernel
theorem dX4_valueIn_15 : decode cX4_valueIn 15 = .ok (.aload_n 0, 1) := by decide +kernel
theorem dX4_valueIn_16 : decode cX4_valueIn 16 = .ok (.ldc 98, 2) := by decide +kernel
theorem dX4_valueIn_18 : decode cX4_valueIn 18 = .ok (.ldc 100, 2) := by decide +kernel
theorem dX4_valueIn_20 : decode cX4_valueIn 20 = .ok (.invokevirtual 102, 3) := by decide +kernel
theorem dX4_valueIn_23 : decode cX4_valueIn 23 = .ok (.ireturn, 1) := by decide +kernel
theorem dX4_valueIn_24 : decode cX4_valueIn 24 = .ok (.iload_n 3, 1) := by decide +kernel
theorem dX4_valueIn_25 : decode cX4_valueIn 25 = .ok (.iconst 4, 1) := by decide +kernel
theorem dX4_valueIn_26 : decode cX4_valueIn 26 = .ok (.if_icmp .ne 12, 3) := by decide +kernel
theorem dX4_valueIn_29 : decode cX4_valueIn 29 = .ok (.aload_n 0, 1) := by decide +kernel
theorem dX4_valueIn_30 : decode cX4_valueIn 30 = .ok (.ldc 106, 2) := by decide +kernel
theorem dX4_valueIn_32 : decode cX4_valueIn 32 = .ok (.ldc 108, 2) := by decide +kernel
theorem dX4_valueIn_34 : decode cX4_valueIn 34 = .ok (.invokevirtual 102, 3) := by decide +kernel
theorem dX4_valueIn_37 : decode cX4_valueIn 37 = .ok (.ireturn, 1) := by decide +kernel
theorem dX4_valueIn_38 : decode cX4_valueIn 38 = .ok (.aload_n 0, 1) := by decide +kernel
theorem dX4_valueIn_39 : decode cX4_valueIn 39 = .ok (.invokevirtual 110, 3) := by decide +kernel
theorem dX4_valueIn_42 : decode cX4_valueIn 42 = .ok (.istore 4, 2) := by decide +kernel
theorem dX4_valueIn_44 : decode cX4_valueIn 44 = .ok (.iload 4, 2) := by decide +kernel
theorem dX4_valueIn_46 : decode cX4_valueIn 46 = .ok (.getstatic 95, 3) := by decide +kernel
theorem dX4_valueIn_49 : decode cX4_valueIn 49 = .ok (.iload_n 1, 1) := by decide +kernel
theorem dX4_valueIn_50 : decode cX4_valueIn 50 = .ok (.iconst 3, 1) := by decide +kernel
theorem dX4_valueIn_51 : decode cX4_valueIn 51 = .ok (.imul, 1) := by decide +kernel
theorem dX4_valueIn_52 : decode cX4_valueIn 52 = .ok (.iconst 1, 1) := by decide +kernel
theorem dX4_valueIn_53 : decode cX4_valueIn 53 = .ok (.iadd, 1) := by decide +kernel
theorem dX4_valueIn_54 : decode cX4_valueIn 54 = .ok (.invokestatic 47, 3) := by decide +kernel
theorem dX4_valueIn_57 : decode cX4_valueIn 57 = .ok (.getstatic 95, 3) := by decide +kernel
theorem dX4_valueIn_60 : decode cX4_valueIn 60 = .ok (.iload_n 1, 1) := by decide +kernel
theorem dX4_valueIn_61 : decode cX4_valueIn 61 = .ok (.iconst 3, 1) := by decide +kernel
theorem dX4_valueIn_62 : decode cX4_valueIn 62 = .ok (.imul, 1) := by decide +kernel
theorem dX4_valueIn_63 : decode cX4_valueIn 63 = .ok (.iconst 2, 1) := by decide +kernel
theorem dX4_valueIn_64 : decode cX4_valueIn 64 = .ok (.iadd, 1) := by decide +kernel
theorem dX4_valueIn_65 : decode cX4_valueIn 65 = .ok (.invokestatic 47, 3) := by decide +kernel
theorem dX4_valueIn_68 : decode cX4_valueIn 68 = .ok (.invokestatic 73, 3) := by decide +kernel
theorem dX4_valueIn_71 : decode cX4_valueIn 71 = .ok (.ifCond .ne 5, 3) := by decide +kernel
theorem dX4_valueIn_74 : decode cX4_valueIn 74 = .ok (.iconst (-1), 1) := by decide +kernel
theorem dX4_valueIn_75 : decode cX4_valueIn 75 = .ok (.ireturn, 1) := by decide +kernel
theorem dX4_valueIn_76 : decode cX4_valueIn 76 = .ok (.iload_n 3, 1) := by decide +kernel
theorem dX4_valueIn_77 : decode cX4_valueIn 77 = .ok (.iconst 1, 1) := by decide +kernel
theorem dX4_valueIn_78 : decode cX4_valueIn 78 = .ok (.if_icmp .ne 9, 3) := by decide +kernel
theorem dX4_valueIn_81 : decode cX4_valueIn 81 = .ok (.iload 4, 2) := by decide +kernel
theorem dX4_valueIn_83 : decode cX4_valueIn 83 = .ok (.iload_n 2, 1) := by decide +kernel
theorem dX4_valueIn_84 : decode cX4_valueIn 84 = .ok (.if_icmp .lt 14, 3) := by decide +kernel
theorem dX4_valueIn_87 : decode cX4_valueIn 87 = .ok (.iload_n 3, 1) := by decide +kernel
theorem dX4_valueIn_88 : decode cX4_valueIn 88 = .ok (.iconst 2, 1) := by decide +kernel
theorem dX4_valueIn_89 : decode cX4_valueIn 89 = .ok (.if_icmp .ne 11, 3) := by decide +kernel
theorem dX4_valueIn_92 : decode cX4_valueIn 92 = .ok (.iload 4, 2) := by decide +kernel
theorem dX4_valueIn_94 : decode cX4_valueIn 94 = .ok (.iload_n 2, 1) := by decide +kernel
theorem dX4_valueIn_95 : decode cX4_valueIn 95 = .ok (.if_icmp .ne 5, 3) := by decide +kernel
theorem dX4_valueIn_98 : decode cX4_valueIn 98 = .ok (.iconst (-1), 1) := by decide +kernel
theorem dX4_valueIn_99 : decode cX4_valueIn 99 = .ok (.ireturn, 1) := by decide +kernel
theorem dX4_valueIn_100 : decode cX4_valueIn 100 = .ok (.iload 4, 2) := by decide +kernel
theorem dX4_valueIn_102 : decode cX4_valueIn 102 = .ok (.ireturn, 1) := by decide +kernel
theorem dX4_whichWord_0 : decode cX4_whichWord 0 = .ok (.aload_n 0, 1) := by decide +kernel
theorem dX4_whichWord_1 : decode cX4_whichWord 1 = .ok (.aload_n 1, 1) := by decide +kernel
theorem dX4_whichWord_2 : decode cX4_whichWord 2 = .ok (.invokevirtual 43, 3) := by decide +kernel
theorem dX4_whichWord_5 : decode cX4_whichWord 5 = .ok (.ifCond .eq 5, 3) := by decide +kernel
theorem dX4_whichWord_8 : decode cX4_whichWord 8 = .ok (.iconst 0, 1) := by decide +kernel
theorem dX4_whichWord_9 : decode cX4_whichWord 9 = .ok (.ireturn, 1) := by decide +kernel
theorem dX4_whichWord_10 : decode cX4_whichWord 10 = .ok (.aload_n 0, 1) := by decide +kernel
theorem dX4_whichWord_11 : decode cX4_whichWord 11 = .ok (.aload_n 2, 1) := by decide +kernel
theorem dX4_whichWord_12 : decode cX4_whichWord 12 = .ok (.invokevirtual 43, 3) := by decide +kernel
theorem dX4_whichWord_15 : decode cX4_whichWord 15 = .ok (.ifCond .eq 7, 3) := by decide +kernel
theorem dX4_whichWord_18 : decode cX4_whichWord 18 = .ok (.iconst 1, 1) := by decide +kernel
theorem dX4_whichWord_19 : decode cX4_whichWord 19 = .ok (.goto 4, 3) := by decide +kernel
theorem dX4_whichWord_22 : decode cX4_whichWord 22 = .ok (.iconst (-1), 1) := by decide +kernel
theorem dX4_whichWord_23 : decode cX4_whichWord 23 = .ok (.ireturn, 1) := by decide +kernel
theorem dX4_tokenIs_0 : decode cX4_tokenIs 0 = .ok (.aload_n 0, 1) := by decide +kernel
theorem dX4_tokenIs_1 : decode cX4_tokenIs 1 = .ok (.getfield 23, 3) := by decide +kernel
theorem dX4_tokenIs_4 : decode cX4_tokenIs 4 = .ok (.aload_n 0, 1) := by decide +kernel
theorem dX4_tokenIs_5 : decode cX4_tokenIs 5 = .ok (.getfield 30, 3) := by decide +kernel
theorem dX4_tokenIs_8 : decode cX4_tokenIs 8 = .ok (.isub, 1) := by decide +kernel
theorem dX4_tokenIs_9 : decode cX4_tokenIs 9 = .ok (.aload_n 1, 1) := by decide +kernel
theorem dX4_tokenIs_10 : decode cX4_tokenIs 10 = .ok (.invokevirtual 113, 3) := by decide +kernel
theorem dX4_tokenIs_13 : decode cX4_tokenIs 13 = .ok (.if_icmp .eq 5, 3) := by decide +kernel
theorem dX4_tokenIs_16 : decode cX4_tokenIs 16 = .ok (.iconst 0, 1) := by decide +kernel
theorem dX4_tokenIs_17 : decode cX4_tokenIs 17 = .ok (.ireturn, 1) := by decide +kernel
theorem dX4_tokenIs_18 : decode cX4_tokenIs 18 = .ok (.iconst 0, 1) := by decide +kernel
theorem dX4_tokenIs_19 : decode cX4_tokenIs 19 = .ok (.istore_n 2, 1) := by decide +kernel
theorem dX4_tokenIs_20 : decode cX4_tokenIs 20 = .ok (.iload_n 2, 1) := by decide +kernel
theorem dX4_tokenIs_21 : decode cX4_tokenIs 21 = .ok (.aload_n 1, 1) := by decide +kernel
theorem dX4_tokenIs_22 : decode cX4_tokenIs 22 = .ok (.invokevirtual 113, 3) := by decide +kernel
theorem dX4_tokenIs_25 : decode cX4_tokenIs 25 = .ok (.if_icmp .ge 35, 3) := by decide +kernel
theorem dX4_tokenIs_28 : decode cX4_tokenIs 28 = .ok (.aload_n 1, 1) := by decide +kernel
theorem dX4_tokenIs_29 : decode cX4_tokenIs 29 = .ok (.iload_n 2, 1) := by decide +kernel
theorem dX4_tokenIs_30 : decode cX4_tokenIs 30 = .ok (.invokevirtual 117, 3) := by decide +kernel
theorem dX4_tokenIs_33 : decode cX4_tokenIs 33 = .ok (.aload_n 0, 1) := by decide +kernel
theorem dX4_tokenIs_34 : decode cX4_tokenIs 34 = .ok (.getfield 15, 3) := by decide +kernel
theorem dX4_tokenIs_37 : decode cX4_tokenIs 37 = .ok (.getfield 66, 3) := by decide +kernel
theorem dX4_tokenIs_40 : decode cX4_tokenIs 40 = .ok (.aload_n 0, 1) := by decide +kernel
theorem dX4_tokenIs_41 : decode cX4_tokenIs 41 = .ok (.getfield 30, 3) := by decide +kernel
theorem dX4_tokenIs_44 : decode cX4_tokenIs 44 = .ok (.iload_n 2, 1) := by decide +kernel
theorem dX4_tokenIs_45 : decode cX4_tokenIs 45 = .ok (.iadd, 1) := by decide +kernel
theorem dX4_tokenIs_46 : decode cX4_tokenIs 46 = .ok (.invokestatic 47, 3) := by decide +kernel
theorem dX4_tokenIs_49 : decode cX4_tokenIs 49 = .ok (.if_icmp .eq 5, 3) := by decide +kernel
theorem dX4_tokenIs_52 : decode cX4_tokenIs 52 = .ok (.iconst 0, 1) := by decide +kernel
theorem dX4_tokenIs_53 : decode cX4_tokenIs 53 = .ok (.ireturn, 1) := by decide +kernel
theorem dX4_tokenIs_54 : decode cX4_tokenIs 54 = .ok (.iinc 2 1, 3) := by decide +kernel
theorem dX4_tokenIs_57 : decode cX4_tokenIs 57 = .ok (.goto (-37), 3) := by decide +kernel
theorem dX4_tokenIs_60 : decode cX4_tokenIs 60 = .ok (.iconst 1, 1) := by decide +kernel
theorem dX4_tokenIs_61 : decode cX4_tokenIs 61 = .ok (.ireturn, 1) := by decide +kernel
theorem dX4_tokenNumber_0 : decode cX4_tokenNumber 0 = .ok (.aload_n 0, 1) := by decide +kernel
theorem dX4_tokenNumber_1 : decode cX4_tokenNumber 1 = .ok (.getfield 30, 3) := by decide +kernel
theorem dX4_tokenNumber_4 : decode cX4_tokenNumber 4 = .ok (.aload_n 0, 1) := by decide +kernel
theorem dX4_tokenNumber_5 : decode cX4_tokenNumber 5 = .ok (.getfield 23, 3) := by decide +kernel
theorem dX4_tokenNumber_8 : decode cX4_tokenNumber 8 = .ok (.if_icmp .eq 37, 3) := by decide +kernel
theorem dX4_tokenNumber_11 : decode cX4_tokenNumber 11 = .ok (.aload_n 0, 1) := by decide +kernel
theorem dX4_tokenNumber_12 : decode cX4_tokenNumber 12 = .ok (.getfield 23, 3) := by decide +kernel
theorem dX4_tokenNumber_15 : decode cX4_tokenNumber 15 = .ok (.aload_n 0, 1) := by decide +kernel
theorem dX4_tokenNumber_16 : decode cX4_tokenNumber 16 = .ok (.getfield 30, 3) := by decide +kernel
theorem dX4_tokenNumber_19 : decode cX4_tokenNumber 19 = .ok (.isub, 1) := by decide +kernel
theorem dX4_tokenNumber_20 : decode cX4_tokenNumber 20 = .ok (.iconst 4, 1) := by decide +kernel
theorem dX4_tokenNumber_21 : decode cX4_tokenNumber 21 = .ok (.if_icmp .gt 24, 3) := by decide +kernel
theorem dX4_tokenNumber_24 : decode cX4_tokenNumber 24 = .ok (.aload_n 0, 1) := by decide +kernel
theorem dX4_tokenNumber_25 : decode cX4_tokenNumber 25 = .ok (.getfield 15, 3) := by decide +kernel
theorem dX4_tokenNumber_28 : decode cX4_tokenNumber 28 = .ok (.getfield 66, 3) := by decide +kernel
theorem dX4_tokenNumber_31 : decode cX4_tokenNumber 31 = .ok (.aload_n 0, 1) := by decide +kernel
theorem dX4_tokenNumber_32 : decode cX4_tokenNumber 32 = .ok (.getfield 30, 3) := by decide +kernel
theorem dX4_tokenNumber_35 : decode cX4_tokenNumber 35 = .ok (.invokestatic 47, 3) := by decide +kernel
theorem dX4_tokenNumber_38 : decode cX4_tokenNumber 38 = .ok (.invokestatic 69, 3) := by decide +kernel
theorem dX4_tokenNumber_41 : decode cX4_tokenNumber 41 = .ok (.iconst 1, 1) := by decide +kernel
theorem dX4_tokenNumber_42 : decode cX4_tokenNumber 42 = .ok (.if_icmp .eq 5, 3) := by decide +kernel
theorem dX4_tokenNumber_45 : decode cX4_tokenNumber 45 = .ok (.iconst (-1), 1) := by decide +kernel
theorem dX4_tokenNumber_46 : decode cX4_tokenNumber 46 = .ok (.ireturn, 1) := by decide +kernel
theorem dX4_tokenNumber_47 : decode cX4_tokenNumber 47 = .ok (.iconst 0, 1) := by decide +kernel
theorem dX4_tokenNumber_48 : decode cX4_tokenNumber 48 = .ok (.istore_n 1, 1) := by decide +kernel
theorem dX4_tokenNumber_49 : decode cX4_tokenNumber 49 = .ok (.aload_n 0, 1) := by decide +kernel
theorem dX4_tokenNumber_50 : decode cX4_tokenNumber 50 = .ok (.getfield 30, 3) := by decide +kernel
theorem dX4_tokenNumber_53 : decode cX4_tokenNumber 53 = .ok (.istore_n 2, 1) := by decide +kernel
theorem dX4_tokenNumber_54 : decode cX4_tokenNumber 54 = .ok (.iload_n 2, 1) := by decide +kernel
theorem dX4_tokenNumber_55 : decode cX4_tokenNumber 55 = .ok (.aload_n 0, 1) := by decide +kernel
theorem dX4_tokenNumber_56 : decode cX4_tokenNumber 56 = .ok (.getfield 23, 3) := by decide +kernel
theorem dX4_tokenNumber_59 : decode cX4_tokenNumber 59 = .ok (.if_icmp .ge 29, 3) := by decide +kernel
theorem dX4_tokenNumber_62 : decode cX4_tokenNumber 62 = .ok (.iload_n 1, 1) := by decide +kernel
theorem dX4_tokenNumber_63 : decode cX4_tokenNumber 63 = .ok (.bipush 10, 2) := by decide +kernel
theorem dX4_tokenNumber_65 : decode cX4_tokenNumber 65 = .ok (.imul, 1) := by decide +kernel
theorem dX4_tokenNumber_66 : decode cX4_tokenNumber 66 = .ok (.aload_n 0, 1) := by decide +kernel
theorem dX4_tokenNumber_67 : decode cX4_tokenNumber 67 = .ok (.getfield 15, 3) := by decide +kernel
theorem dX4_tokenNumber_70 : decode cX4_tokenNumber 70 = .ok (.getfield 66, 3) := by decide +kernel
theorem dX4_tokenNumber_73 : decode cX4_tokenNumber 73 = .ok (.iload_n 2, 1) := by decide +kernel
theorem dX4_tokenNumber_74 : decode cX4_tokenNumber 74 = .ok (.invokestatic 47, 3) := by decide +kernel
theorem dX4_tokenNumber_77 : decode cX4_tokenNumber 77 = .ok (.iadd, 1) := by decide +kernel
theorem dX4_tokenNumber_78 : decode cX4_tokenNumber 78 = .ok (.bipush 48, 2) := by decide +kernel
theorem dX4_tokenNumber_80 : decode cX4_tokenNumber 80 = .ok (.isub, 1) := by decide +kernel
theorem dX4_tokenNumber_81 : decode cX4_tokenNumber 81 = .ok (.istore_n 1, 1) := by decide +kernel
theorem dX4_tokenNumber_82 : decode cX4_tokenNumber 82 = .ok (.iinc 2 1, 3) := by decide +kernel
theorem dX4_tokenNumber_85 : decode cX4_tokenNumber 85 = .ok (.goto (-31), 3) := by decide +kernel
theorem dX4_tokenNumber_88 : decode cX4_tokenNumber 88 = .ok (.iload_n 1, 1) := by decide +kernel
theorem dX4_tokenNumber_89 : decode cX4_tokenNumber 89 = .ok (.ireturn, 1) := by decide +kernel
theorem dX5_init_0 : decode cX5_init 0 = .ok (.aload_n 0, 1) := by decide +kernel
theorem dX5_init_1 : decode cX5_init 1 = .ok (.invokespecial 3, 3) := by decide +kernel
theorem dX5_init_4 : decode cX5_init 4 = .ok (.aload_n 0, 1) := by decide +kernel
theorem dX5_init_5 : decode cX5_init 5 = .ok (.iconst 5, 1) := by decide +kernel
theorem dX5_init_6 : decode cX5_init 6 = .ok (.newarray .int, 2) := by decide +kernel
theorem dX5_init_8 : decode cX5_init 8 = .ok (.putfield 11, 3) := by decide +kernel
theorem dX5_init_11 : decode cX5_init 11 = .ok (.aload_n 0, 1) := by decide +kernel
theorem dX5_init_12 : decode cX5_init 12 = .ok (.iconst 5, 1) := by decide +kernel
theorem dX5_init_13 : decode cX5_init 13 = .ok (.newarray .int, 2) := by decide +kernel
theorem dX5_init_15 : decode cX5_init 15 = .ok (.putfield 15, 3) := by decide +kernel
theorem dX5_init_18 : decode cX5_init 18 = .ok (.aload_n 0, 1) := by decide +kernel
theorem dX5_init_19 : decode cX5_init 19 = .ok (.iconst 5, 1) := by decide +kernel
theorem dX5_init_20 : decode cX5_init 20 = .ok (.newarray .int, 2) := by decide +kernel
theorem dX5_init_22 : decode cX5_init 22 = .ok (.putfield 18, 3) := by decide +kernel
theorem dX5_init_25 : decode cX5_init 25 = .ok (.aload_n 0, 1) := by decide +kernel
theorem dX5_init_26 : decode cX5_init 26 = .ok (.bipush 8, 2) := by decide +kernel
theorem dX5_init_28 : decode cX5_init 28 = .ok (.newarray .int, 2) := by decide +kernel
theorem dX5_init_30 : decode cX5_init 30 = .ok (.putfield 21, 3) := by decide +kernel
theorem dX5_init_33 : decode cX5_init 33 = .ok (.aload_n 0, 1) := by decide +kernel
theorem dX5_init_34 : decode cX5_init 34 = .ok (.iconst 5, 1) := by decide +kernel
theorem dX5_init_35 : decode cX5_init 35 = .ok (.newarray .int, 2) := by decide +kernel
theorem dX5_init_37 : decode cX5_init 37 = .ok (.putfield 24, 3) := by decide +kernel
theorem dX5_init_40 : decode cX5_init 40 = .ok (.aload_n 0, 1) := by decide +kernel
theorem dX5_init_41 : decode cX5_init 41 = .ok (.iconst 5, 1) := by decide +kernel
theorem dX5_init_42 : decode cX5_init 42 = .ok (.newarray .int, 2) := by decide +kernel
theorem dX5_init_44 : decode cX5_init 44 = .ok (.putfield 27, 3) := by decide +kernel
theorem dX5_init_47 : decode cX5_init 47 = .ok (.aload_n 0, 1) := by decide +kernel
theorem dX5_init_48 : decode cX5_init 48 = .ok (.aload_n 1, 1) := by decide +kernel
theorem dX5_init_49 : decode cX5_init 49 = .ok (.putfield 30, 3) := by decide +kernel
theorem dX5_init_52 : decode cX5_init 52 = .ok (.return_, 1) := by decide +kernel
theorem dX5_howManyTold_0 : decode cX5_howManyTold 0 = .ok (.iconst 0, 1) := by decide +kernel
theorem dX5_howManyTold_1 : decode cX5_howManyTold 1 = .ok (.istore_n 1, 1) := by decide +kernel
theorem dX5_howManyTold_2 : decode cX5_howManyTold 2 = .ok (.iconst 0, 1) := by decide +kernel
theorem dX5_howManyTold_3 : decode cX5_howManyTold 3 = .ok (.istore_n 2, 1) := by decide +kernel
theorem dX5_howManyTold_4 : decode cX5_howManyTold 4 = .ok (.iload_n 2, 1) := by decide +kernel
theorem dX5_howManyTold_5 : decode cX5_howManyTold 5 = .ok (.iconst 5, 1) := by decide +kernel
theorem dX5_howManyTold_6 : decode cX5_howManyTold 6 = .ok (.if_icmp .ge 20, 3) := by decide +kernel
theorem dX5_howManyTold_9 : decode cX5_howManyTold 9 = .ok (.iload_n 1, 1) := by decide +kernel
theorem dX5_howManyTold_10 : decode cX5_howManyTold 10 = .ok (.aload_n 0, 1) := by decide +kernel
theorem dX5_howManyTold_11 : decode cX5_howManyTold 11 = .ok (.iload_n 2, 1) := by decide +kernel
theorem dX5_howManyTold_12 : decode cX5_howManyTold 12 = .ok (.invokevirtual 34, 3) := by decide +kernel
theorem dX5_howManyTold_15 : decode cX5_howManyTold 15 = .ok (.invokestatic 38, 3) := by decide +kernel
theorem dX5_howManyTold_18 : decode cX5_howManyTold 18 = .ok (.iadd, 1) := by decide +kernel
theorem dX5_howManyTold_19 : decode cX5_howManyTold 19 = .ok (.istore_n 1, 1) := by decide +kernel
theorem dX5_howManyTold_20 : decode cX5_howManyTold 20 = .ok (.iinc 2 1, 3) := by decide +kernel
theorem dX5_howManyTold_23 : decode cX5_howManyTold 23 = .ok (.goto (-19), 3) := by decide +kernel
theorem dX5_howManyTold_26 : decode cX5_howManyTold 26 = .ok (.iload_n 1, 1) := by decide +kernel
theorem dX5_howManyTold_27 : decode cX5_howManyTold 27 = .ok (.ireturn, 1) := by decide +kernel
theorem dX5_isTold_0 : decode cX5_isTold 0 = .ok (.aload_n 0, 1) := by decide +kernel
theorem dX5_isTold_1 : decode cX5_isTold 1 = .ok (.getfield 11, 3) := by decide +kernel
theorem dX5_isTold_4 : decode cX5_isTold 4 = .ok (.iload_n 1, 1) := by decide +kernel
theorem dX5_isTold_5 : decode cX5_isTold 5 = .ok (.invokestatic 42, 3) := by decide +kernel
theorem dX5_isTold_8 : decode cX5_isTold 8 = .ok (.ifCond .le 7, 3) := by decide +kernel
theorem dX5_isTold_11 : decode cX5_isTold 11 = .ok (.iconst 1, 1) := by decide +kernel
theorem dX5_isTold_12 : decode cX5_isTold 12 = .ok (.goto 4, 3) := by decide +kernel
theorem dX5_isTold_15 : decode cX5_isTold 15 = .ok (.iconst 0, 1) := by decide +kernel
theorem dX5_isTold_16 : decode cX5_isTold 16 = .ok (.ireturn, 1) := by decide +kernel
theorem dX5_tell_0 : decode cX5_tell 0 = .ok (.iconst 1, 1) := by decide +kernel
theorem dX5_tell_1 : decode cX5_tell 1 = .ok (.iload_n 1, 1) := by decide +kernel
theorem dX5_tell_2 : decode cX5_tell 2 = .ok (.ishl, 1) := by decide +kernel
theorem dX5_tell_3 : decode cX5_tell 3 = .ok (.istore 4, 2) := by decide +kernel
theorem dX5_tell_5 : decode cX5_tell 5 = .ok (.iload_n 2, 1) := by decide +kernel
theorem dX5_tell_6 : decode cX5_tell 6 = .ok (.ifCond .ne 7, 3) := by decide +kernel
theorem dX5_tell_9 : decode cX5_tell 9 = .ok (.iconst 0, 1) := by decide +kernel
theorem dX5_tell_10 : decode cX5_tell 10 = .ok (.goto 9, 3) := by decide +kernel
theorem dX5_tell_13 : decode cX5_tell 13 = .ok (.iload_n 3, 1) := by decide +kernel
theorem dX5_tell_14 : decode cX5_tell 14 = .ok (.iload 4, 2) := by decide +kernel
theorem dX5_tell_16 : decode cX5_tell 16 = .ok (.iconst (-1), 1) := by decide +kernel
theorem dX5_tell_17 : decode cX5_tell 17 = .ok (.ixor, 1) := by decide +kernel
theorem dX5_tell_18 : decode cX5_tell 18 = .ok (.iand, 1) := by decide +kernel
theorem dX5_tell_19 : decode cX5_tell 19 = .ok (.istore 5, 2) := by decide +kernel
theorem dX5_tell_21 : decode cX5_tell 21 = .ok (.aload_n 0, 1) := by decide +kernel
theorem dX5_tell_22 : decode cX5_tell 22 = .ok (.getfield 11, 3) := by decide +kernel
theorem dX5_tell_25 : decode cX5_tell 25 = .ok (.iload_n 1, 1) := by decide +kernel
theorem dX5_tell_26 : decode cX5_tell 26 = .ok (.iload_n 2, 1) := by decide +kernel
theorem dX5_tell_27 : decode cX5_tell 27 = .ok (.invokestatic 46, 3) := by decide +kernel
theorem dX5_tell_30 : decode cX5_tell 30 = .ok (.iconst 0, 1) := by decide +kernel
theorem dX5_tell_31 : decode cX5_tell 31 = .ok (.istore 6, 2) := by decide +kernel
theorem dX5_tell_33 : decode cX5_tell 33 = .ok (.iload 6, 2) := by decide +kernel
theorem dX5_tell_35 : decode cX5_tell 35 = .ok (.iconst 5, 1) := by decide +kernel
theorem dX5_tell_36 : decode cX5_tell 36 = .ok (.if_icmp .ge 54, 3) := by decide +kernel
theorem dX5_tell_39 : decode cX5_tell 39 = .ok (.aload_n 0, 1) := by decide +kernel
theorem dX5_tell_40 : decode cX5_tell 40 = .ok (.getfield 15, 3) := by decide +kernel
theorem dX5_tell_43 : decode cX5_tell 43 = .ok (.iload 6, 2) := by decide +kernel
theorem dX5_tell_45 : decode cX5_tell 45 = .ok (.invokestatic 42, 3) := by decide +kernel
theorem dX5_tell_48 : decode cX5_tell 48 = .ok (.iload 4, 2) := by decide +kernel
theorem dX5_tell_50 : decode cX5_tell 50 = .ok (.iconst (-1), 1) := by decide +kernel
theorem dX5_tell_51 : decode cX5_tell 51 = .ok (.ixor, 1) := by decide +kernel
theorem dX5_tell_52 : decode cX5_tell 52 = .ok (.iand, 1) := by decide +kernel
theorem dX5_tell_53 : decode cX5_tell 53 = .ok (.istore 7, 2) := by decide +kernel
theorem dX5_tell_55 : decode cX5_tell 55 = .ok (.aload_n 0, 1) := by decide +kernel
theorem dX5_tell_56 : decode cX5_tell 56 = .ok (.getfield 15, 3) := by decide +kernel
theorem dX5_tell_59 : decode cX5_tell 59 = .ok (.iload 6, 2) := by decide +kernel
theorem dX5_tell_61 : decode cX5_tell 61 = .ok (.iload 5, 2) := by decide +kernel
theorem dX5_tell_63 : decode cX5_tell 63 = .ok (.iload 6, 2) := by decide +kernel
theorem dX5_tell_65 : decode cX5_tell 65 = .ok (.invokestatic 50, 3) := by decide +kernel
theorem dX5_tell_68 : decode cX5_tell 68 = .ok (.ifCond .eq 11, 3) := by decide +kernel
theorem dX5_tell_71 : decode cX5_tell 71 = .ok (.iload 7, 2) := by decide +kernel
theorem dX5_tell_73 : decode cX5_tell 73 = .ok (.iload 4, 2) := by decide +kernel
theorem dX5_tell_75 : decode cX5_tell 75 = .ok (.ior, 1) := by decide +kernel
theorem dX5_tell_76 : decode cX5_tell 76 = .ok (.goto 5, 3) := by decide +kernel
theorem dX5_tell_79 : decode cX5_tell 79 = .ok (.iload 7, 2) := by decide +kernel
theorem dX5_tell_81 : decode cX5_tell 81 = .ok (.invokestatic 46, 3) := by decide +kernel
theorem dX5_tell_84 : decode cX5_tell 84 = .ok (.iinc 6 1, 3) := by decide +kernel
theorem dX5_tell_87 : decode cX5_tell 87 = .ok (.goto (-54), 3) := by decide +kernel
theorem dX5_tell_90 : decode cX5_tell 90 = .ok (.aload_n 0, 1) := by decide +kernel
theorem dX5_tell_91 : decode cX5_tell 91 = .ok (.getfield 15, 3) := by decide +kernel
theorem dX5_tell_94 : decode cX5_tell 94 = .ok (.iload_n 1, 1) := by decide +kernel
theorem dX5_tell_95 : decode cX5_tell 95 = .ok (.iload 5, 2) := by decide +kernel
theorem dX5_tell_97 : decode cX5_tell 97 = .ok (.invokestatic 46, 3) := by decide +kernel
theorem dX5_tell_100 : decode cX5_tell 100 = .ok (.return_, 1) := by decide +kernel
theorem dX5_answer_0 : decode cX5_answer 0 = .ok (.iload_n 1, 1) := by decide +kernel
theorem dX5_answer_1 : decode cX5_answer 1 = .ok (.iconst (-1), 1) := by decide +kernel
theorem dX5_answer_2 : decode cX5_answer 2 = .ok (.if_icmp .ne 8, 3) := by decide +kernel
theorem dX5_answer_5 : decode cX5_answer 5 = .ok (.aload_n 0, 1) := by decide +kernel
theorem dX5_answer_6 : decode cX5_answer 6 = .ok (.getfield 54, 3) := by decide +kernel
theorem dX5_answer_9 : decode cX5_answer 9 = .ok (.ireturn, 1) := by decide +kernel
theorem dX5_answer_10 : decode cX5_answer 10 = .ok (.aload_n 0, 1) := by decide +kernel
theorem dX5_answer_11 : decode cX5_answer 11 = .ok (.getfield 54, 3) := by decide +kernel
theorem dX5_answer_14 : decode cX5_answer 14 = .ok (.ifCond .ne 5, 3) := by decide +kernel
theorem dX5_answer_17 : decode cX5_answer 17 = .ok (.iconst (-1), 1) := by decide +kernel
theorem dX5_answer_18 : decode cX5_answer 18 = .ok (.ireturn, 1) := by decide +kernel
theorem dX5_answer_19 : decode cX5_answer 19 = .ok (.iload_n 1, 1) := by decide +kernel
theorem dX5_answer_20 : decode cX5_answer 20 = .ok (.bipush (-2), 2) := by decide +kernel
theorem dX5_answer_22 : decode cX5_answer 22 = .ok (.if_icmp .ne 8, 3) := by decide +kernel
theorem dX5_answer_25 : decode cX5_answer 25 = .ok (.aload_n 0, 1) := by decide +kernel
theorem dX5_answer_26 : decode cX5_answer 26 = .ok (.getfield 58, 3) := by decide +kernel
theorem dX5_answer_29 : decode cX5_answer 29 = .ok (.ireturn, 1) := by decide +kernel
theorem dX5_answer_30 : decode cX5_answer 30 = .ok (.aload_n 0, 1) := by decide +kernel
theorem dX5_answer_31 : decode cX5_answer 31 = .ok (.iload_n 1, 1) := by decide +kernel
theorem dX5_answer_32 : decode cX5_answer 32 = .ok (.invokevirtual 34, 3) := by decide +kernel
theorem dX5_answer_35 : decode cX5_answer 35 = .ok (.ifCond .eq 14, 3) := by decide +kernel
theorem dX5_answer_38 : decode cX5_answer 38 = .ok (.aload_n 0, 1) := by decide +kernel
theorem dX5_answer_39 : decode cX5_answer 39 = .ok (.getfield 27, 3) := by decide +kernel
theorem dX5_answer_42 : decode cX5_answer 42 = .ok (.iload_n 1, 1) := by decide +kernel
theorem dX5_answer_43 : decode cX5_answer 43 = .ok (.invokestatic 42, 3) := by decide +kernel
theorem dX5_answer_46 : decode cX5_answer 46 = .ok (.goto 4, 3) := by decide +kernel
theorem dX5_answer_49 : decode cX5_answer 49 = .ok (.iconst (-1), 1) := by decide +kernel
theorem dX5_answer_50 : decode cX5_answer 50 = .ok (.ireturn, 1) := by decide +kernel
theorem dX5_giveAll_0 : decode cX5_giveAll 0 = .ok (.iconst 0, 1) := by decide +kernel
theorem dX5_giveAll_1 : decode cX5_giveAll 1 = .ok (.istore_n 1, 1) := by decide +kernel
theorem dX5_giveAll_2 : decode cX5_giveAll 2 = .ok (.iload_n 1, 1) := by decide +kernel
theorem dX5_giveAll_3 : decode cX5_giveAll 3 = .ok (.bipush 8, 2) := by decide +kernel
theorem dX5_giveAll_5 : decode cX5_giveAll 5 = .ok (.if_icmp .ge 22, 3) := by decide +kernel
theorem dX5_giveAll_8 : decode cX5_giveAll 8 = .ok (.aload_n 0, 1) := by decide +kernel
theorem dX5_giveAll_9 : decode cX5_giveAll 9 = .ok (.getfield 21, 3) := by decide +kernel
theorem dX5_giveAll_12 : decode cX5_giveAll 12 = .ok (.iload_n 1, 1) := by decide +kernel
theorem dX5_giveAll_13 : decode cX5_giveAll 13 = .ok (.aload_n 0, 1) := by decide +kernel
theorem dX5_giveAll_14 : decode cX5_giveAll 14 = .ok (.iload_n 1, 1) := by decide +kernel
theorem dX5_giveAll_15 : decode cX5_giveAll 15 = .ok (.invokevirtual 61, 3) := by decide +kernel
theorem dX5_giveAll_18 : decode cX5_giveAll 18 = .ok (.invokestatic 46, 3) := by decide +kernel
theorem dX5_giveAll_21 : decode cX5_giveAll 21 = .ok (.iinc 1 1, 3) := by decide +kernel
theorem dX5_giveAll_24 : decode cX5_giveAll 24 = .ok (.goto (-22), 3) := by decide +kernel
theorem dX5_giveAll_27 : decode cX5_giveAll 27 = .ok (.iconst 0, 1) := by decide +kernel
theorem dX5_giveAll_28 : decode cX5_giveAll 28 = .ok (.istore_n 1, 1) := by decide +kernel
theorem dX5_giveAll_29 : decode cX5_giveAll 29 = .ok (.iload_n 1, 1) := by decide +kernel
theorem dX5_giveAll_30 : decode cX5_giveAll 30 = .ok (.iconst 5, 1) := by decide +kernel
theorem dX5_giveAll_31 : decode cX5_giveAll 31 = .ok (.if_icmp .ge 22, 3) := by decide +kernel
theorem dX5_giveAll_34 : decode cX5_giveAll 34 = .ok (.aload_n 0, 1) := by decide +kernel
theorem dX5_giveAll_35 : decode cX5_giveAll 35 = .ok (.getfield 18, 3) := by decide +kernel
theorem dX5_giveAll_38 : decode cX5_giveAll 38 = .ok (.iload_n 1, 1) := by decide +kernel
theorem dX5_giveAll_39 : decode cX5_giveAll 39 = .ok (.aload_n 0, 1) := by decide +kernel
theorem dX5_giveAll_40 : decode cX5_giveAll 40 = .ok (.iload_n 1, 1) := by decide +kernel
theorem dX5_giveAll_41 : decode cX5_giveAll 41 = .ok (.invokevirtual 65, 3) := by decide +kernel
theorem dX5_giveAll_44 : decode cX5_giveAll 44 = .ok (.invokestatic 46, 3) := by decide +kernel
theorem dX5_giveAll_47 : decode cX5_giveAll 47 = .ok (.iinc 1 1, 3) := by decide +kernel
theorem dX5_giveAll_50 : decode cX5_giveAll 50 = .ok (.goto (-21), 3) := by decide +kernel
theorem dX5_giveAll_53 : decode cX5_giveAll 53 = .ok (.aload_n 0, 1) := by decide +kernel
theorem dX5_giveAll_54 : decode cX5_giveAll 54 = .ok (.iconst 0, 1) := by decide +kernel
theorem dX5_giveAll_55 : decode cX5_giveAll 55 = .ok (.putfield 54, 3) := by decide +kernel
theorem dX5_giveAll_58 : decode cX5_giveAll 58 = .ok (.aload_n 0, 1) := by decide +kernel
theorem dX5_giveAll_59 : decode cX5_giveAll 59 = .ok (.iconst 0, 1) := by decide +kernel
theorem dX5_giveAll_60 : decode cX5_giveAll 60 = .ok (.putfield 58, 3) := by decide +kernel
theorem dX5_giveAll_63 : decode cX5_giveAll 63 = .ok (.aload_n 0, 1) := by decide +kernel
theorem dX5_giveAll_64 : decode cX5_giveAll 64 = .ok (.iconst 0, 1) := by decide +kernel
theorem dX5_giveAll_65 : decode cX5_giveAll 65 = .ok (.iconst 0, 1) := by decide +kernel
theorem dX5_giveAll_66 : decode cX5_giveAll 66 = .ok (.iconst 0, 1) := by decide +kernel
theorem dX5_giveAll_67 : decode cX5_giveAll 67 = .ok (.invokestatic 68, 3) := by decide +kernel
theorem dX5_giveAll_70 : decode cX5_giveAll 70 = .ok (.return_, 1) := by decide +kernel
theorem dX5_giveFrom_0 : decode cX5_giveFrom 0 = .ok (.iload_n 1, 1) := by decide +kernel
theorem dX5_giveFrom_1 : decode cX5_giveFrom 1 = .ok (.iconst 5, 1) := by decide +kernel
theorem dX5_giveFrom_2 : decode cX5_giveFrom 2 = .ok (.if_icmp .lt 9, 3) := by decide +kernel
theorem dX5_giveFrom_5 : decode cX5_giveFrom 5 = .ok (.aload_n 0, 1) := by decide +kernel
theorem dX5_giveFrom_6 : decode cX5_giveFrom 6 = .ok (.iload_n 3, 1) := by decide +kernel
theorem dX5_giveFrom_7 : decode cX5_giveFrom 7 = .ok (.invokevirtual 72, 3) := by decide +kernel
theorem dX5_giveFrom_10 : decode cX5_giveFrom 10 = .ok (.return_, 1) := by decide +kernel
theorem dX5_giveFrom_11 : decode cX5_giveFrom 11 = .ok (.aload_n 0, 1) := by decide +kernel
theorem dX5_giveFrom_12 : decode cX5_giveFrom 12 = .ok (.iload_n 1, 1) := by decide +kernel
theorem dX5_giveFrom_13 : decode cX5_giveFrom 13 = .ok (.invokevirtual 34, 3) := by decide +kernel
theorem dX5_giveFrom_16 : decode cX5_giveFrom 16 = .ok (.ifCond .ne 13, 3) := by decide +kernel
theorem dX5_giveFrom_19 : decode cX5_giveFrom 19 = .ok (.aload_n 0, 1) := by decide +kernel
theorem dX5_giveFrom_20 : decode cX5_giveFrom 20 = .ok (.iload_n 1, 1) := by decide +kernel
theorem dX5_giveFrom_21 : decode cX5_giveFrom 21 = .ok (.iconst 1, 1) := by decide +kernel
theorem dX5_giveFrom_22 : decode cX5_giveFrom 22 = .ok (.iadd, 1) := by decide +kernel
theorem dX5_giveFrom_23 : decode cX5_giveFrom 23 = .ok (.iload_n 2, 1) := by decide +kernel
theorem dX5_giveFrom_24 : decode cX5_giveFrom 24 = .ok (.iload_n 3, 1) := by decide +kernel
theorem dX5_giveFrom_25 : decode cX5_giveFrom 25 = .ok (.invokestatic 68, 3) := by decide +kernel
theorem dX5_giveFrom_28 : decode cX5_giveFrom 28 = .ok (.return_, 1) := by decide +kernel
theorem dX5_giveFrom_29 : decode cX5_giveFrom 29 = .ok (.aload_n 0, 1) := by decide +kernel
theorem dX5_giveFrom_30 : decode cX5_giveFrom 30 = .ok (.iload_n 1, 1) := by decide +kernel
theorem dX5_giveFrom_31 : decode cX5_giveFrom 31 = .ok (.invokevirtual 76, 3) := by decide +kernel
theorem dX5_giveFrom_34 : decode cX5_giveFrom 34 = .ok (.iload_n 2, 1) := by decide +kernel
theorem dX5_giveFrom_35 : decode cX5_giveFrom 35 = .ok (.iconst (-1), 1) := by decide +kernel
theorem dX5_giveFrom_36 : decode cX5_giveFrom 36 = .ok (.ixor, 1) := by decide +kernel
theorem dX5_giveFrom_37 : decode cX5_giveFrom 37 = .ok (.iand, 1) := by decide +kernel
theorem dX5_giveFrom_38 : decode cX5_giveFrom 38 = .ok (.istore 4, 2) := by decide +kernel
theorem dX5_giveFrom_40 : decode cX5_giveFrom 40 = .ok (.iconst 0, 1) := by decide +kernel
theorem dX5_giveFrom_41 : decode cX5_giveFrom 41 = .ok (.istore 5, 2) := by decide +kernel
theorem dX5_giveFrom_43 : decode cX5_giveFrom 43 = .ok (.iload 5, 2) := by decide +kernel
theorem dX5_giveFrom_45 : decode cX5_giveFrom 45 = .ok (.bipush 8, 2) := by decide +kernel
theorem dX5_giveFrom_47 : decode cX5_giveFrom 47 = .ok (.if_icmp .ge 55, 3) := by decide +kernel
theorem dX5_giveFrom_50 : decode cX5_giveFrom 50 = .ok (.iload 4, 2) := by decide +kernel
theorem dX5_giveFrom_52 : decode cX5_giveFrom 52 = .ok (.iload 5, 2) := by decide +kernel
theorem dX5_giveFrom_54 : decode cX5_giveFrom 54 = .ok (.invokestatic 50, 3) := by decide +kernel
theorem dX5_giveFrom_57 : decode cX5_giveFrom 57 = .ok (.ifCond .eq 39, 3) := by decide +kernel
theorem dX5_giveFrom_60 : decode cX5_giveFrom 60 = .ok (.aload_n 0, 1) := by decide +kernel
theorem dX5_giveFrom_61 : decode cX5_giveFrom 61 = .ok (.getfield 24, 3) := by decide +kernel
theorem dX5_giveFrom_64 : decode cX5_giveFrom 64 = .ok (.iload_n 1, 1) := by decide +kernel
theorem dX5_giveFrom_65 : decode cX5_giveFrom 65 = .ok (.iload 5, 2) := by decide +kernel
theorem dX5_giveFrom_67 : decode cX5_giveFrom 67 = .ok (.invokestatic 46, 3) := by decide +kernel
theorem dX5_giveFrom_70 : decode cX5_giveFrom 70 = .ok (.aload_n 0, 1) := by decide +kernel
theorem dX5_giveFrom_71 : decode cX5_giveFrom 71 = .ok (.iload_n 1, 1) := by decide +kernel
theorem dX5_giveFrom_72 : decode cX5_giveFrom 72 = .ok (.iload 5, 2) := by decide +kernel
theorem dX5_giveFrom_74 : decode cX5_giveFrom 74 = .ok (.invokevirtual 79, 3) := by decide +kernel
theorem dX5_giveFrom_77 : decode cX5_giveFrom 77 = .ok (.istore 6, 2) := by decide +kernel
theorem dX5_giveFrom_79 : decode cX5_giveFrom 79 = .ok (.aload_n 0, 1) := by decide +kernel
theorem dX5_giveFrom_80 : decode cX5_giveFrom 80 = .ok (.iload_n 1, 1) := by decide +kernel
theorem dX5_giveFrom_81 : decode cX5_giveFrom 81 = .ok (.iconst 1, 1) := by decide +kernel
theorem dX5_giveFrom_82 : decode cX5_giveFrom 82 = .ok (.iadd, 1) := by decide +kernel
theorem dX5_giveFrom_83 : decode cX5_giveFrom 83 = .ok (.iload_n 2, 1) := by decide +kernel
theorem dX5_giveFrom_84 : decode cX5_giveFrom 84 = .ok (.iconst 1, 1) := by decide +kernel
theorem dX5_giveFrom_85 : decode cX5_giveFrom 85 = .ok (.iload 5, 2) := by decide +kernel
theorem dX5_giveFrom_87 : decode cX5_giveFrom 87 = .ok (.ishl, 1) := by decide +kernel
theorem dX5_giveFrom_88 : decode cX5_giveFrom 88 = .ok (.ior, 1) := by decide +kernel
theorem dX5_giveFrom_89 : decode cX5_giveFrom 89 = .ok (.iload_n 3, 1) := by decide +kernel
theorem dX5_giveFrom_90 : decode cX5_giveFrom 90 = .ok (.iload 6, 2) := by decide +kernel
theorem dX5_giveFrom_92 : decode cX5_giveFrom 92 = .ok (.iadd, 1) := by decide +kernel
theorem dX5_giveFrom_93 : decode cX5_giveFrom 93 = .ok (.invokestatic 68, 3) := by decide +kernel
theorem dX5_giveFrom_96 : decode cX5_giveFrom 96 = .ok (.iinc 5 1, 3) := by decide +kernel
theorem dX5_giveFrom_99 : decode cX5_giveFrom 99 = .ok (.goto (-56), 3) := by decide +kernel
theorem dX5_giveFrom_102 : decode cX5_giveFrom 102 = .ok (.return_, 1) := by decide +kernel
theorem dX5_keepIfBetter_0 : decode cX5_keepIfBetter 0 = .ok (.aload_n 0, 1) := by decide +kernel
theorem dX5_keepIfBetter_1 : decode cX5_keepIfBetter 1 = .ok (.dup, 1) := by decide +kernel
theorem dX5_keepIfBetter_2 : decode cX5_keepIfBetter 2 = .ok (.getfield 54, 3) := by decide +kernel
theorem dX5_keepIfBetter_5 : decode cX5_keepIfBetter 5 = .ok (.iconst 1, 1) := by decide +kernel
theorem dX5_keepIfBetter_6 : decode cX5_keepIfBetter 6 = .ok (.iadd, 1) := by decide +kernel
theorem dX5_keepIfBetter_7 : decode cX5_keepIfBetter 7 = .ok (.putfield 54, 3) := by decide +kernel
theorem dX5_keepIfBetter_10 : decode cX5_keepIfBetter 10 = .ok (.aload_n 0, 1) := by decide +kernel
theorem dX5_keepIfBetter_11 : decode cX5_keepIfBetter 11 = .ok (.getfield 54, 3) := by decide +kernel
theorem dX5_keepIfBetter_14 : decode cX5_keepIfBetter 14 = .ok (.iconst 1, 1) := by decide +kernel
theorem dX5_keepIfBetter_15 : decode cX5_keepIfBetter 15 = .ok (.if_icmp .eq 11, 3) := by decide +kernel
theorem dX5_keepIfBetter_18 : decode cX5_keepIfBetter 18 = .ok (.iload_n 1, 1) := by decide +kernel
theorem dX5_keepIfBetter_19 : decode cX5_keepIfBetter 19 = .ok (.aload_n 0, 1) := by decide +kernel
theorem dX5_keepIfBetter_20 : decode cX5_keepIfBetter 20 = .ok (.getfield 58, 3) := by decide +kernel
theorem dX5_keepIfBetter_23 : decode cX5_keepIfBetter 23 = .ok (.if_icmp .ge 37, 3) := by decide +kernel
theorem dX5_keepIfBetter_26 : decode cX5_keepIfBetter 26 = .ok (.aload_n 0, 1) := by decide +kernel
theorem dX5_keepIfBetter_27 : decode cX5_keepIfBetter 27 = .ok (.iload_n 1, 1) := by decide +kernel
theorem dX5_keepIfBetter_28 : decode cX5_keepIfBetter 28 = .ok (.putfield 58, 3) := by decide +kernel
theorem dX5_keepIfBetter_31 : decode cX5_keepIfBetter 31 = .ok (.iconst 0, 1) := by decide +kernel
theorem dX5_keepIfBetter_32 : decode cX5_keepIfBetter 32 = .ok (.istore_n 2, 1) := by decide +kernel
theorem dX5_keepIfBetter_33 : decode cX5_keepIfBetter 33 = .ok (.iload_n 2, 1) := by decide +kernel
theorem dX5_keepIfBetter_34 : decode cX5_keepIfBetter 34 = .ok (.iconst 5, 1) := by decide +kernel
theorem dX5_keepIfBetter_35 : decode cX5_keepIfBetter 35 = .ok (.if_icmp .ge 25, 3) := by decide +kernel
theorem dX5_keepIfBetter_38 : decode cX5_keepIfBetter 38 = .ok (.aload_n 0, 1) := by decide +kernel
theorem dX5_keepIfBetter_39 : decode cX5_keepIfBetter 39 = .ok (.getfield 27, 3) := by decide +kernel
theorem dX5_keepIfBetter_42 : decode cX5_keepIfBetter 42 = .ok (.iload_n 2, 1) := by decide +kernel
theorem dX5_keepIfBetter_43 : decode cX5_keepIfBetter 43 = .ok (.aload_n 0, 1) := by decide +kernel
theorem dX5_keepIfBetter_44 : decode cX5_keepIfBetter 44 = .ok (.getfield 24, 3) := by decide +kernel
theorem dX5_keepIfBetter_47 : decode cX5_keepIfBetter 47 = .ok (.iload_n 2, 1) := by decide +kernel
theorem dX5_keepIfBetter_48 : decode cX5_keepIfBetter 48 = .ok (.invokestatic 42, 3) := by decide +kernel
theorem dX5_keepIfBetter_51 : decode cX5_keepIfBetter 51 = .ok (.invokestatic 46, 3) := by decide +kernel
theorem dX5_keepIfBetter_54 : decode cX5_keepIfBetter 54 = .ok (.iinc 2 1, 3) := by decide +kernel
theorem dX5_keepIfBetter_57 : decode cX5_keepIfBetter 57 = .ok (.goto (-24), 3) := by decide +kernel
theorem dX5_keepIfBetter_60 : decode cX5_keepIfBetter 60 = .ok (.return_, 1) := by decide +kernel
theorem dX5_openTo_0 : decode cX5_openTo 0 = .ok (.aload_n 0, 1) := by decide +kernel
theorem dX5_openTo_1 : decode cX5_openTo 1 = .ok (.getfield 18, 3) := by decide +kernel
theorem dX5_openTo_4 : decode cX5_openTo 4 = .ok (.iload_n 1, 1) := by decide +kernel
theorem dX5_openTo_5 : decode cX5_openTo 5 = .ok (.invokestatic 42, 3) := by decide +kernel
theorem dX5_openTo_8 : decode cX5_openTo 8 = .ok (.istore_n 2, 1) := by decide +kernel
theorem dX5_openTo_9 : decode cX5_openTo 9 = .ok (.iconst 0, 1) := by decide +kernel
theorem dX5_openTo_10 : decode cX5_openTo 10 = .ok (.istore_n 3, 1) := by decide +kernel
theorem dX5_openTo_11 : decode cX5_openTo 11 = .ok (.iload_n 3, 1) := by decide +kernel
theorem dX5_openTo_12 : decode cX5_openTo 12 = .ok (.iload_n 1, 1) := by decide +kernel
theorem dX5_openTo_13 : decode cX5_openTo 13 = .ok (.if_icmp .ge 50, 3) := by decide +kernel
theorem dX5_openTo_16 : decode cX5_openTo 16 = .ok (.aload_n 0, 1) := by decide +kernel
theorem dX5_openTo_17 : decode cX5_openTo 17 = .ok (.iload_n 3, 1) := by decide +kernel
theorem dX5_openTo_18 : decode cX5_openTo 18 = .ok (.invokevirtual 34, 3) := by decide +kernel
theorem dX5_openTo_21 : decode cX5_openTo 21 = .ok (.ifCond .eq 36, 3) := by decide +kernel
theorem dX5_openTo_24 : decode cX5_openTo 24 = .ok (.aload_n 0, 1) := by decide +kernel
theorem dX5_openTo_25 : decode cX5_openTo 25 = .ok (.getfield 15, 3) := by decide +kernel
theorem dX5_openTo_28 : decode cX5_openTo 28 = .ok (.iload_n 1, 1) := by decide +kernel
theorem dX5_openTo_29 : decode cX5_openTo 29 = .ok (.invokestatic 42, 3) := by decide +kernel
theorem dX5_openTo_32 : decode cX5_openTo 32 = .ok (.iload_n 3, 1) := by decide +kernel
theorem dX5_openTo_33 : decode cX5_openTo 33 = .ok (.invokestatic 50, 3) := by decide +kernel
theorem dX5_openTo_36 : decode cX5_openTo 36 = .ok (.ifCond .eq 21, 3) := by decide +kernel
theorem dX5_openTo_39 : decode cX5_openTo 39 = .ok (.iload_n 2, 1) := by decide +kernel
theorem dX5_openTo_40 : decode cX5_openTo 40 = .ok (.aload_n 0, 1) := by decide +kernel
theorem dX5_openTo_41 : decode cX5_openTo 41 = .ok (.getfield 21, 3) := by decide +kernel
theorem dX5_openTo_44 : decode cX5_openTo 44 = .ok (.aload_n 0, 1) := by decide +kernel
theorem dX5_openTo_45 : decode cX5_openTo 45 = .ok (.getfield 24, 3) := by decide +kernel
theorem dX5_openTo_48 : decode cX5_openTo 48 = .ok (.iload_n 3, 1) := by decide +kernel
theorem dX5_openTo_49 : decode cX5_openTo 49 = .ok (.invokestatic 42, 3) := by decide +kernel
theorem dX5_openTo_52 : decode cX5_openTo 52 = .ok (.invokestatic 42, 3) := by decide +kernel
theorem dX5_openTo_55 : decode cX5_openTo 55 = .ok (.iand, 1) := by decide +kernel
theorem dX5_openTo_56 : decode cX5_openTo 56 = .ok (.istore_n 2, 1) := by decide +kernel
theorem dX5_openTo_57 : decode cX5_openTo 57 = .ok (.iinc 3 1, 3) := by decide +kernel
theorem dX5_openTo_60 : decode cX5_openTo 60 = .ok (.goto (-49), 3) := by decide +kernel
theorem dX5_openTo_63 : decode cX5_openTo 63 = .ok (.iload_n 2, 1) := by decide +kernel
theorem dX5_openTo_64 : decode cX5_openTo 64 = .ok (.ireturn, 1) := by decide +kernel
theorem dX5_difference_0 : decode cX5_difference 0 = .ok (.aload_n 0, 1) := by decide +kernel
theorem dX5_difference_1 : decode cX5_difference 1 = .ok (.getfield 11, 3) := by decide +kernel
theorem dX5_difference_4 : decode cX5_difference 4 = .ok (.iload_n 1, 1) := by decide +kernel
theorem dX5_difference_5 : decode cX5_difference 5 = .ok (.invokestatic 42, 3) := by decide +kernel
theorem dX5_difference_8 : decode cX5_difference 8 = .ok (.aload_n 0, 1) := by decide +kernel
theorem dX5_difference_9 : decode cX5_difference 9 = .ok (.getfield 30, 3) := by decide +kernel
