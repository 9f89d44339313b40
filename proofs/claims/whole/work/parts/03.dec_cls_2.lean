theorem dX5_difference_12 : decode cX5_difference 12 = .ok (.iload_n 2, 1) := by decide +kernel
theorem dX5_difference_13 : decode cX5_difference 13 = .ok (.iconst 3, 1) := by decide +kernel
theorem dX5_difference_14 : decode cX5_difference 14 = .ok (.invokevirtual 83, 3) := by decide +kernel
theorem dX5_difference_17 : decode cX5_difference 17 = .ok (.isub, 1) := by decide +kernel
theorem dX5_difference_18 : decode cX5_difference 18 = .ok (.invokestatic 88, 3) := by decide +kernel
theorem dX5_difference_21 : decode cX5_difference 21 = .ok (.ireturn, 1) := by decide +kernel
theorem dX5_suitingOf_0 : decode cX5_suitingOf 0 = .ok (.iconst 0, 1) := by decide +kernel
theorem dX5_suitingOf_1 : decode cX5_suitingOf 1 = .ok (.istore_n 2, 1) := by decide +kernel
theorem dX5_suitingOf_2 : decode cX5_suitingOf 2 = .ok (.iconst 0, 1) := by decide +kernel
theorem dX5_suitingOf_3 : decode cX5_suitingOf 3 = .ok (.istore_n 3, 1) := by decide +kernel
theorem dX5_suitingOf_4 : decode cX5_suitingOf 4 = .ok (.iload_n 3, 1) := by decide +kernel
theorem dX5_suitingOf_5 : decode cX5_suitingOf 5 = .ok (.bipush 8, 2) := by decide +kernel
theorem dX5_suitingOf_7 : decode cX5_suitingOf 7 = .ok (.if_icmp .ge 42, 3) := by decide +kernel
theorem dX5_suitingOf_10 : decode cX5_suitingOf 10 = .ok (.aload_n 0, 1) := by decide +kernel
theorem dX5_suitingOf_11 : decode cX5_suitingOf 11 = .ok (.getfield 30, 3) := by decide +kernel
theorem dX5_suitingOf_14 : decode cX5_suitingOf 14 = .ok (.iload_n 3, 1) := by decide +kernel
theorem dX5_suitingOf_15 : decode cX5_suitingOf 15 = .ok (.invokevirtual 93, 3) := by decide +kernel
theorem dX5_suitingOf_18 : decode cX5_suitingOf 18 = .ok (.ifCond .eq 25, 3) := by decide +kernel
theorem dX5_suitingOf_21 : decode cX5_suitingOf 21 = .ok (.aload_n 0, 1) := by decide +kernel
theorem dX5_suitingOf_22 : decode cX5_suitingOf 22 = .ok (.iload_n 1, 1) := by decide +kernel
theorem dX5_suitingOf_23 : decode cX5_suitingOf 23 = .ok (.iload_n 3, 1) := by decide +kernel
theorem dX5_suitingOf_24 : decode cX5_suitingOf 24 = .ok (.invokevirtual 79, 3) := by decide +kernel
theorem dX5_suitingOf_27 : decode cX5_suitingOf 27 = .ok (.aload_n 0, 1) := by decide +kernel
theorem dX5_suitingOf_28 : decode cX5_suitingOf 28 = .ok (.getfield 30, 3) := by decide +kernel
theorem dX5_suitingOf_31 : decode cX5_suitingOf 31 = .ok (.getfield 96, 3) := by decide +kernel
theorem dX5_suitingOf_34 : decode cX5_suitingOf 34 = .ok (.if_icmp .gt 9, 3) := by decide +kernel
theorem dX5_suitingOf_37 : decode cX5_suitingOf 37 = .ok (.iload_n 2, 1) := by decide +kernel
theorem dX5_suitingOf_38 : decode cX5_suitingOf 38 = .ok (.iconst 1, 1) := by decide +kernel
theorem dX5_suitingOf_39 : decode cX5_suitingOf 39 = .ok (.iload_n 3, 1) := by decide +kernel
theorem dX5_suitingOf_40 : decode cX5_suitingOf 40 = .ok (.ishl, 1) := by decide +kernel
theorem dX5_suitingOf_41 : decode cX5_suitingOf 41 = .ok (.ior, 1) := by decide +kernel
theorem dX5_suitingOf_42 : decode cX5_suitingOf 42 = .ok (.istore_n 2, 1) := by decide +kernel
theorem dX5_suitingOf_43 : decode cX5_suitingOf 43 = .ok (.iinc 3 1, 3) := by decide +kernel
theorem dX5_suitingOf_46 : decode cX5_suitingOf 46 = .ok (.goto (-42), 3) := by decide +kernel
theorem dX5_suitingOf_49 : decode cX5_suitingOf 49 = .ok (.iload_n 2, 1) := by decide +kernel
theorem dX5_suitingOf_50 : decode cX5_suitingOf 50 = .ok (.ireturn, 1) := by decide +kernel
theorem dX5_touchedBy_0 : decode cX5_touchedBy 0 = .ok (.iconst 0, 1) := by decide +kernel
theorem dX5_touchedBy_1 : decode cX5_touchedBy 1 = .ok (.istore_n 2, 1) := by decide +kernel
theorem dX5_touchedBy_2 : decode cX5_touchedBy 2 = .ok (.iconst 0, 1) := by decide +kernel
theorem dX5_touchedBy_3 : decode cX5_touchedBy 3 = .ok (.istore_n 3, 1) := by decide +kernel
theorem dX5_touchedBy_4 : decode cX5_touchedBy 4 = .ok (.iload_n 3, 1) := by decide +kernel
theorem dX5_touchedBy_5 : decode cX5_touchedBy 5 = .ok (.bipush 8, 2) := by decide +kernel
theorem dX5_touchedBy_7 : decode cX5_touchedBy 7 = .ok (.if_icmp .ge 55, 3) := by decide +kernel
theorem dX5_touchedBy_10 : decode cX5_touchedBy 10 = .ok (.aload_n 0, 1) := by decide +kernel
theorem dX5_touchedBy_11 : decode cX5_touchedBy 11 = .ok (.getfield 30, 3) := by decide +kernel
theorem dX5_touchedBy_14 : decode cX5_touchedBy 14 = .ok (.iload_n 1, 1) := by decide +kernel
theorem dX5_touchedBy_15 : decode cX5_touchedBy 15 = .ok (.iload_n 3, 1) := by decide +kernel
theorem dX5_touchedBy_16 : decode cX5_touchedBy 16 = .ok (.iconst 0, 1) := by decide +kernel
theorem dX5_touchedBy_17 : decode cX5_touchedBy 17 = .ok (.invokevirtual 99, 3) := by decide +kernel
theorem dX5_touchedBy_20 : decode cX5_touchedBy 20 = .ok (.aload_n 0, 1) := by decide +kernel
theorem dX5_touchedBy_21 : decode cX5_touchedBy 21 = .ok (.getfield 30, 3) := by decide +kernel
theorem dX5_touchedBy_24 : decode cX5_touchedBy 24 = .ok (.getfield 103, 3) := by decide +kernel
theorem dX5_touchedBy_27 : decode cX5_touchedBy 27 = .ok (.if_icmp .gt 29, 3) := by decide +kernel
theorem dX5_touchedBy_30 : decode cX5_touchedBy 30 = .ok (.aload_n 0, 1) := by decide +kernel
theorem dX5_touchedBy_31 : decode cX5_touchedBy 31 = .ok (.getfield 30, 3) := by decide +kernel
theorem dX5_touchedBy_34 : decode cX5_touchedBy 34 = .ok (.iload_n 1, 1) := by decide +kernel
theorem dX5_touchedBy_35 : decode cX5_touchedBy 35 = .ok (.iload_n 3, 1) := by decide +kernel
theorem dX5_touchedBy_36 : decode cX5_touchedBy 36 = .ok (.iconst 1, 1) := by decide +kernel
theorem dX5_touchedBy_37 : decode cX5_touchedBy 37 = .ok (.invokevirtual 99, 3) := by decide +kernel
theorem dX5_touchedBy_40 : decode cX5_touchedBy 40 = .ok (.aload_n 0, 1) := by decide +kernel
theorem dX5_touchedBy_41 : decode cX5_touchedBy 41 = .ok (.getfield 30, 3) := by decide +kernel
theorem dX5_touchedBy_44 : decode cX5_touchedBy 44 = .ok (.getfield 103, 3) := by decide +kernel
theorem dX5_touchedBy_47 : decode cX5_touchedBy 47 = .ok (.if_icmp .gt 9, 3) := by decide +kernel
theorem dX5_touchedBy_50 : decode cX5_touchedBy 50 = .ok (.iload_n 2, 1) := by decide +kernel
theorem dX5_touchedBy_51 : decode cX5_touchedBy 51 = .ok (.iconst 1, 1) := by decide +kernel
theorem dX5_touchedBy_52 : decode cX5_touchedBy 52 = .ok (.iload_n 3, 1) := by decide +kernel
theorem dX5_touchedBy_53 : decode cX5_touchedBy 53 = .ok (.ishl, 1) := by decide +kernel
theorem dX5_touchedBy_54 : decode cX5_touchedBy 54 = .ok (.ior, 1) := by decide +kernel
theorem dX5_touchedBy_55 : decode cX5_touchedBy 55 = .ok (.istore_n 2, 1) := by decide +kernel
theorem dX5_touchedBy_56 : decode cX5_touchedBy 56 = .ok (.iinc 3 1, 3) := by decide +kernel
theorem dX5_touchedBy_59 : decode cX5_touchedBy 59 = .ok (.goto (-55), 3) := by decide +kernel
theorem dX5_touchedBy_62 : decode cX5_touchedBy 62 = .ok (.iload_n 2, 1) := by decide +kernel
theorem dX5_touchedBy_63 : decode cX5_touchedBy 63 = .ok (.ireturn, 1) := by decide +kernel
theorem dX6_init_0 : decode cX6_init 0 = .ok (.aload_n 0, 1) := by decide +kernel
theorem dX6_init_1 : decode cX6_init 1 = .ok (.invokespecial 1, 3) := by decide +kernel
theorem dX6_init_4 : decode cX6_init 4 = .ok (.aload_n 0, 1) := by decide +kernel
theorem dX6_init_5 : decode cX6_init 5 = .ok (.sipush 200, 3) := by decide +kernel
theorem dX6_init_8 : decode cX6_init 8 = .ok (.newarray .int, 2) := by decide +kernel
theorem dX6_init_10 : decode cX6_init 10 = .ok (.putfield 9, 3) := by decide +kernel
theorem dX6_init_13 : decode cX6_init 13 = .ok (.return_, 1) := by decide +kernel
theorem dX6_hasRoomFor_0 : decode cX6_hasRoomFor 0 = .ok (.aload_n 0, 1) := by decide +kernel
theorem dX6_hasRoomFor_1 : decode cX6_hasRoomFor 1 = .ok (.getfield 13, 3) := by decide +kernel
theorem dX6_hasRoomFor_4 : decode cX6_hasRoomFor 4 = .ok (.iload_n 1, 1) := by decide +kernel
theorem dX6_hasRoomFor_5 : decode cX6_hasRoomFor 5 = .ok (.iadd, 1) := by decide +kernel
theorem dX6_hasRoomFor_6 : decode cX6_hasRoomFor 6 = .ok (.sipush 200, 3) := by decide +kernel
theorem dX6_hasRoomFor_9 : decode cX6_hasRoomFor 9 = .ok (.if_icmp .gt 7, 3) := by decide +kernel
theorem dX6_hasRoomFor_12 : decode cX6_hasRoomFor 12 = .ok (.iconst 1, 1) := by decide +kernel
theorem dX6_hasRoomFor_13 : decode cX6_hasRoomFor 13 = .ok (.goto 4, 3) := by decide +kernel
theorem dX6_hasRoomFor_16 : decode cX6_hasRoomFor 16 = .ok (.iconst 0, 1) := by decide +kernel
theorem dX6_hasRoomFor_17 : decode cX6_hasRoomFor 17 = .ok (.ireturn, 1) := by decide +kernel
theorem dX6_add_0 : decode cX6_add 0 = .ok (.iconst 0, 1) := by decide +kernel
theorem dX6_add_1 : decode cX6_add 1 = .ok (.istore 4, 2) := by decide +kernel
theorem dX6_add_3 : decode cX6_add 3 = .ok (.iload 4, 2) := by decide +kernel
theorem dX6_add_5 : decode cX6_add 5 = .ok (.iload_n 3, 1) := by decide +kernel
theorem dX6_add_6 : decode cX6_add 6 = .ok (.if_icmp .ge 35, 3) := by decide +kernel
theorem dX6_add_9 : decode cX6_add 9 = .ok (.aload_n 0, 1) := by decide +kernel
theorem dX6_add_10 : decode cX6_add 10 = .ok (.getfield 9, 3) := by decide +kernel
theorem dX6_add_13 : decode cX6_add 13 = .ok (.aload_n 0, 1) := by decide +kernel
theorem dX6_add_14 : decode cX6_add 14 = .ok (.getfield 13, 3) := by decide +kernel
theorem dX6_add_17 : decode cX6_add 17 = .ok (.iload 4, 2) := by decide +kernel
theorem dX6_add_19 : decode cX6_add 19 = .ok (.iadd, 1) := by decide +kernel
theorem dX6_add_20 : decode cX6_add 20 = .ok (.lload_n 1, 1) := by decide +kernel
theorem dX6_add_21 : decode cX6_add 21 = .ok (.bipush 8, 2) := by decide +kernel
theorem dX6_add_23 : decode cX6_add 23 = .ok (.iload 4, 2) := by decide +kernel
theorem dX6_add_25 : decode cX6_add 25 = .ok (.imul, 1) := by decide +kernel
theorem dX6_add_26 : decode cX6_add 26 = .ok (.lshr, 1) := by decide +kernel
theorem dX6_add_27 : decode cX6_add 27 = .ok (.ldc2_w 17, 3) := by decide +kernel
theorem dX6_add_30 : decode cX6_add 30 = .ok (.land, 1) := by decide +kernel
theorem dX6_add_31 : decode cX6_add 31 = .ok (.l2i, 1) := by decide +kernel
theorem dX6_add_32 : decode cX6_add 32 = .ok (.invokestatic 19, 3) := by decide +kernel
theorem dX6_add_35 : decode cX6_add 35 = .ok (.iinc 4 1, 3) := by decide +kernel
theorem dX6_add_38 : decode cX6_add 38 = .ok (.goto (-35), 3) := by decide +kernel
theorem dX6_add_41 : decode cX6_add 41 = .ok (.aload_n 0, 1) := by decide +kernel
theorem dX6_add_42 : decode cX6_add 42 = .ok (.dup, 1) := by decide +kernel
theorem dX6_add_43 : decode cX6_add 43 = .ok (.getfield 13, 3) := by decide +kernel
theorem dX6_add_46 : decode cX6_add 46 = .ok (.iload_n 3, 1) := by decide +kernel
theorem dX6_add_47 : decode cX6_add 47 = .ok (.iadd, 1) := by decide +kernel
theorem dX6_add_48 : decode cX6_add 48 = .ok (.putfield 13, 3) := by decide +kernel
theorem dX6_add_51 : decode cX6_add 51 = .ok (.return_, 1) := by decide +kernel
theorem dX7_init_0 : decode cX7_init 0 = .ok (.aload_n 0, 1) := by decide +kernel
theorem dX7_init_1 : decode cX7_init 1 = .ok (.invokespecial 3, 3) := by decide +kernel
theorem dX7_init_4 : decode cX7_init 4 = .ok (.aload_n 0, 1) := by decide +kernel
theorem dX7_init_5 : decode cX7_init 5 = .ok (.bipush 30, 2) := by decide +kernel
theorem dX7_init_7 : decode cX7_init 7 = .ok (.newarray .int, 2) := by decide +kernel
theorem dX7_init_9 : decode cX7_init 9 = .ok (.putfield 11, 3) := by decide +kernel
theorem dX7_init_12 : decode cX7_init 12 = .ok (.iconst 0, 1) := by decide +kernel
theorem dX7_init_13 : decode cX7_init 13 = .ok (.istore_n 1, 1) := by decide +kernel
theorem dX7_init_14 : decode cX7_init 14 = .ok (.iload_n 1, 1) := by decide +kernel
theorem dX7_init_15 : decode cX7_init 15 = .ok (.bipush 30, 2) := by decide +kernel
theorem dX7_init_17 : decode cX7_init 17 = .ok (.if_icmp .ge 18, 3) := by decide +kernel
theorem dX7_init_20 : decode cX7_init 20 = .ok (.aload_n 0, 1) := by decide +kernel
theorem dX7_init_21 : decode cX7_init 21 = .ok (.getfield 11, 3) := by decide +kernel
theorem dX7_init_24 : decode cX7_init 24 = .ok (.iload_n 1, 1) := by decide +kernel
theorem dX7_init_25 : decode cX7_init 25 = .ok (.iconst (-1), 1) := by decide +kernel
theorem dX7_init_26 : decode cX7_init 26 = .ok (.invokestatic 15, 3) := by decide +kernel
theorem dX7_init_29 : decode cX7_init 29 = .ok (.iinc 1 1, 3) := by decide +kernel
theorem dX7_init_32 : decode cX7_init 32 = .ok (.goto (-18), 3) := by decide +kernel
theorem dX7_init_35 : decode cX7_init 35 = .ok (.return_, 1) := by decide +kernel
theorem dX7_tell_0 : decode cX7_tell 0 = .ok (.aload_n 0, 1) := by decide +kernel
theorem dX7_tell_1 : decode cX7_tell 1 = .ok (.getfield 11, 3) := by decide +kernel
theorem dX7_tell_4 : decode cX7_tell 4 = .ok (.iload_n 1, 1) := by decide +kernel
theorem dX7_tell_5 : decode cX7_tell 5 = .ok (.invokestatic 19, 3) := by decide +kernel
theorem dX7_tell_8 : decode cX7_tell 8 = .ok (.istore_n 3, 1) := by decide +kernel
theorem dX7_tell_9 : decode cX7_tell 9 = .ok (.aload_n 0, 1) := by decide +kernel
theorem dX7_tell_10 : decode cX7_tell 10 = .ok (.getfield 11, 3) := by decide +kernel
theorem dX7_tell_13 : decode cX7_tell 13 = .ok (.iload_n 1, 1) := by decide +kernel
theorem dX7_tell_14 : decode cX7_tell 14 = .ok (.iload_n 2, 1) := by decide +kernel
theorem dX7_tell_15 : decode cX7_tell 15 = .ok (.invokestatic 15, 3) := by decide +kernel
theorem dX7_tell_18 : decode cX7_tell 18 = .ok (.iload_n 3, 1) := by decide +kernel
theorem dX7_tell_19 : decode cX7_tell 19 = .ok (.ireturn, 1) := by decide +kernel
theorem dX7_leastRound_0 : decode cX7_leastRound 0 = .ok (.iconst 1, 1) := by decide +kernel
theorem dX7_leastRound_1 : decode cX7_leastRound 1 = .ok (.istore_n 1, 1) := by decide +kernel
theorem dX7_leastRound_2 : decode cX7_leastRound 2 = .ok (.iload_n 1, 1) := by decide +kernel
theorem dX7_leastRound_3 : decode cX7_leastRound 3 = .ok (.bipush 30, 2) := by decide +kernel
theorem dX7_leastRound_5 : decode cX7_leastRound 5 = .ok (.if_icmp .ge 19, 3) := by decide +kernel
theorem dX7_leastRound_8 : decode cX7_leastRound 8 = .ok (.aload_n 0, 1) := by decide +kernel
theorem dX7_leastRound_9 : decode cX7_leastRound 9 = .ok (.iload_n 1, 1) := by decide +kernel
theorem dX7_leastRound_10 : decode cX7_leastRound 10 = .ok (.invokevirtual 23, 3) := by decide +kernel
theorem dX7_leastRound_13 : decode cX7_leastRound 13 = .ok (.ifCond .eq 5, 3) := by decide +kernel
theorem dX7_leastRound_16 : decode cX7_leastRound 16 = .ok (.iload_n 1, 1) := by decide +kernel
theorem dX7_leastRound_17 : decode cX7_leastRound 17 = .ok (.ireturn, 1) := by decide +kernel
theorem dX7_leastRound_18 : decode cX7_leastRound 18 = .ok (.iinc 1 1, 3) := by decide +kernel
theorem dX7_leastRound_21 : decode cX7_leastRound 21 = .ok (.goto (-19), 3) := by decide +kernel
theorem dX7_leastRound_24 : decode cX7_leastRound 24 = .ok (.bipush 30, 2) := by decide +kernel
theorem dX7_leastRound_26 : decode cX7_leastRound 26 = .ok (.ireturn, 1) := by decide +kernel
theorem dX7_allAlike_0 : decode cX7_allAlike 0 = .ok (.iconst 0, 1) := by decide +kernel
theorem dX7_allAlike_1 : decode cX7_allAlike 1 = .ok (.istore_n 2, 1) := by decide +kernel
theorem dX7_allAlike_2 : decode cX7_allAlike 2 = .ok (.iload_n 2, 1) := by decide +kernel
theorem dX7_allAlike_3 : decode cX7_allAlike 3 = .ok (.bipush 30, 2) := by decide +kernel
theorem dX7_allAlike_5 : decode cX7_allAlike 5 = .ok (.if_icmp .ge 48, 3) := by decide +kernel
theorem dX7_allAlike_8 : decode cX7_allAlike 8 = .ok (.iconst 1, 1) := by decide +kernel
theorem dX7_allAlike_9 : decode cX7_allAlike 9 = .ok (.istore_n 3, 1) := by decide +kernel
theorem dX7_allAlike_10 : decode cX7_allAlike 10 = .ok (.iload_n 3, 1) := by decide +kernel
theorem dX7_allAlike_11 : decode cX7_allAlike 11 = .ok (.bipush 30, 2) := by decide +kernel
theorem dX7_allAlike_13 : decode cX7_allAlike 13 = .ok (.if_icmp .ge 34, 3) := by decide +kernel
theorem dX7_allAlike_16 : decode cX7_allAlike 16 = .ok (.iload_n 2, 1) := by decide +kernel
theorem dX7_allAlike_17 : decode cX7_allAlike 17 = .ok (.iload_n 3, 1) := by decide +kernel
theorem dX7_allAlike_18 : decode cX7_allAlike 18 = .ok (.iload_n 1, 1) := by decide +kernel
theorem dX7_allAlike_19 : decode cX7_allAlike 19 = .ok (.imul, 1) := by decide +kernel
theorem dX7_allAlike_20 : decode cX7_allAlike 20 = .ok (.iadd, 1) := by decide +kernel
theorem dX7_allAlike_21 : decode cX7_allAlike 21 = .ok (.bipush 30, 2) := by decide +kernel
theorem dX7_allAlike_23 : decode cX7_allAlike 23 = .ok (.if_icmp .ge 24, 3) := by decide +kernel
theorem dX7_allAlike_26 : decode cX7_allAlike 26 = .ok (.aload_n 0, 1) := by decide +kernel
theorem dX7_allAlike_27 : decode cX7_allAlike 27 = .ok (.iload_n 2, 1) := by decide +kernel
theorem dX7_allAlike_28 : decode cX7_allAlike 28 = .ok (.iload_n 2, 1) := by decide +kernel
theorem dX7_allAlike_29 : decode cX7_allAlike 29 = .ok (.iload_n 3, 1) := by decide +kernel
theorem dX7_allAlike_30 : decode cX7_allAlike 30 = .ok (.iload_n 1, 1) := by decide +kernel
theorem dX7_allAlike_31 : decode cX7_allAlike 31 = .ok (.imul, 1) := by decide +kernel
theorem dX7_allAlike_32 : decode cX7_allAlike 32 = .ok (.iadd, 1) := by decide +kernel
theorem dX7_allAlike_33 : decode cX7_allAlike 33 = .ok (.invokevirtual 27, 3) := by decide +kernel
theorem dX7_allAlike_36 : decode cX7_allAlike 36 = .ok (.ifCond .eq 5, 3) := by decide +kernel
theorem dX7_allAlike_39 : decode cX7_allAlike 39 = .ok (.iconst 0, 1) := by decide +kernel
theorem dX7_allAlike_40 : decode cX7_allAlike 40 = .ok (.ireturn, 1) := by decide +kernel
theorem dX7_allAlike_41 : decode cX7_allAlike 41 = .ok (.iinc 3 1, 3) := by decide +kernel
theorem dX7_allAlike_44 : decode cX7_allAlike 44 = .ok (.goto (-34), 3) := by decide +kernel
theorem dX7_allAlike_47 : decode cX7_allAlike 47 = .ok (.iinc 2 1, 3) := by decide +kernel
theorem dX7_allAlike_50 : decode cX7_allAlike 50 = .ok (.goto (-48), 3) := by decide +kernel
theorem dX7_allAlike_53 : decode cX7_allAlike 53 = .ok (.iconst 1, 1) := by decide +kernel
theorem dX7_allAlike_54 : decode cX7_allAlike 54 = .ok (.ireturn, 1) := by decide +kernel
theorem dX7_areUnlike_0 : decode cX7_areUnlike 0 = .ok (.aload_n 0, 1) := by decide +kernel
theorem dX7_areUnlike_1 : decode cX7_areUnlike 1 = .ok (.getfield 11, 3) := by decide +kernel
theorem dX7_areUnlike_4 : decode cX7_areUnlike 4 = .ok (.iload_n 1, 1) := by decide +kernel
theorem dX7_areUnlike_5 : decode cX7_areUnlike 5 = .ok (.invokestatic 19, 3) := by decide +kernel
theorem dX7_areUnlike_8 : decode cX7_areUnlike 8 = .ok (.istore_n 3, 1) := by decide +kernel
theorem dX7_areUnlike_9 : decode cX7_areUnlike 9 = .ok (.aload_n 0, 1) := by decide +kernel
theorem dX7_areUnlike_10 : decode cX7_areUnlike 10 = .ok (.getfield 11, 3) := by decide +kernel
theorem dX7_areUnlike_13 : decode cX7_areUnlike 13 = .ok (.iload_n 2, 1) := by decide +kernel
theorem dX7_areUnlike_14 : decode cX7_areUnlike 14 = .ok (.invokestatic 19, 3) := by decide +kernel
theorem dX7_areUnlike_17 : decode cX7_areUnlike 17 = .ok (.istore 4, 2) := by decide +kernel
theorem dX7_areUnlike_19 : decode cX7_areUnlike 19 = .ok (.iload_n 3, 1) := by decide +kernel
theorem dX7_areUnlike_20 : decode cX7_areUnlike 20 = .ok (.iconst (-1), 1) := by decide +kernel
theorem dX7_areUnlike_21 : decode cX7_areUnlike 21 = .ok (.if_icmp .eq 19, 3) := by decide +kernel
theorem dX7_areUnlike_24 : decode cX7_areUnlike 24 = .ok (.iload 4, 2) := by decide +kernel
theorem dX7_areUnlike_26 : decode cX7_areUnlike 26 = .ok (.iconst (-1), 1) := by decide +kernel
theorem dX7_areUnlike_27 : decode cX7_areUnlike 27 = .ok (.if_icmp .eq 13, 3) := by decide +kernel
theorem dX7_areUnlike_30 : decode cX7_areUnlike 30 = .ok (.iload_n 3, 1) := by decide +kernel
theorem dX7_areUnlike_31 : decode cX7_areUnlike 31 = .ok (.iload 4, 2) := by decide +kernel
theorem dX7_areUnlike_33 : decode cX7_areUnlike 33 = .ok (.if_icmp .eq 7, 3) := by decide +kernel
theorem dX7_areUnlike_36 : decode cX7_areUnlike 36 = .ok (.iconst 1, 1) := by decide +kernel
theorem dX7_areUnlike_37 : decode cX7_areUnlike 37 = .ok (.goto 4, 3) := by decide +kernel
theorem dX7_areUnlike_40 : decode cX7_areUnlike 40 = .ok (.iconst 0, 1) := by decide +kernel
theorem dX7_areUnlike_41 : decode cX7_areUnlike 41 = .ok (.ireturn, 1) := by decide +kernel
theorem dX7_holderByTurns_0 : decode cX7_holderByTurns 0 = .ok (.aload_n 0, 1) := by decide +kernel
theorem dX7_holderByTurns_1 : decode cX7_holderByTurns 1 = .ok (.invokevirtual 31, 3) := by decide +kernel
theorem dX7_holderByTurns_4 : decode cX7_holderByTurns 4 = .ok (.istore_n 2, 1) := by decide +kernel
theorem dX7_holderByTurns_5 : decode cX7_holderByTurns 5 = .ok (.iload_n 1, 1) := by decide +kernel
theorem dX7_holderByTurns_6 : decode cX7_holderByTurns 6 = .ok (.iload_n 2, 1) := by decide +kernel
theorem dX7_holderByTurns_7 : decode cX7_holderByTurns 7 = .ok (.invokestatic 35, 3) := by decide +kernel
theorem dX7_holderByTurns_10 : decode cX7_holderByTurns 10 = .ok (.istore_n 3, 1) := by decide +kernel
theorem dX7_holderByTurns_11 : decode cX7_holderByTurns 11 = .ok (.iconst 0, 1) := by decide +kernel
theorem dX7_holderByTurns_12 : decode cX7_holderByTurns 12 = .ok (.istore 4, 2) := by decide +kernel
theorem dX7_holderByTurns_14 : decode cX7_holderByTurns 14 = .ok (.iload 4, 2) := by decide +kernel
theorem dX7_holderByTurns_16 : decode cX7_holderByTurns 16 = .ok (.bipush 30, 2) := by decide +kernel
theorem dX7_holderByTurns_18 : decode cX7_holderByTurns 18 = .ok (.if_icmp .ge 42, 3) := by decide +kernel
theorem dX7_holderByTurns_21 : decode cX7_holderByTurns 21 = .ok (.iload 4, 2) := by decide +kernel
theorem dX7_holderByTurns_23 : decode cX7_holderByTurns 23 = .ok (.iload_n 2, 1) := by decide +kernel
theorem dX7_holderByTurns_24 : decode cX7_holderByTurns 24 = .ok (.invokestatic 35, 3) := by decide +kernel
theorem dX7_holderByTurns_27 : decode cX7_holderByTurns 27 = .ok (.iload_n 3, 1) := by decide +kernel
theorem dX7_holderByTurns_28 : decode cX7_holderByTurns 28 = .ok (.if_icmp .ne 26, 3) := by decide +kernel
theorem dX7_holderByTurns_31 : decode cX7_holderByTurns 31 = .ok (.aload_n 0, 1) := by decide +kernel
theorem dX7_holderByTurns_32 : decode cX7_holderByTurns 32 = .ok (.getfield 11, 3) := by decide +kernel
theorem dX7_holderByTurns_35 : decode cX7_holderByTurns 35 = .ok (.iload 4, 2) := by decide +kernel
theorem dX7_holderByTurns_37 : decode cX7_holderByTurns 37 = .ok (.invokestatic 19, 3) := by decide +kernel
theorem dX7_holderByTurns_40 : decode cX7_holderByTurns 40 = .ok (.iconst (-1), 1) := by decide +kernel
theorem dX7_holderByTurns_41 : decode cX7_holderByTurns 41 = .ok (.if_icmp .eq 13, 3) := by decide +kernel
theorem dX7_holderByTurns_44 : decode cX7_holderByTurns 44 = .ok (.aload_n 0, 1) := by decide +kernel
theorem dX7_holderByTurns_45 : decode cX7_holderByTurns 45 = .ok (.getfield 11, 3) := by decide +kernel
theorem dX7_holderByTurns_48 : decode cX7_holderByTurns 48 = .ok (.iload 4, 2) := by decide +kernel
theorem dX7_holderByTurns_50 : decode cX7_holderByTurns 50 = .ok (.invokestatic 19, 3) := by decide +kernel
theorem dX7_holderByTurns_53 : decode cX7_holderByTurns 53 = .ok (.ireturn, 1) := by decide +kernel
theorem dX7_holderByTurns_54 : decode cX7_holderByTurns 54 = .ok (.iinc 4 1, 3) := by decide +kernel
theorem dX7_holderByTurns_57 : decode cX7_holderByTurns 57 = .ok (.goto (-43), 3) := by decide +kernel
theorem dX7_holderByTurns_60 : decode cX7_holderByTurns 60 = .ok (.iconst (-1), 1) := by decide +kernel
theorem dX7_holderByTurns_61 : decode cX7_holderByTurns 61 = .ok (.ireturn, 1) := by decide +kernel
theorem dX8_init_0 : decode cX8_init 0 = .ok (.aload_n 0, 1) := by decide +kernel
theorem dX8_init_1 : decode cX8_init 1 = .ok (.invokespecial 3, 3) := by decide +kernel
theorem dX8_init_4 : decode cX8_init 4 = .ok (.aload_n 0, 1) := by decide +kernel
theorem dX8_init_5 : decode cX8_init 5 = .ok (.bipush 14, 2) := by decide +kernel
theorem dX8_init_7 : decode cX8_init 7 = .ok (.newarray .int, 2) := by decide +kernel
theorem dX8_init_9 : decode cX8_init 9 = .ok (.putfield 9, 3) := by decide +kernel
theorem dX8_init_12 : decode cX8_init 12 = .ok (.aload_n 0, 1) := by decide +kernel
theorem dX8_init_13 : decode cX8_init 13 = .ok (.bipush 14, 2) := by decide +kernel
theorem dX8_init_15 : decode cX8_init 15 = .ok (.newarray .int, 2) := by decide +kernel
theorem dX8_init_17 : decode cX8_init 17 = .ok (.putfield 15, 3) := by decide +kernel
theorem dX8_init_20 : decode cX8_init 20 = .ok (.aload_n 0, 1) := by decide +kernel
theorem dX8_init_21 : decode cX8_init 21 = .ok (.bipush 14, 2) := by decide +kernel
theorem dX8_init_23 : decode cX8_init 23 = .ok (.newarray .int, 2) := by decide +kernel
theorem dX8_init_25 : decode cX8_init 25 = .ok (.putfield 18, 3) := by decide +kernel
theorem dX8_init_28 : decode cX8_init 28 = .ok (.aload_n 0, 1) := by decide +kernel
theorem dX8_init_29 : decode cX8_init 29 = .ok (.bipush 14, 2) := by decide +kernel
theorem dX8_init_31 : decode cX8_init 31 = .ok (.newarray .int, 2) := by decide +kernel
theorem dX8_init_33 : decode cX8_init 33 = .ok (.putfield 21, 3) := by decide +kernel
theorem dX8_init_36 : decode cX8_init 36 = .ok (.aload_n 0, 1) := by decide +kernel
theorem dX8_init_37 : decode cX8_init 37 = .ok (.aload_n 1, 1) := by decide +kernel
theorem dX8_init_38 : decode cX8_init 38 = .ok (.putfield 24, 3) := by decide +kernel
theorem dX8_init_41 : decode cX8_init 41 = .ok (.return_, 1) := by decide +kernel
theorem dX8_earliestOf_0 : decode cX8_earliestOf 0 = .ok (.aload_n 0, 1) := by decide +kernel
theorem dX8_earliestOf_1 : decode cX8_earliestOf 1 = .ok (.getfield 9, 3) := by decide +kernel
theorem dX8_earliestOf_4 : decode cX8_earliestOf 4 = .ok (.iload_n 1, 1) := by decide +kernel
theorem dX8_earliestOf_5 : decode cX8_earliestOf 5 = .ok (.invokestatic 28, 3) := by decide +kernel
theorem dX8_earliestOf_8 : decode cX8_earliestOf 8 = .ok (.ireturn, 1) := by decide +kernel
theorem dX8_latestOf_0 : decode cX8_latestOf 0 = .ok (.aload_n 0, 1) := by decide +kernel
theorem dX8_latestOf_1 : decode cX8_latestOf 1 = .ok (.getfield 15, 3) := by decide +kernel
theorem dX8_latestOf_4 : decode cX8_latestOf 4 = .ok (.iload_n 1, 1) := by decide +kernel
theorem dX8_latestOf_5 : decode cX8_latestOf 5 = .ok (.invokestatic 28, 3) := by decide +kernel
theorem dX8_latestOf_8 : decode cX8_latestOf 8 = .ok (.ireturn, 1) := by decide +kernel
theorem dX8_settle_0 : decode cX8_settle 0 = .ok (.aload_n 0, 1) := by decide +kernel
theorem dX8_settle_1 : decode cX8_settle 1 = .ok (.invokevirtual 32, 3) := by decide +kernel
theorem dX8_settle_4 : decode cX8_settle 4 = .ok (.ifCond .eq 5, 3) := by decide +kernel
theorem dX8_settle_7 : decode cX8_settle 7 = .ok (.iconst 0, 1) := by decide +kernel
theorem dX8_settle_8 : decode cX8_settle 8 = .ok (.ireturn, 1) := by decide +kernel
theorem dX8_settle_9 : decode cX8_settle 9 = .ok (.iconst 0, 1) := by decide +kernel
theorem dX8_settle_10 : decode cX8_settle 10 = .ok (.istore_n 1, 1) := by decide +kernel
theorem dX8_settle_11 : decode cX8_settle 11 = .ok (.iload_n 1, 1) := by decide +kernel
theorem dX8_settle_12 : decode cX8_settle 12 = .ok (.bipush 14, 2) := by decide +kernel
theorem dX8_settle_14 : decode cX8_settle 14 = .ok (.if_icmp .ge 14, 3) := by decide +kernel
theorem dX8_settle_17 : decode cX8_settle 17 = .ok (.aload_n 0, 1) := by decide +kernel
theorem dX8_settle_18 : decode cX8_settle 18 = .ok (.iload_n 1, 1) := by decide +kernel
theorem dX8_settle_19 : decode cX8_settle 19 = .ok (.invokevirtual 36, 3) := by decide +kernel
theorem dX8_settle_22 : decode cX8_settle 22 = .ok (.iinc 1 1, 3) := by decide +kernel
theorem dX8_settle_25 : decode cX8_settle 25 = .ok (.goto (-14), 3) := by decide +kernel
theorem dX8_settle_28 : decode cX8_settle 28 = .ok (.iconst 0, 1) := by decide +kernel
theorem dX8_settle_29 : decode cX8_settle 29 = .ok (.istore_n 1, 1) := by decide +kernel
theorem dX8_settle_30 : decode cX8_settle 30 = .ok (.iload_n 1, 1) := by decide +kernel
theorem dX8_settle_31 : decode cX8_settle 31 = .ok (.bipush 14, 2) := by decide +kernel
theorem dX8_settle_33 : decode cX8_settle 33 = .ok (.if_icmp .ge 36, 3) := by decide +kernel
theorem dX8_settle_36 : decode cX8_settle 36 = .ok (.iconst 0, 1) := by decide +kernel
theorem dX8_settle_37 : decode cX8_settle 37 = .ok (.istore_n 2, 1) := by decide +kernel
theorem dX8_settle_38 : decode cX8_settle 38 = .ok (.iload_n 2, 1) := by decide +kernel
theorem dX8_settle_39 : decode cX8_settle 39 = .ok (.bipush 14, 2) := by decide +kernel
theorem dX8_settle_41 : decode cX8_settle 41 = .ok (.if_icmp .ge 22, 3) := by decide +kernel
theorem dX8_settle_44 : decode cX8_settle 44 = .ok (.aload_n 0, 1) := by decide +kernel
theorem dX8_settle_45 : decode cX8_settle 45 = .ok (.iload_n 2, 1) := by decide +kernel
theorem dX8_settle_46 : decode cX8_settle 46 = .ok (.aload_n 0, 1) := by decide +kernel
theorem dX8_settle_47 : decode cX8_settle 47 = .ok (.getfield 24, 3) := by decide +kernel
theorem dX8_settle_50 : decode cX8_settle 50 = .ok (.iload_n 2, 1) := by decide +kernel
theorem dX8_settle_51 : decode cX8_settle 51 = .ok (.invokevirtual 40, 3) := by decide +kernel
theorem dX8_settle_54 : decode cX8_settle 54 = .ok (.invokevirtual 46, 3) := by decide +kernel
theorem dX8_settle_57 : decode cX8_settle 57 = .ok (.iinc 2 1, 3) := by decide +kernel
theorem dX8_settle_60 : decode cX8_settle 60 = .ok (.goto (-22), 3) := by decide +kernel
theorem dX8_settle_63 : decode cX8_settle 63 = .ok (.iinc 1 1, 3) := by decide +kernel
theorem dX8_settle_66 : decode cX8_settle 66 = .ok (.goto (-36), 3) := by decide +kernel
theorem dX8_settle_69 : decode cX8_settle 69 = .ok (.iconst 0, 1) := by decide +kernel
theorem dX8_settle_70 : decode cX8_settle 70 = .ok (.istore_n 1, 1) := by decide +kernel
theorem dX8_settle_71 : decode cX8_settle 71 = .ok (.iload_n 1, 1) := by decide +kernel
theorem dX8_settle_72 : decode cX8_settle 72 = .ok (.bipush 14, 2) := by decide +kernel
theorem dX8_settle_74 : decode cX8_settle 74 = .ok (.if_icmp .ge 35, 3) := by decide +kernel
theorem dX8_settle_77 : decode cX8_settle 77 = .ok (.aload_n 0, 1) := by decide +kernel
theorem dX8_settle_78 : decode cX8_settle 78 = .ok (.getfield 24, 3) := by decide +kernel
theorem dX8_settle_81 : decode cX8_settle 81 = .ok (.iload_n 1, 1) := by decide +kernel
theorem dX8_settle_82 : decode cX8_settle 82 = .ok (.invokevirtual 50, 3) := by decide +kernel
theorem dX8_settle_85 : decode cX8_settle 85 = .ok (.ifCond .eq 18, 3) := by decide +kernel
theorem dX8_settle_88 : decode cX8_settle 88 = .ok (.aload_n 0, 1) := by decide +kernel
theorem dX8_settle_89 : decode cX8_settle 89 = .ok (.iload_n 1, 1) := by decide +kernel
theorem dX8_settle_90 : decode cX8_settle 90 = .ok (.invokevirtual 54, 3) := by decide +kernel
theorem dX8_settle_93 : decode cX8_settle 93 = .ok (.aload_n 0, 1) := by decide +kernel
theorem dX8_settle_94 : decode cX8_settle 94 = .ok (.iload_n 1, 1) := by decide +kernel
theorem dX8_settle_95 : decode cX8_settle 95 = .ok (.invokevirtual 57, 3) := by decide +kernel
theorem dX8_settle_98 : decode cX8_settle 98 = .ok (.if_icmp .le 5, 3) := by decide +kernel
theorem dX8_settle_101 : decode cX8_settle 101 = .ok (.iconst 0, 1) := by decide +kernel
theorem dX8_settle_102 : decode cX8_settle 102 = .ok (.ireturn, 1) := by decide +kernel
theorem dX8_settle_103 : decode cX8_settle 103 = .ok (.iinc 1 1, 3) := by decide +kernel
theorem dX8_settle_106 : decode cX8_settle 106 = .ok (.goto (-35), 3) := by decide +kernel
theorem dX8_settle_109 : decode cX8_settle 109 = .ok (.iconst 1, 1) := by decide +kernel
theorem dX8_settle_110 : decode cX8_settle 110 = .ok (.ireturn, 1) := by decide +kernel
theorem dX8_takeToldYears_0 : decode cX8_takeToldYears 0 = .ok (.aload_n 0, 1) := by decide +kernel
theorem dX8_takeToldYears_1 : decode cX8_takeToldYears 1 = .ok (.getfield 24, 3) := by decide +kernel
theorem dX8_takeToldYears_4 : decode cX8_takeToldYears 4 = .ok (.getfield 60, 3) := by decide +kernel
theorem dX8_takeToldYears_7 : decode cX8_takeToldYears 7 = .ok (.iload_n 1, 1) := by decide +kernel
theorem dX8_takeToldYears_8 : decode cX8_takeToldYears 8 = .ok (.invokestatic 28, 3) := by decide +kernel
theorem dX8_takeToldYears_11 : decode cX8_takeToldYears 11 = .ok (.istore_n 2, 1) := by decide +kernel
theorem dX8_takeToldYears_12 : decode cX8_takeToldYears 12 = .ok (.aload_n 0, 1) := by decide +kernel
theorem dX8_takeToldYears_13 : decode cX8_takeToldYears 13 = .ok (.getfield 24, 3) := by decide +kernel
theorem dX8_takeToldYears_16 : decode cX8_takeToldYears 16 = .ok (.getfield 63, 3) := by decide +kernel
theorem dX8_takeToldYears_19 : decode cX8_takeToldYears 19 = .ok (.iload_n 1, 1) := by decide +kernel
theorem dX8_takeToldYears_20 : decode cX8_takeToldYears 20 = .ok (.invokestatic 28, 3) := by decide +kernel
theorem dX8_takeToldYears_23 : decode cX8_takeToldYears 23 = .ok (.istore_n 3, 1) := by decide +kernel
theorem dX8_takeToldYears_24 : decode cX8_takeToldYears 24 = .ok (.aload_n 0, 1) := by decide +kernel
theorem dX8_takeToldYears_25 : decode cX8_takeToldYears 25 = .ok (.getfield 24, 3) := by decide +kernel
theorem dX8_takeToldYears_28 : decode cX8_takeToldYears 28 = .ok (.iload_n 1, 1) := by decide +kernel
theorem dX8_takeToldYears_29 : decode cX8_takeToldYears 29 = .ok (.invokevirtual 66, 3) := by decide +kernel
theorem dX8_takeToldYears_32 : decode cX8_takeToldYears 32 = .ok (.ifCond .eq 14, 3) := by decide +kernel
theorem dX8_takeToldYears_35 : decode cX8_takeToldYears 35 = .ok (.aload_n 0, 1) := by decide +kernel
theorem dX8_takeToldYears_36 : decode cX8_takeToldYears 36 = .ok (.getfield 24, 3) := by decide +kernel
theorem dX8_takeToldYears_39 : decode cX8_takeToldYears 39 = .ok (.iload_n 1, 1) := by decide +kernel
theorem dX8_takeToldYears_40 : decode cX8_takeToldYears 40 = .ok (.invokevirtual 69, 3) := by decide +kernel
theorem dX8_takeToldYears_43 : decode cX8_takeToldYears 43 = .ok (.goto 4, 3) := by decide +kernel
theorem dX8_takeToldYears_46 : decode cX8_takeToldYears 46 = .ok (.iconst 0, 1) := by decide +kernel
theorem dX8_takeToldYears_47 : decode cX8_takeToldYears 47 = .ok (.istore 4, 2) := by decide +kernel
theorem dX8_takeToldYears_49 : decode cX8_takeToldYears 49 = .ok (.iload 4, 2) := by decide +kernel
theorem dX8_takeToldYears_51 : decode cX8_takeToldYears 51 = .ok (.ifCond .eq 85, 3) := by decide +kernel
theorem dX8_takeToldYears_54 : decode cX8_takeToldYears 54 = .ok (.sipush 2000, 3) := by decide +kernel
theorem dX8_takeToldYears_57 : decode cX8_takeToldYears 57 = .ok (.istore 5, 2) := by decide +kernel
theorem dX8_takeToldYears_59 : decode cX8_takeToldYears 59 = .ok (.iconst 0, 1) := by decide +kernel
theorem dX8_takeToldYears_60 : decode cX8_takeToldYears 60 = .ok (.istore 6, 2) := by decide +kernel
theorem dX8_takeToldYears_62 : decode cX8_takeToldYears 62 = .ok (.iconst 1, 1) := by decide +kernel
theorem dX8_takeToldYears_63 : decode cX8_takeToldYears 63 = .ok (.istore 7, 2) := by decide +kernel
theorem dX8_takeToldYears_65 : decode cX8_takeToldYears 65 = .ok (.iload 7, 2) := by decide +kernel
theorem dX8_takeToldYears_67 : decode cX8_takeToldYears 67 = .ok (.bipush 12, 2) := by decide +kernel
theorem dX8_takeToldYears_69 : decode cX8_takeToldYears 69 = .ok (.if_icmp .gt 53, 3) := by decide +kernel
theorem dX8_takeToldYears_72 : decode cX8_takeToldYears 72 = .ok (.iload 4, 2) := by decide +kernel
theorem dX8_takeToldYears_74 : decode cX8_takeToldYears 74 = .ok (.iload 7, 2) := by decide +kernel
theorem dX8_takeToldYears_76 : decode cX8_takeToldYears 76 = .ok (.invokestatic 72, 3) := by decide +kernel
theorem dX8_takeToldYears_79 : decode cX8_takeToldYears 79 = .ok (.ifCond .eq 37, 3) := by decide +kernel
theorem dX8_takeToldYears_82 : decode cX8_takeToldYears 82 = .ok (.iload 5, 2) := by decide +kernel
theorem dX8_takeToldYears_84 : decode cX8_takeToldYears 84 = .ok (.aload_n 0, 1) := by decide +kernel
theorem dX8_takeToldYears_85 : decode cX8_takeToldYears 85 = .ok (.getfield 24, 3) := by decide +kernel
theorem dX8_takeToldYears_88 : decode cX8_takeToldYears 88 = .ok (.iload 7, 2) := by decide +kernel
theorem dX8_takeToldYears_90 : decode cX8_takeToldYears 90 = .ok (.iconst 2, 1) := by decide +kernel
theorem dX8_takeToldYears_91 : decode cX8_takeToldYears 91 = .ok (.invokevirtual 76, 3) := by decide +kernel
theorem dX8_takeToldYears_94 : decode cX8_takeToldYears 94 = .ok (.invokestatic 80, 3) := by decide +kernel
theorem dX8_takeToldYears_97 : decode cX8_takeToldYears 97 = .ok (.istore 5, 2) := by decide +kernel
theorem dX8_takeToldYears_99 : decode cX8_takeToldYears 99 = .ok (.iload 6, 2) := by decide +kernel
theorem dX8_takeToldYears_101 : decode cX8_takeToldYears 101 = .ok (.aload_n 0, 1) := by decide +kernel
theorem dX8_takeToldYears_102 : decode cX8_takeToldYears 102 = .ok (.getfield 24, 3) := by decide +kernel
theorem dX8_takeToldYears_105 : decode cX8_takeToldYears 105 = .ok (.iload 7, 2) := by decide +kernel
theorem dX8_takeToldYears_107 : decode cX8_takeToldYears 107 = .ok (.iconst 3, 1) := by decide +kernel
theorem dX8_takeToldYears_108 : decode cX8_takeToldYears 108 = .ok (.invokevirtual 76, 3) := by decide +kernel
theorem dX8_takeToldYears_111 : decode cX8_takeToldYears 111 = .ok (.invokestatic 85, 3) := by decide +kernel
theorem dX8_takeToldYears_114 : decode cX8_takeToldYears 114 = .ok (.istore 6, 2) := by decide +kernel
theorem dX8_takeToldYears_116 : decode cX8_takeToldYears 116 = .ok (.iinc 7 1, 3) := by decide +kernel
theorem dX8_takeToldYears_119 : decode cX8_takeToldYears 119 = .ok (.goto (-54), 3) := by decide +kernel
theorem dX8_takeToldYears_122 : decode cX8_takeToldYears 122 = .ok (.iload_n 2, 1) := by decide +kernel
theorem dX8_takeToldYears_123 : decode cX8_takeToldYears 123 = .ok (.iload 5, 2) := by decide +kernel
theorem dX8_takeToldYears_125 : decode cX8_takeToldYears 125 = .ok (.invokestatic 85, 3) := by decide +kernel
theorem dX8_takeToldYears_128 : decode cX8_takeToldYears 128 = .ok (.istore_n 2, 1) := by decide +kernel
theorem dX8_takeToldYears_129 : decode cX8_takeToldYears 129 = .ok (.iload_n 3, 1) := by decide +kernel
theorem dX8_takeToldYears_130 : decode cX8_takeToldYears 130 = .ok (.iload 6, 2) := by decide +kernel
theorem dX8_takeToldYears_132 : decode cX8_takeToldYears 132 = .ok (.invokestatic 80, 3) := by decide +kernel
theorem dX8_takeToldYears_135 : decode cX8_takeToldYears 135 = .ok (.istore_n 3, 1) := by decide +kernel
theorem dX8_takeToldYears_136 : decode cX8_takeToldYears 136 = .ok (.aload_n 0, 1) := by decide +kernel
theorem dX8_takeToldYears_137 : decode cX8_takeToldYears 137 = .ok (.getfield 9, 3) := by decide +kernel
theorem dX8_takeToldYears_140 : decode cX8_takeToldYears 140 = .ok (.iload_n 1, 1) := by decide +kernel
theorem dX8_takeToldYears_141 : decode cX8_takeToldYears 141 = .ok (.iload_n 2, 1) := by decide +kernel
theorem dX8_takeToldYears_142 : decode cX8_takeToldYears 142 = .ok (.invokestatic 88, 3) := by decide +kernel
theorem dX8_takeToldYears_145 : decode cX8_takeToldYears 145 = .ok (.aload_n 0, 1) := by decide +kernel
theorem dX8_takeToldYears_146 : decode cX8_takeToldYears 146 = .ok (.getfield 15, 3) := by decide +kernel
theorem dX8_takeToldYears_149 : decode cX8_takeToldYears 149 = .ok (.iload_n 1, 1) := by decide +kernel
theorem dX8_takeToldYears_150 : decode cX8_takeToldYears 150 = .ok (.iload_n 3, 1) := by decide +kernel
theorem dX8_takeToldYears_151 : decode cX8_takeToldYears 151 = .ok (.invokestatic 88, 3) := by decide +kernel
theorem dX8_takeToldYears_154 : decode cX8_takeToldYears 154 = .ok (.return_, 1) := by decide +kernel
theorem dX8_tighten_0 : decode cX8_tighten 0 = .ok (.iconst 0, 1) := by decide +kernel
theorem dX8_tighten_1 : decode cX8_tighten 1 = .ok (.istore_n 3, 1) := by decide +kernel
theorem dX8_tighten_2 : decode cX8_tighten 2 = .ok (.iload_n 3, 1) := by decide +kernel
theorem dX8_tighten_3 : decode cX8_tighten 3 = .ok (.bipush 14, 2) := by decide +kernel
theorem dX8_tighten_5 : decode cX8_tighten 5 = .ok (.if_icmp .ge 67, 3) := by decide +kernel
theorem dX8_tighten_8 : decode cX8_tighten 8 = .ok (.iload_n 2, 1) := by decide +kernel
theorem dX8_tighten_9 : decode cX8_tighten 9 = .ok (.ifCond .eq 63, 3) := by decide +kernel
theorem dX8_tighten_12 : decode cX8_tighten 12 = .ok (.iload_n 2, 1) := by decide +kernel
theorem dX8_tighten_13 : decode cX8_tighten 13 = .ok (.iload_n 3, 1) := by decide +kernel
theorem dX8_tighten_14 : decode cX8_tighten 14 = .ok (.invokestatic 72, 3) := by decide +kernel
theorem dX8_tighten_17 : decode cX8_tighten 17 = .ok (.ifCond .eq 49, 3) := by decide +kernel
theorem dX8_tighten_20 : decode cX8_tighten 20 = .ok (.aload_n 0, 1) := by decide +kernel
theorem dX8_tighten_21 : decode cX8_tighten 21 = .ok (.getfield 9, 3) := by decide +kernel
theorem dX8_tighten_24 : decode cX8_tighten 24 = .ok (.iload_n 1, 1) := by decide +kernel
theorem dX8_tighten_25 : decode cX8_tighten 25 = .ok (.aload_n 0, 1) := by decide +kernel
theorem dX8_tighten_26 : decode cX8_tighten 26 = .ok (.iload_n 1, 1) := by decide +kernel
theorem dX8_tighten_27 : decode cX8_tighten 27 = .ok (.invokevirtual 54, 3) := by decide +kernel
theorem dX8_tighten_30 : decode cX8_tighten 30 = .ok (.aload_n 0, 1) := by decide +kernel
theorem dX8_tighten_31 : decode cX8_tighten 31 = .ok (.iload_n 3, 1) := by decide +kernel
theorem dX8_tighten_32 : decode cX8_tighten 32 = .ok (.invokevirtual 54, 3) := by decide +kernel
theorem dX8_tighten_35 : decode cX8_tighten 35 = .ok (.iconst 1, 1) := by decide +kernel
theorem dX8_tighten_36 : decode cX8_tighten 36 = .ok (.iadd, 1) := by decide +kernel
theorem dX8_tighten_37 : decode cX8_tighten 37 = .ok (.invokestatic 85, 3) := by decide +kernel
theorem dX8_tighten_40 : decode cX8_tighten 40 = .ok (.invokestatic 88, 3) := by decide +kernel
theorem dX8_tighten_43 : decode cX8_tighten 43 = .ok (.aload_n 0, 1) := by decide +kernel
theorem dX8_tighten_44 : decode cX8_tighten 44 = .ok (.getfield 15, 3) := by decide +kernel
theorem dX8_tighten_47 : decode cX8_tighten 47 = .ok (.iload_n 3, 1) := by decide +kernel
theorem dX8_tighten_48 : decode cX8_tighten 48 = .ok (.aload_n 0, 1) := by decide +kernel
theorem dX8_tighten_49 : decode cX8_tighten 49 = .ok (.iload_n 3, 1) := by decide +kernel
theorem dX8_tighten_50 : decode cX8_tighten 50 = .ok (.invokevirtual 57, 3) := by decide +kernel
theorem dX8_tighten_53 : decode cX8_tighten 53 = .ok (.aload_n 0, 1) := by decide +kernel
theorem dX8_tighten_54 : decode cX8_tighten 54 = .ok (.iload_n 1, 1) := by decide +kernel
theorem dX8_tighten_55 : decode cX8_tighten 55 = .ok (.invokevirtual 57, 3) := by decide +kernel
theorem dX8_tighten_58 : decode cX8_tighten 58 = .ok (.iconst 1, 1) := by decide +kernel
theorem dX8_tighten_59 : decode cX8_tighten 59 = .ok (.isub, 1) := by decide +kernel
theorem dX8_tighten_60 : decode cX8_tighten 60 = .ok (.invokestatic 80, 3) := by decide +kernel
theorem dX8_tighten_63 : decode cX8_tighten 63 = .ok (.invokestatic 88, 3) := by decide +kernel
theorem dX8_tighten_66 : decode cX8_tighten 66 = .ok (.iinc 3 1, 3) := by decide +kernel
theorem dX8_tighten_69 : decode cX8_tighten 69 = .ok (.goto (-67), 3) := by decide +kernel
theorem dX8_tighten_72 : decode cX8_tighten 72 = .ok (.return_, 1) := by decide +kernel
theorem dX8_liesOverByOthers_0 : decode cX8_liesOverByOthers 0 = .ok (.aload_n 0, 1) := by decide +kernel
theorem dX8_liesOverByOthers_1 : decode cX8_liesOverByOthers 1 = .ok (.invokevirtual 92, 3) := by decide +kernel
theorem dX8_liesOverByOthers_4 : decode cX8_liesOverByOthers 4 = .ok (.aload_n 0, 1) := by decide +kernel
theorem dX8_liesOverByOthers_5 : decode cX8_liesOverByOthers 5 = .ok (.getfield 18, 3) := by decide +kernel
theorem dX8_liesOverByOthers_8 : decode cX8_liesOverByOthers 8 = .ok (.iload_n 1, 1) := by decide +kernel
theorem dX8_liesOverByOthers_9 : decode cX8_liesOverByOthers 9 = .ok (.invokestatic 28, 3) := by decide +kernel
theorem dX8_liesOverByOthers_12 : decode cX8_liesOverByOthers 12 = .ok (.iload_n 2, 1) := by decide +kernel
theorem dX8_liesOverByOthers_13 : decode cX8_liesOverByOthers 13 = .ok (.invokestatic 72, 3) := by decide +kernel
theorem dX8_liesOverByOthers_16 : decode cX8_liesOverByOthers 16 = .ok (.ireturn, 1) := by decide +kernel
theorem dX8_ringed_0 : decode cX8_ringed 0 = .ok (.aload_n 0, 1) := by decide +kernel
theorem dX8_ringed_1 : decode cX8_ringed 1 = .ok (.invokevirtual 92, 3) := by decide +kernel
theorem dX8_ringed_4 : decode cX8_ringed 4 = .ok (.iconst 0, 1) := by decide +kernel
theorem dX8_ringed_5 : decode cX8_ringed 5 = .ok (.istore_n 1, 1) := by decide +kernel
theorem dX8_ringed_6 : decode cX8_ringed 6 = .ok (.iconst 0, 1) := by decide +kernel
theorem dX8_ringed_7 : decode cX8_ringed 7 = .ok (.istore_n 2, 1) := by decide +kernel
theorem dX8_ringed_8 : decode cX8_ringed 8 = .ok (.iload_n 2, 1) := by decide +kernel
theorem dX8_ringed_9 : decode cX8_ringed 9 = .ok (.bipush 14, 2) := by decide +kernel
theorem dX8_ringed_11 : decode cX8_ringed 11 = .ok (.if_icmp .ge 30, 3) := by decide +kernel
theorem dX8_ringed_14 : decode cX8_ringed 14 = .ok (.aload_n 0, 1) := by decide +kernel
theorem dX8_ringed_15 : decode cX8_ringed 15 = .ok (.getfield 18, 3) := by decide +kernel
theorem dX8_ringed_18 : decode cX8_ringed 18 = .ok (.iload_n 2, 1) := by decide +kernel
theorem dX8_ringed_19 : decode cX8_ringed 19 = .ok (.invokestatic 28, 3) := by decide +kernel
theorem dX8_ringed_22 : decode cX8_ringed 22 = .ok (.iload_n 2, 1) := by decide +kernel
theorem dX8_ringed_23 : decode cX8_ringed 23 = .ok (.invokestatic 72, 3) := by decide +kernel
theorem dX8_ringed_26 : decode cX8_ringed 26 = .ok (.ifCond .eq 9, 3) := by decide +kernel
theorem dX8_ringed_29 : decode cX8_ringed 29 = .ok (.iload_n 1, 1) := by decide +kernel
theorem dX8_ringed_30 : decode cX8_ringed 30 = .ok (.iconst 1, 1) := by decide +kernel
theorem dX8_ringed_31 : decode cX8_ringed 31 = .ok (.iload_n 2, 1) := by decide +kernel
theorem dX8_ringed_32 : decode cX8_ringed 32 = .ok (.ishl, 1) := by decide +kernel
theorem dX8_ringed_33 : decode cX8_ringed 33 = .ok (.ior, 1) := by decide +kernel
theorem dX8_ringed_34 : decode cX8_ringed 34 = .ok (.istore_n 1, 1) := by decide +kernel
theorem dX8_ringed_35 : decode cX8_ringed 35 = .ok (.iinc 2 1, 3) := by decide +kernel
theorem dX8_ringed_38 : decode cX8_ringed 38 = .ok (.goto (-30), 3) := by decide +kernel
theorem dX8_ringed_41 : decode cX8_ringed 41 = .ok (.iload_n 1, 1) := by decide +kernel
theorem dX8_ringed_42 : decode cX8_ringed 42 = .ok (.ireturn, 1) := by decide +kernel
theorem dX8_closeOver_0 : decode cX8_closeOver 0 = .ok (.iconst 0, 1) := by decide +kernel
theorem dX8_closeOver_1 : decode cX8_closeOver 1 = .ok (.istore_n 1, 1) := by decide +kernel
theorem dX8_closeOver_2 : decode cX8_closeOver 2 = .ok (.iload_n 1, 1) := by decide +kernel
theorem dX8_closeOver_3 : decode cX8_closeOver 3 = .ok (.bipush 14, 2) := by decide +kernel
theorem dX8_closeOver_5 : decode cX8_closeOver 5 = .ok (.if_icmp .ge 25, 3) := by decide +kernel
theorem dX8_closeOver_8 : decode cX8_closeOver 8 = .ok (.aload_n 0, 1) := by decide +kernel
theorem dX8_closeOver_9 : decode cX8_closeOver 9 = .ok (.getfield 18, 3) := by decide +kernel
theorem dX8_closeOver_12 : decode cX8_closeOver 12 = .ok (.iload_n 1, 1) := by decide +kernel
theorem dX8_closeOver_13 : decode cX8_closeOver 13 = .ok (.aload_n 0, 1) := by decide +kernel
theorem dX8_closeOver_14 : decode cX8_closeOver 14 = .ok (.getfield 24, 3) := by decide +kernel
theorem dX8_closeOver_17 : decode cX8_closeOver 17 = .ok (.iload_n 1, 1) := by decide +kernel
theorem dX8_closeOver_18 : decode cX8_closeOver 18 = .ok (.invokevirtual 40, 3) := by decide +kernel
theorem dX8_closeOver_21 : decode cX8_closeOver 21 = .ok (.invokestatic 88, 3) := by decide +kernel
theorem dX8_closeOver_24 : decode cX8_closeOver 24 = .ok (.iinc 1 1, 3) := by decide +kernel
theorem dX8_closeOver_27 : decode cX8_closeOver 27 = .ok (.goto (-25), 3) := by decide +kernel
theorem dX8_closeOver_30 : decode cX8_closeOver 30 = .ok (.iconst 0, 1) := by decide +kernel
theorem dX8_closeOver_31 : decode cX8_closeOver 31 = .ok (.istore_n 1, 1) := by decide +kernel
theorem dX8_closeOver_32 : decode cX8_closeOver 32 = .ok (.iload_n 1, 1) := by decide +kernel
theorem dX8_closeOver_33 : decode cX8_closeOver 33 = .ok (.bipush 14, 2) := by decide +kernel
theorem dX8_closeOver_35 : decode cX8_closeOver 35 = .ok (.if_icmp .ge 63, 3) := by decide +kernel
theorem dX8_closeOver_38 : decode cX8_closeOver 38 = .ok (.iconst 0, 1) := by decide +kernel
theorem dX8_closeOver_39 : decode cX8_closeOver 39 = .ok (.istore_n 2, 1) := by decide +kernel
theorem dX8_closeOver_40 : decode cX8_closeOver 40 = .ok (.iload_n 2, 1) := by decide +kernel
theorem dX8_closeOver_41 : decode cX8_closeOver 41 = .ok (.bipush 14, 2) := by decide +kernel
theorem dX8_closeOver_43 : decode cX8_closeOver 43 = .ok (.if_icmp .ge 49, 3) := by decide +kernel
theorem dX8_closeOver_46 : decode cX8_closeOver 46 = .ok (.aload_n 0, 1) := by decide +kernel
theorem dX8_closeOver_47 : decode cX8_closeOver 47 = .ok (.getfield 18, 3) := by decide +kernel
theorem dX8_closeOver_50 : decode cX8_closeOver 50 = .ok (.iload_n 2, 1) := by decide +kernel
theorem dX8_closeOver_51 : decode cX8_closeOver 51 = .ok (.invokestatic 28, 3) := by decide +kernel
theorem dX8_closeOver_54 : decode cX8_closeOver 54 = .ok (.iload_n 1, 1) := by decide +kernel
theorem dX8_closeOver_55 : decode cX8_closeOver 55 = .ok (.invokestatic 72, 3) := by decide +kernel
theorem dX8_closeOver_58 : decode cX8_closeOver 58 = .ok (.ifCond .eq 28, 3) := by decide +kernel
theorem dX8_closeOver_61 : decode cX8_closeOver 61 = .ok (.aload_n 0, 1) := by decide +kernel
theorem dX8_closeOver_62 : decode cX8_closeOver 62 = .ok (.getfield 18, 3) := by decide +kernel
theorem dX8_closeOver_65 : decode cX8_closeOver 65 = .ok (.iload_n 2, 1) := by decide +kernel
theorem dX8_closeOver_66 : decode cX8_closeOver 66 = .ok (.aload_n 0, 1) := by decide +kernel
theorem dX8_closeOver_67 : decode cX8_closeOver 67 = .ok (.getfield 18, 3) := by decide +kernel
theorem dX8_closeOver_70 : decode cX8_closeOver 70 = .ok (.iload_n 2, 1) := by decide +kernel
theorem dX8_closeOver_71 : decode cX8_closeOver 71 = .ok (.invokestatic 28, 3) := by decide +kernel
theorem dX8_closeOver_74 : decode cX8_closeOver 74 = .ok (.aload_n 0, 1) := by decide +kernel
theorem dX8_closeOver_75 : decode cX8_closeOver 75 = .ok (.getfield 18, 3) := by decide +kernel
theorem dX8_closeOver_78 : decode cX8_closeOver 78 = .ok (.iload_n 1, 1) := by decide +kernel
theorem dX8_closeOver_79 : decode cX8_closeOver 79 = .ok (.invokestatic 28, 3) := by decide +kernel
theorem dX8_closeOver_82 : decode cX8_closeOver 82 = .ok (.ior, 1) := by decide +kernel
theorem dX8_closeOver_83 : decode cX8_closeOver 83 = .ok (.invokestatic 88, 3) := by decide +kernel
theorem dX8_closeOver_86 : decode cX8_closeOver 86 = .ok (.iinc 2 1, 3) := by decide +kernel
theorem dX8_closeOver_89 : decode cX8_closeOver 89 = .ok (.goto (-49), 3) := by decide +kernel
theorem dX8_closeOver_92 : decode cX8_closeOver 92 = .ok (.iinc 1 1, 3) := by decide +kernel
theorem dX8_closeOver_95 : decode cX8_closeOver 95 = .ok (.goto (-63), 3) := by decide +kernel
theorem dX8_closeOver_98 : decode cX8_closeOver 98 = .ok (.return_, 1) := by decide +kernel
theorem dX8_stackAt_0 : decode cX8_stackAt 0 = .ok (.aload_n 0, 1) := by decide +kernel
theorem dX8_stackAt_1 : decode cX8_stackAt 1 = .ok (.invokevirtual 32, 3) := by decide +kernel
theorem dX8_stackAt_4 : decode cX8_stackAt 4 = .ok (.ifCond .eq 5, 3) := by decide +kernel
theorem dX8_stackAt_7 : decode cX8_stackAt 7 = .ok (.iconst (-1), 1) := by decide +kernel
theorem dX8_stackAt_8 : decode cX8_stackAt 8 = .ok (.ireturn, 1) := by decide +kernel
theorem dX8_stackAt_9 : decode cX8_stackAt 9 = .ok (.aload_n 0, 1) := by decide +kernel
theorem dX8_stackAt_10 : decode cX8_stackAt 10 = .ok (.invokevirtual 95, 3) := by decide +kernel
theorem dX8_stackAt_13 : decode cX8_stackAt 13 = .ok (.istore_n 2, 1) := by decide +kernel
theorem dX8_stackAt_14 : decode cX8_stackAt 14 = .ok (.iload_n 1, 1) := by decide +kernel
theorem dX8_stackAt_15 : decode cX8_stackAt 15 = .ok (.iconst (-1), 1) := by decide +kernel
theorem dX8_stackAt_16 : decode cX8_stackAt 16 = .ok (.if_icmp .ne 5, 3) := by decide +kernel
theorem dX8_stackAt_19 : decode cX8_stackAt 19 = .ok (.iload_n 2, 1) := by decide +kernel
theorem dX8_stackAt_20 : decode cX8_stackAt 20 = .ok (.ireturn, 1) := by decide +kernel
theorem dX8_stackAt_21 : decode cX8_stackAt 21 = .ok (.iload_n 1, 1) := by decide +kernel
theorem dX8_stackAt_22 : decode cX8_stackAt 22 = .ok (.iload_n 2, 1) := by decide +kernel
theorem dX8_stackAt_23 : decode cX8_stackAt 23 = .ok (.if_icmp .lt 5, 3) := by decide +kernel
theorem dX8_stackAt_26 : decode cX8_stackAt 26 = .ok (.iconst (-1), 1) := by decide +kernel
theorem dX8_stackAt_27 : decode cX8_stackAt 27 = .ok (.ireturn, 1) := by decide +kernel
theorem dX8_stackAt_28 : decode cX8_stackAt 28 = .ok (.aload_n 0, 1) := by decide +kernel
theorem dX8_stackAt_29 : decode cX8_stackAt 29 = .ok (.aload_n 0, 1) := by decide +kernel
theorem dX8_stackAt_30 : decode cX8_stackAt 30 = .ok (.getfield 24, 3) := by decide +kernel
theorem dX8_stackAt_33 : decode cX8_stackAt 33 = .ok (.getfield 98, 3) := by decide +kernel
theorem dX8_stackAt_36 : decode cX8_stackAt 36 = .ok (.iload_n 2, 1) := by decide +kernel
theorem dX8_stackAt_37 : decode cX8_stackAt 37 = .ok (.invokevirtual 102, 3) := by decide +kernel
theorem dX8_stackAt_40 : decode cX8_stackAt 40 = .ok (.istore_n 3, 1) := by decide +kernel
theorem dX8_stackAt_41 : decode cX8_stackAt 41 = .ok (.iconst 1, 1) := by decide +kernel
theorem dX8_stackAt_42 : decode cX8_stackAt 42 = .ok (.istore 4, 2) := by decide +kernel
theorem dX8_stackAt_44 : decode cX8_stackAt 44 = .ok (.iload 4, 2) := by decide +kernel
theorem dX8_stackAt_46 : decode cX8_stackAt 46 = .ok (.iload_n 1, 1) := by decide +kernel
theorem dX8_stackAt_47 : decode cX8_stackAt 47 = .ok (.if_icmp .gt 26, 3) := by decide +kernel
theorem dX8_stackAt_50 : decode cX8_stackAt 50 = .ok (.aload_n 0, 1) := by decide +kernel
theorem dX8_stackAt_51 : decode cX8_stackAt 51 = .ok (.aload_n 0, 1) := by decide +kernel
theorem dX8_stackAt_52 : decode cX8_stackAt 52 = .ok (.getfield 24, 3) := by decide +kernel
theorem dX8_stackAt_55 : decode cX8_stackAt 55 = .ok (.iload_n 3, 1) := by decide +kernel
theorem dX8_stackAt_56 : decode cX8_stackAt 56 = .ok (.invokevirtual 40, 3) := by decide +kernel
theorem dX8_stackAt_59 : decode cX8_stackAt 59 = .ok (.iload_n 2, 1) := by decide +kernel
theorem dX8_stackAt_60 : decode cX8_stackAt 60 = .ok (.iload 4, 2) := by decide +kernel
theorem dX8_stackAt_62 : decode cX8_stackAt 62 = .ok (.isub, 1) := by decide +kernel
theorem dX8_stackAt_63 : decode cX8_stackAt 63 = .ok (.invokevirtual 102, 3) := by decide +kernel
theorem dX8_stackAt_66 : decode cX8_stackAt 66 = .ok (.istore_n 3, 1) := by decide +kernel
theorem dX8_stackAt_67 : decode cX8_stackAt 67 = .ok (.iinc 4 1, 3) := by decide +kernel
theorem dX8_stackAt_70 : decode cX8_stackAt 70 = .ok (.goto (-26), 3) := by decide +kernel
theorem dX8_stackAt_73 : decode cX8_stackAt 73 = .ok (.iload_n 3, 1) := by decide +kernel
theorem dX8_stackAt_74 : decode cX8_stackAt 74 = .ok (.ireturn, 1) := by decide +kernel
theorem dX8_measureHeights_0 : decode cX8_measureHeights 0 = .ok (.iconst 0, 1) := by decide +kernel
theorem dX8_measureHeights_1 : decode cX8_measureHeights 1 = .ok (.istore_n 1, 1) := by decide +kernel
theorem dX8_measureHeights_2 : decode cX8_measureHeights 2 = .ok (.iload_n 1, 1) := by decide +kernel
theorem dX8_measureHeights_3 : decode cX8_measureHeights 3 = .ok (.bipush 14, 2) := by decide +kernel
theorem dX8_measureHeights_5 : decode cX8_measureHeights 5 = .ok (.if_icmp .ge 28, 3) := by decide +kernel
theorem dX8_measureHeights_8 : decode cX8_measureHeights 8 = .ok (.aload_n 0, 1) := by decide +kernel
theorem dX8_measureHeights_9 : decode cX8_measureHeights 9 = .ok (.getfield 21, 3) := by decide +kernel
theorem dX8_measureHeights_12 : decode cX8_measureHeights 12 = .ok (.iload_n 1, 1) := by decide +kernel
theorem dX8_measureHeights_13 : decode cX8_measureHeights 13 = .ok (.aload_n 0, 1) := by decide +kernel
theorem dX8_measureHeights_14 : decode cX8_measureHeights 14 = .ok (.getfield 24, 3) := by decide +kernel
theorem dX8_measureHeights_17 : decode cX8_measureHeights 17 = .ok (.iload_n 1, 1) := by decide +kernel
theorem dX8_measureHeights_18 : decode cX8_measureHeights 18 = .ok (.invokevirtual 50, 3) := by decide +kernel
theorem dX8_measureHeights_21 : decode cX8_measureHeights 21 = .ok (.invokestatic 105, 3) := by decide +kernel
theorem dX8_measureHeights_24 : decode cX8_measureHeights 24 = .ok (.invokestatic 88, 3) := by decide +kernel
theorem dX8_measureHeights_27 : decode cX8_measureHeights 27 = .ok (.iinc 1 1, 3) := by decide +kernel
theorem dX8_measureHeights_30 : decode cX8_measureHeights 30 = .ok (.goto (-28), 3) := by decide +kernel
theorem dX8_measureHeights_33 : decode cX8_measureHeights 33 = .ok (.iconst 0, 1) := by decide +kernel
theorem dX8_measureHeights_34 : decode cX8_measureHeights 34 = .ok (.istore_n 1, 1) := by decide +kernel
theorem dX8_measureHeights_35 : decode cX8_measureHeights 35 = .ok (.iconst 0, 1) := by decide +kernel
theorem dX8_measureHeights_36 : decode cX8_measureHeights 36 = .ok (.istore_n 2, 1) := by decide +kernel
theorem dX8_measureHeights_37 : decode cX8_measureHeights 37 = .ok (.iload_n 2, 1) := by decide +kernel
theorem dX8_measureHeights_38 : decode cX8_measureHeights 38 = .ok (.bipush 14, 2) := by decide +kernel
theorem dX8_measureHeights_40 : decode cX8_measureHeights 40 = .ok (.if_icmp .ge 49, 3) := by decide +kernel
theorem dX8_measureHeights_43 : decode cX8_measureHeights 43 = .ok (.iconst 0, 1) := by decide +kernel
theorem dX8_measureHeights_44 : decode cX8_measureHeights 44 = .ok (.istore_n 3, 1) := by decide +kernel
theorem dX8_measureHeights_45 : decode cX8_measureHeights 45 = .ok (.iload_n 3, 1) := by decide +kernel
theorem dX8_measureHeights_46 : decode cX8_measureHeights 46 = .ok (.bipush 14, 2) := by decide +kernel
theorem dX8_measureHeights_48 : decode cX8_measureHeights 48 = .ok (.if_icmp .ge 35, 3) := by decide +kernel
theorem dX8_measureHeights_51 : decode cX8_measureHeights 51 = .ok (.aload_n 0, 1) := by decide +kernel
theorem dX8_measureHeights_52 : decode cX8_measureHeights 52 = .ok (.iload_n 3, 1) := by decide +kernel
theorem dX8_measureHeights_53 : decode cX8_measureHeights 53 = .ok (.aload_n 0, 1) := by decide +kernel
theorem dX8_measureHeights_54 : decode cX8_measureHeights 54 = .ok (.getfield 24, 3) := by decide +kernel
theorem dX8_measureHeights_57 : decode cX8_measureHeights 57 = .ok (.iload_n 3, 1) := by decide +kernel
theorem dX8_measureHeights_58 : decode cX8_measureHeights 58 = .ok (.invokevirtual 40, 3) := by decide +kernel
theorem dX8_measureHeights_61 : decode cX8_measureHeights 61 = .ok (.invokevirtual 109, 3) := by decide +kernel
theorem dX8_measureHeights_64 : decode cX8_measureHeights 64 = .ok (.iload_n 1, 1) := by decide +kernel
theorem dX8_measureHeights_65 : decode cX8_measureHeights 65 = .ok (.aload_n 0, 1) := by decide +kernel
theorem dX8_measureHeights_66 : decode cX8_measureHeights 66 = .ok (.getfield 21, 3) := by decide +kernel
theorem dX8_measureHeights_69 : decode cX8_measureHeights 69 = .ok (.iload_n 3, 1) := by decide +kernel
theorem dX8_measureHeights_70 : decode cX8_measureHeights 70 = .ok (.invokestatic 28, 3) := by decide +kernel
theorem dX8_measureHeights_73 : decode cX8_measureHeights 73 = .ok (.invokestatic 85, 3) := by decide +kernel
theorem dX8_measureHeights_76 : decode cX8_measureHeights 76 = .ok (.istore_n 1, 1) := by decide +kernel
theorem dX8_measureHeights_77 : decode cX8_measureHeights 77 = .ok (.iinc 3 1, 3) := by decide +kernel
theorem dX8_measureHeights_80 : decode cX8_measureHeights 80 = .ok (.goto (-35), 3) := by decide +kernel
theorem dX8_measureHeights_83 : decode cX8_measureHeights 83 = .ok (.iinc 2 1, 3) := by decide +kernel
theorem dX8_measureHeights_86 : decode cX8_measureHeights 86 = .ok (.goto (-49), 3) := by decide +kernel
theorem dX8_measureHeights_89 : decode cX8_measureHeights 89 = .ok (.iload_n 1, 1) := by decide +kernel
theorem dX8_measureHeights_90 : decode cX8_measureHeights 90 = .ok (.ireturn, 1) := by decide +kernel
theorem dX8_raise_0 : decode cX8_raise 0 = .ok (.iconst 0, 1) := by decide +kernel
theorem dX8_raise_1 : decode cX8_raise 1 = .ok (.istore_n 3, 1) := by decide +kernel
theorem dX8_raise_2 : decode cX8_raise 2 = .ok (.iload_n 3, 1) := by decide +kernel
theorem dX8_raise_3 : decode cX8_raise 3 = .ok (.bipush 14, 2) := by decide +kernel
theorem dX8_raise_5 : decode cX8_raise 5 = .ok (.if_icmp .ge 50, 3) := by decide +kernel
theorem dX8_raise_8 : decode cX8_raise 8 = .ok (.iload_n 2, 1) := by decide +kernel
theorem dX8_raise_9 : decode cX8_raise 9 = .ok (.ifCond .eq 46, 3) := by decide +kernel
theorem dX8_raise_12 : decode cX8_raise 12 = .ok (.iload_n 2, 1) := by decide +kernel
theorem dX8_raise_13 : decode cX8_raise 13 = .ok (.iload_n 3, 1) := by decide +kernel
theorem dX8_raise_14 : decode cX8_raise 14 = .ok (.invokestatic 72, 3) := by decide +kernel
theorem dX8_raise_17 : decode cX8_raise 17 = .ok (.ifCond .eq 32, 3) := by decide +kernel
theorem dX8_raise_20 : decode cX8_raise 20 = .ok (.aload_n 0, 1) := by decide +kernel
theorem dX8_raise_21 : decode cX8_raise 21 = .ok (.getfield 21, 3) := by decide +kernel
theorem dX8_raise_24 : decode cX8_raise 24 = .ok (.iload_n 1, 1) := by decide +kernel
theorem dX8_raise_25 : decode cX8_raise 25 = .ok (.aload_n 0, 1) := by decide +kernel
theorem dX8_raise_26 : decode cX8_raise 26 = .ok (.getfield 21, 3) := by decide +kernel
theorem dX8_raise_29 : decode cX8_raise 29 = .ok (.iload_n 1, 1) := by decide +kernel
theorem dX8_raise_30 : decode cX8_raise 30 = .ok (.invokestatic 28, 3) := by decide +kernel
theorem dX8_raise_33 : decode cX8_raise 33 = .ok (.aload_n 0, 1) := by decide +kernel
theorem dX8_raise_34 : decode cX8_raise 34 = .ok (.getfield 21, 3) := by decide +kernel
theorem dX8_raise_37 : decode cX8_raise 37 = .ok (.iload_n 3, 1) := by decide +kernel
theorem dX8_raise_38 : decode cX8_raise 38 = .ok (.invokestatic 28, 3) := by decide +kernel
theorem dX8_raise_41 : decode cX8_raise 41 = .ok (.iconst 1, 1) := by decide +kernel
theorem dX8_raise_42 : decode cX8_raise 42 = .ok (.iadd, 1) := by decide +kernel
theorem dX8_raise_43 : decode cX8_raise 43 = .ok (.invokestatic 85, 3) := by decide +kernel
theorem dX8_raise_46 : decode cX8_raise 46 = .ok (.invokestatic 88, 3) := by decide +kernel
theorem dX8_raise_49 : decode cX8_raise 49 = .ok (.iinc 3 1, 3) := by decide +kernel
theorem dX8_raise_52 : decode cX8_raise 52 = .ok (.goto (-50), 3) := by decide +kernel
theorem dX8_raise_55 : decode cX8_raise 55 = .ok (.return_, 1) := by decide +kernel
theorem dX8_firstOfHeight_0 : decode cX8_firstOfHeight 0 = .ok (.iconst 0, 1) := by decide +kernel
theorem dX8_firstOfHeight_1 : decode cX8_firstOfHeight 1 = .ok (.istore_n 3, 1) := by decide +kernel
theorem dX8_firstOfHeight_2 : decode cX8_firstOfHeight 2 = .ok (.iload_n 3, 1) := by decide +kernel
theorem dX8_firstOfHeight_3 : decode cX8_firstOfHeight 3 = .ok (.bipush 14, 2) := by decide +kernel
theorem dX8_firstOfHeight_5 : decode cX8_firstOfHeight 5 = .ok (.if_icmp .ge 31, 3) := by decide +kernel
theorem dX8_firstOfHeight_8 : decode cX8_firstOfHeight 8 = .ok (.iload_n 1, 1) := by decide +kernel
theorem dX8_firstOfHeight_9 : decode cX8_firstOfHeight 9 = .ok (.iload_n 3, 1) := by decide +kernel
theorem dX8_firstOfHeight_10 : decode cX8_firstOfHeight 10 = .ok (.invokestatic 72, 3) := by decide +kernel
theorem dX8_firstOfHeight_13 : decode cX8_firstOfHeight 13 = .ok (.ifCond .eq 17, 3) := by decide +kernel
theorem dX8_firstOfHeight_16 : decode cX8_firstOfHeight 16 = .ok (.aload_n 0, 1) := by decide +kernel
theorem dX8_firstOfHeight_17 : decode cX8_firstOfHeight 17 = .ok (.getfield 21, 3) := by decide +kernel
theorem dX8_firstOfHeight_20 : decode cX8_firstOfHeight 20 = .ok (.iload_n 3, 1) := by decide +kernel
theorem dX8_firstOfHeight_21 : decode cX8_firstOfHeight 21 = .ok (.invokestatic 28, 3) := by decide +kernel
theorem dX8_firstOfHeight_24 : decode cX8_firstOfHeight 24 = .ok (.iload_n 2, 1) := by decide +kernel
theorem dX8_firstOfHeight_25 : decode cX8_firstOfHeight 25 = .ok (.if_icmp .ne 5, 3) := by decide +kernel
theorem dX8_firstOfHeight_28 : decode cX8_firstOfHeight 28 = .ok (.iload_n 3, 1) := by decide +kernel
theorem dX8_firstOfHeight_29 : decode cX8_firstOfHeight 29 = .ok (.ireturn, 1) := by decide +kernel
theorem dX8_firstOfHeight_30 : decode cX8_firstOfHeight 30 = .ok (.iinc 3 1, 3) := by decide +kernel
theorem dX8_firstOfHeight_33 : decode cX8_firstOfHeight 33 = .ok (.goto (-31), 3) := by decide +kernel
theorem dX8_firstOfHeight_36 : decode cX8_firstOfHeight 36 = .ok (.iconst (-1), 1) := by decide +kernel
theorem dX8_firstOfHeight_37 : decode cX8_firstOfHeight 37 = .ok (.ireturn, 1) := by decide +kernel
theorem dX9_init_0 : decode cX9_init 0 = .ok (.aload_n 0, 1) := by decide +kernel
theorem dX9_init_1 : decode cX9_init 1 = .ok (.invokespecial 1, 3) := by decide +kernel
theorem dX9_init_4 : decode cX9_init 4 = .ok (.aload_n 0, 1) := by decide +kernel
theorem dX9_init_5 : decode cX9_init 5 = .ok (.new 7, 3) := by decide +kernel
theorem dX9_init_8 : decode cX9_init 8 = .ok (.dup, 1) := by decide +kernel
theorem dX9_init_9 : decode cX9_init 9 = .ok (.invokespecial 9, 3) := by decide +kernel
theorem dX9_init_12 : decode cX9_init 12 = .ok (.putfield 10, 3) := by decide +kernel
theorem dX9_init_15 : decode cX9_init 15 = .ok (.aload_n 0, 1) := by decide +kernel
theorem dX9_init_16 : decode cX9_init 16 = .ok (.new 16, 3) := by decide +kernel
theorem dX9_init_19 : decode cX9_init 19 = .ok (.dup, 1) := by decide +kernel
theorem dX9_init_20 : decode cX9_init 20 = .ok (.aload_n 0, 1) := by decide +kernel
theorem dX9_init_21 : decode cX9_init 21 = .ok (.getfield 10, 3) := by decide +kernel
theorem dX9_init_24 : decode cX9_init 24 = .ok (.invokespecial 18, 3) := by decide +kernel
theorem dX9_init_27 : decode cX9_init 27 = .ok (.putfield 21, 3) := by decide +kernel
theorem dX9_init_30 : decode cX9_init 30 = .ok (.aload_n 0, 1) := by decide +kernel
theorem dX9_init_31 : decode cX9_init 31 = .ok (.new 25, 3) := by decide +kernel
theorem dX9_init_34 : decode cX9_init 34 = .ok (.dup, 1) := by decide +kernel
theorem dX9_init_35 : decode cX9_init 35 = .ok (.invokespecial 27, 3) := by decide +kernel
theorem dX9_init_38 : decode cX9_init 38 = .ok (.putfield 28, 3) := by decide +kernel
theorem dX9_init_41 : decode cX9_init 41 = .ok (.aload_n 0, 1) := by decide +kernel
theorem dX9_init_42 : decode cX9_init 42 = .ok (.new 32, 3) := by decide +kernel
theorem dX9_init_45 : decode cX9_init 45 = .ok (.dup, 1) := by decide +kernel
theorem dX9_init_46 : decode cX9_init 46 = .ok (.aload_n 0, 1) := by decide +kernel
theorem dX9_init_47 : decode cX9_init 47 = .ok (.getfield 28, 3) := by decide +kernel
theorem dX9_init_50 : decode cX9_init 50 = .ok (.invokespecial 34, 3) := by decide +kernel
theorem dX9_init_53 : decode cX9_init 53 = .ok (.putfield 37, 3) := by decide +kernel
theorem dX9_init_56 : decode cX9_init 56 = .ok (.aload_n 0, 1) := by decide +kernel
theorem dX9_init_57 : decode cX9_init 57 = .ok (.new 41, 3) := by decide +kernel
theorem dX9_init_60 : decode cX9_init 60 = .ok (.dup, 1) := by decide +kernel
theorem dX9_init_61 : decode cX9_init 61 = .ok (.aload_n 0, 1) := by decide +kernel
theorem dX9_init_62 : decode cX9_init 62 = .ok (.getfield 28, 3) := by decide +kernel
theorem dX9_init_65 : decode cX9_init 65 = .ok (.aload_n 0, 1) := by decide +kernel
theorem dX9_init_66 : decode cX9_init 66 = .ok (.getfield 37, 3) := by decide +kernel
theorem dX9_init_69 : decode cX9_init 69 = .ok (.invokespecial 43, 3) := by decide +kernel
theorem dX9_init_72 : decode cX9_init 72 = .ok (.putfield 46, 3) := by decide +kernel
theorem dX9_init_75 : decode cX9_init 75 = .ok (.aload_n 0, 1) := by decide +kernel
theorem dX9_init_76 : decode cX9_init 76 = .ok (.new 50, 3) := by decide +kernel
theorem dX9_init_79 : decode cX9_init 79 = .ok (.dup, 1) := by decide +kernel
theorem dX9_init_80 : decode cX9_init 80 = .ok (.aload_n 0, 1) := by decide +kernel
theorem dX9_init_81 : decode cX9_init 81 = .ok (.getfield 28, 3) := by decide +kernel
theorem dX9_init_84 : decode cX9_init 84 = .ok (.aload_n 0, 1) := by decide +kernel
theorem dX9_init_85 : decode cX9_init 85 = .ok (.getfield 37, 3) := by decide +kernel
theorem dX9_init_88 : decode cX9_init 88 = .ok (.invokespecial 52, 3) := by decide +kernel
theorem dX9_init_91 : decode cX9_init 91 = .ok (.putfield 53, 3) := by decide +kernel
theorem dX9_init_94 : decode cX9_init 94 = .ok (.aload_n 0, 1) := by decide +kernel
theorem dX9_init_95 : decode cX9_init 95 = .ok (.new 57, 3) := by decide +kernel
theorem dX9_init_98 : decode cX9_init 98 = .ok (.dup, 1) := by decide +kernel
theorem dX9_init_99 : decode cX9_init 99 = .ok (.aload_n 0, 1) := by decide +kernel
theorem dX9_init_100 : decode cX9_init 100 = .ok (.getfield 28, 3) := by decide +kernel
theorem dX9_init_103 : decode cX9_init 103 = .ok (.invokespecial 59, 3) := by decide +kernel
theorem dX9_init_106 : decode cX9_init 106 = .ok (.putfield 60, 3) := by decide +kernel
theorem dX9_init_109 : decode cX9_init 109 = .ok (.aload_n 0, 1) := by decide +kernel
theorem dX9_init_110 : decode cX9_init 110 = .ok (.new 64, 3) := by decide +kernel
theorem dX9_init_113 : decode cX9_init 113 = .ok (.dup, 1) := by decide +kernel
theorem dX9_init_114 : decode cX9_init 114 = .ok (.invokespecial 66, 3) := by decide +kernel
theorem dX9_init_117 : decode cX9_init 117 = .ok (.putfield 67, 3) := by decide +kernel
theorem dX9_init_120 : decode cX9_init 120 = .ok (.aload_n 0, 1) := by decide +kernel
theorem dX9_init_121 : decode cX9_init 121 = .ok (.new 71, 3) := by decide +kernel
theorem dX9_init_124 : decode cX9_init 124 = .ok (.dup, 1) := by decide +kernel
theorem dX9_init_125 : decode cX9_init 125 = .ok (.aload_n 0, 1) := by decide +kernel
theorem dX9_init_126 : decode cX9_init 126 = .ok (.getfield 28, 3) := by decide +kernel
theorem dX9_init_129 : decode cX9_init 129 = .ok (.invokespecial 73, 3) := by decide +kernel
theorem dX9_init_132 : decode cX9_init 132 = .ok (.putfield 74, 3) := by decide +kernel
theorem dX9_init_135 : decode cX9_init 135 = .ok (.return_, 1) := by decide +kernel
theorem dX9_write_0 : decode cX9_write 0 = .ok (.iload_n 3, 1) := by decide +kernel
theorem dX9_write_1 : decode cX9_write 1 = .ok (.iconst 1, 1) := by decide +kernel
theorem dX9_write_2 : decode cX9_write 2 = .ok (.bipush 8, 2) := by decide +kernel
theorem dX9_write_4 : decode cX9_write 4 = .ok (.invokestatic 78, 3) := by decide +kernel
theorem dX9_write_7 : decode cX9_write 7 = .ok (.ifCond .ne 6, 3) := by decide +kernel
theorem dX9_write_10 : decode cX9_write 10 = .ok (.bipush (-3), 2) := by decide +kernel
theorem dX9_write_12 : decode cX9_write 12 = .ok (.ireturn, 1) := by decide +kernel
theorem dX9_write_13 : decode cX9_write 13 = .ok (.aload_n 0, 1) := by decide +kernel
theorem dX9_write_14 : decode cX9_write 14 = .ok (.getfield 10, 3) := by decide +kernel
theorem dX9_write_17 : decode cX9_write 17 = .ok (.iload_n 3, 1) := by decide +kernel
theorem dX9_write_18 : decode cX9_write 18 = .ok (.invokevirtual 82, 3) := by decide +kernel
theorem dX9_write_21 : decode cX9_write 21 = .ok (.ifCond .ne 6, 3) := by decide +kernel
theorem dX9_write_24 : decode cX9_write 24 = .ok (.bipush (-5), 2) := by decide +kernel
theorem dX9_write_26 : decode cX9_write 26 = .ok (.ireturn, 1) := by decide +kernel
theorem dX9_write_27 : decode cX9_write 27 = .ok (.aload_n 0, 1) := by decide +kernel
theorem dX9_write_28 : decode cX9_write 28 = .ok (.getfield 10, 3) := by decide +kernel
theorem dX9_write_31 : decode cX9_write 31 = .ok (.lload_n 1, 1) := by decide +kernel
theorem dX9_write_32 : decode cX9_write 32 = .ok (.iload_n 3, 1) := by decide +kernel
theorem dX9_write_33 : decode cX9_write 33 = .ok (.invokevirtual 86, 3) := by decide +kernel
theorem dX9_write_36 : decode cX9_write 36 = .ok (.aload_n 0, 1) := by decide +kernel
theorem dX9_write_37 : decode cX9_write 37 = .ok (.getfield 10, 3) := by decide +kernel
theorem dX9_write_40 : decode cX9_write 40 = .ok (.getfield 90, 3) := by decide +kernel
theorem dX9_write_43 : decode cX9_write 43 = .ok (.ireturn, 1) := by decide +kernel
theorem dX9_erase_0 : decode cX9_erase 0 = .ok (.aload_n 0, 1) := by decide +kernel
theorem dX9_erase_1 : decode cX9_erase 1 = .ok (.getfield 10, 3) := by decide +kernel
theorem dX9_erase_4 : decode cX9_erase 4 = .ok (.getfield 90, 3) := by decide +kernel
theorem dX9_erase_7 : decode cX9_erase 7 = .ok (.istore_n 1, 1) := by decide +kernel
theorem dX9_erase_8 : decode cX9_erase 8 = .ok (.aload_n 0, 1) := by decide +kernel
theorem dX9_erase_9 : decode cX9_erase 9 = .ok (.getfield 10, 3) := by decide +kernel
theorem dX9_erase_12 : decode cX9_erase 12 = .ok (.iconst 0, 1) := by decide +kernel
theorem dX9_erase_13 : decode cX9_erase 13 = .ok (.putfield 90, 3) := by decide +kernel
theorem dX9_erase_16 : decode cX9_erase 16 = .ok (.iload_n 1, 1) := by decide +kernel
theorem dX9_erase_17 : decode cX9_erase 17 = .ok (.ireturn, 1) := by decide +kernel
theorem dX9_fault_0 : decode cX9_fault 0 = .ok (.aload_n 0, 1) := by decide +kernel
theorem dX9_fault_1 : decode cX9_fault 1 = .ok (.getfield 21, 3) := by decide +kernel
theorem dX9_fault_4 : decode cX9_fault 4 = .ok (.invokevirtual 94, 3) := by decide +kernel
theorem dX9_fault_7 : decode cX9_fault 7 = .ok (.ireturn, 1) := by decide +kernel
theorem dX9_parish_0 : decode cX9_parish 0 = .ok (.aload_n 0, 1) := by decide +kernel
theorem dX9_parish_1 : decode cX9_parish 1 = .ok (.getfield 21, 3) := by decide +kernel
theorem dX9_parish_4 : decode cX9_parish 4 = .ok (.invokevirtual 94, 3) := by decide +kernel
theorem dX9_parish_7 : decode cX9_parish 7 = .ok (.iconst (-1), 1) := by decide +kernel
theorem dX9_parish_8 : decode cX9_parish 8 = .ok (.if_icmp .eq 6, 3) := by decide +kernel
theorem dX9_parish_11 : decode cX9_parish 11 = .ok (.bipush (-4), 2) := by decide +kernel
theorem dX9_parish_13 : decode cX9_parish 13 = .ok (.ireturn, 1) := by decide +kernel
theorem dX9_parish_14 : decode cX9_parish 14 = .ok (.iconst 0, 1) := by decide +kernel
theorem dX9_parish_15 : decode cX9_parish 15 = .ok (.istore_n 1, 1) := by decide +kernel
theorem dX9_parish_16 : decode cX9_parish 16 = .ok (.iload_n 1, 1) := by decide +kernel
theorem dX9_parish_17 : decode cX9_parish 17 = .ok (.aload_n 0, 1) := by decide +kernel
theorem dX9_parish_18 : decode cX9_parish 18 = .ok (.getfield 21, 3) := by decide +kernel
theorem dX9_parish_21 : decode cX9_parish 21 = .ok (.getfield 98, 3) := by decide +kernel
theorem dX9_parish_24 : decode cX9_parish 24 = .ok (.if_icmp .ge 21, 3) := by decide +kernel
theorem dX9_parish_27 : decode cX9_parish 27 = .ok (.aload_n 0, 1) := by decide +kernel
theorem dX9_parish_28 : decode cX9_parish 28 = .ok (.getfield 28, 3) := by decide +kernel
theorem dX9_parish_31 : decode cX9_parish 31 = .ok (.aload_n 0, 1) := by decide +kernel
theorem dX9_parish_32 : decode cX9_parish 32 = .ok (.getfield 21, 3) := by decide +kernel
theorem dX9_parish_35 : decode cX9_parish 35 = .ok (.iload_n 1, 1) := by decide +kernel
theorem dX9_parish_36 : decode cX9_parish 36 = .ok (.invokevirtual 101, 3) := by decide +kernel
theorem dX9_parish_39 : decode cX9_parish 39 = .ok (.iinc 1 1, 3) := by decide +kernel
theorem dX9_parish_42 : decode cX9_parish 42 = .ok (.goto (-26), 3) := by decide +kernel
theorem dX9_parish_45 : decode cX9_parish 45 = .ok (.aload_n 0, 1) := by decide +kernel
theorem dX9_parish_46 : decode cX9_parish 46 = .ok (.getfield 10, 3) := by decide +kernel
theorem dX9_parish_49 : decode cX9_parish 49 = .ok (.iconst 0, 1) := by decide +kernel
theorem dX9_parish_50 : decode cX9_parish 50 = .ok (.putfield 90, 3) := by decide +kernel
theorem dX9_parish_53 : decode cX9_parish 53 = .ok (.aload_n 0, 1) := by decide +kernel
theorem dX9_parish_54 : decode cX9_parish 54 = .ok (.getfield 21, 3) := by decide +kernel
theorem dX9_parish_57 : decode cX9_parish 57 = .ok (.getfield 98, 3) := by decide +kernel
theorem dX9_parish_60 : decode cX9_parish 60 = .ok (.ireturn, 1) := by decide +kernel
theorem dX9_bundle_0 : decode cX9_bundle 0 = .ok (.aload_n 0, 1) := by decide +kernel
theorem dX9_bundle_1 : decode cX9_bundle 1 = .ok (.getfield 28, 3) := by decide +kernel
theorem dX9_bundle_4 : decode cX9_bundle 4 = .ok (.iload_n 1, 1) := by decide +kernel
theorem dX9_bundle_5 : decode cX9_bundle 5 = .ok (.invokevirtual 105, 3) := by decide +kernel
theorem dX9_bundle_8 : decode cX9_bundle 8 = .ok (.ifCond .ne 6, 3) := by decide +kernel
theorem dX9_bundle_11 : decode cX9_bundle 11 = .ok (.bipush (-2), 2) := by decide +kernel
theorem dX9_bundle_13 : decode cX9_bundle 13 = .ok (.ireturn, 1) := by decide +kernel
theorem dX9_bundle_14 : decode cX9_bundle 14 = .ok (.iload_n 2, 1) := by decide +kernel
theorem dX9_bundle_15 : decode cX9_bundle 15 = .ok (.bipush 9, 2) := by decide +kernel
theorem dX9_bundle_17 : decode cX9_bundle 17 = .ok (.if_icmp .ne 12, 3) := by decide +kernel
theorem dX9_bundle_20 : decode cX9_bundle 20 = .ok (.aload_n 0, 1) := by decide +kernel
theorem dX9_bundle_21 : decode cX9_bundle 21 = .ok (.getfield 28, 3) := by decide +kernel
theorem dX9_bundle_24 : decode cX9_bundle 24 = .ok (.iload_n 1, 1) := by decide +kernel
theorem dX9_bundle_25 : decode cX9_bundle 25 = .ok (.invokevirtual 108, 3) := by decide +kernel
theorem dX9_bundle_28 : decode cX9_bundle 28 = .ok (.ireturn, 1) := by decide +kernel
theorem dX9_bundle_29 : decode cX9_bundle 29 = .ok (.iload_n 2, 1) := by decide +kernel
theorem dX9_bundle_30 : decode cX9_bundle 30 = .ok (.iconst 0, 1) := by decide +kernel
theorem dX9_bundle_31 : decode cX9_bundle 31 = .ok (.bipush 8, 2) := by decide +kernel
theorem dX9_bundle_33 : decode cX9_bundle 33 = .ok (.invokestatic 78, 3) := by decide +kernel
theorem dX9_bundle_36 : decode cX9_bundle 36 = .ok (.ifCond .eq 15, 3) := by decide +kernel
theorem dX9_bundle_39 : decode cX9_bundle 39 = .ok (.aload_n 0, 1) := by decide +kernel
theorem dX9_bundle_40 : decode cX9_bundle 40 = .ok (.getfield 28, 3) := by decide +kernel
theorem dX9_bundle_43 : decode cX9_bundle 43 = .ok (.iload_n 1, 1) := by decide +kernel
theorem dX9_bundle_44 : decode cX9_bundle 44 = .ok (.iload_n 2, 1) := by decide +kernel
theorem dX9_bundle_45 : decode cX9_bundle 45 = .ok (.invokevirtual 112, 3) := by decide +kernel
theorem dX9_bundle_48 : decode cX9_bundle 48 = .ok (.goto 5, 3) := by decide +kernel
theorem dX9_bundle_51 : decode cX9_bundle 51 = .ok (.bipush (-3), 2) := by decide +kernel
theorem dX9_bundle_53 : decode cX9_bundle 53 = .ok (.ireturn, 1) := by decide +kernel
theorem dX9_covers_0 : decode cX9_covers 0 = .ok (.aload_n 0, 1) := by decide +kernel
theorem dX9_covers_1 : decode cX9_covers 1 = .ok (.getfield 28, 3) := by decide +kernel
theorem dX9_covers_4 : decode cX9_covers 4 = .ok (.iload_n 1, 1) := by decide +kernel
theorem dX9_covers_5 : decode cX9_covers 5 = .ok (.invokevirtual 116, 3) := by decide +kernel
theorem dX9_covers_8 : decode cX9_covers 8 = .ok (.ifCond .ne 6, 3) := by decide +kernel
theorem dX9_covers_11 : decode cX9_covers 11 = .ok (.bipush (-2), 2) := by decide +kernel
theorem dX9_covers_13 : decode cX9_covers 13 = .ok (.ireturn, 1) := by decide +kernel
theorem dX9_covers_14 : decode cX9_covers 14 = .ok (.iload_n 2, 1) := by decide +kernel
theorem dX9_covers_15 : decode cX9_covers 15 = .ok (.iconst 0, 1) := by decide +kernel
theorem dX9_covers_16 : decode cX9_covers 16 = .ok (.iconst 3, 1) := by decide +kernel
theorem dX9_covers_17 : decode cX9_covers 17 = .ok (.invokestatic 78, 3) := by decide +kernel
theorem dX9_covers_20 : decode cX9_covers 20 = .ok (.ifCond .eq 15, 3) := by decide +kernel
theorem dX9_covers_23 : decode cX9_covers 23 = .ok (.aload_n 0, 1) := by decide +kernel
theorem dX9_covers_24 : decode cX9_covers 24 = .ok (.getfield 28, 3) := by decide +kernel
theorem dX9_covers_27 : decode cX9_covers 27 = .ok (.iload_n 1, 1) := by decide +kernel
theorem dX9_covers_28 : decode cX9_covers 28 = .ok (.iload_n 2, 1) := by decide +kernel
theorem dX9_covers_29 : decode cX9_covers 29 = .ok (.invokevirtual 119, 3) := by decide +kernel
theorem dX9_covers_32 : decode cX9_covers 32 = .ok (.goto 5, 3) := by decide +kernel
theorem dX9_covers_35 : decode cX9_covers 35 = .ok (.bipush (-3), 2) := by decide +kernel
theorem dX9_covers_37 : decode cX9_covers 37 = .ok (.ireturn, 1) := by decide +kernel
theorem dX9_teams_0 : decode cX9_teams 0 = .ok (.aload_n 0, 1) := by decide +kernel
theorem dX9_teams_1 : decode cX9_teams 1 = .ok (.getfield 28, 3) := by decide +kernel
theorem dX9_teams_4 : decode cX9_teams 4 = .ok (.iload_n 1, 1) := by decide +kernel
theorem dX9_teams_5 : decode cX9_teams 5 = .ok (.invokevirtual 105, 3) := by decide +kernel
theorem dX9_teams_8 : decode cX9_teams 8 = .ok (.ifCond .eq 14, 3) := by decide +kernel
theorem dX9_teams_11 : decode cX9_teams 11 = .ok (.aload_n 0, 1) := by decide +kernel
theorem dX9_teams_12 : decode cX9_teams 12 = .ok (.getfield 28, 3) := by decide +kernel
theorem dX9_teams_15 : decode cX9_teams 15 = .ok (.iload_n 1, 1) := by decide +kernel
theorem dX9_teams_16 : decode cX9_teams 16 = .ok (.invokevirtual 122, 3) := by decide +kernel
theorem dX9_teams_19 : decode cX9_teams 19 = .ok (.goto 5, 3) := by decide +kernel
theorem dX9_teams_22 : decode cX9_teams 22 = .ok (.bipush (-2), 2) := by decide +kernel
theorem dX9_teams_24 : decode cX9_teams 24 = .ok (.ireturn, 1) := by decide +kernel
theorem dX9_span_0 : decode cX9_span 0 = .ok (.aload_n 0, 1) := by decide +kernel
theorem dX9_span_1 : decode cX9_span 1 = .ok (.getfield 28, 3) := by decide +kernel
theorem dX9_span_4 : decode cX9_span 4 = .ok (.iload_n 1, 1) := by decide +kernel
theorem dX9_span_5 : decode cX9_span 5 = .ok (.invokevirtual 116, 3) := by decide +kernel
theorem dX9_span_8 : decode cX9_span 8 = .ok (.ifCond .ne 6, 3) := by decide +kernel
theorem dX9_span_11 : decode cX9_span 11 = .ok (.bipush (-2), 2) := by decide +kernel
theorem dX9_span_13 : decode cX9_span 13 = .ok (.ireturn, 1) := by decide +kernel
theorem dX9_span_14 : decode cX9_span 14 = .ok (.iload_n 2, 1) := by decide +kernel
theorem dX9_span_15 : decode cX9_span 15 = .ok (.iconst 0, 1) := by decide +kernel
theorem dX9_span_16 : decode cX9_span 16 = .ok (.iconst 1, 1) := by decide +kernel
theorem dX9_span_17 : decode cX9_span 17 = .ok (.invokestatic 78, 3) := by decide +kernel
theorem dX9_span_20 : decode cX9_span 20 = .ok (.ifCond .ne 6, 3) := by decide +kernel
theorem dX9_span_23 : decode cX9_span 23 = .ok (.bipush (-3), 2) := by decide +kernel
theorem dX9_span_25 : decode cX9_span 25 = .ok (.ireturn, 1) := by decide +kernel
theorem dX9_span_26 : decode cX9_span 26 = .ok (.aload_n 0, 1) := by decide +kernel
theorem dX9_span_27 : decode cX9_span 27 = .ok (.getfield 37, 3) := by decide +kernel
theorem dX9_span_30 : decode cX9_span 30 = .ok (.invokevirtual 125, 3) := by decide +kernel
theorem dX9_span_33 : decode cX9_span 33 = .ok (.ifCond .ne 5, 3) := by decide +kernel
theorem dX9_span_36 : decode cX9_span 36 = .ok (.iconst (-1), 1) := by decide +kernel
theorem dX9_span_37 : decode cX9_span 37 = .ok (.ireturn, 1) := by decide +kernel
theorem dX9_span_38 : decode cX9_span 38 = .ok (.iload_n 2, 1) := by decide +kernel
theorem dX9_span_39 : decode cX9_span 39 = .ok (.ifCond .ne 14, 3) := by decide +kernel
theorem dX9_span_42 : decode cX9_span 42 = .ok (.aload_n 0, 1) := by decide +kernel
theorem dX9_span_43 : decode cX9_span 43 = .ok (.getfield 37, 3) := by decide +kernel
theorem dX9_span_46 : decode cX9_span 46 = .ok (.iload_n 1, 1) := by decide +kernel
theorem dX9_span_47 : decode cX9_span 47 = .ok (.invokevirtual 129, 3) := by decide +kernel
theorem dX9_span_50 : decode cX9_span 50 = .ok (.goto 11, 3) := by decide +kernel
theorem dX9_span_53 : decode cX9_span 53 = .ok (.aload_n 0, 1) := by decide +kernel
theorem dX9_span_54 : decode cX9_span 54 = .ok (.getfield 37, 3) := by decide +kernel
theorem dX9_span_57 : decode cX9_span 57 = .ok (.iload_n 1, 1) := by decide +kernel
theorem dX9_span_58 : decode cX9_span 58 = .ok (.invokevirtual 132, 3) := by decide +kernel
theorem dX9_span_61 : decode cX9_span 61 = .ok (.ireturn, 1) := by decide +kernel
theorem dX9_ring_0 : decode cX9_ring 0 = .ok (.aload_n 0, 1) := by decide +kernel
theorem dX9_ring_1 : decode cX9_ring 1 = .ok (.getfield 37, 3) := by decide +kernel
theorem dX9_ring_4 : decode cX9_ring 4 = .ok (.invokevirtual 135, 3) := by decide +kernel
theorem dX9_ring_7 : decode cX9_ring 7 = .ok (.ireturn, 1) := by decide +kernel
theorem dX9_stack_0 : decode cX9_stack 0 = .ok (.iload_n 1, 1) := by decide +kernel
theorem dX9_stack_1 : decode cX9_stack 1 = .ok (.iconst (-1), 1) := by decide +kernel
theorem dX9_stack_2 : decode cX9_stack 2 = .ok (.if_icmp .ge 8, 3) := by decide +kernel
theorem dX9_stack_5 : decode cX9_stack 5 = .ok (.bipush (-3), 2) := by decide +kernel
theorem dX9_stack_7 : decode cX9_stack 7 = .ok (.goto 11, 3) := by decide +kernel
theorem dX9_stack_10 : decode cX9_stack 10 = .ok (.aload_n 0, 1) := by decide +kernel
theorem dX9_stack_11 : decode cX9_stack 11 = .ok (.getfield 37, 3) := by decide +kernel
theorem dX9_stack_14 : decode cX9_stack 14 = .ok (.iload_n 1, 1) := by decide +kernel
theorem dX9_stack_15 : decode cX9_stack 15 = .ok (.invokevirtual 138, 3) := by decide +kernel
theorem dX9_stack_18 : decode cX9_stack 18 = .ok (.ireturn, 1) := by decide +kernel
theorem dX9_over_0 : decode cX9_over 0 = .ok (.aload_n 0, 1) := by decide +kernel
theorem dX9_over_1 : decode cX9_over 1 = .ok (.getfield 28, 3) := by decide +kernel
theorem dX9_over_4 : decode cX9_over 4 = .ok (.iload_n 1, 1) := by decide +kernel
theorem dX9_over_5 : decode cX9_over 5 = .ok (.invokevirtual 116, 3) := by decide +kernel
theorem dX9_over_8 : decode cX9_over 8 = .ok (.ifCond .eq 14, 3) := by decide +kernel
theorem dX9_over_11 : decode cX9_over 11 = .ok (.aload_n 0, 1) := by decide +kernel
theorem dX9_over_12 : decode cX9_over 12 = .ok (.getfield 28, 3) := by decide +kernel
theorem dX9_over_15 : decode cX9_over 15 = .ok (.iload_n 2, 1) := by decide +kernel
theorem dX9_over_16 : decode cX9_over 16 = .ok (.invokevirtual 116, 3) := by decide +kernel
theorem dX9_over_19 : decode cX9_over 19 = .ok (.ifCond .ne 6, 3) := by decide +kernel
theorem dX9_over_22 : decode cX9_over 22 = .ok (.bipush (-2), 2) := by decide +kernel
theorem dX9_over_24 : decode cX9_over 24 = .ok (.ireturn, 1) := by decide +kernel
theorem dX9_over_25 : decode cX9_over 25 = .ok (.aload_n 0, 1) := by decide +kernel
theorem dX9_over_26 : decode cX9_over 26 = .ok (.getfield 37, 3) := by decide +kernel
theorem dX9_over_29 : decode cX9_over 29 = .ok (.iload_n 1, 1) := by decide +kernel
theorem dX9_over_30 : decode cX9_over 30 = .ok (.iload_n 2, 1) := by decide +kernel
theorem dX9_over_31 : decode cX9_over 31 = .ok (.invokevirtual 141, 3) := by decide +kernel
theorem dX9_over_34 : decode cX9_over 34 = .ok (.invokestatic 145, 3) := by decide +kernel
theorem dX9_over_37 : decode cX9_over 37 = .ok (.ireturn, 1) := by decide +kernel
theorem dX9_joined_0 : decode cX9_joined 0 = .ok (.aload_n 0, 1) := by decide +kernel
theorem dX9_joined_1 : decode cX9_joined 1 = .ok (.iload_n 1, 1) := by decide +kernel
theorem dX9_joined_2 : decode cX9_joined 2 = .ok (.iload_n 2, 1) := by decide +kernel
theorem dX9_joined_3 : decode cX9_joined 3 = .ok (.invokevirtual 149, 3) := by decide +kernel
theorem dX9_joined_6 : decode cX9_joined 6 = .ok (.ifCond .eq 18, 3) := by decide +kernel
theorem dX9_joined_9 : decode cX9_joined 9 = .ok (.aload_n 0, 1) := by decide +kernel
theorem dX9_joined_10 : decode cX9_joined 10 = .ok (.getfield 46, 3) := by decide +kernel
theorem dX9_joined_13 : decode cX9_joined 13 = .ok (.iload_n 1, 1) := by decide +kernel
theorem dX9_joined_14 : decode cX9_joined 14 = .ok (.iload_n 2, 1) := by decide +kernel
theorem dX9_joined_15 : decode cX9_joined 15 = .ok (.invokevirtual 152, 3) := by decide +kernel
theorem dX9_joined_18 : decode cX9_joined 18 = .ok (.invokestatic 145, 3) := by decide +kernel
theorem dX9_joined_21 : decode cX9_joined 21 = .ok (.goto 5, 3) := by decide +kernel
theorem dX9_joined_24 : decode cX9_joined 24 = .ok (.bipush (-2), 2) := by decide +kernel
theorem dX9_joined_26 : decode cX9_joined 26 = .ok (.ireturn, 1) := by decide +kernel
theorem dX9_later_0 : decode cX9_later 0 = .ok (.aload_n 0, 1) := by decide +kernel
theorem dX9_later_1 : decode cX9_later 1 = .ok (.iload_n 1, 1) := by decide +kernel
theorem dX9_later_2 : decode cX9_later 2 = .ok (.iload_n 2, 1) := by decide +kernel
theorem dX9_later_3 : decode cX9_later 3 = .ok (.invokevirtual 149, 3) := by decide +kernel
theorem dX9_later_6 : decode cX9_later 6 = .ok (.ifCond .ne 6, 3) := by decide +kernel
theorem dX9_later_9 : decode cX9_later 9 = .ok (.bipush (-2), 2) := by decide +kernel
theorem dX9_later_11 : decode cX9_later 11 = .ok (.ireturn, 1) := by decide +kernel
theorem dX9_later_12 : decode cX9_later 12 = .ok (.aload_n 0, 1) := by decide +kernel
theorem dX9_later_13 : decode cX9_later 13 = .ok (.getfield 46, 3) := by decide +kernel
theorem dX9_later_16 : decode cX9_later 16 = .ok (.iload_n 1, 1) := by decide +kernel
theorem dX9_later_17 : decode cX9_later 17 = .ok (.iload_n 2, 1) := by decide +kernel
theorem dX9_later_18 : decode cX9_later 18 = .ok (.invokevirtual 152, 3) := by decide +kernel
theorem dX9_later_21 : decode cX9_later 21 = .ok (.ifCond .eq 15, 3) := by decide +kernel
theorem dX9_later_24 : decode cX9_later 24 = .ok (.aload_n 0, 1) := by decide +kernel
theorem dX9_later_25 : decode cX9_later 25 = .ok (.getfield 46, 3) := by decide +kernel
theorem dX9_later_28 : decode cX9_later 28 = .ok (.iload_n 1, 1) := by decide +kernel
theorem dX9_later_29 : decode cX9_later 29 = .ok (.iload_n 2, 1) := by decide +kernel
theorem dX9_later_30 : decode cX9_later 30 = .ok (.invokevirtual 155, 3) := by decide +kernel
theorem dX9_later_33 : decode cX9_later 33 = .ok (.goto 5, 3) := by decide +kernel
theorem dX9_later_36 : decode cX9_later 36 = .ok (.bipush (-4), 2) := by decide +kernel
theorem dX9_later_38 : decode cX9_later 38 = .ok (.ireturn, 1) := by decide +kernel
theorem dX9_odds_0 : decode cX9_odds 0 = .ok (.aload_n 0, 1) := by decide +kernel
theorem dX9_odds_1 : decode cX9_odds 1 = .ok (.iload_n 1, 1) := by decide +kernel
theorem dX9_odds_2 : decode cX9_odds 2 = .ok (.iload_n 2, 1) := by decide +kernel
theorem dX9_odds_3 : decode cX9_odds 3 = .ok (.invokevirtual 149, 3) := by decide +kernel
theorem dX9_odds_6 : decode cX9_odds 6 = .ok (.ifCond .ne 6, 3) := by decide +kernel
theorem dX9_odds_9 : decode cX9_odds 9 = .ok (.bipush (-2), 2) := by decide +kernel
theorem dX9_odds_11 : decode cX9_odds 11 = .ok (.ireturn, 1) := by decide +kernel
theorem dX9_odds_12 : decode cX9_odds 12 = .ok (.iload_n 3, 1) := by decide +kernel
theorem dX9_odds_13 : decode cX9_odds 13 = .ok (.iconst 0, 1) := by decide +kernel
theorem dX9_odds_14 : decode cX9_odds 14 = .ok (.iconst 1, 1) := by decide +kernel
theorem dX9_odds_15 : decode cX9_odds 15 = .ok (.invokestatic 78, 3) := by decide +kernel
theorem dX9_odds_18 : decode cX9_odds 18 = .ok (.ifCond .ne 6, 3) := by decide +kernel
theorem dX9_odds_21 : decode cX9_odds 21 = .ok (.bipush (-3), 2) := by decide +kernel
theorem dX9_odds_23 : decode cX9_odds 23 = .ok (.ireturn, 1) := by decide +kernel
theorem dX9_odds_24 : decode cX9_odds 24 = .ok (.aload_n 0, 1) := by decide +kernel
theorem dX9_odds_25 : decode cX9_odds 25 = .ok (.getfield 46, 3) := by decide +kernel
theorem dX9_odds_28 : decode cX9_odds 28 = .ok (.iload_n 1, 1) := by decide +kernel
theorem dX9_odds_29 : decode cX9_odds 29 = .ok (.iload_n 2, 1) := by decide +kernel
theorem dX9_odds_30 : decode cX9_odds 30 = .ok (.invokevirtual 152, 3) := by decide +kernel
theorem dX9_odds_33 : decode cX9_odds 33 = .ok (.ifCond .eq 15, 3) := by decide +kernel
theorem dX9_odds_36 : decode cX9_odds 36 = .ok (.aload_n 0, 1) := by decide +kernel
