theorem dX10_giveOne_6 : decode cX10_giveOne 6 = .ok (.if_icmp .ge 36, 3) := by decide +kernel
theorem dX10_giveOne_9 : decode cX10_giveOne 9 = .ok (.iload_n 1, 1) := by decide +kernel
theorem dX10_giveOne_10 : decode cX10_giveOne 10 = .ok (.aload_n 0, 1) := by decide +kernel
theorem dX10_giveOne_11 : decode cX10_giveOne 11 = .ok (.getfield 62, 3) := by decide +kernel
theorem dX10_giveOne_14 : decode cX10_giveOne 14 = .ok (.iload_n 2, 1) := by decide +kernel
theorem dX10_giveOne_15 : decode cX10_giveOne 15 = .ok (.iaload, 1) := by decide +kernel
theorem dX10_giveOne_16 : decode cX10_giveOne 16 = .ok (.ifCond .ne 7, 3) := by decide +kernel
theorem dX10_giveOne_19 : decode cX10_giveOne 19 = .ok (.iconst 0, 1) := by decide +kernel
theorem dX10_giveOne_20 : decode cX10_giveOne 20 = .ok (.goto 14, 3) := by decide +kernel
theorem dX10_giveOne_23 : decode cX10_giveOne 23 = .ok (.aload_n 0, 1) := by decide +kernel
theorem dX10_giveOne_24 : decode cX10_giveOne 24 = .ok (.iload_n 2, 1) := by decide +kernel
theorem dX10_giveOne_25 : decode cX10_giveOne 25 = .ok (.aload_n 0, 1) := by decide +kernel
theorem dX10_giveOne_26 : decode cX10_giveOne 26 = .ok (.getfield 68, 3) := by decide +kernel
theorem dX10_giveOne_29 : decode cX10_giveOne 29 = .ok (.iload_n 2, 1) := by decide +kernel
theorem dX10_giveOne_30 : decode cX10_giveOne 30 = .ok (.iaload, 1) := by decide +kernel
theorem dX10_giveOne_31 : decode cX10_giveOne 31 = .ok (.invokevirtual 270, 3) := by decide +kernel
theorem dX10_giveOne_34 : decode cX10_giveOne 34 = .ok (.iadd, 1) := by decide +kernel
theorem dX10_giveOne_35 : decode cX10_giveOne 35 = .ok (.istore_n 1, 1) := by decide +kernel
theorem dX10_giveOne_36 : decode cX10_giveOne 36 = .ok (.iinc 2 1, 3) := by decide +kernel
theorem dX10_giveOne_39 : decode cX10_giveOne 39 = .ok (.goto (-35), 3) := by decide +kernel
theorem dX10_giveOne_42 : decode cX10_giveOne 42 = .ok (.aload_n 0, 1) := by decide +kernel
theorem dX10_giveOne_43 : decode cX10_giveOne 43 = .ok (.dup, 1) := by decide +kernel
theorem dX10_giveOne_44 : decode cX10_giveOne 44 = .ok (.getfield 276, 3) := by decide +kernel
theorem dX10_giveOne_47 : decode cX10_giveOne 47 = .ok (.iconst 1, 1) := by decide +kernel
theorem dX10_giveOne_48 : decode cX10_giveOne 48 = .ok (.iadd, 1) := by decide +kernel
theorem dX10_giveOne_49 : decode cX10_giveOne 49 = .ok (.putfield 276, 3) := by decide +kernel
theorem dX10_giveOne_52 : decode cX10_giveOne 52 = .ok (.aload_n 0, 1) := by decide +kernel
theorem dX10_giveOne_53 : decode cX10_giveOne 53 = .ok (.getfield 279, 3) := by decide +kernel
theorem dX10_giveOne_56 : decode cX10_giveOne 56 = .ok (.iconst (-1), 1) := by decide +kernel
theorem dX10_giveOne_57 : decode cX10_giveOne 57 = .ok (.if_icmp .eq 11, 3) := by decide +kernel
theorem dX10_giveOne_60 : decode cX10_giveOne 60 = .ok (.iload_n 1, 1) := by decide +kernel
theorem dX10_giveOne_61 : decode cX10_giveOne 61 = .ok (.aload_n 0, 1) := by decide +kernel
theorem dX10_giveOne_62 : decode cX10_giveOne 62 = .ok (.getfield 279, 3) := by decide +kernel
theorem dX10_giveOne_65 : decode cX10_giveOne 65 = .ok (.if_icmp .ge 46, 3) := by decide +kernel
theorem dX10_giveOne_68 : decode cX10_giveOne 68 = .ok (.aload_n 0, 1) := by decide +kernel
theorem dX10_giveOne_69 : decode cX10_giveOne 69 = .ok (.iload_n 1, 1) := by decide +kernel
theorem dX10_giveOne_70 : decode cX10_giveOne 70 = .ok (.putfield 279, 3) := by decide +kernel
theorem dX10_giveOne_73 : decode cX10_giveOne 73 = .ok (.iconst 0, 1) := by decide +kernel
theorem dX10_giveOne_74 : decode cX10_giveOne 74 = .ok (.istore_n 2, 1) := by decide +kernel
theorem dX10_giveOne_75 : decode cX10_giveOne 75 = .ok (.iload_n 2, 1) := by decide +kernel
theorem dX10_giveOne_76 : decode cX10_giveOne 76 = .ok (.iconst 5, 1) := by decide +kernel
theorem dX10_giveOne_77 : decode cX10_giveOne 77 = .ok (.if_icmp .ge 34, 3) := by decide +kernel
theorem dX10_giveOne_80 : decode cX10_giveOne 80 = .ok (.aload_n 0, 1) := by decide +kernel
theorem dX10_giveOne_81 : decode cX10_giveOne 81 = .ok (.getfield 71, 3) := by decide +kernel
theorem dX10_giveOne_84 : decode cX10_giveOne 84 = .ok (.iload_n 2, 1) := by decide +kernel
theorem dX10_giveOne_85 : decode cX10_giveOne 85 = .ok (.aload_n 0, 1) := by decide +kernel
theorem dX10_giveOne_86 : decode cX10_giveOne 86 = .ok (.getfield 62, 3) := by decide +kernel
theorem dX10_giveOne_89 : decode cX10_giveOne 89 = .ok (.iload_n 2, 1) := by decide +kernel
theorem dX10_giveOne_90 : decode cX10_giveOne 90 = .ok (.iaload, 1) := by decide +kernel
theorem dX10_giveOne_91 : decode cX10_giveOne 91 = .ok (.ifCond .ne 7, 3) := by decide +kernel
theorem dX10_giveOne_94 : decode cX10_giveOne 94 = .ok (.iconst (-1), 1) := by decide +kernel
theorem dX10_giveOne_95 : decode cX10_giveOne 95 = .ok (.goto 9, 3) := by decide +kernel
theorem dX10_giveOne_98 : decode cX10_giveOne 98 = .ok (.aload_n 0, 1) := by decide +kernel
theorem dX10_giveOne_99 : decode cX10_giveOne 99 = .ok (.getfield 68, 3) := by decide +kernel
theorem dX10_giveOne_102 : decode cX10_giveOne 102 = .ok (.iload_n 2, 1) := by decide +kernel
theorem dX10_giveOne_103 : decode cX10_giveOne 103 = .ok (.iaload, 1) := by decide +kernel
theorem dX10_giveOne_104 : decode cX10_giveOne 104 = .ok (.iastore, 1) := by decide +kernel
theorem dX10_giveOne_105 : decode cX10_giveOne 105 = .ok (.iinc 2 1, 3) := by decide +kernel
theorem dX10_giveOne_108 : decode cX10_giveOne 108 = .ok (.goto (-33), 3) := by decide +kernel
theorem dX10_giveOne_111 : decode cX10_giveOne 111 = .ok (.return_, 1) := by decide +kernel
theorem dX10_given_0 : decode cX10_given 0 = .ok (.iload_n 1, 1) := by decide +kernel
theorem dX10_given_1 : decode cX10_given 1 = .ok (.bipush (-2), 2) := by decide +kernel
theorem dX10_given_3 : decode cX10_given 3 = .ok (.iconst 4, 1) := by decide +kernel
theorem dX10_given_4 : decode cX10_given 4 = .ok (.invokestatic 86, 3) := by decide +kernel
theorem dX10_given_7 : decode cX10_given 7 = .ok (.ifCond .ne 6, 3) := by decide +kernel
theorem dX10_given_10 : decode cX10_given 10 = .ok (.bipush (-3), 2) := by decide +kernel
theorem dX10_given_12 : decode cX10_given 12 = .ok (.ireturn, 1) := by decide +kernel
theorem dX10_given_13 : decode cX10_given 13 = .ok (.aload_n 0, 1) := by decide +kernel
theorem dX10_given_14 : decode cX10_given 14 = .ok (.invokevirtual 288, 3) := by decide +kernel
theorem dX10_given_17 : decode cX10_given 17 = .ok (.iload_n 1, 1) := by decide +kernel
theorem dX10_given_18 : decode cX10_given 18 = .ok (.iconst (-1), 1) := by decide +kernel
theorem dX10_given_19 : decode cX10_given 19 = .ok (.if_icmp .ne 10, 3) := by decide +kernel
theorem dX10_given_22 : decode cX10_given 22 = .ok (.aload_n 0, 1) := by decide +kernel
theorem dX10_given_23 : decode cX10_given 23 = .ok (.getfield 276, 3) := by decide +kernel
theorem dX10_given_26 : decode cX10_given 26 = .ok (.goto 34, 3) := by decide +kernel
theorem dX10_given_29 : decode cX10_given 29 = .ok (.aload_n 0, 1) := by decide +kernel
theorem dX10_given_30 : decode cX10_given 30 = .ok (.getfield 279, 3) := by decide +kernel
theorem dX10_given_33 : decode cX10_given 33 = .ok (.iconst (-1), 1) := by decide +kernel
theorem dX10_given_34 : decode cX10_given 34 = .ok (.if_icmp .ne 7, 3) := by decide +kernel
theorem dX10_given_37 : decode cX10_given 37 = .ok (.iconst (-1), 1) := by decide +kernel
theorem dX10_given_38 : decode cX10_given 38 = .ok (.goto 22, 3) := by decide +kernel
theorem dX10_given_41 : decode cX10_given 41 = .ok (.iload_n 1, 1) := by decide +kernel
theorem dX10_given_42 : decode cX10_given 42 = .ok (.bipush (-2), 2) := by decide +kernel
theorem dX10_given_44 : decode cX10_given 44 = .ok (.if_icmp .ne 10, 3) := by decide +kernel
theorem dX10_given_47 : decode cX10_given 47 = .ok (.aload_n 0, 1) := by decide +kernel
theorem dX10_given_48 : decode cX10_given 48 = .ok (.getfield 279, 3) := by decide +kernel
theorem dX10_given_51 : decode cX10_given 51 = .ok (.goto 9, 3) := by decide +kernel
theorem dX10_given_54 : decode cX10_given 54 = .ok (.aload_n 0, 1) := by decide +kernel
theorem dX10_given_55 : decode cX10_given 55 = .ok (.getfield 71, 3) := by decide +kernel
theorem dX10_given_58 : decode cX10_given 58 = .ok (.iload_n 1, 1) := by decide +kernel
theorem dX10_given_59 : decode cX10_given 59 = .ok (.iaload, 1) := by decide +kernel
theorem dX10_given_60 : decode cX10_given 60 = .ok (.ireturn, 1) := by decide +kernel
theorem dX10_holder_0 : decode cX10_holder 0 = .ok (.iload_n 1, 1) := by decide +kernel
theorem dX10_holder_1 : decode cX10_holder 1 = .ok (.iconst 0, 1) := by decide +kernel
theorem dX10_holder_2 : decode cX10_holder 2 = .ok (.bipush 29, 2) := by decide +kernel
theorem dX10_holder_4 : decode cX10_holder 4 = .ok (.invokestatic 86, 3) := by decide +kernel
theorem dX10_holder_7 : decode cX10_holder 7 = .ok (.ifCond .eq 13, 3) := by decide +kernel
theorem dX10_holder_10 : decode cX10_holder 10 = .ok (.iload_n 2, 1) := by decide +kernel
theorem dX10_holder_11 : decode cX10_holder 11 = .ok (.iconst (-1), 1) := by decide +kernel
theorem dX10_holder_12 : decode cX10_holder 12 = .ok (.bipush 9, 2) := by decide +kernel
theorem dX10_holder_14 : decode cX10_holder 14 = .ok (.invokestatic 86, 3) := by decide +kernel
theorem dX10_holder_17 : decode cX10_holder 17 = .ok (.ifCond .ne 6, 3) := by decide +kernel
theorem dX10_holder_20 : decode cX10_holder 20 = .ok (.bipush (-3), 2) := by decide +kernel
theorem dX10_holder_22 : decode cX10_holder 22 = .ok (.ireturn, 1) := by decide +kernel
theorem dX10_holder_23 : decode cX10_holder 23 = .ok (.aload_n 0, 1) := by decide +kernel
theorem dX10_holder_24 : decode cX10_holder 24 = .ok (.getfield 74, 3) := by decide +kernel
theorem dX10_holder_27 : decode cX10_holder 27 = .ok (.iload_n 1, 1) := by decide +kernel
theorem dX10_holder_28 : decode cX10_holder 28 = .ok (.iaload, 1) := by decide +kernel
theorem dX10_holder_29 : decode cX10_holder 29 = .ok (.istore_n 3, 1) := by decide +kernel
theorem dX10_holder_30 : decode cX10_holder 30 = .ok (.aload_n 0, 1) := by decide +kernel
theorem dX10_holder_31 : decode cX10_holder 31 = .ok (.getfield 74, 3) := by decide +kernel
theorem dX10_holder_34 : decode cX10_holder 34 = .ok (.iload_n 1, 1) := by decide +kernel
theorem dX10_holder_35 : decode cX10_holder 35 = .ok (.iload_n 2, 1) := by decide +kernel
theorem dX10_holder_36 : decode cX10_holder 36 = .ok (.iastore, 1) := by decide +kernel
theorem dX10_holder_37 : decode cX10_holder 37 = .ok (.iload_n 3, 1) := by decide +kernel
theorem dX10_holder_38 : decode cX10_holder 38 = .ok (.ireturn, 1) := by decide +kernel
theorem dX10_roundOf_0 : decode cX10_roundOf 0 = .ok (.iconst 1, 1) := by decide +kernel
theorem dX10_roundOf_1 : decode cX10_roundOf 1 = .ok (.istore_n 1, 1) := by decide +kernel
theorem dX10_roundOf_2 : decode cX10_roundOf 2 = .ok (.iconst 1, 1) := by decide +kernel
theorem dX10_roundOf_3 : decode cX10_roundOf 3 = .ok (.istore_n 2, 1) := by decide +kernel
theorem dX10_roundOf_4 : decode cX10_roundOf 4 = .ok (.iload_n 2, 1) := by decide +kernel
theorem dX10_roundOf_5 : decode cX10_roundOf 5 = .ok (.ifCond .eq 102, 3) := by decide +kernel
theorem dX10_roundOf_8 : decode cX10_roundOf 8 = .ok (.iconst 0, 1) := by decide +kernel
theorem dX10_roundOf_9 : decode cX10_roundOf 9 = .ok (.istore_n 2, 1) := by decide +kernel
theorem dX10_roundOf_10 : decode cX10_roundOf 10 = .ok (.iconst 0, 1) := by decide +kernel
theorem dX10_roundOf_11 : decode cX10_roundOf 11 = .ok (.istore_n 3, 1) := by decide +kernel
theorem dX10_roundOf_12 : decode cX10_roundOf 12 = .ok (.iload_n 3, 1) := by decide +kernel
theorem dX10_roundOf_13 : decode cX10_roundOf 13 = .ok (.bipush 30, 2) := by decide +kernel
theorem dX10_roundOf_15 : decode cX10_roundOf 15 = .ok (.if_icmp .ge 77, 3) := by decide +kernel
theorem dX10_roundOf_18 : decode cX10_roundOf 18 = .ok (.iload_n 3, 1) := by decide +kernel
theorem dX10_roundOf_19 : decode cX10_roundOf 19 = .ok (.iload_n 1, 1) := by decide +kernel
theorem dX10_roundOf_20 : decode cX10_roundOf 20 = .ok (.iadd, 1) := by decide +kernel
theorem dX10_roundOf_21 : decode cX10_roundOf 21 = .ok (.istore 4, 2) := by decide +kernel
theorem dX10_roundOf_23 : decode cX10_roundOf 23 = .ok (.iload 4, 2) := by decide +kernel
theorem dX10_roundOf_25 : decode cX10_roundOf 25 = .ok (.bipush 30, 2) := by decide +kernel
theorem dX10_roundOf_27 : decode cX10_roundOf 27 = .ok (.if_icmp .ge 59, 3) := by decide +kernel
theorem dX10_roundOf_30 : decode cX10_roundOf 30 = .ok (.iload_n 2, 1) := by decide +kernel
theorem dX10_roundOf_31 : decode cX10_roundOf 31 = .ok (.ifCond .ne 40, 3) := by decide +kernel
theorem dX10_roundOf_34 : decode cX10_roundOf 34 = .ok (.aload_n 0, 1) := by decide +kernel
theorem dX10_roundOf_35 : decode cX10_roundOf 35 = .ok (.getfield 74, 3) := by decide +kernel
theorem dX10_roundOf_38 : decode cX10_roundOf 38 = .ok (.iload_n 3, 1) := by decide +kernel
theorem dX10_roundOf_39 : decode cX10_roundOf 39 = .ok (.iaload, 1) := by decide +kernel
theorem dX10_roundOf_40 : decode cX10_roundOf 40 = .ok (.iconst (-1), 1) := by decide +kernel
theorem dX10_roundOf_41 : decode cX10_roundOf 41 = .ok (.if_icmp .eq 34, 3) := by decide +kernel
theorem dX10_roundOf_44 : decode cX10_roundOf 44 = .ok (.aload_n 0, 1) := by decide +kernel
theorem dX10_roundOf_45 : decode cX10_roundOf 45 = .ok (.getfield 74, 3) := by decide +kernel
theorem dX10_roundOf_48 : decode cX10_roundOf 48 = .ok (.iload 4, 2) := by decide +kernel
theorem dX10_roundOf_50 : decode cX10_roundOf 50 = .ok (.iaload, 1) := by decide +kernel
theorem dX10_roundOf_51 : decode cX10_roundOf 51 = .ok (.iconst (-1), 1) := by decide +kernel
theorem dX10_roundOf_52 : decode cX10_roundOf 52 = .ok (.if_icmp .eq 23, 3) := by decide +kernel
theorem dX10_roundOf_55 : decode cX10_roundOf 55 = .ok (.aload_n 0, 1) := by decide +kernel
theorem dX10_roundOf_56 : decode cX10_roundOf 56 = .ok (.getfield 74, 3) := by decide +kernel
theorem dX10_roundOf_59 : decode cX10_roundOf 59 = .ok (.iload_n 3, 1) := by decide +kernel
theorem dX10_roundOf_60 : decode cX10_roundOf 60 = .ok (.iaload, 1) := by decide +kernel
theorem dX10_roundOf_61 : decode cX10_roundOf 61 = .ok (.aload_n 0, 1) := by decide +kernel
theorem dX10_roundOf_62 : decode cX10_roundOf 62 = .ok (.getfield 74, 3) := by decide +kernel
theorem dX10_roundOf_65 : decode cX10_roundOf 65 = .ok (.iload 4, 2) := by decide +kernel
theorem dX10_roundOf_67 : decode cX10_roundOf 67 = .ok (.iaload, 1) := by decide +kernel
theorem dX10_roundOf_68 : decode cX10_roundOf 68 = .ok (.if_icmp .eq 7, 3) := by decide +kernel
theorem dX10_roundOf_71 : decode cX10_roundOf 71 = .ok (.iconst 1, 1) := by decide +kernel
theorem dX10_roundOf_72 : decode cX10_roundOf 72 = .ok (.goto 4, 3) := by decide +kernel
theorem dX10_roundOf_75 : decode cX10_roundOf 75 = .ok (.iconst 0, 1) := by decide +kernel
theorem dX10_roundOf_76 : decode cX10_roundOf 76 = .ok (.istore_n 2, 1) := by decide +kernel
theorem dX10_roundOf_77 : decode cX10_roundOf 77 = .ok (.iload 4, 2) := by decide +kernel
theorem dX10_roundOf_79 : decode cX10_roundOf 79 = .ok (.iload_n 1, 1) := by decide +kernel
theorem dX10_roundOf_80 : decode cX10_roundOf 80 = .ok (.iadd, 1) := by decide +kernel
theorem dX10_roundOf_81 : decode cX10_roundOf 81 = .ok (.istore 4, 2) := by decide +kernel
theorem dX10_roundOf_83 : decode cX10_roundOf 83 = .ok (.goto (-60), 3) := by decide +kernel
theorem dX10_roundOf_86 : decode cX10_roundOf 86 = .ok (.iinc 3 1, 3) := by decide +kernel
theorem dX10_roundOf_89 : decode cX10_roundOf 89 = .ok (.goto (-77), 3) := by decide +kernel
theorem dX10_roundOf_92 : decode cX10_roundOf 92 = .ok (.iload_n 1, 1) := by decide +kernel
theorem dX10_roundOf_93 : decode cX10_roundOf 93 = .ok (.iload_n 2, 1) := by decide +kernel
theorem dX10_roundOf_94 : decode cX10_roundOf 94 = .ok (.ifCond .eq 7, 3) := by decide +kernel
theorem dX10_roundOf_97 : decode cX10_roundOf 97 = .ok (.iconst 1, 1) := by decide +kernel
theorem dX10_roundOf_98 : decode cX10_roundOf 98 = .ok (.goto 4, 3) := by decide +kernel
theorem dX10_roundOf_101 : decode cX10_roundOf 101 = .ok (.iconst 0, 1) := by decide +kernel
theorem dX10_roundOf_102 : decode cX10_roundOf 102 = .ok (.iadd, 1) := by decide +kernel
theorem dX10_roundOf_103 : decode cX10_roundOf 103 = .ok (.istore_n 1, 1) := by decide +kernel
theorem dX10_roundOf_104 : decode cX10_roundOf 104 = .ok (.goto (-100), 3) := by decide +kernel
theorem dX10_roundOf_107 : decode cX10_roundOf 107 = .ok (.iload_n 1, 1) := by decide +kernel
theorem dX10_roundOf_108 : decode cX10_roundOf 108 = .ok (.ireturn, 1) := by decide +kernel
theorem dX10_round_0 : decode cX10_round 0 = .ok (.aload_n 0, 1) := by decide +kernel
theorem dX10_round_1 : decode cX10_round 1 = .ok (.invokevirtual 291, 3) := by decide +kernel
theorem dX10_round_4 : decode cX10_round 4 = .ok (.ireturn, 1) := by decide +kernel
theorem dX10_whose_0 : decode cX10_whose 0 = .ok (.iload_n 1, 1) := by decide +kernel
theorem dX10_whose_1 : decode cX10_whose 1 = .ok (.iconst 0, 1) := by decide +kernel
theorem dX10_whose_2 : decode cX10_whose 2 = .ok (.bipush 99, 2) := by decide +kernel
theorem dX10_whose_4 : decode cX10_whose 4 = .ok (.invokestatic 86, 3) := by decide +kernel
theorem dX10_whose_7 : decode cX10_whose 7 = .ok (.ifCond .ne 6, 3) := by decide +kernel
theorem dX10_whose_10 : decode cX10_whose 10 = .ok (.bipush (-3), 2) := by decide +kernel
theorem dX10_whose_12 : decode cX10_whose 12 = .ok (.ireturn, 1) := by decide +kernel
theorem dX10_whose_13 : decode cX10_whose 13 = .ok (.aload_n 0, 1) := by decide +kernel
theorem dX10_whose_14 : decode cX10_whose 14 = .ok (.invokevirtual 291, 3) := by decide +kernel
theorem dX10_whose_17 : decode cX10_whose 17 = .ok (.istore_n 2, 1) := by decide +kernel
theorem dX10_whose_18 : decode cX10_whose 18 = .ok (.iconst (-1), 1) := by decide +kernel
theorem dX10_whose_19 : decode cX10_whose 19 = .ok (.istore_n 3, 1) := by decide +kernel
theorem dX10_whose_20 : decode cX10_whose 20 = .ok (.iload_n 1, 1) := by decide +kernel
theorem dX10_whose_21 : decode cX10_whose 21 = .ok (.iload_n 2, 1) := by decide +kernel
theorem dX10_whose_22 : decode cX10_whose 22 = .ok (.irem, 1) := by decide +kernel
theorem dX10_whose_23 : decode cX10_whose 23 = .ok (.istore 4, 2) := by decide +kernel
theorem dX10_whose_25 : decode cX10_whose 25 = .ok (.iload 4, 2) := by decide +kernel
theorem dX10_whose_27 : decode cX10_whose 27 = .ok (.bipush 30, 2) := by decide +kernel
theorem dX10_whose_29 : decode cX10_whose 29 = .ok (.if_icmp .ge 35, 3) := by decide +kernel
theorem dX10_whose_32 : decode cX10_whose 32 = .ok (.aload_n 0, 1) := by decide +kernel
theorem dX10_whose_33 : decode cX10_whose 33 = .ok (.getfield 74, 3) := by decide +kernel
theorem dX10_whose_36 : decode cX10_whose 36 = .ok (.iload 4, 2) := by decide +kernel
theorem dX10_whose_38 : decode cX10_whose 38 = .ok (.iaload, 1) := by decide +kernel
theorem dX10_whose_39 : decode cX10_whose 39 = .ok (.iconst (-1), 1) := by decide +kernel
theorem dX10_whose_40 : decode cX10_whose 40 = .ok (.if_icmp .ne 7, 3) := by decide +kernel
theorem dX10_whose_43 : decode cX10_whose 43 = .ok (.iload_n 3, 1) := by decide +kernel
theorem dX10_whose_44 : decode cX10_whose 44 = .ok (.goto 10, 3) := by decide +kernel
theorem dX10_whose_47 : decode cX10_whose 47 = .ok (.aload_n 0, 1) := by decide +kernel
theorem dX10_whose_48 : decode cX10_whose 48 = .ok (.getfield 74, 3) := by decide +kernel
theorem dX10_whose_51 : decode cX10_whose 51 = .ok (.iload 4, 2) := by decide +kernel
theorem dX10_whose_53 : decode cX10_whose 53 = .ok (.iaload, 1) := by decide +kernel
theorem dX10_whose_54 : decode cX10_whose 54 = .ok (.istore_n 3, 1) := by decide +kernel
theorem dX10_whose_55 : decode cX10_whose 55 = .ok (.iload 4, 2) := by decide +kernel
theorem dX10_whose_57 : decode cX10_whose 57 = .ok (.iload_n 2, 1) := by decide +kernel
theorem dX10_whose_58 : decode cX10_whose 58 = .ok (.iadd, 1) := by decide +kernel
theorem dX10_whose_59 : decode cX10_whose 59 = .ok (.istore 4, 2) := by decide +kernel
theorem dX10_whose_61 : decode cX10_whose 61 = .ok (.goto (-36), 3) := by decide +kernel
theorem dX10_whose_64 : decode cX10_whose 64 = .ok (.iload_n 3, 1) := by decide +kernel
theorem dX10_whose_65 : decode cX10_whose 65 = .ok (.ireturn, 1) := by decide +kernel
theorem dX10_picture_0 : decode cX10_picture 0 = .ok (.iload_n 1, 1) := by decide +kernel
theorem dX10_picture_1 : decode cX10_picture 1 = .ok (.iconst 0, 1) := by decide +kernel
theorem dX10_picture_2 : decode cX10_picture 2 = .ok (.iconst 1, 1) := by decide +kernel
theorem dX10_picture_3 : decode cX10_picture 3 = .ok (.invokestatic 86, 3) := by decide +kernel
theorem dX10_picture_6 : decode cX10_picture 6 = .ok (.ifCond .eq 24, 3) := by decide +kernel
theorem dX10_picture_9 : decode cX10_picture 9 = .ok (.iload_n 2, 1) := by decide +kernel
theorem dX10_picture_10 : decode cX10_picture 10 = .ok (.iconst 0, 1) := by decide +kernel
theorem dX10_picture_11 : decode cX10_picture 11 = .ok (.bipush 60, 2) := by decide +kernel
theorem dX10_picture_13 : decode cX10_picture 13 = .ok (.invokestatic 86, 3) := by decide +kernel
theorem dX10_picture_16 : decode cX10_picture 16 = .ok (.ifCond .eq 14, 3) := by decide +kernel
theorem dX10_picture_19 : decode cX10_picture 19 = .ok (.iload_n 3, 1) := by decide +kernel
theorem dX10_picture_20 : decode cX10_picture 20 = .ok (.iconst 0, 1) := by decide +kernel
theorem dX10_picture_21 : decode cX10_picture 21 = .ok (.sipush 255, 3) := by decide +kernel
theorem dX10_picture_24 : decode cX10_picture 24 = .ok (.invokestatic 86, 3) := by decide +kernel
theorem dX10_picture_27 : decode cX10_picture 27 = .ok (.ifCond .ne 6, 3) := by decide +kernel
theorem dX10_picture_30 : decode cX10_picture 30 = .ok (.bipush (-3), 2) := by decide +kernel
theorem dX10_picture_32 : decode cX10_picture 32 = .ok (.ireturn, 1) := by decide +kernel
theorem dX10_picture_33 : decode cX10_picture 33 = .ok (.aload_n 0, 1) := by decide +kernel
theorem dX10_picture_34 : decode cX10_picture 34 = .ok (.getfield 294, 3) := by decide +kernel
theorem dX10_picture_37 : decode cX10_picture 37 = .ok (.bipush 8, 2) := by decide +kernel
theorem dX10_picture_39 : decode cX10_picture 39 = .ok (.if_icmp .ne 6, 3) := by decide +kernel
theorem dX10_picture_42 : decode cX10_picture 42 = .ok (.bipush (-5), 2) := by decide +kernel
theorem dX10_picture_44 : decode cX10_picture 44 = .ok (.ireturn, 1) := by decide +kernel
theorem dX10_picture_45 : decode cX10_picture 45 = .ok (.aload_n 0, 1) := by decide +kernel
theorem dX10_picture_46 : decode cX10_picture 46 = .ok (.getfield 77, 3) := by decide +kernel
theorem dX10_picture_49 : decode cX10_picture 49 = .ok (.aload_n 0, 1) := by decide +kernel
theorem dX10_picture_50 : decode cX10_picture 50 = .ok (.getfield 294, 3) := by decide +kernel
theorem dX10_picture_53 : decode cX10_picture 53 = .ok (.iload_n 1, 1) := by decide +kernel
theorem dX10_picture_54 : decode cX10_picture 54 = .ok (.iastore, 1) := by decide +kernel
theorem dX10_picture_55 : decode cX10_picture 55 = .ok (.aload_n 0, 1) := by decide +kernel
theorem dX10_picture_56 : decode cX10_picture 56 = .ok (.getfield 80, 3) := by decide +kernel
theorem dX10_picture_59 : decode cX10_picture 59 = .ok (.aload_n 0, 1) := by decide +kernel
theorem dX10_picture_60 : decode cX10_picture 60 = .ok (.getfield 294, 3) := by decide +kernel
theorem dX10_picture_63 : decode cX10_picture 63 = .ok (.iload_n 2, 1) := by decide +kernel
theorem dX10_picture_64 : decode cX10_picture 64 = .ok (.iastore, 1) := by decide +kernel
theorem dX10_picture_65 : decode cX10_picture 65 = .ok (.aload_n 0, 1) := by decide +kernel
theorem dX10_picture_66 : decode cX10_picture 66 = .ok (.getfield 83, 3) := by decide +kernel
theorem dX10_picture_69 : decode cX10_picture 69 = .ok (.aload_n 0, 1) := by decide +kernel
theorem dX10_picture_70 : decode cX10_picture 70 = .ok (.getfield 294, 3) := by decide +kernel
theorem dX10_picture_73 : decode cX10_picture 73 = .ok (.iload_n 3, 1) := by decide +kernel
theorem dX10_picture_74 : decode cX10_picture 74 = .ok (.iastore, 1) := by decide +kernel
theorem dX10_picture_75 : decode cX10_picture 75 = .ok (.aload_n 0, 1) := by decide +kernel
theorem dX10_picture_76 : decode cX10_picture 76 = .ok (.dup, 1) := by decide +kernel
theorem dX10_picture_77 : decode cX10_picture 77 = .ok (.getfield 294, 3) := by decide +kernel
theorem dX10_picture_80 : decode cX10_picture 80 = .ok (.iconst 1, 1) := by decide +kernel
theorem dX10_picture_81 : decode cX10_picture 81 = .ok (.iadd, 1) := by decide +kernel
theorem dX10_picture_82 : decode cX10_picture 82 = .ok (.putfield 294, 3) := by decide +kernel
theorem dX10_picture_85 : decode cX10_picture 85 = .ok (.aload_n 0, 1) := by decide +kernel
theorem dX10_picture_86 : decode cX10_picture 86 = .ok (.getfield 294, 3) := by decide +kernel
theorem dX10_picture_89 : decode cX10_picture 89 = .ok (.ireturn, 1) := by decide +kernel
theorem dX10_doesShow_0 : decode cX10_doesShow 0 = .ok (.aload_n 0, 1) := by decide +kernel
theorem dX10_doesShow_1 : decode cX10_doesShow 1 = .ok (.iload_n 2, 1) := by decide +kernel
theorem dX10_doesShow_2 : decode cX10_doesShow 2 = .ok (.iconst 0, 1) := by decide +kernel
theorem dX10_doesShow_3 : decode cX10_doesShow 3 = .ok (.invokevirtual 184, 3) := by decide +kernel
theorem dX10_doesShow_6 : decode cX10_doesShow 6 = .ok (.aload_n 0, 1) := by decide +kernel
theorem dX10_doesShow_7 : decode cX10_doesShow 7 = .ok (.getfield 77, 3) := by decide +kernel
theorem dX10_doesShow_10 : decode cX10_doesShow 10 = .ok (.iload_n 1, 1) := by decide +kernel
theorem dX10_doesShow_11 : decode cX10_doesShow 11 = .ok (.iaload, 1) := by decide +kernel
theorem dX10_doesShow_12 : decode cX10_doesShow 12 = .ok (.if_icmp .eq 23, 3) := by decide +kernel
theorem dX10_doesShow_15 : decode cX10_doesShow 15 = .ok (.aload_n 0, 1) := by decide +kernel
theorem dX10_doesShow_16 : decode cX10_doesShow 16 = .ok (.iload_n 2, 1) := by decide +kernel
theorem dX10_doesShow_17 : decode cX10_doesShow 17 = .ok (.bipush 6, 2) := by decide +kernel
theorem dX10_doesShow_19 : decode cX10_doesShow 19 = .ok (.invokevirtual 184, 3) := by decide +kernel
theorem dX10_doesShow_22 : decode cX10_doesShow 22 = .ok (.aload_n 0, 1) := by decide +kernel
theorem dX10_doesShow_23 : decode cX10_doesShow 23 = .ok (.getfield 80, 3) := by decide +kernel
theorem dX10_doesShow_26 : decode cX10_doesShow 26 = .ok (.iload_n 1, 1) := by decide +kernel
theorem dX10_doesShow_27 : decode cX10_doesShow 27 = .ok (.iaload, 1) := by decide +kernel
theorem dX10_doesShow_28 : decode cX10_doesShow 28 = .ok (.if_icmp .lt 7, 3) := by decide +kernel
theorem dX10_doesShow_31 : decode cX10_doesShow 31 = .ok (.iconst 1, 1) := by decide +kernel
theorem dX10_doesShow_32 : decode cX10_doesShow 32 = .ok (.goto 4, 3) := by decide +kernel
theorem dX10_doesShow_35 : decode cX10_doesShow 35 = .ok (.iconst 0, 1) := by decide +kernel
theorem dX10_doesShow_36 : decode cX10_doesShow 36 = .ok (.ireturn, 1) := by decide +kernel
theorem dX10_shows_0 : decode cX10_shows 0 = .ok (.iload_n 1, 1) := by decide +kernel
theorem dX10_shows_1 : decode cX10_shows 1 = .ok (.iconst 0, 1) := by decide +kernel
theorem dX10_shows_2 : decode cX10_shows 2 = .ok (.aload_n 0, 1) := by decide +kernel
theorem dX10_shows_3 : decode cX10_shows 3 = .ok (.getfield 294, 3) := by decide +kernel
theorem dX10_shows_6 : decode cX10_shows 6 = .ok (.iconst 1, 1) := by decide +kernel
theorem dX10_shows_7 : decode cX10_shows 7 = .ok (.isub, 1) := by decide +kernel
theorem dX10_shows_8 : decode cX10_shows 8 = .ok (.invokestatic 86, 3) := by decide +kernel
theorem dX10_shows_11 : decode cX10_shows 11 = .ok (.ifCond .eq 11, 3) := by decide +kernel
theorem dX10_shows_14 : decode cX10_shows 14 = .ok (.aload_n 0, 1) := by decide +kernel
theorem dX10_shows_15 : decode cX10_shows 15 = .ok (.iload_n 2, 1) := by decide +kernel
theorem dX10_shows_16 : decode cX10_shows 16 = .ok (.invokevirtual 205, 3) := by decide +kernel
theorem dX10_shows_19 : decode cX10_shows 19 = .ok (.ifCond .ne 6, 3) := by decide +kernel
theorem dX10_shows_22 : decode cX10_shows 22 = .ok (.bipush (-2), 2) := by decide +kernel
theorem dX10_shows_24 : decode cX10_shows 24 = .ok (.ireturn, 1) := by decide +kernel
theorem dX10_shows_25 : decode cX10_shows 25 = .ok (.aload_n 0, 1) := by decide +kernel
theorem dX10_shows_26 : decode cX10_shows 26 = .ok (.iload_n 1, 1) := by decide +kernel
theorem dX10_shows_27 : decode cX10_shows 27 = .ok (.iload_n 2, 1) := by decide +kernel
theorem dX10_shows_28 : decode cX10_shows 28 = .ok (.invokevirtual 297, 3) := by decide +kernel
theorem dX10_shows_31 : decode cX10_shows 31 = .ok (.ifCond .eq 7, 3) := by decide +kernel
theorem dX10_shows_34 : decode cX10_shows 34 = .ok (.iconst 1, 1) := by decide +kernel
theorem dX10_shows_35 : decode cX10_shows 35 = .ok (.goto 4, 3) := by decide +kernel
theorem dX10_shows_38 : decode cX10_shows 38 = .ok (.iconst 0, 1) := by decide +kernel
theorem dX10_shows_39 : decode cX10_shows 39 = .ok (.ireturn, 1) := by decide +kernel
theorem dX10_seen_0 : decode cX10_seen 0 = .ok (.iload_n 1, 1) := by decide +kernel
theorem dX10_seen_1 : decode cX10_seen 1 = .ok (.iconst 0, 1) := by decide +kernel
theorem dX10_seen_2 : decode cX10_seen 2 = .ok (.iconst 2, 1) := by decide +kernel
theorem dX10_seen_3 : decode cX10_seen 3 = .ok (.invokestatic 86, 3) := by decide +kernel
theorem dX10_seen_6 : decode cX10_seen 6 = .ok (.ifCond .ne 6, 3) := by decide +kernel
theorem dX10_seen_9 : decode cX10_seen 9 = .ok (.bipush (-3), 2) := by decide +kernel
theorem dX10_seen_11 : decode cX10_seen 11 = .ok (.ireturn, 1) := by decide +kernel
theorem dX10_seen_12 : decode cX10_seen 12 = .ok (.iconst 0, 1) := by decide +kernel
theorem dX10_seen_13 : decode cX10_seen 13 = .ok (.istore_n 2, 1) := by decide +kernel
theorem dX10_seen_14 : decode cX10_seen 14 = .ok (.iconst 0, 1) := by decide +kernel
theorem dX10_seen_15 : decode cX10_seen 15 = .ok (.istore_n 3, 1) := by decide +kernel
theorem dX10_seen_16 : decode cX10_seen 16 = .ok (.iconst 0, 1) := by decide +kernel
theorem dX10_seen_17 : decode cX10_seen 17 = .ok (.istore 4, 2) := by decide +kernel
theorem dX10_seen_19 : decode cX10_seen 19 = .ok (.iconst 0, 1) := by decide +kernel
theorem dX10_seen_20 : decode cX10_seen 20 = .ok (.istore 5, 2) := by decide +kernel
theorem dX10_seen_22 : decode cX10_seen 22 = .ok (.iload 5, 2) := by decide +kernel
theorem dX10_seen_24 : decode cX10_seen 24 = .ok (.bipush 8, 2) := by decide +kernel
theorem dX10_seen_26 : decode cX10_seen 26 = .ok (.if_icmp .ge 170, 3) := by decide +kernel
theorem dX10_seen_29 : decode cX10_seen 29 = .ok (.aload_n 0, 1) := by decide +kernel
theorem dX10_seen_30 : decode cX10_seen 30 = .ok (.iload 5, 2) := by decide +kernel
theorem dX10_seen_32 : decode cX10_seen 32 = .ok (.invokevirtual 205, 3) := by decide +kernel
theorem dX10_seen_35 : decode cX10_seen 35 = .ok (.ifCond .eq 155, 3) := by decide +kernel
theorem dX10_seen_38 : decode cX10_seen 38 = .ok (.iconst 0, 1) := by decide +kernel
theorem dX10_seen_39 : decode cX10_seen 39 = .ok (.istore 6, 2) := by decide +kernel
theorem dX10_seen_41 : decode cX10_seen 41 = .ok (.iconst 0, 1) := by decide +kernel
theorem dX10_seen_42 : decode cX10_seen 42 = .ok (.istore 7, 2) := by decide +kernel
theorem dX10_seen_44 : decode cX10_seen 44 = .ok (.iconst 0, 1) := by decide +kernel
theorem dX10_seen_45 : decode cX10_seen 45 = .ok (.istore 8, 2) := by decide +kernel
theorem dX10_seen_47 : decode cX10_seen 47 = .ok (.iload 8, 2) := by decide +kernel
theorem dX10_seen_49 : decode cX10_seen 49 = .ok (.aload_n 0, 1) := by decide +kernel
theorem dX10_seen_50 : decode cX10_seen 50 = .ok (.getfield 294, 3) := by decide +kernel
theorem dX10_seen_53 : decode cX10_seen 53 = .ok (.if_icmp .ge 71, 3) := by decide +kernel
theorem dX10_seen_56 : decode cX10_seen 56 = .ok (.iload 6, 2) := by decide +kernel
theorem dX10_seen_58 : decode cX10_seen 58 = .ok (.ifCond .ne 14, 3) := by decide +kernel
theorem dX10_seen_61 : decode cX10_seen 61 = .ok (.aload_n 0, 1) := by decide +kernel
theorem dX10_seen_62 : decode cX10_seen 62 = .ok (.iload 8, 2) := by decide +kernel
theorem dX10_seen_64 : decode cX10_seen 64 = .ok (.iload 5, 2) := by decide +kernel
theorem dX10_seen_66 : decode cX10_seen 66 = .ok (.invokevirtual 297, 3) := by decide +kernel
theorem dX10_seen_69 : decode cX10_seen 69 = .ok (.ifCond .eq 7, 3) := by decide +kernel
theorem dX10_seen_72 : decode cX10_seen 72 = .ok (.iconst 1, 1) := by decide +kernel
theorem dX10_seen_73 : decode cX10_seen 73 = .ok (.goto 4, 3) := by decide +kernel
theorem dX10_seen_76 : decode cX10_seen 76 = .ok (.iconst 0, 1) := by decide +kernel
theorem dX10_seen_77 : decode cX10_seen 77 = .ok (.istore 6, 2) := by decide +kernel
theorem dX10_seen_79 : decode cX10_seen 79 = .ok (.iload 7, 2) := by decide +kernel
theorem dX10_seen_81 : decode cX10_seen 81 = .ok (.ifCond .ne 30, 3) := by decide +kernel
theorem dX10_seen_84 : decode cX10_seen 84 = .ok (.aload_n 0, 1) := by decide +kernel
theorem dX10_seen_85 : decode cX10_seen 85 = .ok (.iload 8, 2) := by decide +kernel
theorem dX10_seen_87 : decode cX10_seen 87 = .ok (.iload 5, 2) := by decide +kernel
theorem dX10_seen_89 : decode cX10_seen 89 = .ok (.invokevirtual 297, 3) := by decide +kernel
theorem dX10_seen_92 : decode cX10_seen 92 = .ok (.ifCond .eq 23, 3) := by decide +kernel
theorem dX10_seen_95 : decode cX10_seen 95 = .ok (.aload_n 0, 1) := by decide +kernel
theorem dX10_seen_96 : decode cX10_seen 96 = .ok (.getfield 83, 3) := by decide +kernel
theorem dX10_seen_99 : decode cX10_seen 99 = .ok (.iload 8, 2) := by decide +kernel
theorem dX10_seen_101 : decode cX10_seen 101 = .ok (.iaload, 1) := by decide +kernel
theorem dX10_seen_102 : decode cX10_seen 102 = .ok (.iload 5, 2) := by decide +kernel
theorem dX10_seen_104 : decode cX10_seen 104 = .ok (.ishr, 1) := by decide +kernel
theorem dX10_seen_105 : decode cX10_seen 105 = .ok (.iconst 1, 1) := by decide +kernel
theorem dX10_seen_106 : decode cX10_seen 106 = .ok (.iand, 1) := by decide +kernel
theorem dX10_seen_107 : decode cX10_seen 107 = .ok (.iconst 1, 1) := by decide +kernel
theorem dX10_seen_108 : decode cX10_seen 108 = .ok (.if_icmp .ne 7, 3) := by decide +kernel
theorem dX10_seen_111 : decode cX10_seen 111 = .ok (.iconst 1, 1) := by decide +kernel
theorem dX10_seen_112 : decode cX10_seen 112 = .ok (.goto 4, 3) := by decide +kernel
theorem dX10_seen_115 : decode cX10_seen 115 = .ok (.iconst 0, 1) := by decide +kernel
theorem dX10_seen_116 : decode cX10_seen 116 = .ok (.istore 7, 2) := by decide +kernel
theorem dX10_seen_118 : decode cX10_seen 118 = .ok (.iinc 8 1, 3) := by decide +kernel
theorem dX10_seen_121 : decode cX10_seen 121 = .ok (.goto (-74), 3) := by decide +kernel
theorem dX10_seen_124 : decode cX10_seen 124 = .ok (.iload_n 2, 1) := by decide +kernel
theorem dX10_seen_125 : decode cX10_seen 125 = .ok (.iload 6, 2) := by decide +kernel
theorem dX10_seen_127 : decode cX10_seen 127 = .ok (.ifCond .eq 15, 3) := by decide +kernel
theorem dX10_seen_130 : decode cX10_seen 130 = .ok (.iload 7, 2) := by decide +kernel
theorem dX10_seen_132 : decode cX10_seen 132 = .ok (.ifCond .ne 10, 3) := by decide +kernel
theorem dX10_seen_135 : decode cX10_seen 135 = .ok (.iconst 1, 1) := by decide +kernel
theorem dX10_seen_136 : decode cX10_seen 136 = .ok (.iload 5, 2) := by decide +kernel
theorem dX10_seen_138 : decode cX10_seen 138 = .ok (.ishl, 1) := by decide +kernel
theorem dX10_seen_139 : decode cX10_seen 139 = .ok (.goto 4, 3) := by decide +kernel
theorem dX10_seen_142 : decode cX10_seen 142 = .ok (.iconst 0, 1) := by decide +kernel
theorem dX10_seen_143 : decode cX10_seen 143 = .ok (.ior, 1) := by decide +kernel
theorem dX10_seen_144 : decode cX10_seen 144 = .ok (.istore_n 2, 1) := by decide +kernel
theorem dX10_seen_145 : decode cX10_seen 145 = .ok (.iload_n 3, 1) := by decide +kernel
theorem dX10_seen_146 : decode cX10_seen 146 = .ok (.iload 7, 2) := by decide +kernel
theorem dX10_seen_148 : decode cX10_seen 148 = .ok (.ifCond .eq 10, 3) := by decide +kernel
theorem dX10_seen_151 : decode cX10_seen 151 = .ok (.iconst 1, 1) := by decide +kernel
theorem dX10_seen_152 : decode cX10_seen 152 = .ok (.iload 5, 2) := by decide +kernel
theorem dX10_seen_154 : decode cX10_seen 154 = .ok (.ishl, 1) := by decide +kernel
theorem dX10_seen_155 : decode cX10_seen 155 = .ok (.goto 4, 3) := by decide +kernel
theorem dX10_seen_158 : decode cX10_seen 158 = .ok (.iconst 0, 1) := by decide +kernel
theorem dX10_seen_159 : decode cX10_seen 159 = .ok (.ior, 1) := by decide +kernel
theorem dX10_seen_160 : decode cX10_seen 160 = .ok (.istore_n 3, 1) := by decide +kernel
theorem dX10_seen_161 : decode cX10_seen 161 = .ok (.iload 4, 2) := by decide +kernel
theorem dX10_seen_163 : decode cX10_seen 163 = .ok (.iload 6, 2) := by decide +kernel
theorem dX10_seen_165 : decode cX10_seen 165 = .ok (.ifCond .eq 7, 3) := by decide +kernel
theorem dX10_seen_168 : decode cX10_seen 168 = .ok (.iconst 0, 1) := by decide +kernel
theorem dX10_seen_169 : decode cX10_seen 169 = .ok (.goto 18, 3) := by decide +kernel
theorem dX10_seen_172 : decode cX10_seen 172 = .ok (.aload_n 0, 1) := by decide +kernel
theorem dX10_seen_173 : decode cX10_seen 173 = .ok (.iload 5, 2) := by decide +kernel
theorem dX10_seen_175 : decode cX10_seen 175 = .ok (.iconst 0, 1) := by decide +kernel
theorem dX10_seen_176 : decode cX10_seen 176 = .ok (.invokevirtual 184, 3) := by decide +kernel
theorem dX10_seen_179 : decode cX10_seen 179 = .ok (.ifCond .ne 7, 3) := by decide +kernel
theorem dX10_seen_182 : decode cX10_seen 182 = .ok (.iconst 1, 1) := by decide +kernel
theorem dX10_seen_183 : decode cX10_seen 183 = .ok (.goto 4, 3) := by decide +kernel
theorem dX10_seen_186 : decode cX10_seen 186 = .ok (.iconst (-1), 1) := by decide +kernel
theorem dX10_seen_187 : decode cX10_seen 187 = .ok (.iadd, 1) := by decide +kernel
theorem dX10_seen_188 : decode cX10_seen 188 = .ok (.istore 4, 2) := by decide +kernel
theorem dX10_seen_190 : decode cX10_seen 190 = .ok (.iinc 5 1, 3) := by decide +kernel
theorem dX10_seen_193 : decode cX10_seen 193 = .ok (.goto (-171), 3) := by decide +kernel
theorem dX10_seen_196 : decode cX10_seen 196 = .ok (.iload_n 1, 1) := by decide +kernel
theorem dX10_seen_197 : decode cX10_seen 197 = .ok (.ifCond .ne 7, 3) := by decide +kernel
theorem dX10_seen_200 : decode cX10_seen 200 = .ok (.iload_n 2, 1) := by decide +kernel
theorem dX10_seen_201 : decode cX10_seen 201 = .ok (.goto 22, 3) := by decide +kernel
theorem dX10_seen_204 : decode cX10_seen 204 = .ok (.iload_n 1, 1) := by decide +kernel
theorem dX10_seen_205 : decode cX10_seen 205 = .ok (.iconst 1, 1) := by decide +kernel
theorem dX10_seen_206 : decode cX10_seen 206 = .ok (.if_icmp .ne 7, 3) := by decide +kernel
theorem dX10_seen_209 : decode cX10_seen 209 = .ok (.iload_n 3, 1) := by decide +kernel
theorem dX10_seen_210 : decode cX10_seen 210 = .ok (.goto 13, 3) := by decide +kernel
theorem dX10_seen_213 : decode cX10_seen 213 = .ok (.iload 4, 2) := by decide +kernel
theorem dX10_seen_215 : decode cX10_seen 215 = .ok (.ifCond .le 7, 3) := by decide +kernel
theorem dX10_seen_218 : decode cX10_seen 218 = .ok (.iconst 1, 1) := by decide +kernel
theorem dX10_seen_219 : decode cX10_seen 219 = .ok (.goto 4, 3) := by decide +kernel
theorem dX10_seen_222 : decode cX10_seen 222 = .ok (.iconst 0, 1) := by decide +kernel
theorem dX10_seen_223 : decode cX10_seen 223 = .ok (.ireturn, 1) := by decide +kernel
theorem dX10_count_0 : decode cX10_count 0 = .ok (.iload_n 1, 1) := by decide +kernel
theorem dX10_count_1 : decode cX10_count 1 = .ok (.tableswitch 141 0 8 #[51, 63, 74, 79, 87, 92, 126, 131, 136], 51) := by decide +kernel
theorem dX10_count_52 : decode cX10_count 52 = .ok (.aload_n 0, 1) := by decide +kernel
theorem dX10_count_53 : decode cX10_count 53 = .ok (.getfield 90, 3) := by decide +kernel
theorem dX10_count_56 : decode cX10_count 56 = .ok (.sipush 255, 3) := by decide +kernel
theorem dX10_count_59 : decode cX10_count 59 = .ok (.iand, 1) := by decide +kernel
theorem dX10_count_60 : decode cX10_count 60 = .ok (.invokestatic 300, 3) := by decide +kernel
theorem dX10_count_63 : decode cX10_count 63 = .ok (.ireturn, 1) := by decide +kernel
theorem dX10_count_64 : decode cX10_count 64 = .ok (.aload_n 0, 1) := by decide +kernel
theorem dX10_count_65 : decode cX10_count 65 = .ok (.getfield 90, 3) := by decide +kernel
theorem dX10_count_68 : decode cX10_count 68 = .ok (.bipush 8, 2) := by decide +kernel
theorem dX10_count_70 : decode cX10_count 70 = .ok (.ishr, 1) := by decide +kernel
theorem dX10_count_71 : decode cX10_count 71 = .ok (.invokestatic 300, 3) := by decide +kernel
theorem dX10_count_74 : decode cX10_count 74 = .ok (.ireturn, 1) := by decide +kernel
theorem dX10_count_75 : decode cX10_count 75 = .ok (.aload_n 0, 1) := by decide +kernel
theorem dX10_count_76 : decode cX10_count 76 = .ok (.getfield 196, 3) := by decide +kernel
theorem dX10_count_79 : decode cX10_count 79 = .ok (.ireturn, 1) := by decide +kernel
theorem dX10_count_80 : decode cX10_count 80 = .ok (.aload_n 0, 1) := by decide +kernel
theorem dX10_count_81 : decode cX10_count 81 = .ok (.getfield 199, 3) := by decide +kernel
theorem dX10_count_84 : decode cX10_count 84 = .ok (.invokestatic 300, 3) := by decide +kernel
theorem dX10_count_87 : decode cX10_count 87 = .ok (.ireturn, 1) := by decide +kernel
theorem dX10_count_88 : decode cX10_count 88 = .ok (.aload_n 0, 1) := by decide +kernel
theorem dX10_count_89 : decode cX10_count 89 = .ok (.getfield 97, 3) := by decide +kernel
theorem dX10_count_92 : decode cX10_count 92 = .ok (.ireturn, 1) := by decide +kernel
theorem dX10_count_93 : decode cX10_count 93 = .ok (.iconst 0, 1) := by decide +kernel
theorem dX10_count_94 : decode cX10_count 94 = .ok (.istore_n 2, 1) := by decide +kernel
theorem dX10_count_95 : decode cX10_count 95 = .ok (.iconst 0, 1) := by decide +kernel
theorem dX10_count_96 : decode cX10_count 96 = .ok (.istore_n 3, 1) := by decide +kernel
theorem dX10_count_97 : decode cX10_count 97 = .ok (.iload_n 3, 1) := by decide +kernel
theorem dX10_count_98 : decode cX10_count 98 = .ok (.iconst 5, 1) := by decide +kernel
theorem dX10_count_99 : decode cX10_count 99 = .ok (.if_icmp .ge 26, 3) := by decide +kernel
theorem dX10_count_102 : decode cX10_count 102 = .ok (.iload_n 2, 1) := by decide +kernel
theorem dX10_count_103 : decode cX10_count 103 = .ok (.aload_n 0, 1) := by decide +kernel
theorem dX10_count_104 : decode cX10_count 104 = .ok (.getfield 62, 3) := by decide +kernel
theorem dX10_count_107 : decode cX10_count 107 = .ok (.iload_n 3, 1) := by decide +kernel
theorem dX10_count_108 : decode cX10_count 108 = .ok (.iaload, 1) := by decide +kernel
theorem dX10_count_109 : decode cX10_count 109 = .ok (.ifCond .le 7, 3) := by decide +kernel
theorem dX10_count_112 : decode cX10_count 112 = .ok (.iconst 1, 1) := by decide +kernel
theorem dX10_count_113 : decode cX10_count 113 = .ok (.goto 4, 3) := by decide +kernel
theorem dX10_count_116 : decode cX10_count 116 = .ok (.iconst 0, 1) := by decide +kernel
theorem dX10_count_117 : decode cX10_count 117 = .ok (.iadd, 1) := by decide +kernel
theorem dX10_count_118 : decode cX10_count 118 = .ok (.istore_n 2, 1) := by decide +kernel
theorem dX10_count_119 : decode cX10_count 119 = .ok (.iinc 3 1, 3) := by decide +kernel
theorem dX10_count_122 : decode cX10_count 122 = .ok (.goto (-25), 3) := by decide +kernel
theorem dX10_count_125 : decode cX10_count 125 = .ok (.iload_n 2, 1) := by decide +kernel
theorem dX10_count_126 : decode cX10_count 126 = .ok (.ireturn, 1) := by decide +kernel
theorem dX10_count_127 : decode cX10_count 127 = .ok (.aload_n 0, 1) := by decide +kernel
theorem dX10_count_128 : decode cX10_count 128 = .ok (.getfield 294, 3) := by decide +kernel
theorem dX10_count_131 : decode cX10_count 131 = .ok (.ireturn, 1) := by decide +kernel
theorem dX10_count_132 : decode cX10_count 132 = .ok (.aload_n 0, 1) := by decide +kernel
theorem dX10_count_133 : decode cX10_count 133 = .ok (.getfield 40, 3) := by decide +kernel
theorem dX10_count_136 : decode cX10_count 136 = .ok (.ireturn, 1) := by decide +kernel
theorem dX10_count_137 : decode cX10_count 137 = .ok (.aload_n 0, 1) := by decide +kernel
theorem dX10_count_138 : decode cX10_count 138 = .ok (.getfield 44, 3) := by decide +kernel
theorem dX10_count_141 : decode cX10_count 141 = .ok (.ireturn, 1) := by decide +kernel
theorem dX10_count_142 : decode cX10_count 142 = .ok (.bipush (-3), 2) := by decide +kernel
theorem dX10_count_144 : decode cX10_count 144 = .ok (.ireturn, 1) := by decide +kernel
