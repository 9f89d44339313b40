theorem dX9_odds_37 : decode cX9_odds 37 = .ok (.getfield 46, 3) := by decide +kernel
theorem dX9_odds_40 : decode cX9_odds 40 = .ok (.iload_n 1, 1) := by decide +kernel
theorem dX9_odds_41 : decode cX9_odds 41 = .ok (.iload_n 3, 1) := by decide +kernel
theorem dX9_odds_42 : decode cX9_odds 42 = .ok (.invokevirtual 158, 3) := by decide +kernel
theorem dX9_odds_45 : decode cX9_odds 45 = .ok (.goto 5, 3) := by decide +kernel
theorem dX9_odds_48 : decode cX9_odds 48 = .ok (.bipush (-4), 2) := by decide +kernel
theorem dX9_odds_50 : decode cX9_odds 50 = .ok (.ireturn, 1) := by decide +kernel
theorem dX9_field_0 : decode cX9_field 0 = .ok (.aload_n 0, 1) := by decide +kernel
theorem dX9_field_1 : decode cX9_field 1 = .ok (.getfield 28, 3) := by decide +kernel
theorem dX9_field_4 : decode cX9_field 4 = .ok (.iload_n 1, 1) := by decide +kernel
theorem dX9_field_5 : decode cX9_field 5 = .ok (.invokevirtual 105, 3) := by decide +kernel
theorem dX9_field_8 : decode cX9_field 8 = .ok (.ifCond .ne 6, 3) := by decide +kernel
theorem dX9_field_11 : decode cX9_field 11 = .ok (.bipush (-2), 2) := by decide +kernel
theorem dX9_field_13 : decode cX9_field 13 = .ok (.ireturn, 1) := by decide +kernel
theorem dX9_field_14 : decode cX9_field 14 = .ok (.iload_n 2, 1) := by decide +kernel
theorem dX9_field_15 : decode cX9_field 15 = .ok (.iconst 0, 1) := by decide +kernel
theorem dX9_field_16 : decode cX9_field 16 = .ok (.iconst 2, 1) := by decide +kernel
theorem dX9_field_17 : decode cX9_field 17 = .ok (.invokestatic 78, 3) := by decide +kernel
theorem dX9_field_20 : decode cX9_field 20 = .ok (.ifCond .ne 6, 3) := by decide +kernel
theorem dX9_field_23 : decode cX9_field 23 = .ok (.bipush (-3), 2) := by decide +kernel
theorem dX9_field_25 : decode cX9_field 25 = .ok (.ireturn, 1) := by decide +kernel
theorem dX9_field_26 : decode cX9_field 26 = .ok (.aload_n 0, 1) := by decide +kernel
theorem dX9_field_27 : decode cX9_field 27 = .ok (.getfield 46, 3) := by decide +kernel
theorem dX9_field_30 : decode cX9_field 30 = .ok (.iload_n 1, 1) := by decide +kernel
theorem dX9_field_31 : decode cX9_field 31 = .ok (.invokevirtual 161, 3) := by decide +kernel
theorem dX9_field_34 : decode cX9_field 34 = .ok (.istore_n 3, 1) := by decide +kernel
theorem dX9_field_35 : decode cX9_field 35 = .ok (.iload_n 2, 1) := by decide +kernel
theorem dX9_field_36 : decode cX9_field 36 = .ok (.ifCond .ne 5, 3) := by decide +kernel
theorem dX9_field_39 : decode cX9_field 39 = .ok (.iload_n 3, 1) := by decide +kernel
theorem dX9_field_40 : decode cX9_field 40 = .ok (.ireturn, 1) := by decide +kernel
theorem dX9_field_41 : decode cX9_field 41 = .ok (.iload_n 2, 1) := by decide +kernel
theorem dX9_field_42 : decode cX9_field 42 = .ok (.iconst 1, 1) := by decide +kernel
theorem dX9_field_43 : decode cX9_field 43 = .ok (.if_icmp .ne 14, 3) := by decide +kernel
theorem dX9_field_46 : decode cX9_field 46 = .ok (.aload_n 0, 1) := by decide +kernel
theorem dX9_field_47 : decode cX9_field 47 = .ok (.getfield 46, 3) := by decide +kernel
theorem dX9_field_50 : decode cX9_field 50 = .ok (.iload_n 3, 1) := by decide +kernel
theorem dX9_field_51 : decode cX9_field 51 = .ok (.invokevirtual 164, 3) := by decide +kernel
theorem dX9_field_54 : decode cX9_field 54 = .ok (.goto 11, 3) := by decide +kernel
theorem dX9_field_57 : decode cX9_field 57 = .ok (.aload_n 0, 1) := by decide +kernel
theorem dX9_field_58 : decode cX9_field 58 = .ok (.getfield 46, 3) := by decide +kernel
theorem dX9_field_61 : decode cX9_field 61 = .ok (.iload_n 3, 1) := by decide +kernel
theorem dX9_field_62 : decode cX9_field 62 = .ok (.invokevirtual 167, 3) := by decide +kernel
theorem dX9_field_65 : decode cX9_field 65 = .ok (.ireturn, 1) := by decide +kernel
theorem dX9_fields_0 : decode cX9_fields 0 = .ok (.aload_n 0, 1) := by decide +kernel
theorem dX9_fields_1 : decode cX9_fields 1 = .ok (.getfield 46, 3) := by decide +kernel
theorem dX9_fields_4 : decode cX9_fields 4 = .ok (.invokevirtual 170, 3) := by decide +kernel
theorem dX9_fields_7 : decode cX9_fields 7 = .ok (.ireturn, 1) := by decide +kernel
theorem dX9_ploughed_0 : decode cX9_ploughed 0 = .ok (.iload_n 1, 1) := by decide +kernel
theorem dX9_ploughed_1 : decode cX9_ploughed 1 = .ok (.iconst 0, 1) := by decide +kernel
theorem dX9_ploughed_2 : decode cX9_ploughed 2 = .ok (.sipush 2000, 3) := by decide +kernel
theorem dX9_ploughed_5 : decode cX9_ploughed 5 = .ok (.invokestatic 78, 3) := by decide +kernel
theorem dX9_ploughed_8 : decode cX9_ploughed 8 = .ok (.ifCond .eq 12, 3) := by decide +kernel
theorem dX9_ploughed_11 : decode cX9_ploughed 11 = .ok (.iload_n 2, 1) := by decide +kernel
theorem dX9_ploughed_12 : decode cX9_ploughed 12 = .ok (.iconst 0, 1) := by decide +kernel
theorem dX9_ploughed_13 : decode cX9_ploughed 13 = .ok (.iconst 1, 1) := by decide +kernel
theorem dX9_ploughed_14 : decode cX9_ploughed 14 = .ok (.invokestatic 78, 3) := by decide +kernel
theorem dX9_ploughed_17 : decode cX9_ploughed 17 = .ok (.ifCond .ne 6, 3) := by decide +kernel
theorem dX9_ploughed_20 : decode cX9_ploughed 20 = .ok (.bipush (-3), 2) := by decide +kernel
theorem dX9_ploughed_22 : decode cX9_ploughed 22 = .ok (.ireturn, 1) := by decide +kernel
theorem dX9_ploughed_23 : decode cX9_ploughed 23 = .ok (.aload_n 0, 1) := by decide +kernel
theorem dX9_ploughed_24 : decode cX9_ploughed 24 = .ok (.getfield 37, 3) := by decide +kernel
theorem dX9_ploughed_27 : decode cX9_ploughed 27 = .ok (.invokevirtual 125, 3) := by decide +kernel
theorem dX9_ploughed_30 : decode cX9_ploughed 30 = .ok (.ifCond .eq 15, 3) := by decide +kernel
theorem dX9_ploughed_33 : decode cX9_ploughed 33 = .ok (.aload_n 0, 1) := by decide +kernel
theorem dX9_ploughed_34 : decode cX9_ploughed 34 = .ok (.getfield 53, 3) := by decide +kernel
theorem dX9_ploughed_37 : decode cX9_ploughed 37 = .ok (.iload_n 1, 1) := by decide +kernel
theorem dX9_ploughed_38 : decode cX9_ploughed 38 = .ok (.iload_n 2, 1) := by decide +kernel
theorem dX9_ploughed_39 : decode cX9_ploughed 39 = .ok (.invokevirtual 173, 3) := by decide +kernel
theorem dX9_ploughed_42 : decode cX9_ploughed 42 = .ok (.goto 4, 3) := by decide +kernel
theorem dX9_ploughed_45 : decode cX9_ploughed 45 = .ok (.iconst (-1), 1) := by decide +kernel
theorem dX9_ploughed_46 : decode cX9_ploughed 46 = .ok (.ireturn, 1) := by decide +kernel
theorem dX9_peak_0 : decode cX9_peak 0 = .ok (.iload_n 1, 1) := by decide +kernel
theorem dX9_peak_1 : decode cX9_peak 1 = .ok (.iconst 0, 1) := by decide +kernel
theorem dX9_peak_2 : decode cX9_peak 2 = .ok (.iconst 1, 1) := by decide +kernel
theorem dX9_peak_3 : decode cX9_peak 3 = .ok (.invokestatic 78, 3) := by decide +kernel
theorem dX9_peak_6 : decode cX9_peak 6 = .ok (.ifCond .ne 6, 3) := by decide +kernel
theorem dX9_peak_9 : decode cX9_peak 9 = .ok (.bipush (-3), 2) := by decide +kernel
theorem dX9_peak_11 : decode cX9_peak 11 = .ok (.ireturn, 1) := by decide +kernel
theorem dX9_peak_12 : decode cX9_peak 12 = .ok (.aload_n 0, 1) := by decide +kernel
theorem dX9_peak_13 : decode cX9_peak 13 = .ok (.getfield 37, 3) := by decide +kernel
theorem dX9_peak_16 : decode cX9_peak 16 = .ok (.invokevirtual 125, 3) := by decide +kernel
theorem dX9_peak_19 : decode cX9_peak 19 = .ok (.ifCond .ne 5, 3) := by decide +kernel
theorem dX9_peak_22 : decode cX9_peak 22 = .ok (.iconst (-1), 1) := by decide +kernel
theorem dX9_peak_23 : decode cX9_peak 23 = .ok (.ireturn, 1) := by decide +kernel
theorem dX9_peak_24 : decode cX9_peak 24 = .ok (.aload_n 0, 1) := by decide +kernel
theorem dX9_peak_25 : decode cX9_peak 25 = .ok (.getfield 53, 3) := by decide +kernel
theorem dX9_peak_28 : decode cX9_peak 28 = .ok (.invokevirtual 176, 3) := by decide +kernel
theorem dX9_peak_31 : decode cX9_peak 31 = .ok (.istore_n 2, 1) := by decide +kernel
theorem dX9_peak_32 : decode cX9_peak 32 = .ok (.iload_n 1, 1) := by decide +kernel
theorem dX9_peak_33 : decode cX9_peak 33 = .ok (.ifCond .ne 7, 3) := by decide +kernel
theorem dX9_peak_36 : decode cX9_peak 36 = .ok (.iload_n 2, 1) := by decide +kernel
theorem dX9_peak_37 : decode cX9_peak 37 = .ok (.goto 12, 3) := by decide +kernel
theorem dX9_peak_40 : decode cX9_peak 40 = .ok (.aload_n 0, 1) := by decide +kernel
theorem dX9_peak_41 : decode cX9_peak 41 = .ok (.getfield 53, 3) := by decide +kernel
theorem dX9_peak_44 : decode cX9_peak 44 = .ok (.iload_n 2, 1) := by decide +kernel
theorem dX9_peak_45 : decode cX9_peak 45 = .ok (.iconst 1, 1) := by decide +kernel
theorem dX9_peak_46 : decode cX9_peak 46 = .ok (.invokevirtual 173, 3) := by decide +kernel
theorem dX9_peak_49 : decode cX9_peak 49 = .ok (.ireturn, 1) := by decide +kernel
theorem dX9_terrier_0 : decode cX9_terrier 0 = .ok (.iload_n 1, 1) := by decide +kernel
theorem dX9_terrier_1 : decode cX9_terrier 1 = .ok (.iconst 0, 1) := by decide +kernel
theorem dX9_terrier_2 : decode cX9_terrier 2 = .ok (.iconst 4, 1) := by decide +kernel
theorem dX9_terrier_3 : decode cX9_terrier 3 = .ok (.invokestatic 78, 3) := by decide +kernel
theorem dX9_terrier_6 : decode cX9_terrier 6 = .ok (.ifCond .ne 6, 3) := by decide +kernel
theorem dX9_terrier_9 : decode cX9_terrier 9 = .ok (.bipush (-2), 2) := by decide +kernel
theorem dX9_terrier_11 : decode cX9_terrier 11 = .ok (.ireturn, 1) := by decide +kernel
theorem dX9_terrier_12 : decode cX9_terrier 12 = .ok (.iload_n 2, 1) := by decide +kernel
theorem dX9_terrier_13 : decode cX9_terrier 13 = .ok (.iconst 0, 1) := by decide +kernel
theorem dX9_terrier_14 : decode cX9_terrier 14 = .ok (.bipush 30, 2) := by decide +kernel
theorem dX9_terrier_16 : decode cX9_terrier 16 = .ok (.invokestatic 78, 3) := by decide +kernel
theorem dX9_terrier_19 : decode cX9_terrier 19 = .ok (.ifCond .eq 13, 3) := by decide +kernel
theorem dX9_terrier_22 : decode cX9_terrier 22 = .ok (.iload_n 3, 1) := by decide +kernel
theorem dX9_terrier_23 : decode cX9_terrier 23 = .ok (.iconst 0, 1) := by decide +kernel
theorem dX9_terrier_24 : decode cX9_terrier 24 = .ok (.bipush 31, 2) := by decide +kernel
theorem dX9_terrier_26 : decode cX9_terrier 26 = .ok (.invokestatic 78, 3) := by decide +kernel
theorem dX9_terrier_29 : decode cX9_terrier 29 = .ok (.ifCond .ne 6, 3) := by decide +kernel
theorem dX9_terrier_32 : decode cX9_terrier 32 = .ok (.bipush (-3), 2) := by decide +kernel
theorem dX9_terrier_34 : decode cX9_terrier 34 = .ok (.ireturn, 1) := by decide +kernel
theorem dX9_terrier_35 : decode cX9_terrier 35 = .ok (.aload_n 0, 1) := by decide +kernel
theorem dX9_terrier_36 : decode cX9_terrier 36 = .ok (.getfield 60, 3) := by decide +kernel
theorem dX9_terrier_39 : decode cX9_terrier 39 = .ok (.iload_n 1, 1) := by decide +kernel
theorem dX9_terrier_40 : decode cX9_terrier 40 = .ok (.iload_n 2, 1) := by decide +kernel
theorem dX9_terrier_41 : decode cX9_terrier 41 = .ok (.iload_n 3, 1) := by decide +kernel
theorem dX9_terrier_42 : decode cX9_terrier 42 = .ok (.invokevirtual 179, 3) := by decide +kernel
theorem dX9_terrier_45 : decode cX9_terrier 45 = .ok (.iconst 1, 1) := by decide +kernel
theorem dX9_terrier_46 : decode cX9_terrier 46 = .ok (.ireturn, 1) := by decide +kernel
theorem dX9_given_0 : decode cX9_given 0 = .ok (.iload_n 1, 1) := by decide +kernel
theorem dX9_given_1 : decode cX9_given 1 = .ok (.bipush (-2), 2) := by decide +kernel
theorem dX9_given_3 : decode cX9_given 3 = .ok (.iconst 4, 1) := by decide +kernel
theorem dX9_given_4 : decode cX9_given 4 = .ok (.invokestatic 78, 3) := by decide +kernel
theorem dX9_given_7 : decode cX9_given 7 = .ok (.ifCond .ne 6, 3) := by decide +kernel
theorem dX9_given_10 : decode cX9_given 10 = .ok (.bipush (-3), 2) := by decide +kernel
theorem dX9_given_12 : decode cX9_given 12 = .ok (.ireturn, 1) := by decide +kernel
theorem dX9_given_13 : decode cX9_given 13 = .ok (.aload_n 0, 1) := by decide +kernel
theorem dX9_given_14 : decode cX9_given 14 = .ok (.getfield 60, 3) := by decide +kernel
theorem dX9_given_17 : decode cX9_given 17 = .ok (.invokevirtual 183, 3) := by decide +kernel
theorem dX9_given_20 : decode cX9_given 20 = .ok (.aload_n 0, 1) := by decide +kernel
theorem dX9_given_21 : decode cX9_given 21 = .ok (.getfield 60, 3) := by decide +kernel
theorem dX9_given_24 : decode cX9_given 24 = .ok (.iload_n 1, 1) := by decide +kernel
theorem dX9_given_25 : decode cX9_given 25 = .ok (.invokevirtual 186, 3) := by decide +kernel
theorem dX9_given_28 : decode cX9_given 28 = .ok (.ireturn, 1) := by decide +kernel
theorem dX9_holder_0 : decode cX9_holder 0 = .ok (.iload_n 1, 1) := by decide +kernel
theorem dX9_holder_1 : decode cX9_holder 1 = .ok (.iconst 0, 1) := by decide +kernel
theorem dX9_holder_2 : decode cX9_holder 2 = .ok (.bipush 29, 2) := by decide +kernel
theorem dX9_holder_4 : decode cX9_holder 4 = .ok (.invokestatic 78, 3) := by decide +kernel
theorem dX9_holder_7 : decode cX9_holder 7 = .ok (.ifCond .eq 13, 3) := by decide +kernel
theorem dX9_holder_10 : decode cX9_holder 10 = .ok (.iload_n 2, 1) := by decide +kernel
theorem dX9_holder_11 : decode cX9_holder 11 = .ok (.iconst (-1), 1) := by decide +kernel
theorem dX9_holder_12 : decode cX9_holder 12 = .ok (.bipush 9, 2) := by decide +kernel
theorem dX9_holder_14 : decode cX9_holder 14 = .ok (.invokestatic 78, 3) := by decide +kernel
theorem dX9_holder_17 : decode cX9_holder 17 = .ok (.ifCond .ne 6, 3) := by decide +kernel
theorem dX9_holder_20 : decode cX9_holder 20 = .ok (.bipush (-3), 2) := by decide +kernel
theorem dX9_holder_22 : decode cX9_holder 22 = .ok (.ireturn, 1) := by decide +kernel
theorem dX9_holder_23 : decode cX9_holder 23 = .ok (.aload_n 0, 1) := by decide +kernel
theorem dX9_holder_24 : decode cX9_holder 24 = .ok (.getfield 67, 3) := by decide +kernel
theorem dX9_holder_27 : decode cX9_holder 27 = .ok (.iload_n 1, 1) := by decide +kernel
theorem dX9_holder_28 : decode cX9_holder 28 = .ok (.iload_n 2, 1) := by decide +kernel
theorem dX9_holder_29 : decode cX9_holder 29 = .ok (.invokevirtual 189, 3) := by decide +kernel
theorem dX9_holder_32 : decode cX9_holder 32 = .ok (.ireturn, 1) := by decide +kernel
theorem dX9_round_0 : decode cX9_round 0 = .ok (.aload_n 0, 1) := by decide +kernel
theorem dX9_round_1 : decode cX9_round 1 = .ok (.getfield 67, 3) := by decide +kernel
theorem dX9_round_4 : decode cX9_round 4 = .ok (.invokevirtual 191, 3) := by decide +kernel
theorem dX9_round_7 : decode cX9_round 7 = .ok (.ireturn, 1) := by decide +kernel
theorem dX9_whose_0 : decode cX9_whose 0 = .ok (.iload_n 1, 1) := by decide +kernel
theorem dX9_whose_1 : decode cX9_whose 1 = .ok (.iconst 0, 1) := by decide +kernel
theorem dX9_whose_2 : decode cX9_whose 2 = .ok (.bipush 99, 2) := by decide +kernel
theorem dX9_whose_4 : decode cX9_whose 4 = .ok (.invokestatic 78, 3) := by decide +kernel
theorem dX9_whose_7 : decode cX9_whose 7 = .ok (.ifCond .eq 14, 3) := by decide +kernel
theorem dX9_whose_10 : decode cX9_whose 10 = .ok (.aload_n 0, 1) := by decide +kernel
theorem dX9_whose_11 : decode cX9_whose 11 = .ok (.getfield 67, 3) := by decide +kernel
theorem dX9_whose_14 : decode cX9_whose 14 = .ok (.iload_n 1, 1) := by decide +kernel
theorem dX9_whose_15 : decode cX9_whose 15 = .ok (.invokevirtual 194, 3) := by decide +kernel
theorem dX9_whose_18 : decode cX9_whose 18 = .ok (.goto 5, 3) := by decide +kernel
theorem dX9_whose_21 : decode cX9_whose 21 = .ok (.bipush (-3), 2) := by decide +kernel
theorem dX9_whose_23 : decode cX9_whose 23 = .ok (.ireturn, 1) := by decide +kernel
theorem dX9_picture_0 : decode cX9_picture 0 = .ok (.iload_n 1, 1) := by decide +kernel
theorem dX9_picture_1 : decode cX9_picture 1 = .ok (.iconst 0, 1) := by decide +kernel
theorem dX9_picture_2 : decode cX9_picture 2 = .ok (.iconst 1, 1) := by decide +kernel
theorem dX9_picture_3 : decode cX9_picture 3 = .ok (.invokestatic 78, 3) := by decide +kernel
theorem dX9_picture_6 : decode cX9_picture 6 = .ok (.ifCond .eq 24, 3) := by decide +kernel
theorem dX9_picture_9 : decode cX9_picture 9 = .ok (.iload_n 2, 1) := by decide +kernel
theorem dX9_picture_10 : decode cX9_picture 10 = .ok (.iconst 0, 1) := by decide +kernel
theorem dX9_picture_11 : decode cX9_picture 11 = .ok (.bipush 60, 2) := by decide +kernel
theorem dX9_picture_13 : decode cX9_picture 13 = .ok (.invokestatic 78, 3) := by decide +kernel
theorem dX9_picture_16 : decode cX9_picture 16 = .ok (.ifCond .eq 14, 3) := by decide +kernel
theorem dX9_picture_19 : decode cX9_picture 19 = .ok (.iload_n 3, 1) := by decide +kernel
theorem dX9_picture_20 : decode cX9_picture 20 = .ok (.iconst 0, 1) := by decide +kernel
theorem dX9_picture_21 : decode cX9_picture 21 = .ok (.sipush 255, 3) := by decide +kernel
theorem dX9_picture_24 : decode cX9_picture 24 = .ok (.invokestatic 78, 3) := by decide +kernel
theorem dX9_picture_27 : decode cX9_picture 27 = .ok (.ifCond .ne 6, 3) := by decide +kernel
theorem dX9_picture_30 : decode cX9_picture 30 = .ok (.bipush (-3), 2) := by decide +kernel
theorem dX9_picture_32 : decode cX9_picture 32 = .ok (.ireturn, 1) := by decide +kernel
theorem dX9_picture_33 : decode cX9_picture 33 = .ok (.aload_n 0, 1) := by decide +kernel
theorem dX9_picture_34 : decode cX9_picture 34 = .ok (.getfield 74, 3) := by decide +kernel
theorem dX9_picture_37 : decode cX9_picture 37 = .ok (.iload_n 1, 1) := by decide +kernel
theorem dX9_picture_38 : decode cX9_picture 38 = .ok (.iload_n 2, 1) := by decide +kernel
theorem dX9_picture_39 : decode cX9_picture 39 = .ok (.iload_n 3, 1) := by decide +kernel
theorem dX9_picture_40 : decode cX9_picture 40 = .ok (.invokevirtual 197, 3) := by decide +kernel
theorem dX9_picture_43 : decode cX9_picture 43 = .ok (.ifCond .eq 13, 3) := by decide +kernel
theorem dX9_picture_46 : decode cX9_picture 46 = .ok (.aload_n 0, 1) := by decide +kernel
theorem dX9_picture_47 : decode cX9_picture 47 = .ok (.getfield 74, 3) := by decide +kernel
theorem dX9_picture_50 : decode cX9_picture 50 = .ok (.getfield 199, 3) := by decide +kernel
theorem dX9_picture_53 : decode cX9_picture 53 = .ok (.goto 5, 3) := by decide +kernel
theorem dX9_picture_56 : decode cX9_picture 56 = .ok (.bipush (-5), 2) := by decide +kernel
theorem dX9_picture_58 : decode cX9_picture 58 = .ok (.ireturn, 1) := by decide +kernel
theorem dX9_shows_0 : decode cX9_shows 0 = .ok (.iload_n 1, 1) := by decide +kernel
theorem dX9_shows_1 : decode cX9_shows 1 = .ok (.iconst 0, 1) := by decide +kernel
theorem dX9_shows_2 : decode cX9_shows 2 = .ok (.aload_n 0, 1) := by decide +kernel
theorem dX9_shows_3 : decode cX9_shows 3 = .ok (.getfield 74, 3) := by decide +kernel
theorem dX9_shows_6 : decode cX9_shows 6 = .ok (.getfield 199, 3) := by decide +kernel
theorem dX9_shows_9 : decode cX9_shows 9 = .ok (.iconst 1, 1) := by decide +kernel
theorem dX9_shows_10 : decode cX9_shows 10 = .ok (.isub, 1) := by decide +kernel
theorem dX9_shows_11 : decode cX9_shows 11 = .ok (.invokestatic 78, 3) := by decide +kernel
theorem dX9_shows_14 : decode cX9_shows 14 = .ok (.ifCond .eq 14, 3) := by decide +kernel
theorem dX9_shows_17 : decode cX9_shows 17 = .ok (.aload_n 0, 1) := by decide +kernel
theorem dX9_shows_18 : decode cX9_shows 18 = .ok (.getfield 28, 3) := by decide +kernel
theorem dX9_shows_21 : decode cX9_shows 21 = .ok (.iload_n 2, 1) := by decide +kernel
theorem dX9_shows_22 : decode cX9_shows 22 = .ok (.invokevirtual 105, 3) := by decide +kernel
theorem dX9_shows_25 : decode cX9_shows 25 = .ok (.ifCond .ne 6, 3) := by decide +kernel
theorem dX9_shows_28 : decode cX9_shows 28 = .ok (.bipush (-2), 2) := by decide +kernel
theorem dX9_shows_30 : decode cX9_shows 30 = .ok (.ireturn, 1) := by decide +kernel
theorem dX9_shows_31 : decode cX9_shows 31 = .ok (.aload_n 0, 1) := by decide +kernel
theorem dX9_shows_32 : decode cX9_shows 32 = .ok (.getfield 74, 3) := by decide +kernel
theorem dX9_shows_35 : decode cX9_shows 35 = .ok (.iload_n 1, 1) := by decide +kernel
theorem dX9_shows_36 : decode cX9_shows 36 = .ok (.iload_n 2, 1) := by decide +kernel
theorem dX9_shows_37 : decode cX9_shows 37 = .ok (.invokevirtual 202, 3) := by decide +kernel
theorem dX9_shows_40 : decode cX9_shows 40 = .ok (.invokestatic 145, 3) := by decide +kernel
theorem dX9_shows_43 : decode cX9_shows 43 = .ok (.ireturn, 1) := by decide +kernel
theorem dX9_seen_0 : decode cX9_seen 0 = .ok (.iload_n 1, 1) := by decide +kernel
theorem dX9_seen_1 : decode cX9_seen 1 = .ok (.tableswitch 51 0 2 #[27, 35, 43], 27) := by decide +kernel
theorem dX9_seen_28 : decode cX9_seen 28 = .ok (.aload_n 0, 1) := by decide +kernel
theorem dX9_seen_29 : decode cX9_seen 29 = .ok (.getfield 74, 3) := by decide +kernel
theorem dX9_seen_32 : decode cX9_seen 32 = .ok (.invokevirtual 205, 3) := by decide +kernel
theorem dX9_seen_35 : decode cX9_seen 35 = .ok (.ireturn, 1) := by decide +kernel
theorem dX9_seen_36 : decode cX9_seen 36 = .ok (.aload_n 0, 1) := by decide +kernel
theorem dX9_seen_37 : decode cX9_seen 37 = .ok (.getfield 74, 3) := by decide +kernel
theorem dX9_seen_40 : decode cX9_seen 40 = .ok (.invokevirtual 208, 3) := by decide +kernel
theorem dX9_seen_43 : decode cX9_seen 43 = .ok (.ireturn, 1) := by decide +kernel
theorem dX9_seen_44 : decode cX9_seen 44 = .ok (.aload_n 0, 1) := by decide +kernel
theorem dX9_seen_45 : decode cX9_seen 45 = .ok (.getfield 74, 3) := by decide +kernel
theorem dX9_seen_48 : decode cX9_seen 48 = .ok (.invokevirtual 211, 3) := by decide +kernel
theorem dX9_seen_51 : decode cX9_seen 51 = .ok (.ireturn, 1) := by decide +kernel
theorem dX9_seen_52 : decode cX9_seen 52 = .ok (.bipush (-3), 2) := by decide +kernel
theorem dX9_seen_54 : decode cX9_seen 54 = .ok (.ireturn, 1) := by decide +kernel
theorem dX9_count_0 : decode cX9_count 0 = .ok (.iload_n 1, 1) := by decide +kernel
theorem dX9_count_1 : decode cX9_count 1 = .ok (.tableswitch 136 0 8 #[51, 62, 77, 85, 96, 104, 112, 120, 128], 51) := by decide +kernel
theorem dX9_count_52 : decode cX9_count 52 = .ok (.aload_n 0, 1) := by decide +kernel
theorem dX9_count_53 : decode cX9_count 53 = .ok (.getfield 28, 3) := by decide +kernel
theorem dX9_count_56 : decode cX9_count 56 = .ok (.invokevirtual 214, 3) := by decide +kernel
theorem dX9_count_59 : decode cX9_count 59 = .ok (.invokestatic 217, 3) := by decide +kernel
theorem dX9_count_62 : decode cX9_count 62 = .ok (.ireturn, 1) := by decide +kernel
theorem dX9_count_63 : decode cX9_count 63 = .ok (.aload_n 0, 1) := by decide +kernel
theorem dX9_count_64 : decode cX9_count 64 = .ok (.getfield 28, 3) := by decide +kernel
theorem dX9_count_67 : decode cX9_count 67 = .ok (.getfield 222, 3) := by decide +kernel
theorem dX9_count_70 : decode cX9_count 70 = .ok (.sipush (-256), 3) := by decide +kernel
theorem dX9_count_73 : decode cX9_count 73 = .ok (.iand, 1) := by decide +kernel
theorem dX9_count_74 : decode cX9_count 74 = .ok (.invokestatic 217, 3) := by decide +kernel
theorem dX9_count_77 : decode cX9_count 77 = .ok (.ireturn, 1) := by decide +kernel
theorem dX9_count_78 : decode cX9_count 78 = .ok (.aload_n 0, 1) := by decide +kernel
theorem dX9_count_79 : decode cX9_count 79 = .ok (.getfield 28, 3) := by decide +kernel
theorem dX9_count_82 : decode cX9_count 82 = .ok (.getfield 225, 3) := by decide +kernel
theorem dX9_count_85 : decode cX9_count 85 = .ok (.ireturn, 1) := by decide +kernel
theorem dX9_count_86 : decode cX9_count 86 = .ok (.aload_n 0, 1) := by decide +kernel
theorem dX9_count_87 : decode cX9_count 87 = .ok (.getfield 28, 3) := by decide +kernel
theorem dX9_count_90 : decode cX9_count 90 = .ok (.getfield 228, 3) := by decide +kernel
theorem dX9_count_93 : decode cX9_count 93 = .ok (.invokestatic 217, 3) := by decide +kernel
theorem dX9_count_96 : decode cX9_count 96 = .ok (.ireturn, 1) := by decide +kernel
theorem dX9_count_97 : decode cX9_count 97 = .ok (.aload_n 0, 1) := by decide +kernel
theorem dX9_count_98 : decode cX9_count 98 = .ok (.getfield 10, 3) := by decide +kernel
theorem dX9_count_101 : decode cX9_count 101 = .ok (.getfield 90, 3) := by decide +kernel
theorem dX9_count_104 : decode cX9_count 104 = .ok (.ireturn, 1) := by decide +kernel
theorem dX9_count_105 : decode cX9_count 105 = .ok (.aload_n 0, 1) := by decide +kernel
theorem dX9_count_106 : decode cX9_count 106 = .ok (.getfield 60, 3) := by decide +kernel
theorem dX9_count_109 : decode cX9_count 109 = .ok (.invokevirtual 231, 3) := by decide +kernel
theorem dX9_count_112 : decode cX9_count 112 = .ok (.ireturn, 1) := by decide +kernel
theorem dX9_count_113 : decode cX9_count 113 = .ok (.aload_n 0, 1) := by decide +kernel
theorem dX9_count_114 : decode cX9_count 114 = .ok (.getfield 74, 3) := by decide +kernel
theorem dX9_count_117 : decode cX9_count 117 = .ok (.getfield 199, 3) := by decide +kernel
theorem dX9_count_120 : decode cX9_count 120 = .ok (.ireturn, 1) := by decide +kernel
theorem dX9_count_121 : decode cX9_count 121 = .ok (.aload_n 0, 1) := by decide +kernel
theorem dX9_count_122 : decode cX9_count 122 = .ok (.getfield 28, 3) := by decide +kernel
theorem dX9_count_125 : decode cX9_count 125 = .ok (.getfield 234, 3) := by decide +kernel
theorem dX9_count_128 : decode cX9_count 128 = .ok (.ireturn, 1) := by decide +kernel
theorem dX9_count_129 : decode cX9_count 129 = .ok (.aload_n 0, 1) := by decide +kernel
theorem dX9_count_130 : decode cX9_count 130 = .ok (.getfield 28, 3) := by decide +kernel
theorem dX9_count_133 : decode cX9_count 133 = .ok (.getfield 237, 3) := by decide +kernel
theorem dX9_count_136 : decode cX9_count 136 = .ok (.ireturn, 1) := by decide +kernel
theorem dX9_count_137 : decode cX9_count 137 = .ok (.bipush (-3), 2) := by decide +kernel
theorem dX9_count_139 : decode cX9_count 139 = .ok (.ireturn, 1) := by decide +kernel
theorem dX9_isPair_0 : decode cX9_isPair 0 = .ok (.iload_n 1, 1) := by decide +kernel
theorem dX9_isPair_1 : decode cX9_isPair 1 = .ok (.iload_n 2, 1) := by decide +kernel
theorem dX9_isPair_2 : decode cX9_isPair 2 = .ok (.if_icmp .eq 29, 3) := by decide +kernel
theorem dX9_isPair_5 : decode cX9_isPair 5 = .ok (.aload_n 0, 1) := by decide +kernel
theorem dX9_isPair_6 : decode cX9_isPair 6 = .ok (.getfield 28, 3) := by decide +kernel
theorem dX9_isPair_9 : decode cX9_isPair 9 = .ok (.iload_n 1, 1) := by decide +kernel
theorem dX9_isPair_10 : decode cX9_isPair 10 = .ok (.invokevirtual 105, 3) := by decide +kernel
theorem dX9_isPair_13 : decode cX9_isPair 13 = .ok (.ifCond .eq 18, 3) := by decide +kernel
theorem dX9_isPair_16 : decode cX9_isPair 16 = .ok (.aload_n 0, 1) := by decide +kernel
theorem dX9_isPair_17 : decode cX9_isPair 17 = .ok (.getfield 28, 3) := by decide +kernel
theorem dX9_isPair_20 : decode cX9_isPair 20 = .ok (.iload_n 2, 1) := by decide +kernel
theorem dX9_isPair_21 : decode cX9_isPair 21 = .ok (.invokevirtual 105, 3) := by decide +kernel
theorem dX9_isPair_24 : decode cX9_isPair 24 = .ok (.ifCond .eq 7, 3) := by decide +kernel
theorem dX9_isPair_27 : decode cX9_isPair 27 = .ok (.iconst 1, 1) := by decide +kernel
theorem dX9_isPair_28 : decode cX9_isPair 28 = .ok (.goto 4, 3) := by decide +kernel
theorem dX9_isPair_31 : decode cX9_isPair 31 = .ok (.iconst 0, 1) := by decide +kernel
theorem dX9_isPair_32 : decode cX9_isPair 32 = .ok (.ireturn, 1) := by decide +kernel
theorem dX9_at_0 : decode cX9_at 0 = .ok (.iload_n 1, 1) := by decide +kernel
theorem dX9_at_1 : decode cX9_at 1 = .ok (.ifCond .lt 15, 3) := by decide +kernel
theorem dX9_at_4 : decode cX9_at 4 = .ok (.iload_n 1, 1) := by decide +kernel
theorem dX9_at_5 : decode cX9_at 5 = .ok (.aload_n 0, 1) := by decide +kernel
theorem dX9_at_6 : decode cX9_at 6 = .ok (.arraylength, 1) := by decide +kernel
theorem dX9_at_7 : decode cX9_at 7 = .ok (.if_icmp .ge 9, 3) := by decide +kernel
theorem dX9_at_10 : decode cX9_at 10 = .ok (.aload_n 0, 1) := by decide +kernel
theorem dX9_at_11 : decode cX9_at 11 = .ok (.iload_n 1, 1) := by decide +kernel
theorem dX9_at_12 : decode cX9_at 12 = .ok (.iaload, 1) := by decide +kernel
theorem dX9_at_13 : decode cX9_at 13 = .ok (.goto 4, 3) := by decide +kernel
theorem dX9_at_16 : decode cX9_at 16 = .ok (.iconst 0, 1) := by decide +kernel
theorem dX9_at_17 : decode cX9_at 17 = .ok (.ireturn, 1) := by decide +kernel
theorem dX9_put_0 : decode cX9_put 0 = .ok (.iload_n 1, 1) := by decide +kernel
theorem dX9_put_1 : decode cX9_put 1 = .ok (.ifCond .lt 13, 3) := by decide +kernel
theorem dX9_put_4 : decode cX9_put 4 = .ok (.iload_n 1, 1) := by decide +kernel
theorem dX9_put_5 : decode cX9_put 5 = .ok (.aload_n 0, 1) := by decide +kernel
theorem dX9_put_6 : decode cX9_put 6 = .ok (.arraylength, 1) := by decide +kernel
theorem dX9_put_7 : decode cX9_put 7 = .ok (.if_icmp .ge 7, 3) := by decide +kernel
theorem dX9_put_10 : decode cX9_put 10 = .ok (.aload_n 0, 1) := by decide +kernel
theorem dX9_put_11 : decode cX9_put 11 = .ok (.iload_n 1, 1) := by decide +kernel
theorem dX9_put_12 : decode cX9_put 12 = .ok (.iload_n 2, 1) := by decide +kernel
theorem dX9_put_13 : decode cX9_put 13 = .ok (.iastore, 1) := by decide +kernel
theorem dX9_put_14 : decode cX9_put 14 = .ok (.return_, 1) := by decide +kernel
theorem dX9_within_0 : decode cX9_within 0 = .ok (.iload_n 0, 1) := by decide +kernel
theorem dX9_within_1 : decode cX9_within 1 = .ok (.iload_n 1, 1) := by decide +kernel
theorem dX9_within_2 : decode cX9_within 2 = .ok (.if_icmp .lt 12, 3) := by decide +kernel
theorem dX9_within_5 : decode cX9_within 5 = .ok (.iload_n 0, 1) := by decide +kernel
theorem dX9_within_6 : decode cX9_within 6 = .ok (.iload_n 2, 1) := by decide +kernel
theorem dX9_within_7 : decode cX9_within 7 = .ok (.if_icmp .gt 7, 3) := by decide +kernel
theorem dX9_within_10 : decode cX9_within 10 = .ok (.iconst 1, 1) := by decide +kernel
theorem dX9_within_11 : decode cX9_within 11 = .ok (.goto 4, 3) := by decide +kernel
theorem dX9_within_14 : decode cX9_within 14 = .ok (.iconst 0, 1) := by decide +kernel
theorem dX9_within_15 : decode cX9_within 15 = .ok (.ireturn, 1) := by decide +kernel
theorem dX9_has_0 : decode cX9_has 0 = .ok (.iload_n 0, 1) := by decide +kernel
theorem dX9_has_1 : decode cX9_has 1 = .ok (.iload_n 1, 1) := by decide +kernel
theorem dX9_has_2 : decode cX9_has 2 = .ok (.ishr, 1) := by decide +kernel
theorem dX9_has_3 : decode cX9_has 3 = .ok (.iconst 1, 1) := by decide +kernel
theorem dX9_has_4 : decode cX9_has 4 = .ok (.iand, 1) := by decide +kernel
theorem dX9_has_5 : decode cX9_has 5 = .ok (.iconst 1, 1) := by decide +kernel
theorem dX9_has_6 : decode cX9_has 6 = .ok (.if_icmp .ne 7, 3) := by decide +kernel
theorem dX9_has_9 : decode cX9_has 9 = .ok (.iconst 1, 1) := by decide +kernel
theorem dX9_has_10 : decode cX9_has 10 = .ok (.goto 4, 3) := by decide +kernel
theorem dX9_has_13 : decode cX9_has 13 = .ok (.iconst 0, 1) := by decide +kernel
theorem dX9_has_14 : decode cX9_has 14 = .ok (.ireturn, 1) := by decide +kernel
theorem dX9_oneIf_0 : decode cX9_oneIf 0 = .ok (.iload_n 0, 1) := by decide +kernel
theorem dX9_oneIf_1 : decode cX9_oneIf 1 = .ok (.ifCond .eq 7, 3) := by decide +kernel
theorem dX9_oneIf_4 : decode cX9_oneIf 4 = .ok (.iconst 1, 1) := by decide +kernel
theorem dX9_oneIf_5 : decode cX9_oneIf 5 = .ok (.goto 4, 3) := by decide +kernel
theorem dX9_oneIf_8 : decode cX9_oneIf 8 = .ok (.iconst 0, 1) := by decide +kernel
theorem dX9_oneIf_9 : decode cX9_oneIf 9 = .ok (.ireturn, 1) := by decide +kernel
theorem dX9_remainder_0 : decode cX9_remainder 0 = .ok (.iload_n 1, 1) := by decide +kernel
theorem dX9_remainder_1 : decode cX9_remainder 1 = .ok (.iconst 1, 1) := by decide +kernel
theorem dX9_remainder_2 : decode cX9_remainder 2 = .ok (.if_icmp .ge 7, 3) := by decide +kernel
theorem dX9_remainder_5 : decode cX9_remainder 5 = .ok (.iconst 0, 1) := by decide +kernel
theorem dX9_remainder_6 : decode cX9_remainder 6 = .ok (.goto 6, 3) := by decide +kernel
theorem dX9_remainder_9 : decode cX9_remainder 9 = .ok (.iload_n 0, 1) := by decide +kernel
theorem dX9_remainder_10 : decode cX9_remainder 10 = .ok (.iload_n 1, 1) := by decide +kernel
theorem dX9_remainder_11 : decode cX9_remainder 11 = .ok (.irem, 1) := by decide +kernel
theorem dX9_remainder_12 : decode cX9_remainder 12 = .ok (.ireturn, 1) := by decide +kernel
theorem dJ6_bitCount_0f7a4_0 : decode cJ6_bitCount_0f7a4 0 = .ok (.iload_n 0, 1) := by decide +kernel
theorem dJ6_bitCount_0f7a4_1 : decode cJ6_bitCount_0f7a4 1 = .ok (.iload_n 0, 1) := by decide +kernel
theorem dJ6_bitCount_0f7a4_2 : decode cJ6_bitCount_0f7a4 2 = .ok (.iconst 1, 1) := by decide +kernel
theorem dJ6_bitCount_0f7a4_3 : decode cJ6_bitCount_0f7a4 3 = .ok (.iushr, 1) := by decide +kernel
theorem dJ6_bitCount_0f7a4_4 : decode cJ6_bitCount_0f7a4 4 = .ok (.ldc_w 265, 3) := by decide +kernel
theorem dJ6_bitCount_0f7a4_7 : decode cJ6_bitCount_0f7a4 7 = .ok (.iand, 1) := by decide +kernel
theorem dJ6_bitCount_0f7a4_8 : decode cJ6_bitCount_0f7a4 8 = .ok (.isub, 1) := by decide +kernel
theorem dJ6_bitCount_0f7a4_9 : decode cJ6_bitCount_0f7a4 9 = .ok (.istore_n 0, 1) := by decide +kernel
theorem dJ6_bitCount_0f7a4_10 : decode cJ6_bitCount_0f7a4 10 = .ok (.iload_n 0, 1) := by decide +kernel
theorem dJ6_bitCount_0f7a4_11 : decode cJ6_bitCount_0f7a4 11 = .ok (.ldc_w 266, 3) := by decide +kernel
theorem dJ6_bitCount_0f7a4_14 : decode cJ6_bitCount_0f7a4 14 = .ok (.iand, 1) := by decide +kernel
theorem dJ6_bitCount_0f7a4_15 : decode cJ6_bitCount_0f7a4 15 = .ok (.iload_n 0, 1) := by decide +kernel
theorem dJ6_bitCount_0f7a4_16 : decode cJ6_bitCount_0f7a4 16 = .ok (.iconst 2, 1) := by decide +kernel
theorem dJ6_bitCount_0f7a4_17 : decode cJ6_bitCount_0f7a4 17 = .ok (.iushr, 1) := by decide +kernel
theorem dJ6_bitCount_0f7a4_18 : decode cJ6_bitCount_0f7a4 18 = .ok (.ldc_w 266, 3) := by decide +kernel
theorem dJ6_bitCount_0f7a4_21 : decode cJ6_bitCount_0f7a4 21 = .ok (.iand, 1) := by decide +kernel
theorem dJ6_bitCount_0f7a4_22 : decode cJ6_bitCount_0f7a4 22 = .ok (.iadd, 1) := by decide +kernel
theorem dJ6_bitCount_0f7a4_23 : decode cJ6_bitCount_0f7a4 23 = .ok (.istore_n 0, 1) := by decide +kernel
theorem dJ6_bitCount_0f7a4_24 : decode cJ6_bitCount_0f7a4 24 = .ok (.iload_n 0, 1) := by decide +kernel
theorem dJ6_bitCount_0f7a4_25 : decode cJ6_bitCount_0f7a4 25 = .ok (.iload_n 0, 1) := by decide +kernel
theorem dJ6_bitCount_0f7a4_26 : decode cJ6_bitCount_0f7a4 26 = .ok (.iconst 4, 1) := by decide +kernel
theorem dJ6_bitCount_0f7a4_27 : decode cJ6_bitCount_0f7a4 27 = .ok (.iushr, 1) := by decide +kernel
theorem dJ6_bitCount_0f7a4_28 : decode cJ6_bitCount_0f7a4 28 = .ok (.iadd, 1) := by decide +kernel
theorem dJ6_bitCount_0f7a4_29 : decode cJ6_bitCount_0f7a4 29 = .ok (.ldc_w 267, 3) := by decide +kernel
theorem dJ6_bitCount_0f7a4_32 : decode cJ6_bitCount_0f7a4 32 = .ok (.iand, 1) := by decide +kernel
theorem dJ6_bitCount_0f7a4_33 : decode cJ6_bitCount_0f7a4 33 = .ok (.istore_n 0, 1) := by decide +kernel
theorem dJ6_bitCount_0f7a4_34 : decode cJ6_bitCount_0f7a4 34 = .ok (.iload_n 0, 1) := by decide +kernel
theorem dJ6_bitCount_0f7a4_35 : decode cJ6_bitCount_0f7a4 35 = .ok (.iload_n 0, 1) := by decide +kernel
theorem dJ6_bitCount_0f7a4_36 : decode cJ6_bitCount_0f7a4 36 = .ok (.bipush 8, 2) := by decide +kernel
theorem dJ6_bitCount_0f7a4_38 : decode cJ6_bitCount_0f7a4 38 = .ok (.iushr, 1) := by decide +kernel
theorem dJ6_bitCount_0f7a4_39 : decode cJ6_bitCount_0f7a4 39 = .ok (.iadd, 1) := by decide +kernel
theorem dJ6_bitCount_0f7a4_40 : decode cJ6_bitCount_0f7a4 40 = .ok (.istore_n 0, 1) := by decide +kernel
theorem dJ6_bitCount_0f7a4_41 : decode cJ6_bitCount_0f7a4 41 = .ok (.iload_n 0, 1) := by decide +kernel
theorem dJ6_bitCount_0f7a4_42 : decode cJ6_bitCount_0f7a4 42 = .ok (.iload_n 0, 1) := by decide +kernel
theorem dJ6_bitCount_0f7a4_43 : decode cJ6_bitCount_0f7a4 43 = .ok (.bipush 16, 2) := by decide +kernel
theorem dJ6_bitCount_0f7a4_45 : decode cJ6_bitCount_0f7a4 45 = .ok (.iushr, 1) := by decide +kernel
theorem dJ6_bitCount_0f7a4_46 : decode cJ6_bitCount_0f7a4 46 = .ok (.iadd, 1) := by decide +kernel
theorem dJ6_bitCount_0f7a4_47 : decode cJ6_bitCount_0f7a4 47 = .ok (.istore_n 0, 1) := by decide +kernel
theorem dJ6_bitCount_0f7a4_48 : decode cJ6_bitCount_0f7a4 48 = .ok (.iload_n 0, 1) := by decide +kernel
theorem dJ6_bitCount_0f7a4_49 : decode cJ6_bitCount_0f7a4 49 = .ok (.bipush 63, 2) := by decide +kernel
theorem dJ6_bitCount_0f7a4_51 : decode cJ6_bitCount_0f7a4 51 = .ok (.iand, 1) := by decide +kernel
theorem dJ6_bitCount_0f7a4_52 : decode cJ6_bitCount_0f7a4 52 = .ok (.ireturn, 1) := by decide +kernel
theorem dJ9_abs_0f7a4_0 : decode cJ9_abs_0f7a4 0 = .ok (.iload_n 0, 1) := by decide +kernel
theorem dJ9_abs_0f7a4_1 : decode cJ9_abs_0f7a4 1 = .ok (.ifCond .ge 8, 3) := by decide +kernel
theorem dJ9_abs_0f7a4_4 : decode cJ9_abs_0f7a4 4 = .ok (.iload_n 0, 1) := by decide +kernel
theorem dJ9_abs_0f7a4_5 : decode cJ9_abs_0f7a4 5 = .ok (.ineg, 1) := by decide +kernel
theorem dJ9_abs_0f7a4_6 : decode cJ9_abs_0f7a4 6 = .ok (.goto 4, 3) := by decide +kernel
theorem dJ9_abs_0f7a4_9 : decode cJ9_abs_0f7a4 9 = .ok (.iload_n 0, 1) := by decide +kernel
theorem dJ9_abs_0f7a4_10 : decode cJ9_abs_0f7a4 10 = .ok (.ireturn, 1) := by decide +kernel
theorem dJ9_max_7cf53_0 : decode cJ9_max_7cf53 0 = .ok (.iload_n 0, 1) := by decide +kernel
theorem dJ9_max_7cf53_1 : decode cJ9_max_7cf53 1 = .ok (.iload_n 1, 1) := by decide +kernel
theorem dJ9_max_7cf53_2 : decode cJ9_max_7cf53 2 = .ok (.if_icmp .lt 7, 3) := by decide +kernel
theorem dJ9_max_7cf53_5 : decode cJ9_max_7cf53 5 = .ok (.iload_n 0, 1) := by decide +kernel
theorem dJ9_max_7cf53_6 : decode cJ9_max_7cf53 6 = .ok (.goto 4, 3) := by decide +kernel
theorem dJ9_max_7cf53_9 : decode cJ9_max_7cf53 9 = .ok (.iload_n 1, 1) := by decide +kernel
theorem dJ9_max_7cf53_10 : decode cJ9_max_7cf53 10 = .ok (.ireturn, 1) := by decide +kernel
theorem dJ9_min_7cf53_0 : decode cJ9_min_7cf53 0 = .ok (.iload_n 0, 1) := by decide +kernel
theorem dJ9_min_7cf53_1 : decode cJ9_min_7cf53 1 = .ok (.iload_n 1, 1) := by decide +kernel
theorem dJ9_min_7cf53_2 : decode cJ9_min_7cf53 2 = .ok (.if_icmp .gt 7, 3) := by decide +kernel
theorem dJ9_min_7cf53_5 : decode cJ9_min_7cf53 5 = .ok (.iload_n 0, 1) := by decide +kernel
theorem dJ9_min_7cf53_6 : decode cJ9_min_7cf53 6 = .ok (.goto 4, 3) := by decide +kernel
theorem dJ9_min_7cf53_9 : decode cJ9_min_7cf53 9 = .ok (.iload_n 1, 1) := by decide +kernel
theorem dJ9_min_7cf53_10 : decode cJ9_min_7cf53 10 = .ok (.ireturn, 1) := by decide +kernel
theorem dJ0_length_8abf5_0 : decode cJ0_length_8abf5 0 = .ok (.aload_n 0, 1) := by decide +kernel
theorem dJ0_length_8abf5_1 : decode cJ0_length_8abf5 1 = .ok (.getfield 9, 3) := by decide +kernel
theorem dJ0_length_8abf5_4 : decode cJ0_length_8abf5 4 = .ok (.arraylength, 1) := by decide +kernel
theorem dJ0_length_8abf5_5 : decode cJ0_length_8abf5 5 = .ok (.aload_n 0, 1) := by decide +kernel
theorem dJ0_length_8abf5_6 : decode cJ0_length_8abf5 6 = .ok (.invokevirtual 335, 3) := by decide +kernel
theorem dJ0_length_8abf5_9 : decode cJ0_length_8abf5 9 = .ok (.ishr, 1) := by decide +kernel
theorem dJ0_length_8abf5_10 : decode cJ0_length_8abf5 10 = .ok (.ireturn, 1) := by decide +kernel
theorem dJ0_charAt_5068e_0 : decode cJ0_charAt_5068e 0 = .ok (.aload_n 0, 1) := by decide +kernel
theorem dJ0_charAt_5068e_1 : decode cJ0_charAt_5068e 1 = .ok (.invokevirtual 492, 3) := by decide +kernel
theorem dJ0_charAt_5068e_4 : decode cJ0_charAt_5068e 4 = .ok (.ifCond .eq 12, 3) := by decide +kernel
theorem dJ0_charAt_5068e_7 : decode cJ0_charAt_5068e 7 = .ok (.aload_n 0, 1) := by decide +kernel
theorem dJ0_charAt_5068e_8 : decode cJ0_charAt_5068e 8 = .ok (.getfield 9, 3) := by decide +kernel
theorem dJ0_charAt_5068e_11 : decode cJ0_charAt_5068e 11 = .ok (.iload_n 1, 1) := by decide +kernel
theorem dJ0_charAt_5068e_12 : decode cJ0_charAt_5068e 12 = .ok (.invokestatic 495, 3) := by decide +kernel
theorem dJ0_charAt_5068e_15 : decode cJ0_charAt_5068e 15 = .ok (.ireturn, 1) := by decide +kernel
theorem dJ0_charAt_5068e_16 : decode cJ0_charAt_5068e 16 = .ok (.aload_n 0, 1) := by decide +kernel
theorem dJ0_charAt_5068e_17 : decode cJ0_charAt_5068e 17 = .ok (.getfield 9, 3) := by decide +kernel
theorem dJ0_charAt_5068e_20 : decode cJ0_charAt_5068e 20 = .ok (.iload_n 1, 1) := by decide +kernel
theorem dJ0_charAt_5068e_21 : decode cJ0_charAt_5068e 21 = .ok (.invokestatic 498, 3) := by decide +kernel
theorem dJ0_charAt_5068e_24 : decode cJ0_charAt_5068e 24 = .ok (.ireturn, 1) := by decide +kernel
theorem dJ0_coder_7d493_0 : decode cJ0_coder_7d493 0 = .ok (.getstatic 38, 3) := by decide +kernel
theorem dJ0_coder_7d493_3 : decode cJ0_coder_7d493 3 = .ok (.ifCond .eq 10, 3) := by decide +kernel
theorem dJ0_coder_7d493_6 : decode cJ0_coder_7d493 6 = .ok (.aload_n 0, 1) := by decide +kernel
theorem dJ0_coder_7d493_7 : decode cJ0_coder_7d493 7 = .ok (.getfield 15, 3) := by decide +kernel
theorem dJ0_coder_7d493_10 : decode cJ0_coder_7d493 10 = .ok (.goto 4, 3) := by decide +kernel
theorem dJ0_coder_7d493_13 : decode cJ0_coder_7d493 13 = .ok (.iconst 1, 1) := by decide +kernel
theorem dJ0_coder_7d493_14 : decode cJ0_coder_7d493 14 = .ok (.ireturn, 1) := by decide +kernel
theorem dJ0_isLatin1_aae02_0 : decode cJ0_isLatin1_aae02 0 = .ok (.getstatic 38, 3) := by decide +kernel
theorem dJ0_isLatin1_aae02_3 : decode cJ0_isLatin1_aae02 3 = .ok (.ifCond .eq 14, 3) := by decide +kernel
theorem dJ0_isLatin1_aae02_6 : decode cJ0_isLatin1_aae02 6 = .ok (.aload_n 0, 1) := by decide +kernel
theorem dJ0_isLatin1_aae02_7 : decode cJ0_isLatin1_aae02 7 = .ok (.getfield 15, 3) := by decide +kernel
theorem dJ0_isLatin1_aae02_10 : decode cJ0_isLatin1_aae02 10 = .ok (.ifCond .ne 7, 3) := by decide +kernel
theorem dJ0_isLatin1_aae02_13 : decode cJ0_isLatin1_aae02 13 = .ok (.iconst 1, 1) := by decide +kernel
theorem dJ0_isLatin1_aae02_14 : decode cJ0_isLatin1_aae02 14 = .ok (.goto 4, 3) := by decide +kernel
theorem dJ0_isLatin1_aae02_17 : decode cJ0_isLatin1_aae02 17 = .ok (.iconst 0, 1) := by decide +kernel
theorem dJ0_isLatin1_aae02_18 : decode cJ0_isLatin1_aae02 18 = .ok (.ireturn, 1) := by decide +kernel
theorem dJ0_checkIndex_df160_0 : decode cJ0_checkIndex_df160 0 = .ok (.iload_n 0, 1) := by decide +kernel
theorem dJ0_checkIndex_df160_1 : decode cJ0_checkIndex_df160 1 = .ok (.iload_n 1, 1) := by decide +kernel
theorem dJ0_checkIndex_df160_2 : decode cJ0_checkIndex_df160 2 = .ok (.getstatic 1053, 3) := by decide +kernel
theorem dJ0_checkIndex_df160_5 : decode cJ0_checkIndex_df160 5 = .ok (.invokestatic 1059, 3) := by decide +kernel
theorem dJ0_checkIndex_df160_8 : decode cJ0_checkIndex_df160 8 = .ok (.pop, 1) := by decide +kernel
theorem dJ0_checkIndex_df160_9 : decode cJ0_checkIndex_df160 9 = .ok (.return_, 1) := by decide +kernel
theorem dJ1_charAt_3b067_0 : decode cJ1_charAt_3b067 0 = .ok (.iload_n 1, 1) := by decide +kernel
theorem dJ1_charAt_3b067_1 : decode cJ1_charAt_3b067 1 = .ok (.aload_n 0, 1) := by decide +kernel
theorem dJ1_charAt_3b067_2 : decode cJ1_charAt_3b067 2 = .ok (.arraylength, 1) := by decide +kernel
theorem dJ1_charAt_3b067_3 : decode cJ1_charAt_3b067 3 = .ok (.invokestatic 9, 3) := by decide +kernel
theorem dJ1_charAt_3b067_6 : decode cJ1_charAt_3b067 6 = .ok (.aload_n 0, 1) := by decide +kernel
theorem dJ1_charAt_3b067_7 : decode cJ1_charAt_3b067 7 = .ok (.iload_n 1, 1) := by decide +kernel
theorem dJ1_charAt_3b067_8 : decode cJ1_charAt_3b067 8 = .ok (.baload, 1) := by decide +kernel
theorem dJ1_charAt_3b067_9 : decode cJ1_charAt_3b067 9 = .ok (.sipush 255, 3) := by decide +kernel
theorem dJ1_charAt_3b067_12 : decode cJ1_charAt_3b067 12 = .ok (.iand, 1) := by decide +kernel
theorem dJ1_charAt_3b067_13 : decode cJ1_charAt_3b067 13 = .ok (.i2c, 1) := by decide +kernel
theorem dJ1_charAt_3b067_14 : decode cJ1_charAt_3b067 14 = .ok (.ireturn, 1) := by decide +kernel
theorem dJ2_getChar_3b067_0 : decode cJ2_getChar_3b067 0 = .ok (.getstatic 44, 3) := by decide +kernel
theorem dJ2_getChar_3b067_3 : decode cJ2_getChar_3b067 3 = .ok (.ifCond .ne 25, 3) := by decide +kernel
theorem dJ2_getChar_3b067_6 : decode cJ2_getChar_3b067 6 = .ok (.iload_n 1, 1) := by decide +kernel
theorem dJ2_getChar_3b067_7 : decode cJ2_getChar_3b067 7 = .ok (.ifCond .lt 11, 3) := by decide +kernel
theorem dJ2_getChar_3b067_10 : decode cJ2_getChar_3b067 10 = .ok (.iload_n 1, 1) := by decide +kernel
theorem dJ2_getChar_3b067_11 : decode cJ2_getChar_3b067 11 = .ok (.aload_n 0, 1) := by decide +kernel
theorem dJ2_getChar_3b067_12 : decode cJ2_getChar_3b067 12 = .ok (.invokestatic 48, 3) := by decide +kernel
theorem dJ2_getChar_3b067_15 : decode cJ2_getChar_3b067 15 = .ok (.if_icmp .lt 13, 3) := by decide +kernel
theorem dJ2_getChar_3b067_18 : decode cJ2_getChar_3b067 18 = .ok (.new 52, 3) := by decide +kernel
theorem dJ2_getChar_3b067_21 : decode cJ2_getChar_3b067 21 = .ok (.dup, 1) := by decide +kernel
theorem dJ2_getChar_3b067_22 : decode cJ2_getChar_3b067 22 = .ok (.ldc 54, 2) := by decide +kernel
theorem dJ2_getChar_3b067_24 : decode cJ2_getChar_3b067 24 = .ok (.invokespecial 56, 3) := by decide +kernel
theorem dJ2_getChar_3b067_27 : decode cJ2_getChar_3b067 27 = .ok (.athrow, 1) := by decide +kernel
theorem dJ2_getChar_3b067_28 : decode cJ2_getChar_3b067 28 = .ok (.iload_n 1, 1) := by decide +kernel
theorem dJ2_getChar_3b067_29 : decode cJ2_getChar_3b067 29 = .ok (.iconst 1, 1) := by decide +kernel
theorem dJ2_getChar_3b067_30 : decode cJ2_getChar_3b067 30 = .ok (.ishl, 1) := by decide +kernel
theorem dJ2_getChar_3b067_31 : decode cJ2_getChar_3b067 31 = .ok (.istore_n 1, 1) := by decide +kernel
theorem dJ2_getChar_3b067_32 : decode cJ2_getChar_3b067 32 = .ok (.aload_n 0, 1) := by decide +kernel
theorem dJ2_getChar_3b067_33 : decode cJ2_getChar_3b067 33 = .ok (.iload_n 1, 1) := by decide +kernel
theorem dJ2_getChar_3b067_34 : decode cJ2_getChar_3b067 34 = .ok (.iinc 1 1, 3) := by decide +kernel
theorem dJ2_getChar_3b067_37 : decode cJ2_getChar_3b067 37 = .ok (.baload, 1) := by decide +kernel
theorem dJ2_getChar_3b067_38 : decode cJ2_getChar_3b067 38 = .ok (.sipush 255, 3) := by decide +kernel
theorem dJ2_getChar_3b067_41 : decode cJ2_getChar_3b067 41 = .ok (.iand, 1) := by decide +kernel
theorem dJ2_getChar_3b067_42 : decode cJ2_getChar_3b067 42 = .ok (.getstatic 59, 3) := by decide +kernel
theorem dJ2_getChar_3b067_45 : decode cJ2_getChar_3b067 45 = .ok (.ishl, 1) := by decide +kernel
theorem dJ2_getChar_3b067_46 : decode cJ2_getChar_3b067 46 = .ok (.aload_n 0, 1) := by decide +kernel
theorem dJ2_getChar_3b067_47 : decode cJ2_getChar_3b067 47 = .ok (.iload_n 1, 1) := by decide +kernel
theorem dJ2_getChar_3b067_48 : decode cJ2_getChar_3b067 48 = .ok (.baload, 1) := by decide +kernel
theorem dJ2_getChar_3b067_49 : decode cJ2_getChar_3b067 49 = .ok (.sipush 255, 3) := by decide +kernel
theorem dJ2_getChar_3b067_52 : decode cJ2_getChar_3b067 52 = .ok (.iand, 1) := by decide +kernel
theorem dJ2_getChar_3b067_53 : decode cJ2_getChar_3b067 53 = .ok (.getstatic 63, 3) := by decide +kernel
theorem dJ2_getChar_3b067_56 : decode cJ2_getChar_3b067 56 = .ok (.ishl, 1) := by decide +kernel
theorem dJ2_getChar_3b067_57 : decode cJ2_getChar_3b067 57 = .ok (.ior, 1) := by decide +kernel
theorem dJ2_getChar_3b067_58 : decode cJ2_getChar_3b067 58 = .ok (.i2c, 1) := by decide +kernel
theorem dJ2_getChar_3b067_59 : decode cJ2_getChar_3b067 59 = .ok (.ireturn, 1) := by decide +kernel
theorem dJ2_length_9d52b_0 : decode cJ2_length_9d52b 0 = .ok (.aload_n 0, 1) := by decide +kernel
theorem dJ2_length_9d52b_1 : decode cJ2_length_9d52b 1 = .ok (.arraylength, 1) := by decide +kernel
theorem dJ2_length_9d52b_2 : decode cJ2_length_9d52b 2 = .ok (.iconst 1, 1) := by decide +kernel
theorem dJ2_length_9d52b_3 : decode cJ2_length_9d52b 3 = .ok (.ishr, 1) := by decide +kernel
theorem dJ2_length_9d52b_4 : decode cJ2_length_9d52b 4 = .ok (.ireturn, 1) := by decide +kernel
theorem dJ2_charAt_3b067_0 : decode cJ2_charAt_3b067 0 = .ok (.iload_n 1, 1) := by decide +kernel
theorem dJ2_charAt_3b067_1 : decode cJ2_charAt_3b067 1 = .ok (.aload_n 0, 1) := by decide +kernel
theorem dJ2_charAt_3b067_2 : decode cJ2_charAt_3b067 2 = .ok (.invokestatic 67, 3) := by decide +kernel
theorem dJ2_charAt_3b067_5 : decode cJ2_charAt_3b067 5 = .ok (.aload_n 0, 1) := by decide +kernel
theorem dJ2_charAt_3b067_6 : decode cJ2_charAt_3b067 6 = .ok (.iload_n 1, 1) := by decide +kernel
theorem dJ2_charAt_3b067_7 : decode cJ2_charAt_3b067 7 = .ok (.invokestatic 71, 3) := by decide +kernel
theorem dJ2_charAt_3b067_10 : decode cJ2_charAt_3b067 10 = .ok (.ireturn, 1) := by decide +kernel
theorem dJ2_checkIndex_2214a_0 : decode cJ2_checkIndex_2214a 0 = .ok (.iload_n 0, 1) := by decide +kernel
theorem dJ2_checkIndex_2214a_1 : decode cJ2_checkIndex_2214a 1 = .ok (.aload_n 1, 1) := by decide +kernel
theorem dJ2_checkIndex_2214a_2 : decode cJ2_checkIndex_2214a 2 = .ok (.invokestatic 48, 3) := by decide +kernel
theorem dJ2_checkIndex_2214a_5 : decode cJ2_checkIndex_2214a 5 = .ok (.invokestatic 414, 3) := by decide +kernel
theorem dJ2_checkIndex_2214a_8 : decode cJ2_checkIndex_2214a 8 = .ok (.return_, 1) := by decide +kernel
theorem dJ3_checkIndex_8e157_0 : decode cJ3_checkIndex_8e157 0 = .ok (.iload_n 0, 1) := by decide +kernel
theorem dJ3_checkIndex_8e157_1 : decode cJ3_checkIndex_8e157 1 = .ok (.ifCond .lt 8, 3) := by decide +kernel
theorem dJ3_checkIndex_8e157_4 : decode cJ3_checkIndex_8e157 4 = .ok (.iload_n 0, 1) := by decide +kernel
theorem dJ3_checkIndex_8e157_5 : decode cJ3_checkIndex_8e157 5 = .ok (.iload_n 1, 1) := by decide +kernel
theorem dJ3_checkIndex_8e157_6 : decode cJ3_checkIndex_8e157 6 = .ok (.if_icmp .lt 10, 3) := by decide +kernel
theorem dJ3_checkIndex_8e157_9 : decode cJ3_checkIndex_8e157 9 = .ok (.aload_n 2, 1) := by decide +kernel
theorem dJ3_checkIndex_8e157_10 : decode cJ3_checkIndex_8e157 10 = .ok (.iload_n 0, 1) := by decide +kernel
theorem dJ3_checkIndex_8e157_11 : decode cJ3_checkIndex_8e157 11 = .ok (.iload_n 1, 1) := by decide +kernel
theorem dJ3_checkIndex_8e157_12 : decode cJ3_checkIndex_8e157 12 = .ok (.invokestatic 95, 3) := by decide +kernel
theorem dJ3_checkIndex_8e157_15 : decode cJ3_checkIndex_8e157 15 = .ok (.athrow, 1) := by decide +kernel
theorem dJ3_checkIndex_8e157_16 : decode cJ3_checkIndex_8e157 16 = .ok (.iload_n 0, 1) := by decide +kernel
theorem dJ3_checkIndex_8e157_17 : decode cJ3_checkIndex_8e157 17 = .ok (.ireturn, 1) := by decide +kernel
