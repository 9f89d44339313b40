theorem lay_0 : lay 0 = .inr (9, [3, 5, 7, 14, 19, 21, 22, 29, 31]) := rfl
theorem lay_1 : lay 1 = .inr (6, [4, 0]) := rfl
theorem lay_2 : lay 2 = .inl 200 := rfl
theorem lay_3 : lay 3 = .inr (4, [3, 6, 0, 0, 0]) := rfl
theorem lay_4 : lay 4 = .inl 88 := rfl
theorem lay_5 : lay 5 = .inr (0, [0, 8, 9, 10, 11, 12, 0, 0, 13, 0, 0]) := rfl
theorem lay_6 : lay 6 = .inl 72 := rfl
theorem lay_7 : lay 7 = .inl 56 := rfl
theorem lay_8 : lay 8 = .inl 14 := rfl
theorem lay_9 : lay 9 = .inl 14 := rfl
theorem lay_10 : lay 10 = .inl 14 := rfl
theorem lay_11 : lay 11 = .inl 52 := rfl
theorem lay_12 : lay 12 = .inr (8, [7, 15, 16, 17, 18]) := rfl
theorem lay_13 : lay 13 = .inl 14 := rfl
theorem lay_14 : lay 14 = .inl 14 := rfl
theorem lay_15 : lay 15 = .inl 14 := rfl
theorem lay_16 : lay 16 = .inl 14 := rfl
theorem lay_17 : lay 17 = .inr (1, [7, 14, 20]) := rfl
theorem lay_18 : lay 18 = .inl 8 := rfl
theorem lay_19 : lay 19 = .inr (3, [7, 14]) := rfl
theorem lay_20 : lay 20 = .inr (5, [7, 23, 24, 25, 26, 27, 28, 0, 0]) := rfl
theorem lay_21 : lay 21 = .inl 5 := rfl
theorem lay_22 : lay 22 = .inl 5 := rfl
theorem lay_23 : lay 23 = .inl 5 := rfl
theorem lay_24 : lay 24 = .inl 8 := rfl
theorem lay_25 : lay 25 = .inl 5 := rfl
theorem lay_26 : lay 26 = .inl 5 := rfl
theorem lay_27 : lay 27 = .inr (7, [30]) := rfl
theorem lay_28 : lay 28 = .inl 30 := rfl
theorem lay_29 : lay 29 = .inr (2, [7, 32, 33, 34, 0]) := rfl
theorem lay_30 : lay 30 = .inl 8 := rfl
theorem lay_31 : lay 31 = .inl 8 := rfl
theorem lay_32 : lay 32 = .inl 8 := rfl
theorem lay_33 : lay 33 = .inr (10, [0, 36, 37, 38, 39, 40, 41, 42, 0, 43, 44, 0, 45, 0, 0, 0, 46, 0, 0, 1, 0, 0, 0, 0, 47, 48, 49, 50, 51, 52, 53, 54, 0, 0, 55, 0, 56, 57, 58]) := rfl
theorem lay_34 : lay 34 = .inl 56 := rfl
theorem lay_35 : lay 35 = .inl 14 := rfl
theorem lay_36 : lay 36 = .inl 14 := rfl
theorem lay_37 : lay 37 = .inl 14 := rfl
theorem lay_38 : lay 38 = .inl 14 := rfl
theorem lay_39 : lay 39 = .inl 14 := rfl
theorem lay_40 : lay 40 = .inl 14 := rfl
theorem lay_41 : lay 41 = .inl 14 := rfl
theorem lay_42 : lay 42 = .inl 14 := rfl
theorem lay_43 : lay 43 = .inl 52 := rfl
theorem lay_44 : lay 44 = .inl 200 := rfl
theorem lay_45 : lay 45 = .inl 88 := rfl
theorem lay_46 : lay 46 = .inl 14 := rfl
theorem lay_47 : lay 47 = .inl 14 := rfl
theorem lay_48 : lay 48 = .inl 14 := rfl
theorem lay_49 : lay 49 = .inl 5 := rfl
theorem lay_50 : lay 50 = .inl 5 := rfl
theorem lay_51 : lay 51 = .inl 6 := rfl
theorem lay_52 : lay 52 = .inl 5 := rfl
theorem lay_53 : lay 53 = .inl 30 := rfl
theorem lay_54 : lay 54 = .inl 8 := rfl
theorem lay_55 : lay 55 = .inl 8 := rfl
theorem lay_56 : lay 56 = .inl 8 := rfl
theorem ic_m1 : Int32.ofInt (-1) = (-1) := by decide
theorem ic_0 : Int32.ofInt (0) = 0 := by decide
theorem ic_1 : Int32.ofInt (1) = 1 := by decide
theorem ic_2 : Int32.ofInt (2) = 2 := by decide
theorem ic_3 : Int32.ofInt (3) = 3 := by decide
theorem ic_4 : Int32.ofInt (4) = 4 := by decide
theorem ic_5 : Int32.ofInt (5) = 5 := by decide
theorem ii_m1 (x : Int32) : x + Int32.ofInt (-1) = x + (-1) := rfl
theorem ii_1 (x : Int32) : x + Int32.ofInt (1) = x + 1 := rfl
theorem bp_m5 : (Int8.ofInt (-5)).toInt32 = (-5) := by decide
theorem bp_m4 : (Int8.ofInt (-4)).toInt32 = (-4) := by decide
theorem bp_m3 : (Int8.ofInt (-3)).toInt32 = (-3) := by decide
theorem bp_m2 : (Int8.ofInt (-2)).toInt32 = (-2) := by decide
theorem bp_6 : (Int8.ofInt (6)).toInt32 = 6 := by decide
theorem bp_7 : (Int8.ofInt (7)).toInt32 = 7 := by decide
theorem bp_8 : (Int8.ofInt (8)).toInt32 = 8 := by decide
theorem bp_9 : (Int8.ofInt (9)).toInt32 = 9 := by decide
theorem bp_10 : (Int8.ofInt (10)).toInt32 = 10 := by decide
theorem bp_11 : (Int8.ofInt (11)).toInt32 = 11 := by decide
theorem bp_12 : (Int8.ofInt (12)).toInt32 = 12 := by decide
theorem bp_13 : (Int8.ofInt (13)).toInt32 = 13 := by decide
theorem bp_14 : (Int8.ofInt (14)).toInt32 = 14 := by decide
theorem bp_15 : (Int8.ofInt (15)).toInt32 = 15 := by decide
theorem bp_16 : (Int8.ofInt (16)).toInt32 = 16 := by decide
theorem bp_20 : (Int8.ofInt (20)).toInt32 = 20 := by decide
theorem bp_24 : (Int8.ofInt (24)).toInt32 = 24 := by decide
theorem bp_29 : (Int8.ofInt (29)).toInt32 = 29 := by decide
theorem bp_30 : (Int8.ofInt (30)).toInt32 = 30 := by decide
theorem bp_31 : (Int8.ofInt (31)).toInt32 = 31 := by decide
theorem bp_32 : (Int8.ofInt (32)).toInt32 = 32 := by decide
theorem bp_40 : (Int8.ofInt (40)).toInt32 = 40 := by decide
theorem bp_48 : (Int8.ofInt (48)).toInt32 = 48 := by decide
theorem bp_57 : (Int8.ofInt (57)).toInt32 = 57 := by decide
theorem bp_59 : (Int8.ofInt (59)).toInt32 = 59 := by decide
theorem bp_60 : (Int8.ofInt (60)).toInt32 = 60 := by decide
theorem bp_63 : (Int8.ofInt (63)).toInt32 = 63 := by decide
theorem bp_64 : (Int8.ofInt (64)).toInt32 = 64 := by decide
theorem bp_97 : (Int8.ofInt (97)).toInt32 = 97 := by decide
theorem bp_99 : (Int8.ofInt (99)).toInt32 = 99 := by decide
theorem bp_122 : (Int8.ofInt (122)).toInt32 = 122 := by decide
theorem sp_m256 : (Int16.ofInt (-256)).toInt32 = (-256) := by decide
theorem sp_200 : (Int16.ofInt (200)).toInt32 = 200 := by decide
theorem sp_255 : (Int16.ofInt (255)).toInt32 = 255 := by decide
theorem sp_500 : (Int16.ofInt (500)).toInt32 = 500 := by decide
theorem sp_999 : (Int16.ofInt (999)).toInt32 = 999 := by decide
theorem sp_2000 : (Int16.ofInt (2000)).toInt32 = 2000 := by decide
theorem sp_2001 : (Int16.ofInt (2001)).toInt32 = 2001 := by decide
theorem lc_RJ6_265 : inGd (.constant RJ6 265 1431655765) = true := by decide +kernel
theorem lc_RJ6_266 : inGd (.constant RJ6 266 858993459) = true := by decide +kernel
theorem lc_RJ6_267 : inGd (.constant RJ6 267 252645135) = true := by decide +kernel
theorem lc_RX10_100 : inGd (.constantLong RX10 100 255) = true := by decide +kernel
theorem lc_RX10_114 : inGd (.constantLong RX10 114 (-2)) = true := by decide +kernel
theorem lc_RX10_120 : inGd (.constantLong RX10 120 27) = true := by decide +kernel
theorem lc_RX10_122 : inGd (.constantLong RX10 122 96) = true := by decide +kernel
theorem lc_RX10_124 : inGd (.constantLong RX10 124 (-4)) = true := by decide +kernel
theorem lc_RX10_126 : inGd (.constantLong RX10 126 (-1)) = true := by decide +kernel
theorem lc_RX10_128 : inGd (.constantLong RX10 128 (-3)) = true := by decide +kernel
theorem lc_RX10_143 : inGd (.constantLong RX10 143 99677) = true := by decide +kernel
theorem lc_RX10_145 : inGd (.constantLong RX10 145 7749089) = true := by decide +kernel
theorem lc_RX10_151 : inGd (.constantLong RX10 151 240023) = true := by decide +kernel
theorem lc_RX10_153 : inGd (.constantLong RX10 153 9748424) = true := by decide +kernel
theorem lc_RX10_155 : inGd (.constantLong RX10 155 40136882) = true := by decide +kernel
theorem lc_RX10_157 : inGd (.constantLong RX10 157 257105) = true := by decide +kernel
theorem lc_RX10_159 : inGd (.constantLong RX10 159 495765) = true := by decide +kernel
theorem lc_RX10_161 : inGd (.constantLong RX10 161 311436) = true := by decide +kernel
theorem lc_RX10_163 : inGd (.constantLong RX10 163 397345) = true := by decide +kernel
theorem lc_RX10_165 : inGd (.constantLong RX10 165 10334396) = true := by decide +kernel
theorem lc_RX10_167 : inGd (.constantLong RX10 167 5146) = true := by decide +kernel
theorem lc_RX4_59 : inGd (.fieldLink "BentFurrows$Reader" 59 "BentFurrows$Reader" "FIRST_SLOT" "[I") = true := by decide +kernel
theorem lc_RX4_95 : inGd (.fieldLink "BentFurrows$Reader" 95 "BentFurrows$Reader" "SLOTS" "[I") = true := by decide +kernel
theorem lc_RX6_17 : inGd (.constantLong RX6 17 255) = true := by decide +kernel
theorem cl_0 : clOk 0 = true := by decide +kernel
theorem cl_1 : clOk 1 = true := by decide +kernel
theorem cl_2 : clOk 2 = true := by decide +kernel
theorem cl_3 : clOk 3 = true := by decide +kernel
theorem cl_4 : clOk 4 = true := by decide +kernel
theorem cl_5 : clOk 5 = true := by decide +kernel
theorem cl_6 : clOk 6 = true := by decide +kernel
theorem cl_7 : clOk 7 = true := by decide +kernel
theorem cl_8 : clOk 8 = true := by decide +kernel
theorem cl_9 : clOk 9 = true := by decide +kernel
theorem cl_10 : clOk 10 = true := by decide +kernel
theorem fl_RX0_11 : flOk RX0 11 0 1 = true := by decide +kernel
theorem fl_RX0_15 : flOk RX0 15 0 2 = true := by decide +kernel
theorem fl_RX0_18 : flOk RX0 18 0 3 = true := by decide +kernel
theorem fl_RX0_21 : flOk RX0 21 0 4 = true := by decide +kernel
theorem fl_RX0_24 : flOk RX0 24 0 5 = true := by decide +kernel
theorem fl_RX0_27 : flOk RX0 27 0 8 = true := by decide +kernel
theorem fl_RX0_30 : flOk RX0 30 0 9 = true := by decide +kernel
theorem fl_RX0_34 : flOk RX0 34 0 10 = true := by decide +kernel
theorem fl_RX0_45 : flOk RX0 45 0 0 = true := by decide +kernel
theorem fl_RX0_74 : flOk RX0 74 0 7 = true := by decide +kernel
theorem fl_RX0_103 : flOk RX0 103 0 6 = true := by decide +kernel
theorem fl_RX1_9 : flOk RX1 9 1 2 = true := by decide +kernel
theorem fl_RX1_15 : flOk RX1 15 1 0 = true := by decide +kernel
theorem fl_RX1_19 : flOk RX1 19 1 1 = true := by decide +kernel
theorem fl_RX1_37 : flOk RX1 37 0 10 = true := by decide +kernel
theorem fl_RX1_66 : flOk RX1 66 0 9 = true := by decide +kernel
theorem fl_RX10_7 : flOk RX10 7 10 1 = true := by decide +kernel
theorem fl_RX10_13 : flOk RX10 13 10 2 = true := by decide +kernel
theorem fl_RX10_16 : flOk RX10 16 10 3 = true := by decide +kernel
theorem fl_RX10_19 : flOk RX10 19 10 4 = true := by decide +kernel
theorem fl_RX10_22 : flOk RX10 22 10 5 = true := by decide +kernel
theorem fl_RX10_25 : flOk RX10 25 10 6 = true := by decide +kernel
theorem fl_RX10_28 : flOk RX10 28 10 7 = true := by decide +kernel
theorem fl_RX10_31 : flOk RX10 31 10 9 = true := by decide +kernel
theorem fl_RX10_34 : flOk RX10 34 10 10 = true := by decide +kernel
theorem fl_RX10_37 : flOk RX10 37 10 12 = true := by decide +kernel
theorem fl_RX10_40 : flOk RX10 40 10 13 = true := by decide +kernel
theorem fl_RX10_44 : flOk RX10 44 10 14 = true := by decide +kernel
theorem fl_RX10_47 : flOk RX10 47 10 16 = true := by decide +kernel
theorem fl_RX10_50 : flOk RX10 50 10 24 = true := by decide +kernel
theorem fl_RX10_53 : flOk RX10 53 10 25 = true := by decide +kernel
theorem fl_RX10_56 : flOk RX10 56 10 26 = true := by decide +kernel
theorem fl_RX10_59 : flOk RX10 59 10 27 = true := by decide +kernel
theorem fl_RX10_62 : flOk RX10 62 10 28 = true := by decide +kernel
theorem fl_RX10_65 : flOk RX10 65 10 29 = true := by decide +kernel
theorem fl_RX10_68 : flOk RX10 68 10 30 = true := by decide +kernel
theorem fl_RX10_71 : flOk RX10 71 10 31 = true := by decide +kernel
theorem fl_RX10_74 : flOk RX10 74 10 34 = true := by decide +kernel
theorem fl_RX10_77 : flOk RX10 77 10 36 = true := by decide +kernel
theorem fl_RX10_80 : flOk RX10 80 10 37 = true := by decide +kernel
theorem fl_RX10_83 : flOk RX10 83 10 38 = true := by decide +kernel
theorem fl_RX10_90 : flOk RX10 90 10 0 = true := by decide +kernel
theorem fl_RX10_97 : flOk RX10 97 10 15 = true := by decide +kernel
theorem fl_RX10_102 : flOk RX10 102 10 17 = true := by decide +kernel
theorem fl_RX10_105 : flOk RX10 105 10 18 = true := by decide +kernel
theorem fl_RX10_108 : flOk RX10 108 10 20 = true := by decide +kernel
theorem fl_RX10_111 : flOk RX10 111 10 21 = true := by decide +kernel
theorem fl_RX10_116 : flOk RX10 116 10 19 = true := by decide +kernel
theorem fl_RX10_130 : flOk RX10 130 10 22 = true := by decide +kernel
theorem fl_RX10_175 : flOk RX10 175 10 23 = true := by decide +kernel
theorem fl_RX10_196 : flOk RX10 196 10 8 = true := by decide +kernel
theorem fl_RX10_199 : flOk RX10 199 10 11 = true := by decide +kernel
theorem fl_RX10_276 : flOk RX10 276 10 32 = true := by decide +kernel
theorem fl_RX10_279 : flOk RX10 279 10 33 = true := by decide +kernel
theorem fl_RX10_294 : flOk RX10 294 10 35 = true := by decide +kernel
theorem fl_RX2_11 : flOk RX2 11 2 1 = true := by decide +kernel
theorem fl_RX2_15 : flOk RX2 15 2 2 = true := by decide +kernel
theorem fl_RX2_18 : flOk RX2 18 2 3 = true := by decide +kernel
theorem fl_RX2_21 : flOk RX2 21 2 0 = true := by decide +kernel
theorem fl_RX2_25 : flOk RX2 25 2 4 = true := by decide +kernel
theorem fl_RX3_9 : flOk RX3 9 3 0 = true := by decide +kernel
theorem fl_RX3_15 : flOk RX3 15 3 1 = true := by decide +kernel
theorem fl_RX4_11 : flOk RX4 11 4 1 = true := by decide +kernel
theorem fl_RX4_15 : flOk RX4 15 4 0 = true := by decide +kernel
theorem fl_RX4_19 : flOk RX4 19 4 2 = true := by decide +kernel
theorem fl_RX4_23 : flOk RX4 23 4 4 = true := by decide +kernel
theorem fl_RX4_30 : flOk RX4 30 4 3 = true := by decide +kernel
theorem fl_RX4_36 : flOk RX4 36 6 1 = true := by decide +kernel
theorem fl_RX4_66 : flOk RX4 66 6 0 = true := by decide +kernel
theorem fl_RX5_11 : flOk RX5 11 5 1 = true := by decide +kernel
theorem fl_RX5_15 : flOk RX5 15 5 2 = true := by decide +kernel
theorem fl_RX5_18 : flOk RX5 18 5 3 = true := by decide +kernel
theorem fl_RX5_21 : flOk RX5 21 5 4 = true := by decide +kernel
theorem fl_RX5_24 : flOk RX5 24 5 5 = true := by decide +kernel
theorem fl_RX5_27 : flOk RX5 27 5 6 = true := by decide +kernel
theorem fl_RX5_30 : flOk RX5 30 5 0 = true := by decide +kernel
theorem fl_RX5_54 : flOk RX5 54 5 7 = true := by decide +kernel
theorem fl_RX5_58 : flOk RX5 58 5 8 = true := by decide +kernel
theorem fl_RX5_96 : flOk RX5 96 0 9 = true := by decide +kernel
theorem fl_RX5_103 : flOk RX5 103 0 10 = true := by decide +kernel
theorem fl_RX6_9 : flOk RX6 9 6 0 = true := by decide +kernel
theorem fl_RX6_13 : flOk RX6 13 6 1 = true := by decide +kernel
theorem fl_RX7_11 : flOk RX7 11 7 0 = true := by decide +kernel
theorem fl_RX8_9 : flOk RX8 9 8 1 = true := by decide +kernel
theorem fl_RX8_15 : flOk RX8 15 8 2 = true := by decide +kernel
theorem fl_RX8_18 : flOk RX8 18 8 3 = true := by decide +kernel
theorem fl_RX8_21 : flOk RX8 21 8 4 = true := by decide +kernel
theorem fl_RX8_24 : flOk RX8 24 8 0 = true := by decide +kernel
theorem fl_RX8_60 : flOk RX8 60 0 3 = true := by decide +kernel
theorem fl_RX8_63 : flOk RX8 63 0 4 = true := by decide +kernel
theorem fl_RX8_98 : flOk RX8 98 0 0 = true := by decide +kernel
theorem fl_RX9_10 : flOk RX9 10 9 0 = true := by decide +kernel
theorem fl_RX9_21 : flOk RX9 21 9 1 = true := by decide +kernel
theorem fl_RX9_28 : flOk RX9 28 9 2 = true := by decide +kernel
theorem fl_RX9_37 : flOk RX9 37 9 3 = true := by decide +kernel
theorem fl_RX9_46 : flOk RX9 46 9 4 = true := by decide +kernel
theorem fl_RX9_53 : flOk RX9 53 9 5 = true := by decide +kernel
theorem fl_RX9_60 : flOk RX9 60 9 6 = true := by decide +kernel
theorem fl_RX9_67 : flOk RX9 67 9 7 = true := by decide +kernel
theorem fl_RX9_74 : flOk RX9 74 9 8 = true := by decide +kernel
theorem fl_RX9_90 : flOk RX9 90 6 1 = true := by decide +kernel
theorem fl_RX9_98 : flOk RX9 98 4 2 = true := by decide +kernel
theorem fl_RX9_199 : flOk RX9 199 2 4 = true := by decide +kernel
theorem fl_RX9_222 : flOk RX9 222 0 0 = true := by decide +kernel
theorem fl_RX9_225 : flOk RX9 225 0 6 = true := by decide +kernel
theorem fl_RX9_228 : flOk RX9 228 0 7 = true := by decide +kernel
theorem fl_RX9_234 : flOk RX9 234 0 9 = true := by decide +kernel
theorem fl_RX9_237 : flOk RX9 237 0 10 = true := by decide +kernel
theorem G_RX0_11 {cc : ByteArray} {nL d pc : Nat} {X : bX} {L : List (Option Value)} {S : List Value} {w : Wd} (hX : bOk cc nL RX0 d X) (hd : decode cc pc = .ok (.getfield 11, 3)) (k : bV X (pc + 3) L (.ref 6 :: S) w) : bV X pc L (.ref 5 :: S) w := V_getf (v := .ref 6) hX fl_RX0_11 cl_0 (Nat.le_of_ble_eq_true rfl) lay_5 rfl rfl hd k
theorem G_RX0_15 {cc : ByteArray} {nL d pc : Nat} {X : bX} {L : List (Option Value)} {S : List Value} {w : Wd} (hX : bOk cc nL RX0 d X) (hd : decode cc pc = .ok (.getfield 15, 3)) (k : bV X (pc + 3) L (.ref 7 :: S) w) : bV X pc L (.ref 5 :: S) w := V_getf (v := .ref 7) hX fl_RX0_15 cl_0 (Nat.le_of_ble_eq_true rfl) lay_5 rfl rfl hd k
theorem G_RX0_18 {cc : ByteArray} {nL d pc : Nat} {X : bX} {L : List (Option Value)} {S : List Value} {w : Wd} (hX : bOk cc nL RX0 d X) (hd : decode cc pc = .ok (.getfield 18, 3)) (k : bV X (pc + 3) L (.ref 8 :: S) w) : bV X pc L (.ref 5 :: S) w := V_getf (v := .ref 8) hX fl_RX0_18 cl_0 (Nat.le_of_ble_eq_true rfl) lay_5 rfl rfl hd k
theorem G_RX0_21 {cc : ByteArray} {nL d pc : Nat} {X : bX} {L : List (Option Value)} {S : List Value} {w : Wd} (hX : bOk cc nL RX0 d X) (hd : decode cc pc = .ok (.getfield 21, 3)) (k : bV X (pc + 3) L (.ref 9 :: S) w) : bV X pc L (.ref 5 :: S) w := V_getf (v := .ref 9) hX fl_RX0_21 cl_0 (Nat.le_of_ble_eq_true rfl) lay_5 rfl rfl hd k
theorem G_RX0_24 {cc : ByteArray} {nL d pc : Nat} {X : bX} {L : List (Option Value)} {S : List Value} {w : Wd} (hX : bOk cc nL RX0 d X) (hd : decode cc pc = .ok (.getfield 24, 3)) (k : bV X (pc + 3) L (.ref 10 :: S) w) : bV X pc L (.ref 5 :: S) w := V_getf (v := .ref 10) hX fl_RX0_24 cl_0 (Nat.le_of_ble_eq_true rfl) lay_5 rfl rfl hd k
theorem G_RX0_27 {cc : ByteArray} {nL d pc : Nat} {X : bX} {L : List (Option Value)} {S : List Value} {w : Wd} (hX : bOk cc nL RX0 d X) (hd : decode cc pc = .ok (.getfield 27, 3)) (k : bV X (pc + 3) L (.ref 11 :: S) w) : bV X pc L (.ref 5 :: S) w := V_getf (v := .ref 11) hX fl_RX0_27 cl_0 (Nat.le_of_ble_eq_true rfl) lay_5 rfl rfl hd k
theorem G_RX0_45 {cc : ByteArray} {nL d pc : Nat} {X : bX} {L : List (Option Value)} {S : List Value} {w : Wd} (hX : bOk cc nL RX0 d X) (hd : decode cc pc = .ok (.getfield 45, 3)) (k : bV X (pc + 3) L (.int (w.1 5 0) :: S) w) : bV X pc L (.ref 5 :: S) w := V_getf (v := .int (w.1 5 0)) hX fl_RX0_45 cl_0 (Nat.le_of_ble_eq_true rfl) lay_5 rfl rfl hd k
theorem G_RX0_74 {cc : ByteArray} {nL d pc : Nat} {X : bX} {L : List (Option Value)} {S : List Value} {w : Wd} (hX : bOk cc nL RX0 d X) (hd : decode cc pc = .ok (.getfield 74, 3)) (k : bV X (pc + 3) L (.int (w.1 5 7) :: S) w) : bV X pc L (.ref 5 :: S) w := V_getf (v := .int (w.1 5 7)) hX fl_RX0_74 cl_0 (Nat.le_of_ble_eq_true rfl) lay_5 rfl rfl hd k
theorem G_RX0_103 {cc : ByteArray} {nL d pc : Nat} {X : bX} {L : List (Option Value)} {S : List Value} {w : Wd} (hX : bOk cc nL RX0 d X) (hd : decode cc pc = .ok (.getfield 103, 3)) (k : bV X (pc + 3) L (.int (w.1 5 6) :: S) w) : bV X pc L (.ref 5 :: S) w := V_getf (v := .int (w.1 5 6)) hX fl_RX0_103 cl_0 (Nat.le_of_ble_eq_true rfl) lay_5 rfl rfl hd k
theorem G_RX1_9 {cc : ByteArray} {nL d pc : Nat} {X : bX} {L : List (Option Value)} {S : List Value} {w : Wd} (hX : bOk cc nL RX1 d X) (hd : decode cc pc = .ok (.getfield 9, 3)) (k : bV X (pc + 3) L (.ref 18 :: S) w) : bV X pc L (.ref 17 :: S) w := V_getf (v := .ref 18) hX fl_RX1_9 cl_1 (Nat.le_of_ble_eq_true rfl) lay_17 rfl rfl hd k
theorem G_RX1_15 {cc : ByteArray} {nL d pc : Nat} {X : bX} {L : List (Option Value)} {S : List Value} {w : Wd} (hX : bOk cc nL RX1 d X) (hd : decode cc pc = .ok (.getfield 15, 3)) (k : bV X (pc + 3) L (.ref 5 :: S) w) : bV X pc L (.ref 17 :: S) w := V_getf (v := .ref 5) hX fl_RX1_15 cl_1 (Nat.le_of_ble_eq_true rfl) lay_17 rfl rfl hd k
theorem G_RX1_19 {cc : ByteArray} {nL d pc : Nat} {X : bX} {L : List (Option Value)} {S : List Value} {w : Wd} (hX : bOk cc nL RX1 d X) (hd : decode cc pc = .ok (.getfield 19, 3)) (k : bV X (pc + 3) L (.ref 12 :: S) w) : bV X pc L (.ref 17 :: S) w := V_getf (v := .ref 12) hX fl_RX1_19 cl_1 (Nat.le_of_ble_eq_true rfl) lay_17 rfl rfl hd k
theorem G_RX1_37 {cc : ByteArray} {nL d pc : Nat} {X : bX} {L : List (Option Value)} {S : List Value} {w : Wd} (hX : bOk cc nL RX1 d X) (hd : decode cc pc = .ok (.getfield 37, 3)) (k : bV X (pc + 3) L (.int (w.1 5 10) :: S) w) : bV X pc L (.ref 5 :: S) w := V_getf (v := .int (w.1 5 10)) hX fl_RX1_37 cl_0 (Nat.le_of_ble_eq_true rfl) lay_5 rfl rfl hd k
theorem G_RX1_66 {cc : ByteArray} {nL d pc : Nat} {X : bX} {L : List (Option Value)} {S : List Value} {w : Wd} (hX : bOk cc nL RX1 d X) (hd : decode cc pc = .ok (.getfield 66, 3)) (k : bV X (pc + 3) L (.int (w.1 5 9) :: S) w) : bV X pc L (.ref 5 :: S) w := V_getf (v := .int (w.1 5 9)) hX fl_RX1_66 cl_0 (Nat.le_of_ble_eq_true rfl) lay_5 rfl rfl hd k
theorem G_RX10_7 {cc : ByteArray} {nL d pc : Nat} {X : bX} {L : List (Option Value)} {S : List Value} {w : Wd} (hX : bOk cc nL RX10 d X) (hd : decode cc pc = .ok (.getfield 7, 3)) (k : bV X (pc + 3) L (.ref 34 :: S) w) : bV X pc L (.ref 33 :: S) w := V_getf (v := .ref 34) hX fl_RX10_7 cl_10 (Nat.le_of_ble_eq_true rfl) lay_33 rfl rfl hd k
theorem G_RX10_13 {cc : ByteArray} {nL d pc : Nat} {X : bX} {L : List (Option Value)} {S : List Value} {w : Wd} (hX : bOk cc nL RX10 d X) (hd : decode cc pc = .ok (.getfield 13, 3)) (k : bV X (pc + 3) L (.ref 35 :: S) w) : bV X pc L (.ref 33 :: S) w := V_getf (v := .ref 35) hX fl_RX10_13 cl_10 (Nat.le_of_ble_eq_true rfl) lay_33 rfl rfl hd k
theorem G_RX10_16 {cc : ByteArray} {nL d pc : Nat} {X : bX} {L : List (Option Value)} {S : List Value} {w : Wd} (hX : bOk cc nL RX10 d X) (hd : decode cc pc = .ok (.getfield 16, 3)) (k : bV X (pc + 3) L (.ref 36 :: S) w) : bV X pc L (.ref 33 :: S) w := V_getf (v := .ref 36) hX fl_RX10_16 cl_10 (Nat.le_of_ble_eq_true rfl) lay_33 rfl rfl hd k
theorem G_RX10_19 {cc : ByteArray} {nL d pc : Nat} {X : bX} {L : List (Option Value)} {S : List Value} {w : Wd} (hX : bOk cc nL RX10 d X) (hd : decode cc pc = .ok (.getfield 19, 3)) (k : bV X (pc + 3) L (.ref 37 :: S) w) : bV X pc L (.ref 33 :: S) w := V_getf (v := .ref 37) hX fl_RX10_19 cl_10 (Nat.le_of_ble_eq_true rfl) lay_33 rfl rfl hd k
theorem G_RX10_22 {cc : ByteArray} {nL d pc : Nat} {X : bX} {L : List (Option Value)} {S : List Value} {w : Wd} (hX : bOk cc nL RX10 d X) (hd : decode cc pc = .ok (.getfield 22, 3)) (k : bV X (pc + 3) L (.ref 38 :: S) w) : bV X pc L (.ref 33 :: S) w := V_getf (v := .ref 38) hX fl_RX10_22 cl_10 (Nat.le_of_ble_eq_true rfl) lay_33 rfl rfl hd k
theorem G_RX10_25 {cc : ByteArray} {nL d pc : Nat} {X : bX} {L : List (Option Value)} {S : List Value} {w : Wd} (hX : bOk cc nL RX10 d X) (hd : decode cc pc = .ok (.getfield 25, 3)) (k : bV X (pc + 3) L (.ref 39 :: S) w) : bV X pc L (.ref 33 :: S) w := V_getf (v := .ref 39) hX fl_RX10_25 cl_10 (Nat.le_of_ble_eq_true rfl) lay_33 rfl rfl hd k
theorem G_RX10_28 {cc : ByteArray} {nL d pc : Nat} {X : bX} {L : List (Option Value)} {S : List Value} {w : Wd} (hX : bOk cc nL RX10 d X) (hd : decode cc pc = .ok (.getfield 28, 3)) (k : bV X (pc + 3) L (.ref 40 :: S) w) : bV X pc L (.ref 33 :: S) w := V_getf (v := .ref 40) hX fl_RX10_28 cl_10 (Nat.le_of_ble_eq_true rfl) lay_33 rfl rfl hd k
theorem G_RX10_31 {cc : ByteArray} {nL d pc : Nat} {X : bX} {L : List (Option Value)} {S : List Value} {w : Wd} (hX : bOk cc nL RX10 d X) (hd : decode cc pc = .ok (.getfield 31, 3)) (k : bV X (pc + 3) L (.ref 41 :: S) w) : bV X pc L (.ref 33 :: S) w := V_getf (v := .ref 41) hX fl_RX10_31 cl_10 (Nat.le_of_ble_eq_true rfl) lay_33 rfl rfl hd k
theorem G_RX10_34 {cc : ByteArray} {nL d pc : Nat} {X : bX} {L : List (Option Value)} {S : List Value} {w : Wd} (hX : bOk cc nL RX10 d X) (hd : decode cc pc = .ok (.getfield 34, 3)) (k : bV X (pc + 3) L (.ref 42 :: S) w) : bV X pc L (.ref 33 :: S) w := V_getf (v := .ref 42) hX fl_RX10_34 cl_10 (Nat.le_of_ble_eq_true rfl) lay_33 rfl rfl hd k
theorem G_RX10_37 {cc : ByteArray} {nL d pc : Nat} {X : bX} {L : List (Option Value)} {S : List Value} {w : Wd} (hX : bOk cc nL RX10 d X) (hd : decode cc pc = .ok (.getfield 37, 3)) (k : bV X (pc + 3) L (.ref 43 :: S) w) : bV X pc L (.ref 33 :: S) w := V_getf (v := .ref 43) hX fl_RX10_37 cl_10 (Nat.le_of_ble_eq_true rfl) lay_33 rfl rfl hd k
theorem G_RX10_40 {cc : ByteArray} {nL d pc : Nat} {X : bX} {L : List (Option Value)} {S : List Value} {w : Wd} (hX : bOk cc nL RX10 d X) (hd : decode cc pc = .ok (.getfield 40, 3)) (k : bV X (pc + 3) L (.int (w.1 33 13) :: S) w) : bV X pc L (.ref 33 :: S) w := V_getf (v := .int (w.1 33 13)) hX fl_RX10_40 cl_10 (Nat.le_of_ble_eq_true rfl) lay_33 rfl rfl hd k
theorem G_RX10_44 {cc : ByteArray} {nL d pc : Nat} {X : bX} {L : List (Option Value)} {S : List Value} {w : Wd} (hX : bOk cc nL RX10 d X) (hd : decode cc pc = .ok (.getfield 44, 3)) (k : bV X (pc + 3) L (.int (w.1 33 14) :: S) w) : bV X pc L (.ref 33 :: S) w := V_getf (v := .int (w.1 33 14)) hX fl_RX10_44 cl_10 (Nat.le_of_ble_eq_true rfl) lay_33 rfl rfl hd k
theorem G_RX10_47 {cc : ByteArray} {nL d pc : Nat} {X : bX} {L : List (Option Value)} {S : List Value} {w : Wd} (hX : bOk cc nL RX10 d X) (hd : decode cc pc = .ok (.getfield 47, 3)) (k : bV X (pc + 3) L (.ref 44 :: S) w) : bV X pc L (.ref 33 :: S) w := V_getf (v := .ref 44) hX fl_RX10_47 cl_10 (Nat.le_of_ble_eq_true rfl) lay_33 rfl rfl hd k
theorem G_RX10_50 {cc : ByteArray} {nL d pc : Nat} {X : bX} {L : List (Option Value)} {S : List Value} {w : Wd} (hX : bOk cc nL RX10 d X) (hd : decode cc pc = .ok (.getfield 50, 3)) (k : bV X (pc + 3) L (.ref 45 :: S) w) : bV X pc L (.ref 33 :: S) w := V_getf (v := .ref 45) hX fl_RX10_50 cl_10 (Nat.le_of_ble_eq_true rfl) lay_33 rfl rfl hd k
theorem G_RX10_53 {cc : ByteArray} {nL d pc : Nat} {X : bX} {L : List (Option Value)} {S : List Value} {w : Wd} (hX : bOk cc nL RX10 d X) (hd : decode cc pc = .ok (.getfield 53, 3)) (k : bV X (pc + 3) L (.ref 46 :: S) w) : bV X pc L (.ref 33 :: S) w := V_getf (v := .ref 46) hX fl_RX10_53 cl_10 (Nat.le_of_ble_eq_true rfl) lay_33 rfl rfl hd k
theorem G_RX10_56 {cc : ByteArray} {nL d pc : Nat} {X : bX} {L : List (Option Value)} {S : List Value} {w : Wd} (hX : bOk cc nL RX10 d X) (hd : decode cc pc = .ok (.getfield 56, 3)) (k : bV X (pc + 3) L (.ref 47 :: S) w) : bV X pc L (.ref 33 :: S) w := V_getf (v := .ref 47) hX fl_RX10_56 cl_10 (Nat.le_of_ble_eq_true rfl) lay_33 rfl rfl hd k
theorem G_RX10_59 {cc : ByteArray} {nL d pc : Nat} {X : bX} {L : List (Option Value)} {S : List Value} {w : Wd} (hX : bOk cc nL RX10 d X) (hd : decode cc pc = .ok (.getfield 59, 3)) (k : bV X (pc + 3) L (.ref 48 :: S) w) : bV X pc L (.ref 33 :: S) w := V_getf (v := .ref 48) hX fl_RX10_59 cl_10 (Nat.le_of_ble_eq_true rfl) lay_33 rfl rfl hd k
theorem G_RX10_62 {cc : ByteArray} {nL d pc : Nat} {X : bX} {L : List (Option Value)} {S : List Value} {w : Wd} (hX : bOk cc nL RX10 d X) (hd : decode cc pc = .ok (.getfield 62, 3)) (k : bV X (pc + 3) L (.ref 49 :: S) w) : bV X pc L (.ref 33 :: S) w := V_getf (v := .ref 49) hX fl_RX10_62 cl_10 (Nat.le_of_ble_eq_true rfl) lay_33 rfl rfl hd k
theorem G_RX10_65 {cc : ByteArray} {nL d pc : Nat} {X : bX} {L : List (Option Value)} {S : List Value} {w : Wd} (hX : bOk cc nL RX10 d X) (hd : decode cc pc = .ok (.getfield 65, 3)) (k : bV X (pc + 3) L (.ref 50 :: S) w) : bV X pc L (.ref 33 :: S) w := V_getf (v := .ref 50) hX fl_RX10_65 cl_10 (Nat.le_of_ble_eq_true rfl) lay_33 rfl rfl hd k
theorem G_RX10_68 {cc : ByteArray} {nL d pc : Nat} {X : bX} {L : List (Option Value)} {S : List Value} {w : Wd} (hX : bOk cc nL RX10 d X) (hd : decode cc pc = .ok (.getfield 68, 3)) (k : bV X (pc + 3) L (.ref 51 :: S) w) : bV X pc L (.ref 33 :: S) w := V_getf (v := .ref 51) hX fl_RX10_68 cl_10 (Nat.le_of_ble_eq_true rfl) lay_33 rfl rfl hd k
theorem G_RX10_71 {cc : ByteArray} {nL d pc : Nat} {X : bX} {L : List (Option Value)} {S : List Value} {w : Wd} (hX : bOk cc nL RX10 d X) (hd : decode cc pc = .ok (.getfield 71, 3)) (k : bV X (pc + 3) L (.ref 52 :: S) w) : bV X pc L (.ref 33 :: S) w := V_getf (v := .ref 52) hX fl_RX10_71 cl_10 (Nat.le_of_ble_eq_true rfl) lay_33 rfl rfl hd k
theorem G_RX10_74 {cc : ByteArray} {nL d pc : Nat} {X : bX} {L : List (Option Value)} {S : List Value} {w : Wd} (hX : bOk cc nL RX10 d X) (hd : decode cc pc = .ok (.getfield 74, 3)) (k : bV X (pc + 3) L (.ref 53 :: S) w) : bV X pc L (.ref 33 :: S) w := V_getf (v := .ref 53) hX fl_RX10_74 cl_10 (Nat.le_of_ble_eq_true rfl) lay_33 rfl rfl hd k
theorem G_RX10_77 {cc : ByteArray} {nL d pc : Nat} {X : bX} {L : List (Option Value)} {S : List Value} {w : Wd} (hX : bOk cc nL RX10 d X) (hd : decode cc pc = .ok (.getfield 77, 3)) (k : bV X (pc + 3) L (.ref 54 :: S) w) : bV X pc L (.ref 33 :: S) w := V_getf (v := .ref 54) hX fl_RX10_77 cl_10 (Nat.le_of_ble_eq_true rfl) lay_33 rfl rfl hd k
theorem G_RX10_80 {cc : ByteArray} {nL d pc : Nat} {X : bX} {L : List (Option Value)} {S : List Value} {w : Wd} (hX : bOk cc nL RX10 d X) (hd : decode cc pc = .ok (.getfield 80, 3)) (k : bV X (pc + 3) L (.ref 55 :: S) w) : bV X pc L (.ref 33 :: S) w := V_getf (v := .ref 55) hX fl_RX10_80 cl_10 (Nat.le_of_ble_eq_true rfl) lay_33 rfl rfl hd k
theorem G_RX10_83 {cc : ByteArray} {nL d pc : Nat} {X : bX} {L : List (Option Value)} {S : List Value} {w : Wd} (hX : bOk cc nL RX10 d X) (hd : decode cc pc = .ok (.getfield 83, 3)) (k : bV X (pc + 3) L (.ref 56 :: S) w) : bV X pc L (.ref 33 :: S) w := V_getf (v := .ref 56) hX fl_RX10_83 cl_10 (Nat.le_of_ble_eq_true rfl) lay_33 rfl rfl hd k
theorem G_RX10_90 {cc : ByteArray} {nL d pc : Nat} {X : bX} {L : List (Option Value)} {S : List Value} {w : Wd} (hX : bOk cc nL RX10 d X) (hd : decode cc pc = .ok (.getfield 90, 3)) (k : bV X (pc + 3) L (.int (w.1 33 0) :: S) w) : bV X pc L (.ref 33 :: S) w := V_getf (v := .int (w.1 33 0)) hX fl_RX10_90 cl_10 (Nat.le_of_ble_eq_true rfl) lay_33 rfl rfl hd k
theorem G_RX10_97 {cc : ByteArray} {nL d pc : Nat} {X : bX} {L : List (Option Value)} {S : List Value} {w : Wd} (hX : bOk cc nL RX10 d X) (hd : decode cc pc = .ok (.getfield 97, 3)) (k : bV X (pc + 3) L (.int (w.1 33 15) :: S) w) : bV X pc L (.ref 33 :: S) w := V_getf (v := .int (w.1 33 15)) hX fl_RX10_97 cl_10 (Nat.le_of_ble_eq_true rfl) lay_33 rfl rfl hd k
theorem G_RX10_102 {cc : ByteArray} {nL d pc : Nat} {X : bX} {L : List (Option Value)} {S : List Value} {w : Wd} (hX : bOk cc nL RX10 d X) (hd : decode cc pc = .ok (.getfield 102, 3)) (k : bV X (pc + 3) L (.int (w.1 33 17) :: S) w) : bV X pc L (.ref 33 :: S) w := V_getf (v := .int (w.1 33 17)) hX fl_RX10_102 cl_10 (Nat.le_of_ble_eq_true rfl) lay_33 rfl rfl hd k
theorem G_RX10_105 {cc : ByteArray} {nL d pc : Nat} {X : bX} {L : List (Option Value)} {S : List Value} {w : Wd} (hX : bOk cc nL RX10 d X) (hd : decode cc pc = .ok (.getfield 105, 3)) (k : bV X (pc + 3) L (.int (w.1 33 18) :: S) w) : bV X pc L (.ref 33 :: S) w := V_getf (v := .int (w.1 33 18)) hX fl_RX10_105 cl_10 (Nat.le_of_ble_eq_true rfl) lay_33 rfl rfl hd k
theorem G_RX10_108 {cc : ByteArray} {nL d pc : Nat} {X : bX} {L : List (Option Value)} {S : List Value} {w : Wd} (hX : bOk cc nL RX10 d X) (hd : decode cc pc = .ok (.getfield 108, 3)) (k : bV X (pc + 3) L (.int (w.1 33 20) :: S) w) : bV X pc L (.ref 33 :: S) w := V_getf (v := .int (w.1 33 20)) hX fl_RX10_108 cl_10 (Nat.le_of_ble_eq_true rfl) lay_33 rfl rfl hd k
theorem G_RX10_111 {cc : ByteArray} {nL d pc : Nat} {X : bX} {L : List (Option Value)} {S : List Value} {w : Wd} (hX : bOk cc nL RX10 d X) (hd : decode cc pc = .ok (.getfield 111, 3)) (k : bV X (pc + 3) L (.int (w.1 33 21) :: S) w) : bV X pc L (.ref 33 :: S) w := V_getf (v := .int (w.1 33 21)) hX fl_RX10_111 cl_10 (Nat.le_of_ble_eq_true rfl) lay_33 rfl rfl hd k
theorem G_RX10_116 {cc : ByteArray} {nL d pc : Nat} {X : bX} {L : List (Option Value)} {S : List Value} {w : Wd} (hX : bOk cc nL RX10 d X) (hd : decode cc pc = .ok (.getfield 116, 3)) (k : bV X (pc + 3) L (.long w.2 :: S) w) : bV X pc L (.ref 33 :: S) w := V_getf (v := .long w.2) hX fl_RX10_116 cl_10 (Nat.le_of_ble_eq_true rfl) lay_33 rfl rfl hd k
theorem G_RX10_130 {cc : ByteArray} {nL d pc : Nat} {X : bX} {L : List (Option Value)} {S : List Value} {w : Wd} (hX : bOk cc nL RX10 d X) (hd : decode cc pc = .ok (.getfield 130, 3)) (k : bV X (pc + 3) L (.int (w.1 33 22) :: S) w) : bV X pc L (.ref 33 :: S) w := V_getf (v := .int (w.1 33 22)) hX fl_RX10_130 cl_10 (Nat.le_of_ble_eq_true rfl) lay_33 rfl rfl hd k
theorem G_RX10_175 {cc : ByteArray} {nL d pc : Nat} {X : bX} {L : List (Option Value)} {S : List Value} {w : Wd} (hX : bOk cc nL RX10 d X) (hd : decode cc pc = .ok (.getfield 175, 3)) (k : bV X (pc + 3) L (.int (w.1 33 23) :: S) w) : bV X pc L (.ref 33 :: S) w := V_getf (v := .int (w.1 33 23)) hX fl_RX10_175 cl_10 (Nat.le_of_ble_eq_true rfl) lay_33 rfl rfl hd k
theorem G_RX10_196 {cc : ByteArray} {nL d pc : Nat} {X : bX} {L : List (Option Value)} {S : List Value} {w : Wd} (hX : bOk cc nL RX10 d X) (hd : decode cc pc = .ok (.getfield 196, 3)) (k : bV X (pc + 3) L (.int (w.1 33 8) :: S) w) : bV X pc L (.ref 33 :: S) w := V_getf (v := .int (w.1 33 8)) hX fl_RX10_196 cl_10 (Nat.le_of_ble_eq_true rfl) lay_33 rfl rfl hd k
theorem G_RX10_199 {cc : ByteArray} {nL d pc : Nat} {X : bX} {L : List (Option Value)} {S : List Value} {w : Wd} (hX : bOk cc nL RX10 d X) (hd : decode cc pc = .ok (.getfield 199, 3)) (k : bV X (pc + 3) L (.int (w.1 33 11) :: S) w) : bV X pc L (.ref 33 :: S) w := V_getf (v := .int (w.1 33 11)) hX fl_RX10_199 cl_10 (Nat.le_of_ble_eq_true rfl) lay_33 rfl rfl hd k
theorem G_RX10_276 {cc : ByteArray} {nL d pc : Nat} {X : bX} {L : List (Option Value)} {S : List Value} {w : Wd} (hX : bOk cc nL RX10 d X) (hd : decode cc pc = .ok (.getfield 276, 3)) (k : bV X (pc + 3) L (.int (w.1 33 32) :: S) w) : bV X pc L (.ref 33 :: S) w := V_getf (v := .int (w.1 33 32)) hX fl_RX10_276 cl_10 (Nat.le_of_ble_eq_true rfl) lay_33 rfl rfl hd k
theorem G_RX10_279 {cc : ByteArray} {nL d pc : Nat} {X : bX} {L : List (Option Value)} {S : List Value} {w : Wd} (hX : bOk cc nL RX10 d X) (hd : decode cc pc = .ok (.getfield 279, 3)) (k : bV X (pc + 3) L (.int (w.1 33 33) :: S) w) : bV X pc L (.ref 33 :: S) w := V_getf (v := .int (w.1 33 33)) hX fl_RX10_279 cl_10 (Nat.le_of_ble_eq_true rfl) lay_33 rfl rfl hd k
theorem G_RX10_294 {cc : ByteArray} {nL d pc : Nat} {X : bX} {L : List (Option Value)} {S : List Value} {w : Wd} (hX : bOk cc nL RX10 d X) (hd : decode cc pc = .ok (.getfield 294, 3)) (k : bV X (pc + 3) L (.int (w.1 33 35) :: S) w) : bV X pc L (.ref 33 :: S) w := V_getf (v := .int (w.1 33 35)) hX fl_RX10_294 cl_10 (Nat.le_of_ble_eq_true rfl) lay_33 rfl rfl hd k
theorem G_RX2_11 {cc : ByteArray} {nL d pc : Nat} {X : bX} {L : List (Option Value)} {S : List Value} {w : Wd} (hX : bOk cc nL RX2 d X) (hd : decode cc pc = .ok (.getfield 11, 3)) (k : bV X (pc + 3) L (.ref 30 :: S) w) : bV X pc L (.ref 29 :: S) w := V_getf (v := .ref 30) hX fl_RX2_11 cl_2 (Nat.le_of_ble_eq_true rfl) lay_29 rfl rfl hd k
theorem G_RX2_15 {cc : ByteArray} {nL d pc : Nat} {X : bX} {L : List (Option Value)} {S : List Value} {w : Wd} (hX : bOk cc nL RX2 d X) (hd : decode cc pc = .ok (.getfield 15, 3)) (k : bV X (pc + 3) L (.ref 31 :: S) w) : bV X pc L (.ref 29 :: S) w := V_getf (v := .ref 31) hX fl_RX2_15 cl_2 (Nat.le_of_ble_eq_true rfl) lay_29 rfl rfl hd k
theorem G_RX2_18 {cc : ByteArray} {nL d pc : Nat} {X : bX} {L : List (Option Value)} {S : List Value} {w : Wd} (hX : bOk cc nL RX2 d X) (hd : decode cc pc = .ok (.getfield 18, 3)) (k : bV X (pc + 3) L (.ref 32 :: S) w) : bV X pc L (.ref 29 :: S) w := V_getf (v := .ref 32) hX fl_RX2_18 cl_2 (Nat.le_of_ble_eq_true rfl) lay_29 rfl rfl hd k
theorem G_RX2_21 {cc : ByteArray} {nL d pc : Nat} {X : bX} {L : List (Option Value)} {S : List Value} {w : Wd} (hX : bOk cc nL RX2 d X) (hd : decode cc pc = .ok (.getfield 21, 3)) (k : bV X (pc + 3) L (.ref 5 :: S) w) : bV X pc L (.ref 29 :: S) w := V_getf (v := .ref 5) hX fl_RX2_21 cl_2 (Nat.le_of_ble_eq_true rfl) lay_29 rfl rfl hd k
theorem G_RX2_25 {cc : ByteArray} {nL d pc : Nat} {X : bX} {L : List (Option Value)} {S : List Value} {w : Wd} (hX : bOk cc nL RX2 d X) (hd : decode cc pc = .ok (.getfield 25, 3)) (k : bV X (pc + 3) L (.int (w.1 29 4) :: S) w) : bV X pc L (.ref 29 :: S) w := V_getf (v := .int (w.1 29 4)) hX fl_RX2_25 cl_2 (Nat.le_of_ble_eq_true rfl) lay_29 rfl rfl hd k
theorem G_RX3_9 {cc : ByteArray} {nL d pc : Nat} {X : bX} {L : List (Option Value)} {S : List Value} {w : Wd} (hX : bOk cc nL RX3 d X) (hd : decode cc pc = .ok (.getfield 9, 3)) (k : bV X (pc + 3) L (.ref 5 :: S) w) : bV X pc L (.ref 19 :: S) w := V_getf (v := .ref 5) hX fl_RX3_9 cl_3 (Nat.le_of_ble_eq_true rfl) lay_19 rfl rfl hd k
theorem G_RX3_15 {cc : ByteArray} {nL d pc : Nat} {X : bX} {L : List (Option Value)} {S : List Value} {w : Wd} (hX : bOk cc nL RX3 d X) (hd : decode cc pc = .ok (.getfield 15, 3)) (k : bV X (pc + 3) L (.ref 12 :: S) w) : bV X pc L (.ref 19 :: S) w := V_getf (v := .ref 12) hX fl_RX3_15 cl_3 (Nat.le_of_ble_eq_true rfl) lay_19 rfl rfl hd k
theorem G_RX4_11 {cc : ByteArray} {nL d pc : Nat} {X : bX} {L : List (Option Value)} {S : List Value} {w : Wd} (hX : bOk cc nL RX4 d X) (hd : decode cc pc = .ok (.getfield 11, 3)) (k : bV X (pc + 3) L (.ref 4 :: S) w) : bV X pc L (.ref 3 :: S) w := V_getf (v := .ref 4) hX fl_RX4_11 cl_4 (Nat.le_of_ble_eq_true rfl) lay_3 rfl rfl hd k
theorem G_RX4_15 {cc : ByteArray} {nL d pc : Nat} {X : bX} {L : List (Option Value)} {S : List Value} {w : Wd} (hX : bOk cc nL RX4 d X) (hd : decode cc pc = .ok (.getfield 15, 3)) (k : bV X (pc + 3) L (.ref 1 :: S) w) : bV X pc L (.ref 3 :: S) w := V_getf (v := .ref 1) hX fl_RX4_15 cl_4 (Nat.le_of_ble_eq_true rfl) lay_3 rfl rfl hd k
theorem G_RX4_23 {cc : ByteArray} {nL d pc : Nat} {X : bX} {L : List (Option Value)} {S : List Value} {w : Wd} (hX : bOk cc nL RX4 d X) (hd : decode cc pc = .ok (.getfield 23, 3)) (k : bV X (pc + 3) L (.int (w.1 3 4) :: S) w) : bV X pc L (.ref 3 :: S) w := V_getf (v := .int (w.1 3 4)) hX fl_RX4_23 cl_4 (Nat.le_of_ble_eq_true rfl) lay_3 rfl rfl hd k
theorem G_RX4_30 {cc : ByteArray} {nL d pc : Nat} {X : bX} {L : List (Option Value)} {S : List Value} {w : Wd} (hX : bOk cc nL RX4 d X) (hd : decode cc pc = .ok (.getfield 30, 3)) (k : bV X (pc + 3) L (.int (w.1 3 3) :: S) w) : bV X pc L (.ref 3 :: S) w := V_getf (v := .int (w.1 3 3)) hX fl_RX4_30 cl_4 (Nat.le_of_ble_eq_true rfl) lay_3 rfl rfl hd k
theorem G_RX4_36 {cc : ByteArray} {nL d pc : Nat} {X : bX} {L : List (Option Value)} {S : List Value} {w : Wd} (hX : bOk cc nL RX4 d X) (hd : decode cc pc = .ok (.getfield 36, 3)) (k : bV X (pc + 3) L (.int (w.1 1 1) :: S) w) : bV X pc L (.ref 1 :: S) w := V_getf (v := .int (w.1 1 1)) hX fl_RX4_36 cl_6 (Nat.le_of_ble_eq_true rfl) lay_1 rfl rfl hd k
theorem G_RX4_66 {cc : ByteArray} {nL d pc : Nat} {X : bX} {L : List (Option Value)} {S : List Value} {w : Wd} (hX : bOk cc nL RX4 d X) (hd : decode cc pc = .ok (.getfield 66, 3)) (k : bV X (pc + 3) L (.ref 2 :: S) w) : bV X pc L (.ref 1 :: S) w := V_getf (v := .ref 2) hX fl_RX4_66 cl_6 (Nat.le_of_ble_eq_true rfl) lay_1 rfl rfl hd k
theorem G_RX5_11 {cc : ByteArray} {nL d pc : Nat} {X : bX} {L : List (Option Value)} {S : List Value} {w : Wd} (hX : bOk cc nL RX5 d X) (hd : decode cc pc = .ok (.getfield 11, 3)) (k : bV X (pc + 3) L (.ref 21 :: S) w) : bV X pc L (.ref 20 :: S) w := V_getf (v := .ref 21) hX fl_RX5_11 cl_5 (Nat.le_of_ble_eq_true rfl) lay_20 rfl rfl hd k
theorem G_RX5_15 {cc : ByteArray} {nL d pc : Nat} {X : bX} {L : List (Option Value)} {S : List Value} {w : Wd} (hX : bOk cc nL RX5 d X) (hd : decode cc pc = .ok (.getfield 15, 3)) (k : bV X (pc + 3) L (.ref 22 :: S) w) : bV X pc L (.ref 20 :: S) w := V_getf (v := .ref 22) hX fl_RX5_15 cl_5 (Nat.le_of_ble_eq_true rfl) lay_20 rfl rfl hd k
theorem G_RX5_18 {cc : ByteArray} {nL d pc : Nat} {X : bX} {L : List (Option Value)} {S : List Value} {w : Wd} (hX : bOk cc nL RX5 d X) (hd : decode cc pc = .ok (.getfield 18, 3)) (k : bV X (pc + 3) L (.ref 23 :: S) w) : bV X pc L (.ref 20 :: S) w := V_getf (v := .ref 23) hX fl_RX5_18 cl_5 (Nat.le_of_ble_eq_true rfl) lay_20 rfl rfl hd k
theorem G_RX5_21 {cc : ByteArray} {nL d pc : Nat} {X : bX} {L : List (Option Value)} {S : List Value} {w : Wd} (hX : bOk cc nL RX5 d X) (hd : decode cc pc = .ok (.getfield 21, 3)) (k : bV X (pc + 3) L (.ref 24 :: S) w) : bV X pc L (.ref 20 :: S) w := V_getf (v := .ref 24) hX fl_RX5_21 cl_5 (Nat.le_of_ble_eq_true rfl) lay_20 rfl rfl hd k
theorem G_RX5_24 {cc : ByteArray} {nL d pc : Nat} {X : bX} {L : List (Option Value)} {S : List Value} {w : Wd} (hX : bOk cc nL RX5 d X) (hd : decode cc pc = .ok (.getfield 24, 3)) (k : bV X (pc + 3) L (.ref 25 :: S) w) : bV X pc L (.ref 20 :: S) w := V_getf (v := .ref 25) hX fl_RX5_24 cl_5 (Nat.le_of_ble_eq_true rfl) lay_20 rfl rfl hd k
theorem G_RX5_27 {cc : ByteArray} {nL d pc : Nat} {X : bX} {L : List (Option Value)} {S : List Value} {w : Wd} (hX : bOk cc nL RX5 d X) (hd : decode cc pc = .ok (.getfield 27, 3)) (k : bV X (pc + 3) L (.ref 26 :: S) w) : bV X pc L (.ref 20 :: S) w := V_getf (v := .ref 26) hX fl_RX5_27 cl_5 (Nat.le_of_ble_eq_true rfl) lay_20 rfl rfl hd k
theorem G_RX5_30 {cc : ByteArray} {nL d pc : Nat} {X : bX} {L : List (Option Value)} {S : List Value} {w : Wd} (hX : bOk cc nL RX5 d X) (hd : decode cc pc = .ok (.getfield 30, 3)) (k : bV X (pc + 3) L (.ref 5 :: S) w) : bV X pc L (.ref 20 :: S) w := V_getf (v := .ref 5) hX fl_RX5_30 cl_5 (Nat.le_of_ble_eq_true rfl) lay_20 rfl rfl hd k
theorem G_RX5_54 {cc : ByteArray} {nL d pc : Nat} {X : bX} {L : List (Option Value)} {S : List Value} {w : Wd} (hX : bOk cc nL RX5 d X) (hd : decode cc pc = .ok (.getfield 54, 3)) (k : bV X (pc + 3) L (.int (w.1 20 7) :: S) w) : bV X pc L (.ref 20 :: S) w := V_getf (v := .int (w.1 20 7)) hX fl_RX5_54 cl_5 (Nat.le_of_ble_eq_true rfl) lay_20 rfl rfl hd k
theorem G_RX5_58 {cc : ByteArray} {nL d pc : Nat} {X : bX} {L : List (Option Value)} {S : List Value} {w : Wd} (hX : bOk cc nL RX5 d X) (hd : decode cc pc = .ok (.getfield 58, 3)) (k : bV X (pc + 3) L (.int (w.1 20 8) :: S) w) : bV X pc L (.ref 20 :: S) w := V_getf (v := .int (w.1 20 8)) hX fl_RX5_58 cl_5 (Nat.le_of_ble_eq_true rfl) lay_20 rfl rfl hd k
theorem G_RX5_96 {cc : ByteArray} {nL d pc : Nat} {X : bX} {L : List (Option Value)} {S : List Value} {w : Wd} (hX : bOk cc nL RX5 d X) (hd : decode cc pc = .ok (.getfield 96, 3)) (k : bV X (pc + 3) L (.int (w.1 5 9) :: S) w) : bV X pc L (.ref 5 :: S) w := V_getf (v := .int (w.1 5 9)) hX fl_RX5_96 cl_0 (Nat.le_of_ble_eq_true rfl) lay_5 rfl rfl hd k
theorem G_RX5_103 {cc : ByteArray} {nL d pc : Nat} {X : bX} {L : List (Option Value)} {S : List Value} {w : Wd} (hX : bOk cc nL RX5 d X) (hd : decode cc pc = .ok (.getfield 103, 3)) (k : bV X (pc + 3) L (.int (w.1 5 10) :: S) w) : bV X pc L (.ref 5 :: S) w := V_getf (v := .int (w.1 5 10)) hX fl_RX5_103 cl_0 (Nat.le_of_ble_eq_true rfl) lay_5 rfl rfl hd k
theorem G_RX6_9 {cc : ByteArray} {nL d pc : Nat} {X : bX} {L : List (Option Value)} {S : List Value} {w : Wd} (hX : bOk cc nL RX6 d X) (hd : decode cc pc = .ok (.getfield 9, 3)) (k : bV X (pc + 3) L (.ref 2 :: S) w) : bV X pc L (.ref 1 :: S) w := V_getf (v := .ref 2) hX fl_RX6_9 cl_6 (Nat.le_of_ble_eq_true rfl) lay_1 rfl rfl hd k
theorem G_RX6_13 {cc : ByteArray} {nL d pc : Nat} {X : bX} {L : List (Option Value)} {S : List Value} {w : Wd} (hX : bOk cc nL RX6 d X) (hd : decode cc pc = .ok (.getfield 13, 3)) (k : bV X (pc + 3) L (.int (w.1 1 1) :: S) w) : bV X pc L (.ref 1 :: S) w := V_getf (v := .int (w.1 1 1)) hX fl_RX6_13 cl_6 (Nat.le_of_ble_eq_true rfl) lay_1 rfl rfl hd k
theorem G_RX7_11 {cc : ByteArray} {nL d pc : Nat} {X : bX} {L : List (Option Value)} {S : List Value} {w : Wd} (hX : bOk cc nL RX7 d X) (hd : decode cc pc = .ok (.getfield 11, 3)) (k : bV X (pc + 3) L (.ref 28 :: S) w) : bV X pc L (.ref 27 :: S) w := V_getf (v := .ref 28) hX fl_RX7_11 cl_7 (Nat.le_of_ble_eq_true rfl) lay_27 rfl rfl hd k
theorem G_RX8_9 {cc : ByteArray} {nL d pc : Nat} {X : bX} {L : List (Option Value)} {S : List Value} {w : Wd} (hX : bOk cc nL RX8 d X) (hd : decode cc pc = .ok (.getfield 9, 3)) (k : bV X (pc + 3) L (.ref 13 :: S) w) : bV X pc L (.ref 12 :: S) w := V_getf (v := .ref 13) hX fl_RX8_9 cl_8 (Nat.le_of_ble_eq_true rfl) lay_12 rfl rfl hd k
theorem G_RX8_15 {cc : ByteArray} {nL d pc : Nat} {X : bX} {L : List (Option Value)} {S : List Value} {w : Wd} (hX : bOk cc nL RX8 d X) (hd : decode cc pc = .ok (.getfield 15, 3)) (k : bV X (pc + 3) L (.ref 14 :: S) w) : bV X pc L (.ref 12 :: S) w := V_getf (v := .ref 14) hX fl_RX8_15 cl_8 (Nat.le_of_ble_eq_true rfl) lay_12 rfl rfl hd k
theorem G_RX8_18 {cc : ByteArray} {nL d pc : Nat} {X : bX} {L : List (Option Value)} {S : List Value} {w : Wd} (hX : bOk cc nL RX8 d X) (hd : decode cc pc = .ok (.getfield 18, 3)) (k : bV X (pc + 3) L (.ref 15 :: S) w) : bV X pc L (.ref 12 :: S) w := V_getf (v := .ref 15) hX fl_RX8_18 cl_8 (Nat.le_of_ble_eq_true rfl) lay_12 rfl rfl hd k
theorem G_RX8_21 {cc : ByteArray} {nL d pc : Nat} {X : bX} {L : List (Option Value)} {S : List Value} {w : Wd} (hX : bOk cc nL RX8 d X) (hd : decode cc pc = .ok (.getfield 21, 3)) (k : bV X (pc + 3) L (.ref 16 :: S) w) : bV X pc L (.ref 12 :: S) w := V_getf (v := .ref 16) hX fl_RX8_21 cl_8 (Nat.le_of_ble_eq_true rfl) lay_12 rfl rfl hd k
theorem G_RX8_24 {cc : ByteArray} {nL d pc : Nat} {X : bX} {L : List (Option Value)} {S : List Value} {w : Wd} (hX : bOk cc nL RX8 d X) (hd : decode cc pc = .ok (.getfield 24, 3)) (k : bV X (pc + 3) L (.ref 5 :: S) w) : bV X pc L (.ref 12 :: S) w := V_getf (v := .ref 5) hX fl_RX8_24 cl_8 (Nat.le_of_ble_eq_true rfl) lay_12 rfl rfl hd k
theorem G_RX8_60 {cc : ByteArray} {nL d pc : Nat} {X : bX} {L : List (Option Value)} {S : List Value} {w : Wd} (hX : bOk cc nL RX8 d X) (hd : decode cc pc = .ok (.getfield 60, 3)) (k : bV X (pc + 3) L (.ref 8 :: S) w) : bV X pc L (.ref 5 :: S) w := V_getf (v := .ref 8) hX fl_RX8_60 cl_0 (Nat.le_of_ble_eq_true rfl) lay_5 rfl rfl hd k
theorem G_RX8_63 {cc : ByteArray} {nL d pc : Nat} {X : bX} {L : List (Option Value)} {S : List Value} {w : Wd} (hX : bOk cc nL RX8 d X) (hd : decode cc pc = .ok (.getfield 63, 3)) (k : bV X (pc + 3) L (.ref 9 :: S) w) : bV X pc L (.ref 5 :: S) w := V_getf (v := .ref 9) hX fl_RX8_63 cl_0 (Nat.le_of_ble_eq_true rfl) lay_5 rfl rfl hd k
theorem G_RX8_98 {cc : ByteArray} {nL d pc : Nat} {X : bX} {L : List (Option Value)} {S : List Value} {w : Wd} (hX : bOk cc nL RX8 d X) (hd : decode cc pc = .ok (.getfield 98, 3)) (k : bV X (pc + 3) L (.int (w.1 5 0) :: S) w) : bV X pc L (.ref 5 :: S) w := V_getf (v := .int (w.1 5 0)) hX fl_RX8_98 cl_0 (Nat.le_of_ble_eq_true rfl) lay_5 rfl rfl hd k
theorem G_RX9_10 {cc : ByteArray} {nL d pc : Nat} {X : bX} {L : List (Option Value)} {S : List Value} {w : Wd} (hX : bOk cc nL RX9 d X) (hd : decode cc pc = .ok (.getfield 10, 3)) (k : bV X (pc + 3) L (.ref 1 :: S) w) : bV X pc L (.ref 0 :: S) w := V_getf (v := .ref 1) hX fl_RX9_10 cl_9 (Nat.le_of_ble_eq_true rfl) lay_0 rfl rfl hd k
theorem G_RX9_21 {cc : ByteArray} {nL d pc : Nat} {X : bX} {L : List (Option Value)} {S : List Value} {w : Wd} (hX : bOk cc nL RX9 d X) (hd : decode cc pc = .ok (.getfield 21, 3)) (k : bV X (pc + 3) L (.ref 3 :: S) w) : bV X pc L (.ref 0 :: S) w := V_getf (v := .ref 3) hX fl_RX9_21 cl_9 (Nat.le_of_ble_eq_true rfl) lay_0 rfl rfl hd k
theorem G_RX9_28 {cc : ByteArray} {nL d pc : Nat} {X : bX} {L : List (Option Value)} {S : List Value} {w : Wd} (hX : bOk cc nL RX9 d X) (hd : decode cc pc = .ok (.getfield 28, 3)) (k : bV X (pc + 3) L (.ref 5 :: S) w) : bV X pc L (.ref 0 :: S) w := V_getf (v := .ref 5) hX fl_RX9_28 cl_9 (Nat.le_of_ble_eq_true rfl) lay_0 rfl rfl hd k
theorem G_RX9_37 {cc : ByteArray} {nL d pc : Nat} {X : bX} {L : List (Option Value)} {S : List Value} {w : Wd} (hX : bOk cc nL RX9 d X) (hd : decode cc pc = .ok (.getfield 37, 3)) (k : bV X (pc + 3) L (.ref 12 :: S) w) : bV X pc L (.ref 0 :: S) w := V_getf (v := .ref 12) hX fl_RX9_37 cl_9 (Nat.le_of_ble_eq_true rfl) lay_0 rfl rfl hd k
theorem G_RX9_46 {cc : ByteArray} {nL d pc : Nat} {X : bX} {L : List (Option Value)} {S : List Value} {w : Wd} (hX : bOk cc nL RX9 d X) (hd : decode cc pc = .ok (.getfield 46, 3)) (k : bV X (pc + 3) L (.ref 17 :: S) w) : bV X pc L (.ref 0 :: S) w := V_getf (v := .ref 17) hX fl_RX9_46 cl_9 (Nat.le_of_ble_eq_true rfl) lay_0 rfl rfl hd k
theorem G_RX9_53 {cc : ByteArray} {nL d pc : Nat} {X : bX} {L : List (Option Value)} {S : List Value} {w : Wd} (hX : bOk cc nL RX9 d X) (hd : decode cc pc = .ok (.getfield 53, 3)) (k : bV X (pc + 3) L (.ref 19 :: S) w) : bV X pc L (.ref 0 :: S) w := V_getf (v := .ref 19) hX fl_RX9_53 cl_9 (Nat.le_of_ble_eq_true rfl) lay_0 rfl rfl hd k
theorem G_RX9_60 {cc : ByteArray} {nL d pc : Nat} {X : bX} {L : List (Option Value)} {S : List Value} {w : Wd} (hX : bOk cc nL RX9 d X) (hd : decode cc pc = .ok (.getfield 60, 3)) (k : bV X (pc + 3) L (.ref 20 :: S) w) : bV X pc L (.ref 0 :: S) w := V_getf (v := .ref 20) hX fl_RX9_60 cl_9 (Nat.le_of_ble_eq_true rfl) lay_0 rfl rfl hd k
theorem G_RX9_67 {cc : ByteArray} {nL d pc : Nat} {X : bX} {L : List (Option Value)} {S : List Value} {w : Wd} (hX : bOk cc nL RX9 d X) (hd : decode cc pc = .ok (.getfield 67, 3)) (k : bV X (pc + 3) L (.ref 27 :: S) w) : bV X pc L (.ref 0 :: S) w := V_getf (v := .ref 27) hX fl_RX9_67 cl_9 (Nat.le_of_ble_eq_true rfl) lay_0 rfl rfl hd k
theorem G_RX9_74 {cc : ByteArray} {nL d pc : Nat} {X : bX} {L : List (Option Value)} {S : List Value} {w : Wd} (hX : bOk cc nL RX9 d X) (hd : decode cc pc = .ok (.getfield 74, 3)) (k : bV X (pc + 3) L (.ref 29 :: S) w) : bV X pc L (.ref 0 :: S) w := V_getf (v := .ref 29) hX fl_RX9_74 cl_9 (Nat.le_of_ble_eq_true rfl) lay_0 rfl rfl hd k
theorem G_RX9_90 {cc : ByteArray} {nL d pc : Nat} {X : bX} {L : List (Option Value)} {S : List Value} {w : Wd} (hX : bOk cc nL RX9 d X) (hd : decode cc pc = .ok (.getfield 90, 3)) (k : bV X (pc + 3) L (.int (w.1 1 1) :: S) w) : bV X pc L (.ref 1 :: S) w := V_getf (v := .int (w.1 1 1)) hX fl_RX9_90 cl_6 (Nat.le_of_ble_eq_true rfl) lay_1 rfl rfl hd k
theorem G_RX9_98 {cc : ByteArray} {nL d pc : Nat} {X : bX} {L : List (Option Value)} {S : List Value} {w : Wd} (hX : bOk cc nL RX9 d X) (hd : decode cc pc = .ok (.getfield 98, 3)) (k : bV X (pc + 3) L (.int (w.1 3 2) :: S) w) : bV X pc L (.ref 3 :: S) w := V_getf (v := .int (w.1 3 2)) hX fl_RX9_98 cl_4 (Nat.le_of_ble_eq_true rfl) lay_3 rfl rfl hd k
theorem G_RX9_199 {cc : ByteArray} {nL d pc : Nat} {X : bX} {L : List (Option Value)} {S : List Value} {w : Wd} (hX : bOk cc nL RX9 d X) (hd : decode cc pc = .ok (.getfield 199, 3)) (k : bV X (pc + 3) L (.int (w.1 29 4) :: S) w) : bV X pc L (.ref 29 :: S) w := V_getf (v := .int (w.1 29 4)) hX fl_RX9_199 cl_2 (Nat.le_of_ble_eq_true rfl) lay_29 rfl rfl hd k
theorem G_RX9_222 {cc : ByteArray} {nL d pc : Nat} {X : bX} {L : List (Option Value)} {S : List Value} {w : Wd} (hX : bOk cc nL RX9 d X) (hd : decode cc pc = .ok (.getfield 222, 3)) (k : bV X (pc + 3) L (.int (w.1 5 0) :: S) w) : bV X pc L (.ref 5 :: S) w := V_getf (v := .int (w.1 5 0)) hX fl_RX9_222 cl_0 (Nat.le_of_ble_eq_true rfl) lay_5 rfl rfl hd k
theorem G_RX9_225 {cc : ByteArray} {nL d pc : Nat} {X : bX} {L : List (Option Value)} {S : List Value} {w : Wd} (hX : bOk cc nL RX9 d X) (hd : decode cc pc = .ok (.getfield 225, 3)) (k : bV X (pc + 3) L (.int (w.1 5 6) :: S) w) : bV X pc L (.ref 5 :: S) w := V_getf (v := .int (w.1 5 6)) hX fl_RX9_225 cl_0 (Nat.le_of_ble_eq_true rfl) lay_5 rfl rfl hd k
theorem G_RX9_228 {cc : ByteArray} {nL d pc : Nat} {X : bX} {L : List (Option Value)} {S : List Value} {w : Wd} (hX : bOk cc nL RX9 d X) (hd : decode cc pc = .ok (.getfield 228, 3)) (k : bV X (pc + 3) L (.int (w.1 5 7) :: S) w) : bV X pc L (.ref 5 :: S) w := V_getf (v := .int (w.1 5 7)) hX fl_RX9_228 cl_0 (Nat.le_of_ble_eq_true rfl) lay_5 rfl rfl hd k
theorem G_RX9_234 {cc : ByteArray} {nL d pc : Nat} {X : bX} {L : List (Option Value)} {S : List Value} {w : Wd} (hX : bOk cc nL RX9 d X) (hd : decode cc pc = .ok (.getfield 234, 3)) (k : bV X (pc + 3) L (.int (w.1 5 9) :: S) w) : bV X pc L (.ref 5 :: S) w := V_getf (v := .int (w.1 5 9)) hX fl_RX9_234 cl_0 (Nat.le_of_ble_eq_true rfl) lay_5 rfl rfl hd k
theorem G_RX9_237 {cc : ByteArray} {nL d pc : Nat} {X : bX} {L : List (Option Value)} {S : List Value} {w : Wd} (hX : bOk cc nL RX9 d X) (hd : decode cc pc = .ok (.getfield 237, 3)) (k : bV X (pc + 3) L (.int (w.1 5 10) :: S) w) : bV X pc L (.ref 5 :: S) w := V_getf (v := .int (w.1 5 10)) hX fl_RX9_237 cl_0 (Nat.le_of_ble_eq_true rfl) lay_5 rfl rfl hd k
theorem pt_0_0 : ptOk 0 0 .int = true := by decide +kernel
theorem pt_0_6 : ptOk 0 6 .int = true := by decide +kernel
theorem pt_0_7 : ptOk 0 7 .int = true := by decide +kernel
theorem pt_0_9 : ptOk 0 9 .int = true := by decide +kernel
theorem pt_0_10 : ptOk 0 10 .int = true := by decide +kernel
theorem pt_2_4 : ptOk 2 4 .int = true := by decide +kernel
theorem pt_4_2 : ptOk 4 2 .int = true := by decide +kernel
theorem pt_4_3 : ptOk 4 3 .int = true := by decide +kernel
theorem pt_4_4 : ptOk 4 4 .int = true := by decide +kernel
theorem pt_5_7 : ptOk 5 7 .int = true := by decide +kernel
theorem pt_5_8 : ptOk 5 8 .int = true := by decide +kernel
theorem pt_6_1 : ptOk 6 1 .int = true := by decide +kernel
theorem pt_10_0 : ptOk 10 0 .int = true := by decide +kernel
theorem pt_10_8 : ptOk 10 8 .int = true := by decide +kernel
theorem pt_10_11 : ptOk 10 11 .int = true := by decide +kernel
theorem pt_10_13 : ptOk 10 13 .int = true := by decide +kernel
theorem pt_10_14 : ptOk 10 14 .int = true := by decide +kernel
theorem pt_10_15 : ptOk 10 15 .int = true := by decide +kernel
theorem pt_10_17 : ptOk 10 17 .int = true := by decide +kernel
theorem pt_10_18 : ptOk 10 18 .int = true := by decide +kernel
theorem pt_10_19 : ptOk 10 19 .long = true := by decide +kernel
theorem pt_10_20 : ptOk 10 20 .int = true := by decide +kernel
theorem pt_10_21 : ptOk 10 21 .int = true := by decide +kernel
theorem pt_10_22 : ptOk 10 22 .int = true := by decide +kernel
theorem pt_10_23 : ptOk 10 23 .int = true := by decide +kernel
theorem pt_10_32 : ptOk 10 32 .int = true := by decide +kernel
theorem pt_10_33 : ptOk 10 33 .int = true := by decide +kernel
theorem pt_10_35 : ptOk 10 35 .int = true := by decide +kernel
theorem P_RX0_30 {cc : ByteArray} {nL d pc : Nat} {X : bX} {L : List (Option Value)} {S : List Value} {w : Wd} {x : Int32} (hX : bOk cc nL RX0 d X) (hd : decode cc pc = .ok (.putfield 30, 3)) (k : bV X (pc + 3) L S (wS w 5 9 x)) : bV X pc L (.int x :: .ref 5 :: S) w := V_putf hX fl_RX0_30 cl_0 pt_0_9 (Nat.le_of_ble_eq_true rfl) lay_5 rfl hd k
theorem P_RX0_34 {cc : ByteArray} {nL d pc : Nat} {X : bX} {L : List (Option Value)} {S : List Value} {w : Wd} {x : Int32} (hX : bOk cc nL RX0 d X) (hd : decode cc pc = .ok (.putfield 34, 3)) (k : bV X (pc + 3) L S (wS w 5 10 x)) : bV X pc L (.int x :: .ref 5 :: S) w := V_putf hX fl_RX0_34 cl_0 pt_0_10 (Nat.le_of_ble_eq_true rfl) lay_5 rfl hd k
theorem P_RX0_45 {cc : ByteArray} {nL d pc : Nat} {X : bX} {L : List (Option Value)} {S : List Value} {w : Wd} {x : Int32} (hX : bOk cc nL RX0 d X) (hd : decode cc pc = .ok (.putfield 45, 3)) (k : bV X (pc + 3) L S (wS w 5 0 x)) : bV X pc L (.int x :: .ref 5 :: S) w := V_putf hX fl_RX0_45 cl_0 pt_0_0 (Nat.le_of_ble_eq_true rfl) lay_5 rfl hd k
theorem P_RX0_74 {cc : ByteArray} {nL d pc : Nat} {X : bX} {L : List (Option Value)} {S : List Value} {w : Wd} {x : Int32} (hX : bOk cc nL RX0 d X) (hd : decode cc pc = .ok (.putfield 74, 3)) (k : bV X (pc + 3) L S (wS w 5 7 x)) : bV X pc L (.int x :: .ref 5 :: S) w := V_putf hX fl_RX0_74 cl_0 pt_0_7 (Nat.le_of_ble_eq_true rfl) lay_5 rfl hd k
theorem P_RX0_103 {cc : ByteArray} {nL d pc : Nat} {X : bX} {L : List (Option Value)} {S : List Value} {w : Wd} {x : Int32} (hX : bOk cc nL RX0 d X) (hd : decode cc pc = .ok (.putfield 103, 3)) (k : bV X (pc + 3) L S (wS w 5 6 x)) : bV X pc L (.int x :: .ref 5 :: S) w := V_putf hX fl_RX0_103 cl_0 pt_0_6 (Nat.le_of_ble_eq_true rfl) lay_5 rfl hd k
theorem P_RX10_40 {cc : ByteArray} {nL d pc : Nat} {X : bX} {L : List (Option Value)} {S : List Value} {w : Wd} {x : Int32} (hX : bOk cc nL RX10 d X) (hd : decode cc pc = .ok (.putfield 40, 3)) (k : bV X (pc + 3) L S (wS w 33 13 x)) : bV X pc L (.int x :: .ref 33 :: S) w := V_putf hX fl_RX10_40 cl_10 pt_10_13 (Nat.le_of_ble_eq_true rfl) lay_33 rfl hd k
theorem P_RX10_44 {cc : ByteArray} {nL d pc : Nat} {X : bX} {L : List (Option Value)} {S : List Value} {w : Wd} {x : Int32} (hX : bOk cc nL RX10 d X) (hd : decode cc pc = .ok (.putfield 44, 3)) (k : bV X (pc + 3) L S (wS w 33 14 x)) : bV X pc L (.int x :: .ref 33 :: S) w := V_putf hX fl_RX10_44 cl_10 pt_10_14 (Nat.le_of_ble_eq_true rfl) lay_33 rfl hd k
theorem P_RX10_90 {cc : ByteArray} {nL d pc : Nat} {X : bX} {L : List (Option Value)} {S : List Value} {w : Wd} {x : Int32} (hX : bOk cc nL RX10 d X) (hd : decode cc pc = .ok (.putfield 90, 3)) (k : bV X (pc + 3) L S (wS w 33 0 x)) : bV X pc L (.int x :: .ref 33 :: S) w := V_putf hX fl_RX10_90 cl_10 pt_10_0 (Nat.le_of_ble_eq_true rfl) lay_33 rfl hd k
theorem P_RX10_97 {cc : ByteArray} {nL d pc : Nat} {X : bX} {L : List (Option Value)} {S : List Value} {w : Wd} {x : Int32} (hX : bOk cc nL RX10 d X) (hd : decode cc pc = .ok (.putfield 97, 3)) (k : bV X (pc + 3) L S (wS w 33 15 x)) : bV X pc L (.int x :: .ref 33 :: S) w := V_putf hX fl_RX10_97 cl_10 pt_10_15 (Nat.le_of_ble_eq_true rfl) lay_33 rfl hd k
theorem P_RX10_102 {cc : ByteArray} {nL d pc : Nat} {X : bX} {L : List (Option Value)} {S : List Value} {w : Wd} {x : Int32} (hX : bOk cc nL RX10 d X) (hd : decode cc pc = .ok (.putfield 102, 3)) (k : bV X (pc + 3) L S (wS w 33 17 x)) : bV X pc L (.int x :: .ref 33 :: S) w := V_putf hX fl_RX10_102 cl_10 pt_10_17 (Nat.le_of_ble_eq_true rfl) lay_33 rfl hd k
theorem P_RX10_105 {cc : ByteArray} {nL d pc : Nat} {X : bX} {L : List (Option Value)} {S : List Value} {w : Wd} {x : Int32} (hX : bOk cc nL RX10 d X) (hd : decode cc pc = .ok (.putfield 105, 3)) (k : bV X (pc + 3) L S (wS w 33 18 x)) : bV X pc L (.int x :: .ref 33 :: S) w := V_putf hX fl_RX10_105 cl_10 pt_10_18 (Nat.le_of_ble_eq_true rfl) lay_33 rfl hd k
theorem P_RX10_108 {cc : ByteArray} {nL d pc : Nat} {X : bX} {L : List (Option Value)} {S : List Value} {w : Wd} {x : Int32} (hX : bOk cc nL RX10 d X) (hd : decode cc pc = .ok (.putfield 108, 3)) (k : bV X (pc + 3) L S (wS w 33 20 x)) : bV X pc L (.int x :: .ref 33 :: S) w := V_putf hX fl_RX10_108 cl_10 pt_10_20 (Nat.le_of_ble_eq_true rfl) lay_33 rfl hd k
theorem P_RX10_111 {cc : ByteArray} {nL d pc : Nat} {X : bX} {L : List (Option Value)} {S : List Value} {w : Wd} {x : Int32} (hX : bOk cc nL RX10 d X) (hd : decode cc pc = .ok (.putfield 111, 3)) (k : bV X (pc + 3) L S (wS w 33 21 x)) : bV X pc L (.int x :: .ref 33 :: S) w := V_putf hX fl_RX10_111 cl_10 pt_10_21 (Nat.le_of_ble_eq_true rfl) lay_33 rfl hd k
theorem P_RX10_116 {cc : ByteArray} {nL d pc : Nat} {X : bX} {L : List (Option Value)} {S : List Value} {w : Wd} {x : Int64} (hX : bOk cc nL RX10 d X) (hd : decode cc pc = .ok (.putfield 116, 3)) (k : bV X (pc + 3) L S (wL w x)) : bV X pc L (.long x :: .ref 33 :: S) w := V_putl hX fl_RX10_116 cl_10 pt_10_19 lay_33 rfl lng_one hd k
theorem P_RX10_130 {cc : ByteArray} {nL d pc : Nat} {X : bX} {L : List (Option Value)} {S : List Value} {w : Wd} {x : Int32} (hX : bOk cc nL RX10 d X) (hd : decode cc pc = .ok (.putfield 130, 3)) (k : bV X (pc + 3) L S (wS w 33 22 x)) : bV X pc L (.int x :: .ref 33 :: S) w := V_putf hX fl_RX10_130 cl_10 pt_10_22 (Nat.le_of_ble_eq_true rfl) lay_33 rfl hd k
theorem P_RX10_175 {cc : ByteArray} {nL d pc : Nat} {X : bX} {L : List (Option Value)} {S : List Value} {w : Wd} {x : Int32} (hX : bOk cc nL RX10 d X) (hd : decode cc pc = .ok (.putfield 175, 3)) (k : bV X (pc + 3) L S (wS w 33 23 x)) : bV X pc L (.int x :: .ref 33 :: S) w := V_putf hX fl_RX10_175 cl_10 pt_10_23 (Nat.le_of_ble_eq_true rfl) lay_33 rfl hd k
theorem P_RX10_196 {cc : ByteArray} {nL d pc : Nat} {X : bX} {L : List (Option Value)} {S : List Value} {w : Wd} {x : Int32} (hX : bOk cc nL RX10 d X) (hd : decode cc pc = .ok (.putfield 196, 3)) (k : bV X (pc + 3) L S (wS w 33 8 x)) : bV X pc L (.int x :: .ref 33 :: S) w := V_putf hX fl_RX10_196 cl_10 pt_10_8 (Nat.le_of_ble_eq_true rfl) lay_33 rfl hd k
theorem P_RX10_199 {cc : ByteArray} {nL d pc : Nat} {X : bX} {L : List (Option Value)} {S : List Value} {w : Wd} {x : Int32} (hX : bOk cc nL RX10 d X) (hd : decode cc pc = .ok (.putfield 199, 3)) (k : bV X (pc + 3) L S (wS w 33 11 x)) : bV X pc L (.int x :: .ref 33 :: S) w := V_putf hX fl_RX10_199 cl_10 pt_10_11 (Nat.le_of_ble_eq_true rfl) lay_33 rfl hd k
theorem P_RX10_276 {cc : ByteArray} {nL d pc : Nat} {X : bX} {L : List (Option Value)} {S : List Value} {w : Wd} {x : Int32} (hX : bOk cc nL RX10 d X) (hd : decode cc pc = .ok (.putfield 276, 3)) (k : bV X (pc + 3) L S (wS w 33 32 x)) : bV X pc L (.int x :: .ref 33 :: S) w := V_putf hX fl_RX10_276 cl_10 pt_10_32 (Nat.le_of_ble_eq_true rfl) lay_33 rfl hd k
theorem P_RX10_279 {cc : ByteArray} {nL d pc : Nat} {X : bX} {L : List (Option Value)} {S : List Value} {w : Wd} {x : Int32} (hX : bOk cc nL RX10 d X) (hd : decode cc pc = .ok (.putfield 279, 3)) (k : bV X (pc + 3) L S (wS w 33 33 x)) : bV X pc L (.int x :: .ref 33 :: S) w := V_putf hX fl_RX10_279 cl_10 pt_10_33 (Nat.le_of_ble_eq_true rfl) lay_33 rfl hd k
theorem P_RX10_294 {cc : ByteArray} {nL d pc : Nat} {X : bX} {L : List (Option Value)} {S : List Value} {w : Wd} {x : Int32} (hX : bOk cc nL RX10 d X) (hd : decode cc pc = .ok (.putfield 294, 3)) (k : bV X (pc + 3) L S (wS w 33 35 x)) : bV X pc L (.int x :: .ref 33 :: S) w := V_putf hX fl_RX10_294 cl_10 pt_10_35 (Nat.le_of_ble_eq_true rfl) lay_33 rfl hd k
theorem P_RX2_25 {cc : ByteArray} {nL d pc : Nat} {X : bX} {L : List (Option Value)} {S : List Value} {w : Wd} {x : Int32} (hX : bOk cc nL RX2 d X) (hd : decode cc pc = .ok (.putfield 25, 3)) (k : bV X (pc + 3) L S (wS w 29 4 x)) : bV X pc L (.int x :: .ref 29 :: S) w := V_putf hX fl_RX2_25 cl_2 pt_2_4 (Nat.le_of_ble_eq_true rfl) lay_29 rfl hd k
theorem P_RX4_19 {cc : ByteArray} {nL d pc : Nat} {X : bX} {L : List (Option Value)} {S : List Value} {w : Wd} {x : Int32} (hX : bOk cc nL RX4 d X) (hd : decode cc pc = .ok (.putfield 19, 3)) (k : bV X (pc + 3) L S (wS w 3 2 x)) : bV X pc L (.int x :: .ref 3 :: S) w := V_putf hX fl_RX4_19 cl_4 pt_4_2 (Nat.le_of_ble_eq_true rfl) lay_3 rfl hd k
theorem P_RX4_23 {cc : ByteArray} {nL d pc : Nat} {X : bX} {L : List (Option Value)} {S : List Value} {w : Wd} {x : Int32} (hX : bOk cc nL RX4 d X) (hd : decode cc pc = .ok (.putfield 23, 3)) (k : bV X (pc + 3) L S (wS w 3 4 x)) : bV X pc L (.int x :: .ref 3 :: S) w := V_putf hX fl_RX4_23 cl_4 pt_4_4 (Nat.le_of_ble_eq_true rfl) lay_3 rfl hd k
theorem P_RX4_30 {cc : ByteArray} {nL d pc : Nat} {X : bX} {L : List (Option Value)} {S : List Value} {w : Wd} {x : Int32} (hX : bOk cc nL RX4 d X) (hd : decode cc pc = .ok (.putfield 30, 3)) (k : bV X (pc + 3) L S (wS w 3 3 x)) : bV X pc L (.int x :: .ref 3 :: S) w := V_putf hX fl_RX4_30 cl_4 pt_4_3 (Nat.le_of_ble_eq_true rfl) lay_3 rfl hd k
theorem P_RX5_54 {cc : ByteArray} {nL d pc : Nat} {X : bX} {L : List (Option Value)} {S : List Value} {w : Wd} {x : Int32} (hX : bOk cc nL RX5 d X) (hd : decode cc pc = .ok (.putfield 54, 3)) (k : bV X (pc + 3) L S (wS w 20 7 x)) : bV X pc L (.int x :: .ref 20 :: S) w := V_putf hX fl_RX5_54 cl_5 pt_5_7 (Nat.le_of_ble_eq_true rfl) lay_20 rfl hd k
theorem P_RX5_58 {cc : ByteArray} {nL d pc : Nat} {X : bX} {L : List (Option Value)} {S : List Value} {w : Wd} {x : Int32} (hX : bOk cc nL RX5 d X) (hd : decode cc pc = .ok (.putfield 58, 3)) (k : bV X (pc + 3) L S (wS w 20 8 x)) : bV X pc L (.int x :: .ref 20 :: S) w := V_putf hX fl_RX5_58 cl_5 pt_5_8 (Nat.le_of_ble_eq_true rfl) lay_20 rfl hd k
theorem P_RX6_13 {cc : ByteArray} {nL d pc : Nat} {X : bX} {L : List (Option Value)} {S : List Value} {w : Wd} {x : Int32} (hX : bOk cc nL RX6 d X) (hd : decode cc pc = .ok (.putfield 13, 3)) (k : bV X (pc + 3) L S (wS w 1 1 x)) : bV X pc L (.int x :: .ref 1 :: S) w := V_putf hX fl_RX6_13 cl_6 pt_6_1 (Nat.le_of_ble_eq_true rfl) lay_1 rfl hd k
theorem P_RX9_90 {cc : ByteArray} {nL d pc : Nat} {X : bX} {L : List (Option Value)} {S : List Value} {w : Wd} {x : Int32} (hX : bOk cc nL RX9 d X) (hd : decode cc pc = .ok (.putfield 90, 3)) (k : bV X (pc + 3) L S (wS w 1 1 x)) : bV X pc L (.int x :: .ref 1 :: S) w := V_putf hX fl_RX9_90 cl_6 pt_6_1 (Nat.le_of_ble_eq_true rfl) lay_1 rfl hd k
theorem md_X9_at : mdOk yX9_at 2 = true := by decide +kernel
theorem co_X9_at : inGd (.code yX9_at cX9_at 2 (some .int)) = true := by decide +kernel
theorem iv_X9_at : isOk yX9_at = true := by decide +kernel
theorem md_X9_has : mdOk yX9_has 2 = true := by decide +kernel
theorem co_X9_has : inGd (.code yX9_has cX9_has 2 (some .boolean)) = true := by decide +kernel
theorem iv_X9_has : isOk yX9_has = true := by decide +kernel
theorem md_X9_isPair : mdOk yX9_isPair 2 = true := by decide +kernel
theorem co_X9_isPair : inGd (.code yX9_isPair cX9_isPair 3 (some .boolean)) = true := by decide +kernel
theorem iv_X9_isPair : ivOk yX9_isPair = true := by decide +kernel
theorem md_X9_oneIf : mdOk yX9_oneIf 1 = true := by decide +kernel
theorem co_X9_oneIf : inGd (.code yX9_oneIf cX9_oneIf 1 (some .int)) = true := by decide +kernel
theorem iv_X9_oneIf : isOk yX9_oneIf = true := by decide +kernel
theorem md_X9_put : mdOk yX9_put 3 = true := by decide +kernel
theorem co_X9_put : inGd (.code yX9_put cX9_put 3 none) = true := by decide +kernel
theorem iv_X9_put : isOk yX9_put = true := by decide +kernel
theorem md_X9_remainder : mdOk yX9_remainder 2 = true := by decide +kernel
theorem co_X9_remainder : inGd (.code yX9_remainder cX9_remainder 2 (some .int)) = true := by decide +kernel
theorem iv_X9_remainder : isOk yX9_remainder = true := by decide +kernel
theorem md_X9_within : mdOk yX9_within 3 = true := by decide +kernel
theorem co_X9_within : inGd (.code yX9_within cX9_within 3 (some .boolean)) = true := by decide +kernel
theorem iv_X9_within : isOk yX9_within = true := by decide +kernel
theorem md_X0_begins : mdOk yX0_begins 2 = true := by decide +kernel
theorem co_X0_begins : inGd (.code yX0_begins cX0_begins 3 (some .int)) = true := by decide +kernel
theorem iv_X0_begins : ivOk yX0_begins = true := by decide +kernel
theorem md_X0_boxPart : mdOk yX0_boxPart 2 = true := by decide +kernel
theorem co_X0_boxPart : inGd (.code yX0_boxPart cX0_boxPart 3 (some .int)) = true := by decide +kernel
theorem iv_X0_boxPart : ivOk yX0_boxPart = true := by decide +kernel
theorem md_X0_doLine : mdOk yX0_doLine 2 = true := by decide +kernel
theorem co_X0_doLine : inGd (.code yX0_doLine cX0_doLine 4 none) = true := by decide +kernel
theorem iv_X0_doLine : ivOk yX0_doLine = true := by decide +kernel
theorem md_X0_ends : mdOk yX0_ends 2 = true := by decide +kernel
theorem co_X0_ends : inGd (.code yX0_ends cX0_ends 3 (some .int)) = true := by decide +kernel
theorem iv_X0_ends : ivOk yX0_ends = true := by decide +kernel
theorem md_X0_fittingTeams : mdOk yX0_fittingTeams 1 = true := by decide +kernel
theorem co_X0_fittingTeams : inGd (.code yX0_fittingTeams cX0_fittingTeams 5 (some .int)) = true := by decide +kernel
theorem iv_X0_fittingTeams : ivOk yX0_fittingTeams = true := by decide +kernel
theorem md_X0_isBundle : mdOk yX0_isBundle 1 = true := by decide +kernel
theorem co_X0_isBundle : inGd (.code yX0_isBundle cX0_isBundle 2 (some .boolean)) = true := by decide +kernel
theorem iv_X0_isBundle : ivOk yX0_isBundle = true := by decide +kernel
theorem md_X0_isThing : mdOk yX0_isThing 1 = true := by decide +kernel
theorem co_X0_isThing : inGd (.code yX0_isThing cX0_isThing 2 (some .boolean)) = true := by decide +kernel
theorem iv_X0_isThing : ivOk yX0_isThing = true := by decide +kernel
theorem md_X0_part : mdOk yX0_part 2 = true := by decide +kernel
theorem co_X0_part : inGd (.code yX0_part cX0_part 3 (some .int)) = true := by decide +kernel
theorem iv_X0_part : ivOk yX0_part = true := by decide +kernel
theorem md_X0_rightUnder : mdOk yX0_rightUnder 1 = true := by decide +kernel
theorem co_X0_rightUnder : inGd (.code yX0_rightUnder cX0_rightUnder 2 (some .int)) = true := by decide +kernel
theorem iv_X0_rightUnder : ivOk yX0_rightUnder = true := by decide +kernel
theorem md_X0_teamPart : mdOk yX0_teamPart 2 = true := by decide +kernel
theorem co_X0_teamPart : inGd (.code yX0_teamPart cX0_teamPart 3 (some .int)) = true := by decide +kernel
theorem iv_X0_teamPart : ivOk yX0_teamPart = true := by decide +kernel
theorem md_X0_tellBundle : mdOk yX0_tellBundle 3 = true := by decide +kernel
theorem co_X0_tellBundle : inGd (.code yX0_tellBundle cX0_tellBundle 6 none) = true := by decide +kernel
theorem iv_X0_tellBundle : ivOk yX0_tellBundle = true := by decide +kernel
theorem md_X0_tellMark : mdOk yX0_tellMark 3 = true := by decide +kernel
theorem co_X0_tellMark : inGd (.code yX0_tellMark cX0_tellMark 5 none) = true := by decide +kernel
theorem iv_X0_tellMark : ivOk yX0_tellMark = true := by decide +kernel
theorem md_X0_tellPair : mdOk yX0_tellPair 2 = true := by decide +kernel
theorem co_X0_tellPair : inGd (.code yX0_tellPair cX0_tellPair 4 none) = true := by decide +kernel
theorem iv_X0_tellPair : ivOk yX0_tellPair = true := by decide +kernel
theorem md_X0_tellTeam : mdOk yX0_tellTeam 3 = true := by decide +kernel
theorem co_X0_tellTeam : inGd (.code yX0_tellTeam cX0_tellTeam 5 none) = true := by decide +kernel
theorem iv_X0_tellTeam : ivOk yX0_tellTeam = true := by decide +kernel
theorem md_X0_toldBundles : mdOk yX0_toldBundles 0 = true := by decide +kernel
theorem co_X0_toldBundles : inGd (.code yX0_toldBundles cX0_toldBundles 1 (some .int)) = true := by decide +kernel
theorem iv_X0_toldBundles : ivOk yX0_toldBundles = true := by decide +kernel
theorem md_X0_yards : mdOk yX0_yards 1 = true := by decide +kernel
theorem co_X0_yards : inGd (.code yX0_yards cX0_yards 2 (some .int)) = true := by decide +kernel
theorem iv_X0_yards : ivOk yX0_yards = true := by decide +kernel
theorem md_X0_yardsBetween : mdOk yX0_yardsBetween 3 = true := by decide +kernel
theorem co_X0_yardsBetween : inGd (.code yX0_yardsBetween cX0_yardsBetween 4 (some .int)) = true := by decide +kernel
theorem iv_X0_yardsBetween : ivOk yX0_yardsBetween = true := by decide +kernel
theorem md_X1_areAlike : mdOk yX1_areAlike 3 = true := by decide +kernel
theorem co_X1_areAlike : inGd (.code yX1_areAlike cX1_areAlike 4 (some .boolean)) = true := by decide +kernel
theorem iv_X1_areAlike : ivOk yX1_areAlike = true := by decide +kernel
theorem md_X1_areInLine : mdOk yX1_areInLine 2 = true := by decide +kernel
theorem co_X1_areInLine : inGd (.code yX1_areInLine cX1_areInLine 6 (some .boolean)) = true := by decide +kernel
theorem iv_X1_areInLine : ivOk yX1_areInLine = true := by decide +kernel
theorem md_X1_areJoined : mdOk yX1_areJoined 2 = true := by decide +kernel
theorem co_X1_areJoined : inGd (.code yX1_areJoined cX1_areJoined 4 (some .boolean)) = true := by decide +kernel
theorem iv_X1_areJoined : ivOk yX1_areJoined = true := by decide +kernel
theorem md_X1_commonDivisor : mdOk yX1_commonDivisor 2 = true := by decide +kernel
theorem co_X1_commonDivisor : inGd (.code yX1_commonDivisor cX1_commonDivisor 3 (some .int)) = true := by decide +kernel
theorem iv_X1_commonDivisor : isOk yX1_commonDivisor = true := by decide +kernel
theorem md_X1_coversSome : mdOk yX1_coversSome 4 = true := by decide +kernel
theorem co_X1_coversSome : inGd (.code yX1_coversSome cX1_coversSome 5 (some .boolean)) = true := by decide +kernel
theorem iv_X1_coversSome : ivOk yX1_coversSome = true := by decide +kernel
theorem md_X1_firstYearOf : mdOk yX1_firstYearOf 1 = true := by decide +kernel
theorem co_X1_firstYearOf : inGd (.code yX1_firstYearOf cX1_firstYearOf 4 (some .int)) = true := by decide +kernel
theorem iv_X1_firstYearOf : ivOk yX1_firstYearOf = true := by decide +kernel
theorem md_X1_howManyFields : mdOk yX1_howManyFields 0 = true := by decide +kernel
theorem co_X1_howManyFields : inGd (.code yX1_howManyFields cX1_howManyFields 4 (some .int)) = true := by decide +kernel
theorem iv_X1_howManyFields : ivOk yX1_howManyFields = true := by decide +kernel
theorem md_X1_linkAll : mdOk yX1_linkAll 0 = true := by decide +kernel
theorem co_X1_linkAll : inGd (.code yX1_linkAll cX1_linkAll 4 none) = true := by decide +kernel
theorem iv_X1_linkAll : ivOk yX1_linkAll = true := by decide +kernel
theorem md_X1_marksBetween : mdOk yX1_marksBetween 2 = true := by decide +kernel
theorem co_X1_marksBetween : inGd (.code yX1_marksBetween cX1_marksBetween 11 (some .int)) = true := by decide +kernel
theorem iv_X1_marksBetween : ivOk yX1_marksBetween = true := by decide +kernel
theorem md_X1_membersWith : mdOk yX1_membersWith 1 = true := by decide +kernel
theorem co_X1_membersWith : inGd (.code yX1_membersWith cX1_membersWith 2 (some .int)) = true := by decide +kernel
theorem iv_X1_membersWith : ivOk yX1_membersWith = true := by decide +kernel
theorem md_X1_oddsPart : mdOk yX1_oddsPart 2 = true := by decide +kernel
theorem co_X1_oddsPart : inGd (.code yX1_oddsPart cX1_oddsPart 6 (some .int)) = true := by decide +kernel
theorem iv_X1_oddsPart : ivOk yX1_oddsPart = true := by decide +kernel
theorem md_X1_reachFrom : mdOk yX1_reachFrom 1 = true := by decide +kernel
theorem co_X1_reachFrom : inGd (.code yX1_reachFrom cX1_reachFrom 5 (some .int)) = true := by decide +kernel
theorem iv_X1_reachFrom : ivOk yX1_reachFrom = true := by decide +kernel
theorem md_X1_wouldDo : mdOk yX1_wouldDo 2 = true := by decide +kernel
theorem co_X1_wouldDo : inGd (.code yX1_wouldDo cX1_wouldDo 3 (some .boolean)) = true := by decide +kernel
theorem iv_X1_wouldDo : ivOk yX1_wouldDo = true := by decide +kernel
theorem md_X1_yardsOf : mdOk yX1_yardsOf 1 = true := by decide +kernel
theorem co_X1_yardsOf : inGd (.code yX1_yardsOf cX1_yardsOf 4 (some .int)) = true := by decide +kernel
theorem iv_X1_yardsOf : ivOk yX1_yardsOf = true := by decide +kernel
theorem md_X2_add : mdOk yX2_add 3 = true := by decide +kernel
theorem co_X2_add : inGd (.code yX2_add cX2_add 4 (some .boolean)) = true := by decide +kernel
theorem iv_X2_add : ivOk yX2_add = true := by decide +kernel
theorem md_X2_bestSun : mdOk yX2_bestSun 0 = true := by decide +kernel
theorem co_X2_bestSun : inGd (.code yX2_bestSun cX2_bestSun 5 (some .int)) = true := by decide +kernel
theorem iv_X2_bestSun : ivOk yX2_bestSun = true := by decide +kernel
theorem md_X2_due : mdOk yX2_due 0 = true := by decide +kernel
theorem co_X2_due : inGd (.code yX2_due cX2_due 3 (some .int)) = true := by decide +kernel
theorem iv_X2_due : ivOk yX2_due = true := by decide +kernel
theorem md_X2_dueIn : mdOk yX2_dueIn 1 = true := by decide +kernel
theorem co_X2_dueIn : inGd (.code yX2_dueIn cX2_dueIn 4 (some .int)) = true := by decide +kernel
theorem iv_X2_dueIn : ivOk yX2_dueIn = true := by decide +kernel
theorem md_X2_flat : mdOk yX2_flat 0 = true := by decide +kernel
theorem co_X2_flat : inGd (.code yX2_flat cX2_flat 1 (some .int)) = true := by decide +kernel
theorem iv_X2_flat : ivOk yX2_flat = true := by decide +kernel
theorem md_X2_shouldShow : mdOk yX2_shouldShow 2 = true := by decide +kernel
theorem co_X2_shouldShow : inGd (.code yX2_shouldShow cX2_shouldShow 3 (some .boolean)) = true := by decide +kernel
theorem iv_X2_shouldShow : ivOk yX2_shouldShow = true := by decide +kernel
theorem md_X2_standing : mdOk yX2_standing 0 = true := by decide +kernel
theorem co_X2_standing : inGd (.code yX2_standing cX2_standing 3 (some .int)) = true := by decide +kernel
theorem iv_X2_standing : ivOk yX2_standing = true := by decide +kernel
theorem md_X3_isPloughed : mdOk yX3_isPloughed 3 = true := by decide +kernel
theorem co_X3_isPloughed : inGd (.code yX3_isPloughed cX3_isPloughed 5 (some .boolean)) = true := by decide +kernel
theorem iv_X3_isPloughed : ivOk yX3_isPloughed = true := by decide +kernel
theorem md_X3_yardsIn : mdOk yX3_yardsIn 2 = true := by decide +kernel
theorem co_X3_yardsIn : inGd (.code yX3_yardsIn cX3_yardsIn 5 (some .int)) = true := by decide +kernel
theorem iv_X3_yardsIn : ivOk yX3_yardsIn = true := by decide +kernel
theorem md_X3_yearOfLoss : mdOk yX3_yearOfLoss 2 = true := by decide +kernel
theorem co_X3_yearOfLoss : inGd (.code yX3_yearOfLoss cX3_yearOfLoss 5 (some .int)) = true := by decide +kernel
theorem iv_X3_yearOfLoss : ivOk yX3_yearOfLoss = true := by decide +kernel
theorem md_X3_yearOfMost : mdOk yX3_yearOfMost 0 = true := by decide +kernel
theorem co_X3_yearOfMost : inGd (.code yX3_yearOfMost cX3_yearOfMost 6 (some .int)) = true := by decide +kernel
theorem iv_X3_yearOfMost : ivOk yX3_yearOfMost = true := by decide +kernel
theorem md_X4_firstFault : mdOk yX4_firstFault 0 = true := by decide +kernel
theorem co_X4_firstFault : inGd (.code yX4_firstFault cX4_firstFault 2 (some .int)) = true := by decide +kernel
theorem iv_X4_firstFault : ivOk yX4_firstFault = true := by decide +kernel
theorem md_X4_kindOf : mdOk yX4_kindOf 1 = true := by decide +kernel
theorem co_X4_kindOf : inGd (.code yX4_kindOf cX4_kindOf 2 (some .int)) = true := by decide +kernel
theorem iv_X4_kindOf : ivOk yX4_kindOf = true := by decide +kernel
theorem md_X4_kindTold : mdOk yX4_kindTold 0 = true := by decide +kernel
theorem co_X4_kindTold : inGd (.code yX4_kindTold cX4_kindTold 2 (some .int)) = true := by decide +kernel
theorem iv_X4_kindTold : ivOk yX4_kindTold = true := by decide +kernel
theorem md_X4_nameOf : mdOk yX4_nameOf 1 = true := by decide +kernel
theorem co_X4_nameOf : inGd (.code yX4_nameOf cX4_nameOf 1 (some (.object "java/lang/String"))) = true := by decide +kernel
theorem iv_X4_nameOf : isOk yX4_nameOf = true := by decide +kernel
theorem md_X4_number : mdOk yX4_number 2 = true := by decide +kernel
theorem co_X4_number : inGd (.code yX4_number cX4_number 3 (some .int)) = true := by decide +kernel
theorem iv_X4_number : ivOk yX4_number = true := by decide +kernel
theorem md_X4_readLine : mdOk yX4_readLine 1 = true := by decide +kernel
theorem co_X4_readLine : inGd (.code yX4_readLine cX4_readLine 7 (some .boolean)) = true := by decide +kernel
theorem iv_X4_readLine : ivOk yX4_readLine = true := by decide +kernel
theorem md_X4_sortOf : mdOk yX4_sortOf 1 = true := by decide +kernel
theorem co_X4_sortOf : inGd (.code yX4_sortOf cX4_sortOf 1 (some .int)) = true := by decide +kernel
theorem iv_X4_sortOf : isOk yX4_sortOf = true := by decide +kernel
theorem md_X4_takeToken : mdOk yX4_takeToken 0 = true := by decide +kernel
theorem co_X4_takeToken : inGd (.code yX4_takeToken cX4_takeToken 2 none) = true := by decide +kernel
theorem iv_X4_takeToken : ivOk yX4_takeToken = true := by decide +kernel
theorem md_X4_tokenIs : mdOk yX4_tokenIs 1 = true := by decide +kernel
theorem co_X4_tokenIs : inGd (.code yX4_tokenIs cX4_tokenIs 3 (some .boolean)) = true := by decide +kernel
theorem iv_X4_tokenIs : ivOk yX4_tokenIs = true := by decide +kernel
theorem md_X4_tokenNumber : mdOk yX4_tokenNumber 0 = true := by decide +kernel
theorem co_X4_tokenNumber : inGd (.code yX4_tokenNumber cX4_tokenNumber 3 (some .int)) = true := by decide +kernel
theorem iv_X4_tokenNumber : ivOk yX4_tokenNumber = true := by decide +kernel
theorem md_X4_valueIn : mdOk yX4_valueIn 2 = true := by decide +kernel
theorem co_X4_valueIn : inGd (.code yX4_valueIn cX4_valueIn 5 (some .int)) = true := by decide +kernel
theorem iv_X4_valueIn : ivOk yX4_valueIn = true := by decide +kernel
theorem md_X4_whichWord : mdOk yX4_whichWord 2 = true := by decide +kernel
theorem co_X4_whichWord : inGd (.code yX4_whichWord cX4_whichWord 3 (some .int)) = true := by decide +kernel
theorem iv_X4_whichWord : ivOk yX4_whichWord = true := by decide +kernel
theorem md_X5_answer : mdOk yX5_answer 1 = true := by decide +kernel
theorem co_X5_answer : inGd (.code yX5_answer cX5_answer 2 (some .int)) = true := by decide +kernel
theorem iv_X5_answer : ivOk yX5_answer = true := by decide +kernel
theorem md_X5_difference : mdOk yX5_difference 2 = true := by decide +kernel
theorem co_X5_difference : inGd (.code yX5_difference cX5_difference 3 (some .int)) = true := by decide +kernel
theorem iv_X5_difference : ivOk yX5_difference = true := by decide +kernel
theorem md_X5_giveAll : mdOk yX5_giveAll 0 = true := by decide +kernel
theorem co_X5_giveAll : inGd (.code yX5_giveAll cX5_giveAll 2 none) = true := by decide +kernel
theorem iv_X5_giveAll : ivOk yX5_giveAll = true := by decide +kernel
theorem md_X5_giveFrom : mdOk yX5_giveFrom 4 = true := by decide +kernel
theorem co_X5_giveFrom : inGd (.code yX5_giveFrom cX5_giveFrom 7 none) = true := by decide +kernel
theorem iv_X5_giveFrom : isOk yX5_giveFrom = true := by decide +kernel
theorem md_X5_howManyTold : mdOk yX5_howManyTold 0 = true := by decide +kernel
theorem co_X5_howManyTold : inGd (.code yX5_howManyTold cX5_howManyTold 3 (some .int)) = true := by decide +kernel
theorem iv_X5_howManyTold : ivOk yX5_howManyTold = true := by decide +kernel
theorem md_X5_isTold : mdOk yX5_isTold 1 = true := by decide +kernel
theorem co_X5_isTold : inGd (.code yX5_isTold cX5_isTold 2 (some .boolean)) = true := by decide +kernel
theorem iv_X5_isTold : ivOk yX5_isTold = true := by decide +kernel
theorem md_X5_keepIfBetter : mdOk yX5_keepIfBetter 1 = true := by decide +kernel
theorem co_X5_keepIfBetter : inGd (.code yX5_keepIfBetter cX5_keepIfBetter 3 none) = true := by decide +kernel
theorem iv_X5_keepIfBetter : ivOk yX5_keepIfBetter = true := by decide +kernel
theorem md_X5_openTo : mdOk yX5_openTo 1 = true := by decide +kernel
theorem co_X5_openTo : inGd (.code yX5_openTo cX5_openTo 4 (some .int)) = true := by decide +kernel
theorem iv_X5_openTo : ivOk yX5_openTo = true := by decide +kernel
theorem md_X5_suitingOf : mdOk yX5_suitingOf 1 = true := by decide +kernel
theorem co_X5_suitingOf : inGd (.code yX5_suitingOf cX5_suitingOf 4 (some .int)) = true := by decide +kernel
theorem iv_X5_suitingOf : ivOk yX5_suitingOf = true := by decide +kernel
theorem md_X5_tell : mdOk yX5_tell 3 = true := by decide +kernel
theorem co_X5_tell : inGd (.code yX5_tell cX5_tell 8 none) = true := by decide +kernel
theorem iv_X5_tell : ivOk yX5_tell = true := by decide +kernel
theorem md_X5_touchedBy : mdOk yX5_touchedBy 1 = true := by decide +kernel
theorem co_X5_touchedBy : inGd (.code yX5_touchedBy cX5_touchedBy 4 (some .int)) = true := by decide +kernel
theorem iv_X5_touchedBy : ivOk yX5_touchedBy = true := by decide +kernel
theorem md_X6_add : mdOk yX6_add 2 = true := by decide +kernel
theorem co_X6_add : inGd (.code yX6_add cX6_add 5 none) = true := by decide +kernel
theorem iv_X6_add : ivOk yX6_add = true := by decide +kernel
theorem md_X6_hasRoomFor : mdOk yX6_hasRoomFor 1 = true := by decide +kernel
theorem co_X6_hasRoomFor : inGd (.code yX6_hasRoomFor cX6_hasRoomFor 2 (some .boolean)) = true := by decide +kernel
theorem iv_X6_hasRoomFor : ivOk yX6_hasRoomFor = true := by decide +kernel
theorem md_X7_allAlike : mdOk yX7_allAlike 1 = true := by decide +kernel
theorem co_X7_allAlike : inGd (.code yX7_allAlike cX7_allAlike 4 (some .boolean)) = true := by decide +kernel
theorem iv_X7_allAlike : ivOk yX7_allAlike = true := by decide +kernel
theorem md_X7_areUnlike : mdOk yX7_areUnlike 2 = true := by decide +kernel
theorem co_X7_areUnlike : inGd (.code yX7_areUnlike cX7_areUnlike 5 (some .boolean)) = true := by decide +kernel
theorem iv_X7_areUnlike : ivOk yX7_areUnlike = true := by decide +kernel
theorem md_X7_holderByTurns : mdOk yX7_holderByTurns 1 = true := by decide +kernel
theorem co_X7_holderByTurns : inGd (.code yX7_holderByTurns cX7_holderByTurns 5 (some .int)) = true := by decide +kernel
theorem iv_X7_holderByTurns : ivOk yX7_holderByTurns = true := by decide +kernel
theorem md_X7_leastRound : mdOk yX7_leastRound 0 = true := by decide +kernel
theorem co_X7_leastRound : inGd (.code yX7_leastRound cX7_leastRound 2 (some .int)) = true := by decide +kernel
theorem iv_X7_leastRound : ivOk yX7_leastRound = true := by decide +kernel
theorem md_X7_tell : mdOk yX7_tell 2 = true := by decide +kernel
theorem co_X7_tell : inGd (.code yX7_tell cX7_tell 4 (some .int)) = true := by decide +kernel
theorem iv_X7_tell : ivOk yX7_tell = true := by decide +kernel
theorem md_X8_closeOver : mdOk yX8_closeOver 0 = true := by decide +kernel
theorem co_X8_closeOver : inGd (.code yX8_closeOver cX8_closeOver 3 none) = true := by decide +kernel
theorem iv_X8_closeOver : ivOk yX8_closeOver = true := by decide +kernel
theorem md_X8_earliestOf : mdOk yX8_earliestOf 1 = true := by decide +kernel
theorem co_X8_earliestOf : inGd (.code yX8_earliestOf cX8_earliestOf 2 (some .int)) = true := by decide +kernel
theorem iv_X8_earliestOf : ivOk yX8_earliestOf = true := by decide +kernel
theorem md_X8_firstOfHeight : mdOk yX8_firstOfHeight 2 = true := by decide +kernel
theorem co_X8_firstOfHeight : inGd (.code yX8_firstOfHeight cX8_firstOfHeight 4 (some .int)) = true := by decide +kernel
theorem iv_X8_firstOfHeight : ivOk yX8_firstOfHeight = true := by decide +kernel
theorem md_X8_latestOf : mdOk yX8_latestOf 1 = true := by decide +kernel
theorem co_X8_latestOf : inGd (.code yX8_latestOf cX8_latestOf 2 (some .int)) = true := by decide +kernel
theorem iv_X8_latestOf : ivOk yX8_latestOf = true := by decide +kernel
theorem md_X8_liesOverByOthers : mdOk yX8_liesOverByOthers 2 = true := by decide +kernel
theorem co_X8_liesOverByOthers : inGd (.code yX8_liesOverByOthers cX8_liesOverByOthers 3 (some .boolean)) = true := by decide +kernel
theorem iv_X8_liesOverByOthers : ivOk yX8_liesOverByOthers = true := by decide +kernel
theorem md_X8_measureHeights : mdOk yX8_measureHeights 0 = true := by decide +kernel
theorem co_X8_measureHeights : inGd (.code yX8_measureHeights cX8_measureHeights 4 (some .int)) = true := by decide +kernel
theorem iv_X8_measureHeights : ivOk yX8_measureHeights = true := by decide +kernel
theorem md_X8_raise : mdOk yX8_raise 2 = true := by decide +kernel
theorem co_X8_raise : inGd (.code yX8_raise cX8_raise 4 none) = true := by decide +kernel
theorem iv_X8_raise : ivOk yX8_raise = true := by decide +kernel
theorem md_X8_ringed : mdOk yX8_ringed 0 = true := by decide +kernel
theorem co_X8_ringed : inGd (.code yX8_ringed cX8_ringed 3 (some .int)) = true := by decide +kernel
theorem iv_X8_ringed : ivOk yX8_ringed = true := by decide +kernel
theorem md_X8_settle : mdOk yX8_settle 0 = true := by decide +kernel
theorem co_X8_settle : inGd (.code yX8_settle cX8_settle 3 (some .boolean)) = true := by decide +kernel
theorem iv_X8_settle : ivOk yX8_settle = true := by decide +kernel
theorem md_X8_stackAt : mdOk yX8_stackAt 1 = true := by decide +kernel
theorem co_X8_stackAt : inGd (.code yX8_stackAt cX8_stackAt 5 (some .int)) = true := by decide +kernel
theorem iv_X8_stackAt : ivOk yX8_stackAt = true := by decide +kernel
theorem md_X8_takeToldYears : mdOk yX8_takeToldYears 1 = true := by decide +kernel
theorem co_X8_takeToldYears : inGd (.code yX8_takeToldYears cX8_takeToldYears 8 none) = true := by decide +kernel
theorem iv_X8_takeToldYears : ivOk yX8_takeToldYears = true := by decide +kernel
theorem md_X8_tighten : mdOk yX8_tighten 2 = true := by decide +kernel
theorem co_X8_tighten : inGd (.code yX8_tighten cX8_tighten 4 none) = true := by decide +kernel
theorem iv_X8_tighten : ivOk yX8_tighten = true := by decide +kernel
theorem md_X10_apart : mdOk yX10_apart 4 = true := by decide +kernel
theorem co_X10_apart : inGd (.code yX10_apart cX10_apart 4 (some .int)) = true := by decide +kernel
theorem iv_X10_apart : isOk yX10_apart = true := by decide +kernel
theorem md_X10_areJoined : mdOk yX10_areJoined 2 = true := by decide +kernel
theorem co_X10_areJoined : inGd (.code yX10_areJoined cX10_areJoined 7 (some .boolean)) = true := by decide +kernel
theorem iv_X10_areJoined : ivOk yX10_areJoined = true := by decide +kernel
theorem md_X10_areTwo : mdOk yX10_areTwo 2 = true := by decide +kernel
theorem co_X10_areTwo : inGd (.code yX10_areTwo cX10_areTwo 3 (some .boolean)) = true := by decide +kernel
theorem iv_X10_areTwo : ivOk yX10_areTwo = true := by decide +kernel
theorem md_X10_areYears : mdOk yX10_areYears 0 = true := by decide +kernel
theorem co_X10_areYears : inGd (.code yX10_areYears cX10_areYears 4 (some .boolean)) = true := by decide +kernel
theorem iv_X10_areYears : ivOk yX10_areYears = true := by decide +kernel
theorem md_X10_beginOf : mdOk yX10_beginOf 1 = true := by decide +kernel
theorem co_X10_beginOf : inGd (.code yX10_beginOf cX10_beginOf 2 (some .int)) = true := by decide +kernel
theorem iv_X10_beginOf : ivOk yX10_beginOf = true := by decide +kernel
theorem md_X10_beginYears : mdOk yX10_beginYears 1 = true := by decide +kernel
theorem co_X10_beginYears : inGd (.code yX10_beginYears cX10_beginYears 6 none) = true := by decide +kernel
theorem iv_X10_beginYears : ivOk yX10_beginYears = true := by decide +kernel
theorem md_X10_between : mdOk yX10_between 2 = true := by decide +kernel
theorem co_X10_between : inGd (.code yX10_between cX10_between 3 (some .int)) = true := by decide +kernel
theorem iv_X10_between : ivOk yX10_between = true := by decide +kernel
theorem md_X10_bits : mdOk yX10_bits 1 = true := by decide +kernel
theorem co_X10_bits : inGd (.code yX10_bits cX10_bits 3 (some .int)) = true := by decide +kernel
theorem iv_X10_bits : isOk yX10_bits = true := by decide +kernel
theorem md_X10_broadOf : mdOk yX10_broadOf 1 = true := by decide +kernel
theorem co_X10_broadOf : inGd (.code yX10_broadOf cX10_broadOf 2 (some .int)) = true := by decide +kernel
theorem iv_X10_broadOf : ivOk yX10_broadOf = true := by decide +kernel
theorem md_X10_divisor : mdOk yX10_divisor 2 = true := by decide +kernel
theorem co_X10_divisor : inGd (.code yX10_divisor cX10_divisor 5 (some .int)) = true := by decide +kernel
theorem iv_X10_divisor : isOk yX10_divisor = true := by decide +kernel
theorem md_X10_doBundle : mdOk yX10_doBundle 1 = true := by decide +kernel
theorem co_X10_doBundle : inGd (.code yX10_doBundle cX10_doBundle 4 none) = true := by decide +kernel
theorem iv_X10_doBundle : ivOk yX10_doBundle = true := by decide +kernel
theorem md_X10_doLine : mdOk yX10_doLine 1 = true := by decide +kernel
theorem co_X10_doLine : inGd (.code yX10_doLine cX10_doLine 5 none) = true := by decide +kernel
theorem iv_X10_doLine : ivOk yX10_doLine = true := by decide +kernel
theorem md_X10_doTouch : mdOk yX10_doTouch 2 = true := by decide +kernel
theorem co_X10_doTouch : inGd (.code yX10_doTouch cX10_doTouch 3 (some .boolean)) = true := by decide +kernel
theorem iv_X10_doTouch : ivOk yX10_doTouch = true := by decide +kernel
theorem md_X10_doesShow : mdOk yX10_doesShow 2 = true := by decide +kernel
theorem co_X10_doesShow : inGd (.code yX10_doesShow cX10_doesShow 3 (some .boolean)) = true := by decide +kernel
theorem iv_X10_doesShow : ivOk yX10_doesShow = true := by decide +kernel
theorem md_X10_fails : mdOk yX10_fails 0 = true := by decide +kernel
theorem co_X10_fails : inGd (.code yX10_fails cX10_fails 1 (some .boolean)) = true := by decide +kernel
theorem iv_X10_fails : ivOk yX10_fails = true := by decide +kernel
theorem md_X10_fieldOf : mdOk yX10_fieldOf 1 = true := by decide +kernel
theorem co_X10_fieldOf : inGd (.code yX10_fieldOf cX10_fieldOf 7 (some .int)) = true := by decide +kernel
theorem iv_X10_fieldOf : ivOk yX10_fieldOf = true := by decide +kernel
theorem md_X10_findReach : mdOk yX10_findReach 0 = true := by decide +kernel
theorem co_X10_findReach : inGd (.code yX10_findReach cX10_findReach 4 none) = true := by decide +kernel
theorem iv_X10_findReach : ivOk yX10_findReach = true := by decide +kernel
theorem md_X10_giveAll : mdOk yX10_giveAll 0 = true := by decide +kernel
theorem co_X10_giveAll : inGd (.code yX10_giveAll cX10_giveAll 3 none) = true := by decide +kernel
theorem iv_X10_giveAll : ivOk yX10_giveAll = true := by decide +kernel
theorem md_X10_giveOne : mdOk yX10_giveOne 0 = true := by decide +kernel
theorem co_X10_giveOne : inGd (.code yX10_giveOne cX10_giveOne 3 none) = true := by decide +kernel
theorem iv_X10_giveOne : ivOk yX10_giveOne = true := by decide +kernel
theorem md_X10_in : mdOk yX10_in 3 = true := by decide +kernel
theorem co_X10_in : inGd (.code yX10_in cX10_in 3 (some .boolean)) = true := by decide +kernel
theorem iv_X10_in : isOk yX10_in = true := by decide +kernel
theorem md_X10_isBundle : mdOk yX10_isBundle 1 = true := by decide +kernel
theorem co_X10_isBundle : inGd (.code yX10_isBundle cX10_isBundle 2 (some .boolean)) = true := by decide +kernel
theorem iv_X10_isBundle : ivOk yX10_isBundle = true := by decide +kernel
theorem md_X10_isBundleLine : mdOk yX10_isBundleLine 1 = true := by decide +kernel
theorem co_X10_isBundleLine : inGd (.code yX10_isBundleLine cX10_isBundleLine 2 (some .boolean)) = true := by decide +kernel
theorem iv_X10_isBundleLine : ivOk yX10_isBundleLine = true := by decide +kernel
theorem md_X10_isLine : mdOk yX10_isLine 1 = true := by decide +kernel
theorem co_X10_isLine : inGd (.code yX10_isLine cX10_isLine 2 (some .boolean)) = true := by decide +kernel
theorem iv_X10_isLine : ivOk yX10_isLine = true := by decide +kernel
theorem md_X10_isNumber : mdOk yX10_isNumber 3 = true := by decide +kernel
theorem co_X10_isNumber : inGd (.code yX10_isNumber cX10_isNumber 4 (some .boolean)) = true := by decide +kernel
theorem iv_X10_isNumber : ivOk yX10_isNumber = true := by decide +kernel
theorem md_X10_isOff : mdOk yX10_isOff 2 = true := by decide +kernel
theorem co_X10_isOff : inGd (.code yX10_isOff cX10_isOff 3 (some .boolean)) = true := by decide +kernel
theorem iv_X10_isOff : ivOk yX10_isOff = true := by decide +kernel
theorem md_X10_isOneOf : mdOk yX10_isOneOf 3 = true := by decide +kernel
theorem co_X10_isOneOf : inGd (.code yX10_isOneOf cX10_isOneOf 6 (some .boolean)) = true := by decide +kernel
theorem iv_X10_isOneOf : ivOk yX10_isOneOf = true := by decide +kernel
theorem md_X10_isOverLine : mdOk yX10_isOverLine 1 = true := by decide +kernel
theorem co_X10_isOverLine : inGd (.code yX10_isOverLine cX10_isOverLine 2 (some .boolean)) = true := by decide +kernel
theorem iv_X10_isOverLine : ivOk yX10_isOverLine = true := by decide +kernel
theorem md_X10_isPair : mdOk yX10_isPair 2 = true := by decide +kernel
theorem co_X10_isPair : inGd (.code yX10_isPair cX10_isPair 3 (some .boolean)) = true := by decide +kernel
theorem iv_X10_isPair : ivOk yX10_isPair = true := by decide +kernel
theorem md_X10_isRead : mdOk yX10_isRead 0 = true := by decide +kernel
theorem co_X10_isRead : inGd (.code yX10_isRead cX10_isRead 2 (some .boolean)) = true := by decide +kernel
theorem iv_X10_isRead : ivOk yX10_isRead = true := by decide +kernel
theorem md_X10_isThing : mdOk yX10_isThing 1 = true := by decide +kernel
theorem co_X10_isThing : inGd (.code yX10_isThing cX10_isThing 2 (some .boolean)) = true := by decide +kernel
theorem iv_X10_isThing : ivOk yX10_isThing = true := by decide +kernel
theorem md_X10_mayHave : mdOk yX10_mayHave 2 = true := by decide +kernel
theorem co_X10_mayHave : inGd (.code yX10_mayHave cX10_mayHave 4 (some .boolean)) = true := by decide +kernel
theorem iv_X10_mayHave : ivOk yX10_mayHave = true := by decide +kernel
theorem md_X10_meets : mdOk yX10_meets 4 = true := by decide +kernel
theorem co_X10_meets : inGd (.code yX10_meets cX10_meets 4 (some .boolean)) = true := by decide +kernel
theorem iv_X10_meets : isOk yX10_meets = true := by decide +kernel
theorem md_X10_nextToken : mdOk yX10_nextToken 0 = true := by decide +kernel
theorem co_X10_nextToken : inGd (.code yX10_nextToken cX10_nextToken 1 none) = true := by decide +kernel
theorem iv_X10_nextToken : ivOk yX10_nextToken = true := by decide +kernel
theorem md_X10_of : mdOk yX10_of 2 = true := by decide +kernel
theorem co_X10_of : inGd (.code yX10_of cX10_of 3 (some .int)) = true := by decide +kernel
theorem iv_X10_of : ivOk yX10_of = true := by decide +kernel
theorem md_X10_offOf : mdOk yX10_offOf 2 = true := by decide +kernel
theorem co_X10_offOf : inGd (.code yX10_offOf cX10_offOf 4 (some .int)) = true := by decide +kernel
theorem iv_X10_offOf : ivOk yX10_offOf = true := by decide +kernel
theorem md_X10_place : mdOk yX10_place 5 = true := by decide +kernel
theorem co_X10_place : inGd (.code yX10_place cX10_place 6 none) = true := by decide +kernel
theorem iv_X10_place : ivOk yX10_place = true := by decide +kernel
theorem md_X10_ploughedIn : mdOk yX10_ploughedIn 2 = true := by decide +kernel
theorem co_X10_ploughedIn : inGd (.code yX10_ploughedIn cX10_ploughedIn 8 (some .int)) = true := by decide +kernel
theorem iv_X10_ploughedIn : ivOk yX10_ploughedIn = true := by decide +kernel
theorem md_X10_ringOf : mdOk yX10_ringOf 0 = true := by decide +kernel
theorem co_X10_ringOf : inGd (.code yX10_ringOf cX10_ringOf 3 (some .int)) = true := by decide +kernel
theorem iv_X10_ringOf : ivOk yX10_ringOf = true := by decide +kernel
theorem md_X10_roundOf : mdOk yX10_roundOf 0 = true := by decide +kernel
theorem co_X10_roundOf : inGd (.code yX10_roundOf cX10_roundOf 5 (some .int)) = true := by decide +kernel
theorem iv_X10_roundOf : ivOk yX10_roundOf = true := by decide +kernel
theorem md_X10_sideOf : mdOk yX10_sideOf 1 = true := by decide +kernel
theorem co_X10_sideOf : inGd (.code yX10_sideOf cX10_sideOf 2 (some .int)) = true := by decide +kernel
theorem iv_X10_sideOf : ivOk yX10_sideOf = true := by decide +kernel
theorem md_X10_teamsOf : mdOk yX10_teamsOf 1 = true := by decide +kernel
theorem co_X10_teamsOf : inGd (.code yX10_teamsOf cX10_teamsOf 4 (some .int)) = true := by decide +kernel
theorem iv_X10_teamsOf : ivOk yX10_teamsOf = true := by decide +kernel
theorem md_X10_yardsOf : mdOk yX10_yardsOf 1 = true := by decide +kernel
theorem co_X10_yardsOf : inGd (.code yX10_yardsOf cX10_yardsOf 2 (some .int)) = true := by decide +kernel
theorem iv_X10_yardsOf : ivOk yX10_yardsOf = true := by decide +kernel
theorem md_J6_bitCount_0f7a4 : mdOk yJ6_bitCount_0f7a4 1 = true := by decide +kernel
theorem co_J6_bitCount_0f7a4 : inGd (.code yJ6_bitCount_0f7a4 cJ6_bitCount_0f7a4 1 (some .int)) = true := by decide +kernel
theorem iv_J6_bitCount_0f7a4 : isOk yJ6_bitCount_0f7a4 = true := by decide +kernel
theorem md_J0_charAt_5068e : mdOk yJ0_charAt_5068e 1 = true := by decide +kernel
theorem co_J0_charAt_5068e : inGd (.code yJ0_charAt_5068e cJ0_charAt_5068e 2 (some .char)) = true := by decide +kernel
theorem iv_J0_charAt_5068e : ivOk yJ0_charAt_5068e = true := by decide +kernel
theorem md_J0_length_8abf5 : mdOk yJ0_length_8abf5 0 = true := by decide +kernel
theorem co_J0_length_8abf5 : inGd (.code yJ0_length_8abf5 cJ0_length_8abf5 1 (some .int)) = true := by decide +kernel
theorem iv_J0_length_8abf5 : ivOk yJ0_length_8abf5 = true := by decide +kernel
theorem lk_RX0_37 : lkOk RX0 37 yX9_put = true := by decide +kernel
theorem C_RX0_37 {cc : ByteArray} {nL d pc : Nat} {X : bX} {L : List (Option Value)} {S : List Value} {w : Wd} {w' : Wd} {a0 : Value} {a1 : Value} {a2 : Value} (hX : bOk cc nL RX0 (d + 1) X) (hC : Con d yX9_put cX9_put 3 none [a0, a1, a2] w none w') (hr : (S.map fun v => v.category).sum ≤ 8) (hd : decode cc pc = .ok (.invokestatic 37, 3)) (k : bV X (pc + 3) L S w') : bV X pc L (a2 :: a1 :: a0 :: S) w := V_callS (As := [a0, a1, a2]) hX hC lk_RX0_37 md_X9_put iv_X9_put co_X9_put (Nat.le_of_ble_eq_true rfl) rfl hr hd k
theorem lk_RX0_41 : lkOk RX0 41 yX9_within = true := by decide +kernel
theorem C_RX0_41 {cc : ByteArray} {nL d pc : Nat} {X : bX} {L : List (Option Value)} {S : List Value} {w : Wd} {w' : Wd} {a0 : Value} {a1 : Value} {a2 : Value} {x : Int32} (hX : bOk cc nL RX0 (d + 1) X) (hC : Con d yX9_within cX9_within 3 (some .boolean) [a0, a1, a2] w (some (.int x)) w') (hr : (S.map fun v => v.category).sum ≤ 8) (hd : decode cc pc = .ok (.invokestatic 41, 3)) (k : bV X (pc + 3) L (.int x :: S) w') : bV X pc L (a2 :: a1 :: a0 :: S) w := V_callS (As := [a0, a1, a2]) hX hC lk_RX0_41 md_X9_within iv_X9_within co_X9_within (Nat.le_of_ble_eq_true rfl) rfl hr hd k
theorem lk_RX0_48 : lkOk RX0 48 yX9_has = true := by decide +kernel
theorem C_RX0_48 {cc : ByteArray} {nL d pc : Nat} {X : bX} {L : List (Option Value)} {S : List Value} {w : Wd} {w' : Wd} {a0 : Value} {a1 : Value} {x : Int32} (hX : bOk cc nL RX0 (d + 1) X) (hC : Con d yX9_has cX9_has 2 (some .boolean) [a0, a1] w (some (.int x)) w') (hr : (S.map fun v => v.category).sum ≤ 8) (hd : decode cc pc = .ok (.invokestatic 48, 3)) (k : bV X (pc + 3) L (.int x :: S) w') : bV X pc L (a1 :: a0 :: S) w := V_callS (As := [a0, a1]) hX hC lk_RX0_48 md_X9_has iv_X9_has co_X9_has (Nat.le_of_ble_eq_true rfl) rfl hr hd k
theorem lk_RX0_52 : lkOk RX0 52 yX9_at = true := by decide +kernel
theorem C_RX0_52 {cc : ByteArray} {nL d pc : Nat} {X : bX} {L : List (Option Value)} {S : List Value} {w : Wd} {w' : Wd} {a0 : Value} {a1 : Value} {x : Int32} (hX : bOk cc nL RX0 (d + 1) X) (hC : Con d yX9_at cX9_at 2 (some .int) [a0, a1] w (some (.int x)) w') (hr : (S.map fun v => v.category).sum ≤ 8) (hd : decode cc pc = .ok (.invokestatic 52, 3)) (k : bV X (pc + 3) L (.int x :: S) w') : bV X pc L (a1 :: a0 :: S) w := V_callS (As := [a0, a1]) hX hC lk_RX0_52 md_X9_at iv_X9_at co_X9_at (Nat.le_of_ble_eq_true rfl) rfl hr hd k
theorem lk_RX0_56 : lkOk RX0 56 yX0_part = true := by decide +kernel
theorem C_RX0_56 {cc : ByteArray} {nL d pc : Nat} {X : bX} {L : List (Option Value)} {S : List Value} {w : Wd} {w' : Wd} {a0 : Value} {a1 : Value} {x : Int32} (hX : bOk cc nL RX0 (d + 1) X) (hC : Con d yX0_part cX0_part 3 (some .int) [.ref 5, a0, a1] w (some (.int x)) w') (hr : (S.map fun v => v.category).sum ≤ 8) (hd : decode cc pc = .ok (.invokevirtual 56, 3)) (k : bV X (pc + 3) L (.int x :: S) w') : bV X pc L (a1 :: a0 :: .ref 5 :: S) w := V_callV (As := [a0, a1]) hX hC lk_RX0_56 md_X0_part iv_X0_part co_X0_part (Nat.le_of_ble_eq_true rfl) (Nat.le_of_ble_eq_true rfl) lay_5 rfl rfl hr hd k
theorem lk_RX0_60 : lkOk RX0 60 yX0_begins = true := by decide +kernel
theorem C_RX0_60 {cc : ByteArray} {nL d pc : Nat} {X : bX} {L : List (Option Value)} {S : List Value} {w : Wd} {w' : Wd} {a0 : Value} {a1 : Value} {x : Int32} (hX : bOk cc nL RX0 (d + 1) X) (hC : Con d yX0_begins cX0_begins 3 (some .int) [.ref 5, a0, a1] w (some (.int x)) w') (hr : (S.map fun v => v.category).sum ≤ 8) (hd : decode cc pc = .ok (.invokevirtual 60, 3)) (k : bV X (pc + 3) L (.int x :: S) w') : bV X pc L (a1 :: a0 :: .ref 5 :: S) w := V_callV (As := [a0, a1]) hX hC lk_RX0_60 md_X0_begins iv_X0_begins co_X0_begins (Nat.le_of_ble_eq_true rfl) (Nat.le_of_ble_eq_true rfl) lay_5 rfl rfl hr hd k
theorem mt_RX0_63 : (inGd (.methodLink RX0 63 Lib.Math.max.name) && (inGd (.static Lib.Math.max.name) && (inGd (.initialized "java/lang/Math") && inGd (.code Lib.Math.max.name Lib.Math.max.code 2 (some .int))))) = true := by decide +kernel
theorem lk_RX0_68 : lkOk RX0 68 yX0_ends = true := by decide +kernel
theorem C_RX0_68 {cc : ByteArray} {nL d pc : Nat} {X : bX} {L : List (Option Value)} {S : List Value} {w : Wd} {w' : Wd} {a0 : Value} {a1 : Value} {x : Int32} (hX : bOk cc nL RX0 (d + 1) X) (hC : Con d yX0_ends cX0_ends 3 (some .int) [.ref 5, a0, a1] w (some (.int x)) w') (hr : (S.map fun v => v.category).sum ≤ 8) (hd : decode cc pc = .ok (.invokevirtual 68, 3)) (k : bV X (pc + 3) L (.int x :: S) w') : bV X pc L (a1 :: a0 :: .ref 5 :: S) w := V_callV (As := [a0, a1]) hX hC lk_RX0_68 md_X0_ends iv_X0_ends co_X0_ends (Nat.le_of_ble_eq_true rfl) (Nat.le_of_ble_eq_true rfl) lay_5 rfl rfl hr hd k
theorem mt_RX0_71 : (inGd (.methodLink RX0 71 Lib.Math.min.name) && (inGd (.static Lib.Math.min.name) && (inGd (.initialized "java/lang/Math") && inGd (.code Lib.Math.min.name Lib.Math.min.code 2 (some .int))))) = true := by decide +kernel
theorem lk_RX0_77 : lkOk RX0 77 yX0_teamPart = true := by decide +kernel
theorem C_RX0_77 {cc : ByteArray} {nL d pc : Nat} {X : bX} {L : List (Option Value)} {S : List Value} {w : Wd} {w' : Wd} {a0 : Value} {a1 : Value} {x : Int32} (hX : bOk cc nL RX0 (d + 1) X) (hC : Con d yX0_teamPart cX0_teamPart 3 (some .int) [.ref 5, a0, a1] w (some (.int x)) w') (hr : (S.map fun v => v.category).sum ≤ 8) (hd : decode cc pc = .ok (.invokevirtual 77, 3)) (k : bV X (pc + 3) L (.int x :: S) w') : bV X pc L (a1 :: a0 :: .ref 5 :: S) w := V_callV (As := [a0, a1]) hX hC lk_RX0_77 md_X0_teamPart iv_X0_teamPart co_X0_teamPart (Nat.le_of_ble_eq_true rfl) (Nat.le_of_ble_eq_true rfl) lay_5 rfl rfl hr hd k
theorem lk_RX0_80 : lkOk RX0 80 yX4_number = true := by decide +kernel
theorem C_RX0_80 {cc : ByteArray} {nL d pc : Nat} {X : bX} {L : List (Option Value)} {S : List Value} {w : Wd} {w' : Wd} {a0 : Value} {a1 : Value} {x : Int32} (hX : bOk cc nL RX0 (d + 1) X) (hC : Con d yX4_number cX4_number 3 (some .int) [.ref 3, a0, a1] w (some (.int x)) w') (hr : (S.map fun v => v.category).sum ≤ 8) (hd : decode cc pc = .ok (.invokevirtual 80, 3)) (k : bV X (pc + 3) L (.int x :: S) w') : bV X pc L (a1 :: a0 :: .ref 3 :: S) w := V_callV (As := [a0, a1]) hX hC lk_RX0_80 md_X4_number iv_X4_number co_X4_number (Nat.le_of_ble_eq_true rfl) (Nat.le_of_ble_eq_true rfl) lay_3 rfl rfl hr hd k
theorem lk_RX0_85 : lkOk RX0 85 yX4_kindOf = true := by decide +kernel
theorem C_RX0_85 {cc : ByteArray} {nL d pc : Nat} {X : bX} {L : List (Option Value)} {S : List Value} {w : Wd} {w' : Wd} {a0 : Value} {x : Int32} (hX : bOk cc nL RX0 (d + 1) X) (hC : Con d yX4_kindOf cX4_kindOf 2 (some .int) [.ref 3, a0] w (some (.int x)) w') (hr : (S.map fun v => v.category).sum ≤ 8) (hd : decode cc pc = .ok (.invokevirtual 85, 3)) (k : bV X (pc + 3) L (.int x :: S) w') : bV X pc L (a0 :: .ref 3 :: S) w := V_callV (As := [a0]) hX hC lk_RX0_85 md_X4_kindOf iv_X4_kindOf co_X4_kindOf (Nat.le_of_ble_eq_true rfl) (Nat.le_of_ble_eq_true rfl) lay_3 rfl rfl hr hd k
theorem lk_RX0_89 : lkOk RX0 89 yX0_tellBundle = true := by decide +kernel
theorem C_RX0_89 {cc : ByteArray} {nL d pc : Nat} {X : bX} {L : List (Option Value)} {S : List Value} {w : Wd} {w' : Wd} {a0 : Value} {a1 : Value} {a2 : Value} (hX : bOk cc nL RX0 (d + 1) X) (hC : Con d yX0_tellBundle cX0_tellBundle 6 none [.ref 5, a0, a1, a2] w none w') (hr : (S.map fun v => v.category).sum ≤ 8) (hd : decode cc pc = .ok (.invokevirtual 89, 3)) (k : bV X (pc + 3) L S w') : bV X pc L (a2 :: a1 :: a0 :: .ref 5 :: S) w := V_callV (As := [a0, a1, a2]) hX hC lk_RX0_89 md_X0_tellBundle iv_X0_tellBundle co_X0_tellBundle (Nat.le_of_ble_eq_true rfl) (Nat.le_of_ble_eq_true rfl) lay_5 rfl rfl hr hd k
theorem lk_RX0_93 : lkOk RX0 93 yX0_tellMark = true := by decide +kernel
theorem C_RX0_93 {cc : ByteArray} {nL d pc : Nat} {X : bX} {L : List (Option Value)} {S : List Value} {w : Wd} {w' : Wd} {a0 : Value} {a1 : Value} {a2 : Value} (hX : bOk cc nL RX0 (d + 1) X) (hC : Con d yX0_tellMark cX0_tellMark 5 none [.ref 5, a0, a1, a2] w none w') (hr : (S.map fun v => v.category).sum ≤ 8) (hd : decode cc pc = .ok (.invokevirtual 93, 3)) (k : bV X (pc + 3) L S w') : bV X pc L (a2 :: a1 :: a0 :: .ref 5 :: S) w := V_callV (As := [a0, a1, a2]) hX hC lk_RX0_93 md_X0_tellMark iv_X0_tellMark co_X0_tellMark (Nat.le_of_ble_eq_true rfl) (Nat.le_of_ble_eq_true rfl) lay_5 rfl rfl hr hd k
theorem lk_RX0_96 : lkOk RX0 96 yX0_tellPair = true := by decide +kernel
theorem C_RX0_96 {cc : ByteArray} {nL d pc : Nat} {X : bX} {L : List (Option Value)} {S : List Value} {w : Wd} {w' : Wd} {a0 : Value} {a1 : Value} (hX : bOk cc nL RX0 (d + 1) X) (hC : Con d yX0_tellPair cX0_tellPair 4 none [.ref 5, a0, a1] w none w') (hr : (S.map fun v => v.category).sum ≤ 8) (hd : decode cc pc = .ok (.invokevirtual 96, 3)) (k : bV X (pc + 3) L S w') : bV X pc L (a1 :: a0 :: .ref 5 :: S) w := V_callV (As := [a0, a1]) hX hC lk_RX0_96 md_X0_tellPair iv_X0_tellPair co_X0_tellPair (Nat.le_of_ble_eq_true rfl) (Nat.le_of_ble_eq_true rfl) lay_5 rfl rfl hr hd k
theorem lk_RX0_100 : lkOk RX0 100 yX0_tellTeam = true := by decide +kernel
theorem C_RX0_100 {cc : ByteArray} {nL d pc : Nat} {X : bX} {L : List (Option Value)} {S : List Value} {w : Wd} {w' : Wd} {a0 : Value} {a1 : Value} {a2 : Value} (hX : bOk cc nL RX0 (d + 1) X) (hC : Con d yX0_tellTeam cX0_tellTeam 5 none [.ref 5, a0, a1, a2] w none w') (hr : (S.map fun v => v.category).sum ≤ 8) (hd : decode cc pc = .ok (.invokevirtual 100, 3)) (k : bV X (pc + 3) L S w') : bV X pc L (a2 :: a1 :: a0 :: .ref 5 :: S) w := V_callV (As := [a0, a1, a2]) hX hC lk_RX0_100 md_X0_tellTeam iv_X0_tellTeam co_X0_tellTeam (Nat.le_of_ble_eq_true rfl) (Nat.le_of_ble_eq_true rfl) lay_5 rfl rfl hr hd k
theorem lk_RX1_23 : lkOk RX1 23 yX0_part = true := by decide +kernel
theorem C_RX1_23 {cc : ByteArray} {nL d pc : Nat} {X : bX} {L : List (Option Value)} {S : List Value} {w : Wd} {w' : Wd} {a0 : Value} {a1 : Value} {x : Int32} (hX : bOk cc nL RX1 (d + 1) X) (hC : Con d yX0_part cX0_part 3 (some .int) [.ref 5, a0, a1] w (some (.int x)) w') (hr : (S.map fun v => v.category).sum ≤ 8) (hd : decode cc pc = .ok (.invokevirtual 23, 3)) (k : bV X (pc + 3) L (.int x :: S) w') : bV X pc L (a1 :: a0 :: .ref 5 :: S) w := V_callV (As := [a0, a1]) hX hC lk_RX1_23 md_X0_part iv_X0_part co_X0_part (Nat.le_of_ble_eq_true rfl) (Nat.le_of_ble_eq_true rfl) lay_5 rfl rfl hr hd k
theorem lk_RX1_29 : lkOk RX1 29 yX1_areAlike = true := by decide +kernel
theorem C_RX1_29 {cc : ByteArray} {nL d pc : Nat} {X : bX} {L : List (Option Value)} {S : List Value} {w : Wd} {w' : Wd} {a0 : Value} {a1 : Value} {a2 : Value} {x : Int32} (hX : bOk cc nL RX1 (d + 1) X) (hC : Con d yX1_areAlike cX1_areAlike 4 (some .boolean) [.ref 17, a0, a1, a2] w (some (.int x)) w') (hr : (S.map fun v => v.category).sum ≤ 8) (hd : decode cc pc = .ok (.invokevirtual 29, 3)) (k : bV X (pc + 3) L (.int x :: S) w') : bV X pc L (a2 :: a1 :: a0 :: .ref 17 :: S) w := V_callV (As := [a0, a1, a2]) hX hC lk_RX1_29 md_X1_areAlike iv_X1_areAlike co_X1_areAlike (Nat.le_of_ble_eq_true rfl) (Nat.le_of_ble_eq_true rfl) lay_17 rfl rfl hr hd k
theorem lk_RX1_33 : lkOk RX1 33 yX0_yardsBetween = true := by decide +kernel
theorem C_RX1_33 {cc : ByteArray} {nL d pc : Nat} {X : bX} {L : List (Option Value)} {S : List Value} {w : Wd} {w' : Wd} {a0 : Value} {a1 : Value} {a2 : Value} {x : Int32} (hX : bOk cc nL RX1 (d + 1) X) (hC : Con d yX0_yardsBetween cX0_yardsBetween 4 (some .int) [.ref 5, a0, a1, a2] w (some (.int x)) w') (hr : (S.map fun v => v.category).sum ≤ 8) (hd : decode cc pc = .ok (.invokevirtual 33, 3)) (k : bV X (pc + 3) L (.int x :: S) w') : bV X pc L (a2 :: a1 :: a0 :: .ref 5 :: S) w := V_callV (As := [a0, a1, a2]) hX hC lk_RX1_33 md_X0_yardsBetween iv_X0_yardsBetween co_X0_yardsBetween (Nat.le_of_ble_eq_true rfl) (Nat.le_of_ble_eq_true rfl) lay_5 rfl rfl hr hd k
theorem lk_RX1_41 : lkOk RX1 41 yX9_within = true := by decide +kernel
theorem C_RX1_41 {cc : ByteArray} {nL d pc : Nat} {X : bX} {L : List (Option Value)} {S : List Value} {w : Wd} {w' : Wd} {a0 : Value} {a1 : Value} {a2 : Value} {x : Int32} (hX : bOk cc nL RX1 (d + 1) X) (hC : Con d yX9_within cX9_within 3 (some .boolean) [a0, a1, a2] w (some (.int x)) w') (hr : (S.map fun v => v.category).sum ≤ 8) (hd : decode cc pc = .ok (.invokestatic 41, 3)) (k : bV X (pc + 3) L (.int x :: S) w') : bV X pc L (a2 :: a1 :: a0 :: S) w := V_callS (As := [a0, a1, a2]) hX hC lk_RX1_41 md_X9_within iv_X9_within co_X9_within (Nat.le_of_ble_eq_true rfl) rfl hr hd k
theorem lk_RX1_44 : lkOk RX1 44 yX1_areInLine = true := by decide +kernel
theorem C_RX1_44 {cc : ByteArray} {nL d pc : Nat} {X : bX} {L : List (Option Value)} {S : List Value} {w : Wd} {w' : Wd} {a0 : Value} {a1 : Value} {x : Int32} (hX : bOk cc nL RX1 (d + 1) X) (hC : Con d yX1_areInLine cX1_areInLine 6 (some .boolean) [.ref 17, a0, a1] w (some (.int x)) w') (hr : (S.map fun v => v.category).sum ≤ 8) (hd : decode cc pc = .ok (.invokevirtual 44, 3)) (k : bV X (pc + 3) L (.int x :: S) w') : bV X pc L (a1 :: a0 :: .ref 17 :: S) w := V_callV (As := [a0, a1]) hX hC lk_RX1_44 md_X1_areInLine iv_X1_areInLine co_X1_areInLine (Nat.le_of_ble_eq_true rfl) (Nat.le_of_ble_eq_true rfl) lay_17 rfl rfl hr hd k
theorem lk_RX1_48 : lkOk RX1 48 yX0_begins = true := by decide +kernel
theorem C_RX1_48 {cc : ByteArray} {nL d pc : Nat} {X : bX} {L : List (Option Value)} {S : List Value} {w : Wd} {w' : Wd} {a0 : Value} {a1 : Value} {x : Int32} (hX : bOk cc nL RX1 (d + 1) X) (hC : Con d yX0_begins cX0_begins 3 (some .int) [.ref 5, a0, a1] w (some (.int x)) w') (hr : (S.map fun v => v.category).sum ≤ 8) (hd : decode cc pc = .ok (.invokevirtual 48, 3)) (k : bV X (pc + 3) L (.int x :: S) w') : bV X pc L (a1 :: a0 :: .ref 5 :: S) w := V_callV (As := [a0, a1]) hX hC lk_RX1_48 md_X0_begins iv_X0_begins co_X0_begins (Nat.le_of_ble_eq_true rfl) (Nat.le_of_ble_eq_true rfl) lay_5 rfl rfl hr hd k
theorem mt_RX1_51 : (inGd (.methodLink RX1 51 Lib.Math.abs.name) && (inGd (.static Lib.Math.abs.name) && (inGd (.initialized "java/lang/Math") && inGd (.code Lib.Math.abs.name Lib.Math.abs.code 1 (some .int))))) = true := by decide +kernel
theorem lk_RX1_57 : lkOk RX1 57 yX9_remainder = true := by decide +kernel
theorem C_RX1_57 {cc : ByteArray} {nL d pc : Nat} {X : bX} {L : List (Option Value)} {S : List Value} {w : Wd} {w' : Wd} {a0 : Value} {a1 : Value} {x : Int32} (hX : bOk cc nL RX1 (d + 1) X) (hC : Con d yX9_remainder cX9_remainder 2 (some .int) [a0, a1] w (some (.int x)) w') (hr : (S.map fun v => v.category).sum ≤ 8) (hd : decode cc pc = .ok (.invokestatic 57, 3)) (k : bV X (pc + 3) L (.int x :: S) w') : bV X pc L (a1 :: a0 :: S) w := V_callS (As := [a0, a1]) hX hC lk_RX1_57 md_X9_remainder iv_X9_remainder co_X9_remainder (Nat.le_of_ble_eq_true rfl) rfl hr hd k
theorem lk_RX1_60 : lkOk RX1 60 yX1_wouldDo = true := by decide +kernel
theorem C_RX1_60 {cc : ByteArray} {nL d pc : Nat} {X : bX} {L : List (Option Value)} {S : List Value} {w : Wd} {w' : Wd} {a0 : Value} {a1 : Value} {x : Int32} (hX : bOk cc nL RX1 (d + 1) X) (hC : Con d yX1_wouldDo cX1_wouldDo 3 (some .boolean) [.ref 17, a0, a1] w (some (.int x)) w') (hr : (S.map fun v => v.category).sum ≤ 8) (hd : decode cc pc = .ok (.invokevirtual 60, 3)) (k : bV X (pc + 3) L (.int x :: S) w') : bV X pc L (a1 :: a0 :: .ref 17 :: S) w := V_callV (As := [a0, a1]) hX hC lk_RX1_60 md_X1_wouldDo iv_X1_wouldDo co_X1_wouldDo (Nat.le_of_ble_eq_true rfl) (Nat.le_of_ble_eq_true rfl) lay_17 rfl rfl hr hd k
theorem mt_RX1_63 : (inGd (.methodLink RX1 63 Lib.Math.min.name) && (inGd (.static Lib.Math.min.name) && (inGd (.initialized "java/lang/Math") && inGd (.code Lib.Math.min.name Lib.Math.min.code 2 (some .int))))) = true := by decide +kernel
theorem lk_RX1_69 : lkOk RX1 69 yX0_ends = true := by decide +kernel
theorem C_RX1_69 {cc : ByteArray} {nL d pc : Nat} {X : bX} {L : List (Option Value)} {S : List Value} {w : Wd} {w' : Wd} {a0 : Value} {a1 : Value} {x : Int32} (hX : bOk cc nL RX1 (d + 1) X) (hC : Con d yX0_ends cX0_ends 3 (some .int) [.ref 5, a0, a1] w (some (.int x)) w') (hr : (S.map fun v => v.category).sum ≤ 8) (hd : decode cc pc = .ok (.invokevirtual 69, 3)) (k : bV X (pc + 3) L (.int x :: S) w') : bV X pc L (a1 :: a0 :: .ref 5 :: S) w := V_callV (As := [a0, a1]) hX hC lk_RX1_69 md_X0_ends iv_X0_ends co_X0_ends (Nat.le_of_ble_eq_true rfl) (Nat.le_of_ble_eq_true rfl) lay_5 rfl rfl hr hd k
theorem mt_RX1_72 : (inGd (.methodLink RX1 72 Lib.Math.max.name) && (inGd (.static Lib.Math.max.name) && (inGd (.initialized "java/lang/Math") && inGd (.code Lib.Math.max.name Lib.Math.max.code 2 (some .int))))) = true := by decide +kernel
theorem lk_RX1_75 : lkOk RX1 75 yX0_isThing = true := by decide +kernel
theorem C_RX1_75 {cc : ByteArray} {nL d pc : Nat} {X : bX} {L : List (Option Value)} {S : List Value} {w : Wd} {w' : Wd} {a0 : Value} {x : Int32} (hX : bOk cc nL RX1 (d + 1) X) (hC : Con d yX0_isThing cX0_isThing 2 (some .boolean) [.ref 5, a0] w (some (.int x)) w') (hr : (S.map fun v => v.category).sum ≤ 8) (hd : decode cc pc = .ok (.invokevirtual 75, 3)) (k : bV X (pc + 3) L (.int x :: S) w') : bV X pc L (a0 :: .ref 5 :: S) w := V_callV (As := [a0]) hX hC lk_RX1_75 md_X0_isThing iv_X0_isThing co_X0_isThing (Nat.le_of_ble_eq_true rfl) (Nat.le_of_ble_eq_true rfl) lay_5 rfl rfl hr hd k
theorem lk_RX1_79 : lkOk RX1 79 yX1_coversSome = true := by decide +kernel
theorem C_RX1_79 {cc : ByteArray} {nL d pc : Nat} {X : bX} {L : List (Option Value)} {S : List Value} {w : Wd} {w' : Wd} {a0 : Value} {a1 : Value} {a2 : Value} {a3 : Value} {x : Int32} (hX : bOk cc nL RX1 (d + 1) X) (hC : Con d yX1_coversSome cX1_coversSome 5 (some .boolean) [.ref 17, a0, a1, a2, a3] w (some (.int x)) w') (hr : (S.map fun v => v.category).sum ≤ 8) (hd : decode cc pc = .ok (.invokevirtual 79, 3)) (k : bV X (pc + 3) L (.int x :: S) w') : bV X pc L (a3 :: a2 :: a1 :: a0 :: .ref 17 :: S) w := V_callV (As := [a0, a1, a2, a3]) hX hC lk_RX1_79 md_X1_coversSome iv_X1_coversSome co_X1_coversSome (Nat.le_of_ble_eq_true rfl) (Nat.le_of_ble_eq_true rfl) lay_17 rfl rfl hr hd k
theorem lk_RX1_83 : lkOk RX1 83 yX1_commonDivisor = true := by decide +kernel
theorem C_RX1_83 {cc : ByteArray} {nL d pc : Nat} {X : bX} {L : List (Option Value)} {S : List Value} {w : Wd} {w' : Wd} {a0 : Value} {a1 : Value} {x : Int32} (hX : bOk cc nL RX1 (d + 1) X) (hC : Con d yX1_commonDivisor cX1_commonDivisor 3 (some .int) [a0, a1] w (some (.int x)) w') (hr : (S.map fun v => v.category).sum ≤ 8) (hd : decode cc pc = .ok (.invokestatic 83, 3)) (k : bV X (pc + 3) L (.int x :: S) w') : bV X pc L (a1 :: a0 :: S) w := V_callS (As := [a0, a1]) hX hC lk_RX1_83 md_X1_commonDivisor iv_X1_commonDivisor co_X1_commonDivisor (Nat.le_of_ble_eq_true rfl) rfl hr hd k
theorem lk_RX1_86 : lkOk RX1 86 yX1_linkAll = true := by decide +kernel
theorem C_RX1_86 {cc : ByteArray} {nL d pc : Nat} {X : bX} {L : List (Option Value)} {S : List Value} {w : Wd} {w' : Wd} (hX : bOk cc nL RX1 (d + 1) X) (hC : Con d yX1_linkAll cX1_linkAll 4 none [.ref 17] w none w') (hr : (S.map fun v => v.category).sum ≤ 8) (hd : decode cc pc = .ok (.invokevirtual 86, 3)) (k : bV X (pc + 3) L S w') : bV X pc L (.ref 17 :: S) w := V_callV (As := []) hX hC lk_RX1_86 md_X1_linkAll iv_X1_linkAll co_X1_linkAll (Nat.le_of_ble_eq_true rfl) (Nat.le_of_ble_eq_true rfl) lay_17 rfl rfl hr hd k
theorem lk_RX1_89 : lkOk RX1 89 yX1_reachFrom = true := by decide +kernel
theorem C_RX1_89 {cc : ByteArray} {nL d pc : Nat} {X : bX} {L : List (Option Value)} {S : List Value} {w : Wd} {w' : Wd} {a0 : Value} {x : Int32} (hX : bOk cc nL RX1 (d + 1) X) (hC : Con d yX1_reachFrom cX1_reachFrom 5 (some .int) [.ref 17, a0] w (some (.int x)) w') (hr : (S.map fun v => v.category).sum ≤ 8) (hd : decode cc pc = .ok (.invokevirtual 89, 3)) (k : bV X (pc + 3) L (.int x :: S) w') : bV X pc L (a0 :: .ref 17 :: S) w := V_callV (As := [a0]) hX hC lk_RX1_89 md_X1_reachFrom iv_X1_reachFrom co_X1_reachFrom (Nat.le_of_ble_eq_true rfl) (Nat.le_of_ble_eq_true rfl) lay_17 rfl rfl hr hd k
theorem lk_RX1_92 : lkOk RX1 92 yX0_isBundle = true := by decide +kernel
theorem C_RX1_92 {cc : ByteArray} {nL d pc : Nat} {X : bX} {L : List (Option Value)} {S : List Value} {w : Wd} {w' : Wd} {a0 : Value} {x : Int32} (hX : bOk cc nL RX1 (d + 1) X) (hC : Con d yX0_isBundle cX0_isBundle 2 (some .boolean) [.ref 5, a0] w (some (.int x)) w') (hr : (S.map fun v => v.category).sum ≤ 8) (hd : decode cc pc = .ok (.invokevirtual 92, 3)) (k : bV X (pc + 3) L (.int x :: S) w') : bV X pc L (a0 :: .ref 5 :: S) w := V_callV (As := [a0]) hX hC lk_RX1_92 md_X0_isBundle iv_X0_isBundle co_X0_isBundle (Nat.le_of_ble_eq_true rfl) (Nat.le_of_ble_eq_true rfl) lay_5 rfl rfl hr hd k
theorem lk_RX1_95 : lkOk RX1 95 yX9_has = true := by decide +kernel
theorem C_RX1_95 {cc : ByteArray} {nL d pc : Nat} {X : bX} {L : List (Option Value)} {S : List Value} {w : Wd} {w' : Wd} {a0 : Value} {a1 : Value} {x : Int32} (hX : bOk cc nL RX1 (d + 1) X) (hC : Con d yX9_has cX9_has 2 (some .boolean) [a0, a1] w (some (.int x)) w') (hr : (S.map fun v => v.category).sum ≤ 8) (hd : decode cc pc = .ok (.invokestatic 95, 3)) (k : bV X (pc + 3) L (.int x :: S) w') : bV X pc L (a1 :: a0 :: S) w := V_callS (As := [a0, a1]) hX hC lk_RX1_95 md_X9_has iv_X9_has co_X9_has (Nat.le_of_ble_eq_true rfl) rfl hr hd k
theorem lk_RX1_98 : lkOk RX1 98 yX1_areJoined = true := by decide +kernel
theorem C_RX1_98 {cc : ByteArray} {nL d pc : Nat} {X : bX} {L : List (Option Value)} {S : List Value} {w : Wd} {w' : Wd} {a0 : Value} {a1 : Value} {x : Int32} (hX : bOk cc nL RX1 (d + 1) X) (hC : Con d yX1_areJoined cX1_areJoined 4 (some .boolean) [.ref 17, a0, a1] w (some (.int x)) w') (hr : (S.map fun v => v.category).sum ≤ 8) (hd : decode cc pc = .ok (.invokevirtual 98, 3)) (k : bV X (pc + 3) L (.int x :: S) w') : bV X pc L (a1 :: a0 :: .ref 17 :: S) w := V_callV (As := [a0, a1]) hX hC lk_RX1_98 md_X1_areJoined iv_X1_areJoined co_X1_areJoined (Nat.le_of_ble_eq_true rfl) (Nat.le_of_ble_eq_true rfl) lay_17 rfl rfl hr hd k
theorem lk_RX1_101 : lkOk RX1 101 yX9_put = true := by decide +kernel
theorem C_RX1_101 {cc : ByteArray} {nL d pc : Nat} {X : bX} {L : List (Option Value)} {S : List Value} {w : Wd} {w' : Wd} {a0 : Value} {a1 : Value} {a2 : Value} (hX : bOk cc nL RX1 (d + 1) X) (hC : Con d yX9_put cX9_put 3 none [a0, a1, a2] w none w') (hr : (S.map fun v => v.category).sum ≤ 8) (hd : decode cc pc = .ok (.invokestatic 101, 3)) (k : bV X (pc + 3) L S w') : bV X pc L (a2 :: a1 :: a0 :: S) w := V_callS (As := [a0, a1, a2]) hX hC lk_RX1_101 md_X9_put iv_X9_put co_X9_put (Nat.le_of_ble_eq_true rfl) rfl hr hd k
theorem lk_RX1_105 : lkOk RX1 105 yX9_at = true := by decide +kernel
theorem C_RX1_105 {cc : ByteArray} {nL d pc : Nat} {X : bX} {L : List (Option Value)} {S : List Value} {w : Wd} {w' : Wd} {a0 : Value} {a1 : Value} {x : Int32} (hX : bOk cc nL RX1 (d + 1) X) (hC : Con d yX9_at cX9_at 2 (some .int) [a0, a1] w (some (.int x)) w') (hr : (S.map fun v => v.category).sum ≤ 8) (hd : decode cc pc = .ok (.invokestatic 105, 3)) (k : bV X (pc + 3) L (.int x :: S) w') : bV X pc L (a1 :: a0 :: S) w := V_callS (As := [a0, a1]) hX hC lk_RX1_105 md_X9_at iv_X9_at co_X9_at (Nat.le_of_ble_eq_true rfl) rfl hr hd k
theorem lk_RX1_109 : lkOk RX1 109 yX0_yards = true := by decide +kernel
theorem C_RX1_109 {cc : ByteArray} {nL d pc : Nat} {X : bX} {L : List (Option Value)} {S : List Value} {w : Wd} {w' : Wd} {a0 : Value} {x : Int32} (hX : bOk cc nL RX1 (d + 1) X) (hC : Con d yX0_yards cX0_yards 2 (some .int) [.ref 5, a0] w (some (.int x)) w') (hr : (S.map fun v => v.category).sum ≤ 8) (hd : decode cc pc = .ok (.invokevirtual 109, 3)) (k : bV X (pc + 3) L (.int x :: S) w') : bV X pc L (a0 :: .ref 5 :: S) w := V_callV (As := [a0]) hX hC lk_RX1_109 md_X0_yards iv_X0_yards co_X0_yards (Nat.le_of_ble_eq_true rfl) (Nat.le_of_ble_eq_true rfl) lay_5 rfl rfl hr hd k
theorem lk_RX1_112 : lkOk RX1 112 yX8_settle = true := by decide +kernel
theorem C_RX1_112 {cc : ByteArray} {nL d pc : Nat} {X : bX} {L : List (Option Value)} {S : List Value} {w : Wd} {w' : Wd} {x : Int32} (hX : bOk cc nL RX1 (d + 1) X) (hC : Con d yX8_settle cX8_settle 3 (some .boolean) [.ref 12] w (some (.int x)) w') (hr : (S.map fun v => v.category).sum ≤ 8) (hd : decode cc pc = .ok (.invokevirtual 112, 3)) (k : bV X (pc + 3) L (.int x :: S) w') : bV X pc L (.ref 12 :: S) w := V_callV (As := []) hX hC lk_RX1_112 md_X8_settle iv_X8_settle co_X8_settle (Nat.le_of_ble_eq_true rfl) (Nat.le_of_ble_eq_true rfl) lay_12 rfl rfl hr hd k
theorem lk_RX1_118 : lkOk RX1 118 yX8_earliestOf = true := by decide +kernel
theorem C_RX1_118 {cc : ByteArray} {nL d pc : Nat} {X : bX} {L : List (Option Value)} {S : List Value} {w : Wd} {w' : Wd} {a0 : Value} {x : Int32} (hX : bOk cc nL RX1 (d + 1) X) (hC : Con d yX8_earliestOf cX8_earliestOf 2 (some .int) [.ref 12, a0] w (some (.int x)) w') (hr : (S.map fun v => v.category).sum ≤ 8) (hd : decode cc pc = .ok (.invokevirtual 118, 3)) (k : bV X (pc + 3) L (.int x :: S) w') : bV X pc L (a0 :: .ref 12 :: S) w := V_callV (As := [a0]) hX hC lk_RX1_118 md_X8_earliestOf iv_X8_earliestOf co_X8_earliestOf (Nat.le_of_ble_eq_true rfl) (Nat.le_of_ble_eq_true rfl) lay_12 rfl rfl hr hd k
theorem lk_RX10_86 : lkOk RX10 86 yX10_in = true := by decide +kernel
theorem C_RX10_86 {cc : ByteArray} {nL d pc : Nat} {X : bX} {L : List (Option Value)} {S : List Value} {w : Wd} {w' : Wd} {a0 : Value} {a1 : Value} {a2 : Value} {x : Int32} (hX : bOk cc nL RX10 (d + 1) X) (hC : Con d yX10_in cX10_in 3 (some .boolean) [a0, a1, a2] w (some (.int x)) w') (hr : (S.map fun v => v.category).sum ≤ 8) (hd : decode cc pc = .ok (.invokestatic 86, 3)) (k : bV X (pc + 3) L (.int x :: S) w') : bV X pc L (a2 :: a1 :: a0 :: S) w := V_callS (As := [a0, a1, a2]) hX hC lk_RX10_86 md_X10_in iv_X10_in co_X10_in (Nat.le_of_ble_eq_true rfl) rfl hr hd k
theorem lk_RX10_93 : lkOk RX10 93 yX10_isThing = true := by decide +kernel
theorem C_RX10_93 {cc : ByteArray} {nL d pc : Nat} {X : bX} {L : List (Option Value)} {S : List Value} {w : Wd} {w' : Wd} {a0 : Value} {x : Int32} (hX : bOk cc nL RX10 (d + 1) X) (hC : Con d yX10_isThing cX10_isThing 2 (some .boolean) [.ref 33, a0] w (some (.int x)) w') (hr : (S.map fun v => v.category).sum ≤ 8) (hd : decode cc pc = .ok (.invokevirtual 93, 3)) (k : bV X (pc + 3) L (.int x :: S) w') : bV X pc L (a0 :: .ref 33 :: S) w := V_callV (As := [a0]) hX hC lk_RX10_93 md_X10_isThing iv_X10_isThing co_X10_isThing (Nat.le_of_ble_eq_true rfl) (Nat.le_of_ble_eq_true rfl) lay_33 rfl rfl hr hd k
theorem lk_RX10_133 : lkOk RX10 133 yX10_nextToken = true := by decide +kernel
theorem C_RX10_133 {cc : ByteArray} {nL d pc : Nat} {X : bX} {L : List (Option Value)} {S : List Value} {w : Wd} {w' : Wd} (hX : bOk cc nL RX10 (d + 1) X) (hC : Con d yX10_nextToken cX10_nextToken 1 none [.ref 33] w none w') (hr : (S.map fun v => v.category).sum ≤ 8) (hd : decode cc pc = .ok (.invokevirtual 133, 3)) (k : bV X (pc + 3) L S w') : bV X pc L (.ref 33 :: S) w := V_callV (As := []) hX hC lk_RX10_133 md_X10_nextToken iv_X10_nextToken co_X10_nextToken (Nat.le_of_ble_eq_true rfl) (Nat.le_of_ble_eq_true rfl) lay_33 rfl rfl hr hd k
theorem lk_RX10_136 : lkOk RX10 136 yX10_fails = true := by decide +kernel
theorem C_RX10_136 {cc : ByteArray} {nL d pc : Nat} {X : bX} {L : List (Option Value)} {S : List Value} {w : Wd} {w' : Wd} {x : Int32} (hX : bOk cc nL RX10 (d + 1) X) (hC : Con d yX10_fails cX10_fails 1 (some .boolean) [.ref 33] w (some (.int x)) w') (hr : (S.map fun v => v.category).sum ≤ 8) (hd : decode cc pc = .ok (.invokevirtual 136, 3)) (k : bV X (pc + 3) L (.int x :: S) w') : bV X pc L (.ref 33 :: S) w := V_callV (As := []) hX hC lk_RX10_136 md_X10_fails iv_X10_fails co_X10_fails (Nat.le_of_ble_eq_true rfl) (Nat.le_of_ble_eq_true rfl) lay_33 rfl rfl hr hd k
theorem lk_RX10_140 : lkOk RX10 140 yX10_isNumber = true := by decide +kernel
theorem C_RX10_140 {cc : ByteArray} {nL d pc : Nat} {X : bX} {L : List (Option Value)} {S : List Value} {w : Wd} {w' : Wd} {a0 : Value} {a1 : Value} {a2 : Value} {x : Int32} (hX : bOk cc nL RX10 (d + 1) X) (hC : Con d yX10_isNumber cX10_isNumber 4 (some .boolean) [.ref 33, a0, a1, a2] w (some (.int x)) w') (hr : (S.map fun v => v.category).sum ≤ 8) (hd : decode cc pc = .ok (.invokevirtual 140, 3)) (k : bV X (pc + 3) L (.int x :: S) w') : bV X pc L (a2 :: a1 :: a0 :: .ref 33 :: S) w := V_callV (As := [a0, a1, a2]) hX hC lk_RX10_140 md_X10_isNumber iv_X10_isNumber co_X10_isNumber (Nat.le_of_ble_eq_true rfl) (Nat.le_of_ble_eq_true rfl) lay_33 rfl rfl hr hd k
theorem lk_RX10_147 : lkOk RX10 147 yX10_isOneOf = true := by decide +kernel
theorem C_RX10_147 {cc : ByteArray} {nL d pc : Nat} {X : bX} {L : List (Option Value)} {S : List Value} {w : Wd} {w' : Wd} {a0 : Value} {a1 : Value} {a2 : Value} {x : Int32} (hX : bOk cc nL RX10 (d + 1) X) (hC : Con d yX10_isOneOf cX10_isOneOf 6 (some .boolean) [.ref 33, a0, a1, a2] w (some (.int x)) w') (hr : (S.map fun v => v.category).sum ≤ 8) (hd : decode cc pc = .ok (.invokevirtual 147, 3)) (k : bV X (pc + 3) L (.int x :: S) w') : bV X pc L (a2 :: a1 :: a0 :: .ref 33 :: S) w := V_callV (As := [a0, a1, a2]) hX hC lk_RX10_147 md_X10_isOneOf iv_X10_isOneOf co_X10_isOneOf (Nat.le_of_ble_eq_true rfl) (Nat.le_of_ble_eq_true rfl) lay_33 rfl rfl hr hd k
theorem lk_RX10_169 : lkOk RX10 169 yX10_isBundleLine = true := by decide +kernel
theorem C_RX10_169 {cc : ByteArray} {nL d pc : Nat} {X : bX} {L : List (Option Value)} {S : List Value} {w : Wd} {w' : Wd} {a0 : Value} {x : Int32} (hX : bOk cc nL RX10 (d + 1) X) (hC : Con d yX10_isBundleLine cX10_isBundleLine 2 (some .boolean) [.ref 33, a0] w (some (.int x)) w') (hr : (S.map fun v => v.category).sum ≤ 8) (hd : decode cc pc = .ok (.invokevirtual 169, 3)) (k : bV X (pc + 3) L (.int x :: S) w') : bV X pc L (a0 :: .ref 33 :: S) w := V_callV (As := [a0]) hX hC lk_RX10_169 md_X10_isBundleLine iv_X10_isBundleLine co_X10_isBundleLine (Nat.le_of_ble_eq_true rfl) (Nat.le_of_ble_eq_true rfl) lay_33 rfl rfl hr hd k
theorem lk_RX10_172 : lkOk RX10 172 yX10_isOverLine = true := by decide +kernel
theorem C_RX10_172 {cc : ByteArray} {nL d pc : Nat} {X : bX} {L : List (Option Value)} {S : List Value} {w : Wd} {w' : Wd} {a0 : Value} {x : Int32} (hX : bOk cc nL RX10 (d + 1) X) (hC : Con d yX10_isOverLine cX10_isOverLine 2 (some .boolean) [.ref 33, a0] w (some (.int x)) w') (hr : (S.map fun v => v.category).sum ≤ 8) (hd : decode cc pc = .ok (.invokevirtual 172, 3)) (k : bV X (pc + 3) L (.int x :: S) w') : bV X pc L (a0 :: .ref 33 :: S) w := V_callV (As := [a0]) hX hC lk_RX10_172 md_X10_isOverLine iv_X10_isOverLine co_X10_isOverLine (Nat.le_of_ble_eq_true rfl) (Nat.le_of_ble_eq_true rfl) lay_33 rfl rfl hr hd k
theorem lk_RX10_178 : lkOk RX10 178 yX10_isLine = true := by decide +kernel
theorem C_RX10_178 {cc : ByteArray} {nL d pc : Nat} {X : bX} {L : List (Option Value)} {S : List Value} {w : Wd} {w' : Wd} {a0 : Value} {x : Int32} (hX : bOk cc nL RX10 (d + 1) X) (hC : Con d yX10_isLine cX10_isLine 2 (some .boolean) [.ref 33, a0] w (some (.int x)) w') (hr : (S.map fun v => v.category).sum ≤ 8) (hd : decode cc pc = .ok (.invokevirtual 178, 3)) (k : bV X (pc + 3) L (.int x :: S) w') : bV X pc L (a0 :: .ref 33 :: S) w := V_callV (As := [a0]) hX hC lk_RX10_178 md_X10_isLine iv_X10_isLine co_X10_isLine (Nat.le_of_ble_eq_true rfl) (Nat.le_of_ble_eq_true rfl) lay_33 rfl rfl hr hd k
theorem lk_RX10_181 : lkOk RX10 181 yX10_isRead = true := by decide +kernel
theorem C_RX10_181 {cc : ByteArray} {nL d pc : Nat} {X : bX} {L : List (Option Value)} {S : List Value} {w : Wd} {w' : Wd} {x : Int32} (hX : bOk cc nL RX10 (d + 1) X) (hC : Con d yX10_isRead cX10_isRead 2 (some .boolean) [.ref 33] w (some (.int x)) w') (hr : (S.map fun v => v.category).sum ≤ 8) (hd : decode cc pc = .ok (.invokevirtual 181, 3)) (k : bV X (pc + 3) L (.int x :: S) w') : bV X pc L (.ref 33 :: S) w := V_callV (As := []) hX hC lk_RX10_181 md_X10_isRead iv_X10_isRead co_X10_isRead (Nat.le_of_ble_eq_true rfl) (Nat.le_of_ble_eq_true rfl) lay_33 rfl rfl hr hd k
theorem lk_RX10_184 : lkOk RX10 184 yX10_of = true := by decide +kernel
theorem C_RX10_184 {cc : ByteArray} {nL d pc : Nat} {X : bX} {L : List (Option Value)} {S : List Value} {w : Wd} {w' : Wd} {a0 : Value} {a1 : Value} {x : Int32} (hX : bOk cc nL RX10 (d + 1) X) (hC : Con d yX10_of cX10_of 3 (some .int) [.ref 33, a0, a1] w (some (.int x)) w') (hr : (S.map fun v => v.category).sum ≤ 8) (hd : decode cc pc = .ok (.invokevirtual 184, 3)) (k : bV X (pc + 3) L (.int x :: S) w') : bV X pc L (a1 :: a0 :: .ref 33 :: S) w := V_callV (As := [a0, a1]) hX hC lk_RX10_184 md_X10_of iv_X10_of co_X10_of (Nat.le_of_ble_eq_true rfl) (Nat.le_of_ble_eq_true rfl) lay_33 rfl rfl hr hd k
theorem lk_RX10_188 : lkOk RX10 188 yX10_place = true := by decide +kernel
theorem C_RX10_188 {cc : ByteArray} {nL d pc : Nat} {X : bX} {L : List (Option Value)} {S : List Value} {w : Wd} {w' : Wd} {a0 : Value} {a1 : Value} {a2 : Value} {a3 : Value} {a4 : Value} (hX : bOk cc nL RX10 (d + 1) X) (hC : Con d yX10_place cX10_place 6 none [.ref 33, a0, a1, a2, a3, a4] w none w') (hr : (S.map fun v => v.category).sum ≤ 8) (hd : decode cc pc = .ok (.invokevirtual 188, 3)) (k : bV X (pc + 3) L S w') : bV X pc L (a4 :: a3 :: a2 :: a1 :: a0 :: .ref 33 :: S) w := V_callV (As := [a0, a1, a2, a3, a4]) hX hC lk_RX10_188 md_X10_place iv_X10_place co_X10_place (Nat.le_of_ble_eq_true rfl) (Nat.le_of_ble_eq_true rfl) lay_33 rfl rfl hr hd k
theorem lk_RX10_192 : lkOk RX10 192 yX10_doBundle = true := by decide +kernel
theorem C_RX10_192 {cc : ByteArray} {nL d pc : Nat} {X : bX} {L : List (Option Value)} {S : List Value} {w : Wd} {w' : Wd} {a0 : Value} (hX : bOk cc nL RX10 (d + 1) X) (hC : Con d yX10_doBundle cX10_doBundle 4 none [.ref 33, a0] w none w') (hr : (S.map fun v => v.category).sum ≤ 8) (hd : decode cc pc = .ok (.invokevirtual 192, 3)) (k : bV X (pc + 3) L S w') : bV X pc L (a0 :: .ref 33 :: S) w := V_callV (As := [a0]) hX hC lk_RX10_192 md_X10_doBundle iv_X10_doBundle co_X10_doBundle (Nat.le_of_ble_eq_true rfl) (Nat.le_of_ble_eq_true rfl) lay_33 rfl rfl hr hd k
theorem lk_RX10_202 : lkOk RX10 202 yX10_doLine = true := by decide +kernel
theorem C_RX10_202 {cc : ByteArray} {nL d pc : Nat} {X : bX} {L : List (Option Value)} {S : List Value} {w : Wd} {w' : Wd} {a0 : Value} (hX : bOk cc nL RX10 (d + 1) X) (hC : Con d yX10_doLine cX10_doLine 5 none [.ref 33, a0] w none w') (hr : (S.map fun v => v.category).sum ≤ 8) (hd : decode cc pc = .ok (.invokevirtual 202, 3)) (k : bV X (pc + 3) L S w') : bV X pc L (a0 :: .ref 33 :: S) w := V_callV (As := [a0]) hX hC lk_RX10_202 md_X10_doLine iv_X10_doLine co_X10_doLine (Nat.le_of_ble_eq_true rfl) (Nat.le_of_ble_eq_true rfl) lay_33 rfl rfl hr hd k
theorem lk_RX10_205 : lkOk RX10 205 yX10_isBundle = true := by decide +kernel
theorem C_RX10_205 {cc : ByteArray} {nL d pc : Nat} {X : bX} {L : List (Option Value)} {S : List Value} {w : Wd} {w' : Wd} {a0 : Value} {x : Int32} (hX : bOk cc nL RX10 (d + 1) X) (hC : Con d yX10_isBundle cX10_isBundle 2 (some .boolean) [.ref 33, a0] w (some (.int x)) w') (hr : (S.map fun v => v.category).sum ≤ 8) (hd : decode cc pc = .ok (.invokevirtual 205, 3)) (k : bV X (pc + 3) L (.int x :: S) w') : bV X pc L (a0 :: .ref 33 :: S) w := V_callV (As := [a0]) hX hC lk_RX10_205 md_X10_isBundle iv_X10_isBundle co_X10_isBundle (Nat.le_of_ble_eq_true rfl) (Nat.le_of_ble_eq_true rfl) lay_33 rfl rfl hr hd k
theorem lk_RX10_208 : lkOk RX10 208 yX10_yardsOf = true := by decide +kernel
theorem C_RX10_208 {cc : ByteArray} {nL d pc : Nat} {X : bX} {L : List (Option Value)} {S : List Value} {w : Wd} {w' : Wd} {a0 : Value} {x : Int32} (hX : bOk cc nL RX10 (d + 1) X) (hC : Con d yX10_yardsOf cX10_yardsOf 2 (some .int) [.ref 33, a0] w (some (.int x)) w') (hr : (S.map fun v => v.category).sum ≤ 8) (hd : decode cc pc = .ok (.invokevirtual 208, 3)) (k : bV X (pc + 3) L (.int x :: S) w') : bV X pc L (a0 :: .ref 33 :: S) w := V_callV (As := [a0]) hX hC lk_RX10_208 md_X10_yardsOf iv_X10_yardsOf co_X10_yardsOf (Nat.le_of_ble_eq_true rfl) (Nat.le_of_ble_eq_true rfl) lay_33 rfl rfl hr hd k
theorem lk_RX10_212 : lkOk RX10 212 yX10_teamsOf = true := by decide +kernel
theorem C_RX10_212 {cc : ByteArray} {nL d pc : Nat} {X : bX} {L : List (Option Value)} {S : List Value} {w : Wd} {w' : Wd} {a0 : Value} {x : Int32} (hX : bOk cc nL RX10 (d + 1) X) (hC : Con d yX10_teamsOf cX10_teamsOf 4 (some .int) [.ref 33, a0] w (some (.int x)) w') (hr : (S.map fun v => v.category).sum ≤ 8) (hd : decode cc pc = .ok (.invokevirtual 212, 3)) (k : bV X (pc + 3) L (.int x :: S) w') : bV X pc L (a0 :: .ref 33 :: S) w := V_callV (As := [a0]) hX hC lk_RX10_212 md_X10_teamsOf iv_X10_teamsOf co_X10_teamsOf (Nat.le_of_ble_eq_true rfl) (Nat.le_of_ble_eq_true rfl) lay_33 rfl rfl hr hd k
theorem lk_RX10_215 : lkOk RX10 215 yX10_beginYears = true := by decide +kernel
theorem C_RX10_215 {cc : ByteArray} {nL d pc : Nat} {X : bX} {L : List (Option Value)} {S : List Value} {w : Wd} {w' : Wd} {a0 : Value} (hX : bOk cc nL RX10 (d + 1) X) (hC : Con d yX10_beginYears cX10_beginYears 6 none [.ref 33, a0] w none w') (hr : (S.map fun v => v.category).sum ≤ 8) (hd : decode cc pc = .ok (.invokevirtual 215, 3)) (k : bV X (pc + 3) L S w') : bV X pc L (a0 :: .ref 33 :: S) w := V_callV (As := [a0]) hX hC lk_RX10_215 md_X10_beginYears iv_X10_beginYears co_X10_beginYears (Nat.le_of_ble_eq_true rfl) (Nat.le_of_ble_eq_true rfl) lay_33 rfl rfl hr hd k
theorem lk_RX10_218 : lkOk RX10 218 yX10_isPair = true := by decide +kernel
theorem C_RX10_218 {cc : ByteArray} {nL d pc : Nat} {X : bX} {L : List (Option Value)} {S : List Value} {w : Wd} {w' : Wd} {a0 : Value} {a1 : Value} {x : Int32} (hX : bOk cc nL RX10 (d + 1) X) (hC : Con d yX10_isPair cX10_isPair 3 (some .boolean) [.ref 33, a0, a1] w (some (.int x)) w') (hr : (S.map fun v => v.category).sum ≤ 8) (hd : decode cc pc = .ok (.invokevirtual 218, 3)) (k : bV X (pc + 3) L (.int x :: S) w') : bV X pc L (a1 :: a0 :: .ref 33 :: S) w := V_callV (As := [a0, a1]) hX hC lk_RX10_218 md_X10_isPair iv_X10_isPair co_X10_isPair (Nat.le_of_ble_eq_true rfl) (Nat.le_of_ble_eq_true rfl) lay_33 rfl rfl hr hd k
theorem lk_RX10_222 : lkOk RX10 222 yX10_ringOf = true := by decide +kernel
theorem C_RX10_222 {cc : ByteArray} {nL d pc : Nat} {X : bX} {L : List (Option Value)} {S : List Value} {w : Wd} {w' : Wd} {x : Int32} (hX : bOk cc nL RX10 (d + 1) X) (hC : Con d yX10_ringOf cX10_ringOf 3 (some .int) [.ref 33] w (some (.int x)) w') (hr : (S.map fun v => v.category).sum ≤ 8) (hd : decode cc pc = .ok (.invokevirtual 222, 3)) (k : bV X (pc + 3) L (.int x :: S) w') : bV X pc L (.ref 33 :: S) w := V_callV (As := []) hX hC lk_RX10_222 md_X10_ringOf iv_X10_ringOf co_X10_ringOf (Nat.le_of_ble_eq_true rfl) (Nat.le_of_ble_eq_true rfl) lay_33 rfl rfl hr hd k
theorem lk_RX10_226 : lkOk RX10 226 yX10_areYears = true := by decide +kernel
theorem C_RX10_226 {cc : ByteArray} {nL d pc : Nat} {X : bX} {L : List (Option Value)} {S : List Value} {w : Wd} {w' : Wd} {x : Int32} (hX : bOk cc nL RX10 (d + 1) X) (hC : Con d yX10_areYears cX10_areYears 4 (some .boolean) [.ref 33] w (some (.int x)) w') (hr : (S.map fun v => v.category).sum ≤ 8) (hd : decode cc pc = .ok (.invokevirtual 226, 3)) (k : bV X (pc + 3) L (.int x :: S) w') : bV X pc L (.ref 33 :: S) w := V_callV (As := []) hX hC lk_RX10_226 md_X10_areYears iv_X10_areYears co_X10_areYears (Nat.le_of_ble_eq_true rfl) (Nat.le_of_ble_eq_true rfl) lay_33 rfl rfl hr hd k
theorem lk_RX10_229 : lkOk RX10 229 yX10_findReach = true := by decide +kernel
theorem C_RX10_229 {cc : ByteArray} {nL d pc : Nat} {X : bX} {L : List (Option Value)} {S : List Value} {w : Wd} {w' : Wd} (hX : bOk cc nL RX10 (d + 1) X) (hC : Con d yX10_findReach cX10_findReach 4 none [.ref 33] w none w') (hr : (S.map fun v => v.category).sum ≤ 8) (hd : decode cc pc = .ok (.invokevirtual 229, 3)) (k : bV X (pc + 3) L S w') : bV X pc L (.ref 33 :: S) w := V_callV (As := []) hX hC lk_RX10_229 md_X10_findReach iv_X10_findReach co_X10_findReach (Nat.le_of_ble_eq_true rfl) (Nat.le_of_ble_eq_true rfl) lay_33 rfl rfl hr hd k
theorem lk_RX10_232 : lkOk RX10 232 yX10_beginOf = true := by decide +kernel
theorem C_RX10_232 {cc : ByteArray} {nL d pc : Nat} {X : bX} {L : List (Option Value)} {S : List Value} {w : Wd} {w' : Wd} {a0 : Value} {x : Int32} (hX : bOk cc nL RX10 (d + 1) X) (hC : Con d yX10_beginOf cX10_beginOf 2 (some .int) [.ref 33, a0] w (some (.int x)) w') (hr : (S.map fun v => v.category).sum ≤ 8) (hd : decode cc pc = .ok (.invokevirtual 232, 3)) (k : bV X (pc + 3) L (.int x :: S) w') : bV X pc L (a0 :: .ref 33 :: S) w := V_callV (As := [a0]) hX hC lk_RX10_232 md_X10_beginOf iv_X10_beginOf co_X10_beginOf (Nat.le_of_ble_eq_true rfl) (Nat.le_of_ble_eq_true rfl) lay_33 rfl rfl hr hd k
theorem lk_RX10_235 : lkOk RX10 235 yX10_between = true := by decide +kernel
theorem C_RX10_235 {cc : ByteArray} {nL d pc : Nat} {X : bX} {L : List (Option Value)} {S : List Value} {w : Wd} {w' : Wd} {a0 : Value} {a1 : Value} {x : Int32} (hX : bOk cc nL RX10 (d + 1) X) (hC : Con d yX10_between cX10_between 3 (some .int) [.ref 33, a0, a1] w (some (.int x)) w') (hr : (S.map fun v => v.category).sum ≤ 8) (hd : decode cc pc = .ok (.invokevirtual 235, 3)) (k : bV X (pc + 3) L (.int x :: S) w') : bV X pc L (a1 :: a0 :: .ref 33 :: S) w := V_callV (As := [a0, a1]) hX hC lk_RX10_235 md_X10_between iv_X10_between co_X10_between (Nat.le_of_ble_eq_true rfl) (Nat.le_of_ble_eq_true rfl) lay_33 rfl rfl hr hd k
theorem lk_RX10_238 : lkOk RX10 238 yX10_sideOf = true := by decide +kernel
theorem C_RX10_238 {cc : ByteArray} {nL d pc : Nat} {X : bX} {L : List (Option Value)} {S : List Value} {w : Wd} {w' : Wd} {a0 : Value} {x : Int32} (hX : bOk cc nL RX10 (d + 1) X) (hC : Con d yX10_sideOf cX10_sideOf 2 (some .int) [.ref 33, a0] w (some (.int x)) w') (hr : (S.map fun v => v.category).sum ≤ 8) (hd : decode cc pc = .ok (.invokevirtual 238, 3)) (k : bV X (pc + 3) L (.int x :: S) w') : bV X pc L (a0 :: .ref 33 :: S) w := V_callV (As := [a0]) hX hC lk_RX10_238 md_X10_sideOf iv_X10_sideOf co_X10_sideOf (Nat.le_of_ble_eq_true rfl) (Nat.le_of_ble_eq_true rfl) lay_33 rfl rfl hr hd k
theorem lk_RX10_241 : lkOk RX10 241 yX10_broadOf = true := by decide +kernel
theorem C_RX10_241 {cc : ByteArray} {nL d pc : Nat} {X : bX} {L : List (Option Value)} {S : List Value} {w : Wd} {w' : Wd} {a0 : Value} {x : Int32} (hX : bOk cc nL RX10 (d + 1) X) (hC : Con d yX10_broadOf cX10_broadOf 2 (some .int) [.ref 33, a0] w (some (.int x)) w') (hr : (S.map fun v => v.category).sum ≤ 8) (hd : decode cc pc = .ok (.invokevirtual 241, 3)) (k : bV X (pc + 3) L (.int x :: S) w') : bV X pc L (a0 :: .ref 33 :: S) w := V_callV (As := [a0]) hX hC lk_RX10_241 md_X10_broadOf iv_X10_broadOf co_X10_broadOf (Nat.le_of_ble_eq_true rfl) (Nat.le_of_ble_eq_true rfl) lay_33 rfl rfl hr hd k
theorem lk_RX10_244 : lkOk RX10 244 yX10_isOff = true := by decide +kernel
theorem C_RX10_244 {cc : ByteArray} {nL d pc : Nat} {X : bX} {L : List (Option Value)} {S : List Value} {w : Wd} {w' : Wd} {a0 : Value} {a1 : Value} {x : Int32} (hX : bOk cc nL RX10 (d + 1) X) (hC : Con d yX10_isOff cX10_isOff 3 (some .boolean) [.ref 33, a0, a1] w (some (.int x)) w') (hr : (S.map fun v => v.category).sum ≤ 8) (hd : decode cc pc = .ok (.invokevirtual 244, 3)) (k : bV X (pc + 3) L (.int x :: S) w') : bV X pc L (a1 :: a0 :: .ref 33 :: S) w := V_callV (As := [a0, a1]) hX hC lk_RX10_244 md_X10_isOff iv_X10_isOff co_X10_isOff (Nat.le_of_ble_eq_true rfl) (Nat.le_of_ble_eq_true rfl) lay_33 rfl rfl hr hd k
theorem lk_RX10_247 : lkOk RX10 247 yX10_areTwo = true := by decide +kernel
theorem C_RX10_247 {cc : ByteArray} {nL d pc : Nat} {X : bX} {L : List (Option Value)} {S : List Value} {w : Wd} {w' : Wd} {a0 : Value} {a1 : Value} {x : Int32} (hX : bOk cc nL RX10 (d + 1) X) (hC : Con d yX10_areTwo cX10_areTwo 3 (some .boolean) [.ref 33, a0, a1] w (some (.int x)) w') (hr : (S.map fun v => v.category).sum ≤ 8) (hd : decode cc pc = .ok (.invokevirtual 247, 3)) (k : bV X (pc + 3) L (.int x :: S) w') : bV X pc L (a1 :: a0 :: .ref 33 :: S) w := V_callV (As := [a0, a1]) hX hC lk_RX10_247 md_X10_areTwo iv_X10_areTwo co_X10_areTwo (Nat.le_of_ble_eq_true rfl) (Nat.le_of_ble_eq_true rfl) lay_33 rfl rfl hr hd k
theorem lk_RX10_250 : lkOk RX10 250 yX10_areJoined = true := by decide +kernel
theorem C_RX10_250 {cc : ByteArray} {nL d pc : Nat} {X : bX} {L : List (Option Value)} {S : List Value} {w : Wd} {w' : Wd} {a0 : Value} {a1 : Value} {x : Int32} (hX : bOk cc nL RX10 (d + 1) X) (hC : Con d yX10_areJoined cX10_areJoined 7 (some .boolean) [.ref 33, a0, a1] w (some (.int x)) w') (hr : (S.map fun v => v.category).sum ≤ 8) (hd : decode cc pc = .ok (.invokevirtual 250, 3)) (k : bV X (pc + 3) L (.int x :: S) w') : bV X pc L (a1 :: a0 :: .ref 33 :: S) w := V_callV (As := [a0, a1]) hX hC lk_RX10_250 md_X10_areJoined iv_X10_areJoined co_X10_areJoined (Nat.le_of_ble_eq_true rfl) (Nat.le_of_ble_eq_true rfl) lay_33 rfl rfl hr hd k
theorem lk_RX10_253 : lkOk RX10 253 yX10_meets = true := by decide +kernel
theorem C_RX10_253 {cc : ByteArray} {nL d pc : Nat} {X : bX} {L : List (Option Value)} {S : List Value} {w : Wd} {w' : Wd} {a0 : Value} {a1 : Value} {a2 : Value} {a3 : Value} {x : Int32} (hX : bOk cc nL RX10 (d + 1) X) (hC : Con d yX10_meets cX10_meets 4 (some .boolean) [a0, a1, a2, a3] w (some (.int x)) w') (hr : (S.map fun v => v.category).sum ≤ 8) (hd : decode cc pc = .ok (.invokestatic 253, 3)) (k : bV X (pc + 3) L (.int x :: S) w') : bV X pc L (a3 :: a2 :: a1 :: a0 :: S) w := V_callS (As := [a0, a1, a2, a3]) hX hC lk_RX10_253 md_X10_meets iv_X10_meets co_X10_meets (Nat.le_of_ble_eq_true rfl) rfl hr hd k
theorem lk_RX10_257 : lkOk RX10 257 yX10_divisor = true := by decide +kernel
theorem C_RX10_257 {cc : ByteArray} {nL d pc : Nat} {X : bX} {L : List (Option Value)} {S : List Value} {w : Wd} {w' : Wd} {a0 : Value} {a1 : Value} {x : Int32} (hX : bOk cc nL RX10 (d + 1) X) (hC : Con d yX10_divisor cX10_divisor 5 (some .int) [a0, a1] w (some (.int x)) w') (hr : (S.map fun v => v.category).sum ≤ 8) (hd : decode cc pc = .ok (.invokestatic 257, 3)) (k : bV X (pc + 3) L (.int x :: S) w') : bV X pc L (a1 :: a0 :: S) w := V_callS (As := [a0, a1]) hX hC lk_RX10_257 md_X10_divisor iv_X10_divisor co_X10_divisor (Nat.le_of_ble_eq_true rfl) rfl hr hd k
theorem lk_RX10_260 : lkOk RX10 260 yX10_fieldOf = true := by decide +kernel
theorem C_RX10_260 {cc : ByteArray} {nL d pc : Nat} {X : bX} {L : List (Option Value)} {S : List Value} {w : Wd} {w' : Wd} {a0 : Value} {x : Int32} (hX : bOk cc nL RX10 (d + 1) X) (hC : Con d yX10_fieldOf cX10_fieldOf 7 (some .int) [.ref 33, a0] w (some (.int x)) w') (hr : (S.map fun v => v.category).sum ≤ 8) (hd : decode cc pc = .ok (.invokevirtual 260, 3)) (k : bV X (pc + 3) L (.int x :: S) w') : bV X pc L (a0 :: .ref 33 :: S) w := V_callV (As := [a0]) hX hC lk_RX10_260 md_X10_fieldOf iv_X10_fieldOf co_X10_fieldOf (Nat.le_of_ble_eq_true rfl) (Nat.le_of_ble_eq_true rfl) lay_33 rfl rfl hr hd k
theorem lk_RX10_263 : lkOk RX10 263 yX10_ploughedIn = true := by decide +kernel
theorem C_RX10_263 {cc : ByteArray} {nL d pc : Nat} {X : bX} {L : List (Option Value)} {S : List Value} {w : Wd} {w' : Wd} {a0 : Value} {a1 : Value} {x : Int32} (hX : bOk cc nL RX10 (d + 1) X) (hC : Con d yX10_ploughedIn cX10_ploughedIn 8 (some .int) [.ref 33, a0, a1] w (some (.int x)) w') (hr : (S.map fun v => v.category).sum ≤ 8) (hd : decode cc pc = .ok (.invokevirtual 263, 3)) (k : bV X (pc + 3) L (.int x :: S) w') : bV X pc L (a1 :: a0 :: .ref 33 :: S) w := V_callV (As := [a0, a1]) hX hC lk_RX10_263 md_X10_ploughedIn iv_X10_ploughedIn co_X10_ploughedIn (Nat.le_of_ble_eq_true rfl) (Nat.le_of_ble_eq_true rfl) lay_33 rfl rfl hr hd k
theorem lk_RX10_266 : lkOk RX10 266 yX10_apart = true := by decide +kernel
theorem C_RX10_266 {cc : ByteArray} {nL d pc : Nat} {X : bX} {L : List (Option Value)} {S : List Value} {w : Wd} {w' : Wd} {a0 : Value} {a1 : Value} {a2 : Value} {a3 : Value} {x : Int32} (hX : bOk cc nL RX10 (d + 1) X) (hC : Con d yX10_apart cX10_apart 4 (some .int) [a0, a1, a2, a3] w (some (.int x)) w') (hr : (S.map fun v => v.category).sum ≤ 8) (hd : decode cc pc = .ok (.invokestatic 266, 3)) (k : bV X (pc + 3) L (.int x :: S) w') : bV X pc L (a3 :: a2 :: a1 :: a0 :: S) w := V_callS (As := [a0, a1, a2, a3]) hX hC lk_RX10_266 md_X10_apart iv_X10_apart co_X10_apart (Nat.le_of_ble_eq_true rfl) rfl hr hd k
theorem lk_RX10_270 : lkOk RX10 270 yX10_offOf = true := by decide +kernel
theorem C_RX10_270 {cc : ByteArray} {nL d pc : Nat} {X : bX} {L : List (Option Value)} {S : List Value} {w : Wd} {w' : Wd} {a0 : Value} {a1 : Value} {x : Int32} (hX : bOk cc nL RX10 (d + 1) X) (hC : Con d yX10_offOf cX10_offOf 4 (some .int) [.ref 33, a0, a1] w (some (.int x)) w') (hr : (S.map fun v => v.category).sum ≤ 8) (hd : decode cc pc = .ok (.invokevirtual 270, 3)) (k : bV X (pc + 3) L (.int x :: S) w') : bV X pc L (a1 :: a0 :: .ref 33 :: S) w := V_callV (As := [a0, a1]) hX hC lk_RX10_270 md_X10_offOf iv_X10_offOf co_X10_offOf (Nat.le_of_ble_eq_true rfl) (Nat.le_of_ble_eq_true rfl) lay_33 rfl rfl hr hd k
theorem lk_RX10_273 : lkOk RX10 273 yX10_doTouch = true := by decide +kernel
theorem C_RX10_273 {cc : ByteArray} {nL d pc : Nat} {X : bX} {L : List (Option Value)} {S : List Value} {w : Wd} {w' : Wd} {a0 : Value} {a1 : Value} {x : Int32} (hX : bOk cc nL RX10 (d + 1) X) (hC : Con d yX10_doTouch cX10_doTouch 3 (some .boolean) [.ref 33, a0, a1] w (some (.int x)) w') (hr : (S.map fun v => v.category).sum ≤ 8) (hd : decode cc pc = .ok (.invokevirtual 273, 3)) (k : bV X (pc + 3) L (.int x :: S) w') : bV X pc L (a1 :: a0 :: .ref 33 :: S) w := V_callV (As := [a0, a1]) hX hC lk_RX10_273 md_X10_doTouch iv_X10_doTouch co_X10_doTouch (Nat.le_of_ble_eq_true rfl) (Nat.le_of_ble_eq_true rfl) lay_33 rfl rfl hr hd k
theorem lk_RX10_282 : lkOk RX10 282 yX10_giveOne = true := by decide +kernel
theorem C_RX10_282 {cc : ByteArray} {nL d pc : Nat} {X : bX} {L : List (Option Value)} {S : List Value} {w : Wd} {w' : Wd} (hX : bOk cc nL RX10 (d + 1) X) (hC : Con d yX10_giveOne cX10_giveOne 3 none [.ref 33] w none w') (hr : (S.map fun v => v.category).sum ≤ 8) (hd : decode cc pc = .ok (.invokevirtual 282, 3)) (k : bV X (pc + 3) L S w') : bV X pc L (.ref 33 :: S) w := V_callV (As := []) hX hC lk_RX10_282 md_X10_giveOne iv_X10_giveOne co_X10_giveOne (Nat.le_of_ble_eq_true rfl) (Nat.le_of_ble_eq_true rfl) lay_33 rfl rfl hr hd k
theorem lk_RX10_285 : lkOk RX10 285 yX10_mayHave = true := by decide +kernel
theorem C_RX10_285 {cc : ByteArray} {nL d pc : Nat} {X : bX} {L : List (Option Value)} {S : List Value} {w : Wd} {w' : Wd} {a0 : Value} {a1 : Value} {x : Int32} (hX : bOk cc nL RX10 (d + 1) X) (hC : Con d yX10_mayHave cX10_mayHave 4 (some .boolean) [.ref 33, a0, a1] w (some (.int x)) w') (hr : (S.map fun v => v.category).sum ≤ 8) (hd : decode cc pc = .ok (.invokevirtual 285, 3)) (k : bV X (pc + 3) L (.int x :: S) w') : bV X pc L (a1 :: a0 :: .ref 33 :: S) w := V_callV (As := [a0, a1]) hX hC lk_RX10_285 md_X10_mayHave iv_X10_mayHave co_X10_mayHave (Nat.le_of_ble_eq_true rfl) (Nat.le_of_ble_eq_true rfl) lay_33 rfl rfl hr hd k
theorem lk_RX10_288 : lkOk RX10 288 yX10_giveAll = true := by decide +kernel
theorem C_RX10_288 {cc : ByteArray} {nL d pc : Nat} {X : bX} {L : List (Option Value)} {S : List Value} {w : Wd} {w' : Wd} (hX : bOk cc nL RX10 (d + 1) X) (hC : Con d yX10_giveAll cX10_giveAll 3 none [.ref 33] w none w') (hr : (S.map fun v => v.category).sum ≤ 8) (hd : decode cc pc = .ok (.invokevirtual 288, 3)) (k : bV X (pc + 3) L S w') : bV X pc L (.ref 33 :: S) w := V_callV (As := []) hX hC lk_RX10_288 md_X10_giveAll iv_X10_giveAll co_X10_giveAll (Nat.le_of_ble_eq_true rfl) (Nat.le_of_ble_eq_true rfl) lay_33 rfl rfl hr hd k
theorem lk_RX10_291 : lkOk RX10 291 yX10_roundOf = true := by decide +kernel
theorem C_RX10_291 {cc : ByteArray} {nL d pc : Nat} {X : bX} {L : List (Option Value)} {S : List Value} {w : Wd} {w' : Wd} {x : Int32} (hX : bOk cc nL RX10 (d + 1) X) (hC : Con d yX10_roundOf cX10_roundOf 5 (some .int) [.ref 33] w (some (.int x)) w') (hr : (S.map fun v => v.category).sum ≤ 8) (hd : decode cc pc = .ok (.invokevirtual 291, 3)) (k : bV X (pc + 3) L (.int x :: S) w') : bV X pc L (.ref 33 :: S) w := V_callV (As := []) hX hC lk_RX10_291 md_X10_roundOf iv_X10_roundOf co_X10_roundOf (Nat.le_of_ble_eq_true rfl) (Nat.le_of_ble_eq_true rfl) lay_33 rfl rfl hr hd k
theorem lk_RX10_297 : lkOk RX10 297 yX10_doesShow = true := by decide +kernel
theorem C_RX10_297 {cc : ByteArray} {nL d pc : Nat} {X : bX} {L : List (Option Value)} {S : List Value} {w : Wd} {w' : Wd} {a0 : Value} {a1 : Value} {x : Int32} (hX : bOk cc nL RX10 (d + 1) X) (hC : Con d yX10_doesShow cX10_doesShow 3 (some .boolean) [.ref 33, a0, a1] w (some (.int x)) w') (hr : (S.map fun v => v.category).sum ≤ 8) (hd : decode cc pc = .ok (.invokevirtual 297, 3)) (k : bV X (pc + 3) L (.int x :: S) w') : bV X pc L (a1 :: a0 :: .ref 33 :: S) w := V_callV (As := [a0, a1]) hX hC lk_RX10_297 md_X10_doesShow iv_X10_doesShow co_X10_doesShow (Nat.le_of_ble_eq_true rfl) (Nat.le_of_ble_eq_true rfl) lay_33 rfl rfl hr hd k
theorem lk_RX10_300 : lkOk RX10 300 yX10_bits = true := by decide +kernel
theorem C_RX10_300 {cc : ByteArray} {nL d pc : Nat} {X : bX} {L : List (Option Value)} {S : List Value} {w : Wd} {w' : Wd} {a0 : Value} {x : Int32} (hX : bOk cc nL RX10 (d + 1) X) (hC : Con d yX10_bits cX10_bits 3 (some .int) [a0] w (some (.int x)) w') (hr : (S.map fun v => v.category).sum ≤ 8) (hd : decode cc pc = .ok (.invokestatic 300, 3)) (k : bV X (pc + 3) L (.int x :: S) w') : bV X pc L (a0 :: S) w := V_callS (As := [a0]) hX hC lk_RX10_300 md_X10_bits iv_X10_bits co_X10_bits (Nat.le_of_ble_eq_true rfl) rfl hr hd k
theorem lk_RX2_29 : lkOk RX2 29 yX9_put = true := by decide +kernel
theorem C_RX2_29 {cc : ByteArray} {nL d pc : Nat} {X : bX} {L : List (Option Value)} {S : List Value} {w : Wd} {w' : Wd} {a0 : Value} {a1 : Value} {a2 : Value} (hX : bOk cc nL RX2 (d + 1) X) (hC : Con d yX9_put cX9_put 3 none [a0, a1, a2] w none w') (hr : (S.map fun v => v.category).sum ≤ 8) (hd : decode cc pc = .ok (.invokestatic 29, 3)) (k : bV X (pc + 3) L S w') : bV X pc L (a2 :: a1 :: a0 :: S) w := V_callS (As := [a0, a1, a2]) hX hC lk_RX2_29 md_X9_put iv_X9_put co_X9_put (Nat.le_of_ble_eq_true rfl) rfl hr hd k
theorem lk_RX2_33 : lkOk RX2 33 yX0_part = true := by decide +kernel
theorem C_RX2_33 {cc : ByteArray} {nL d pc : Nat} {X : bX} {L : List (Option Value)} {S : List Value} {w : Wd} {w' : Wd} {a0 : Value} {a1 : Value} {x : Int32} (hX : bOk cc nL RX2 (d + 1) X) (hC : Con d yX0_part cX0_part 3 (some .int) [.ref 5, a0, a1] w (some (.int x)) w') (hr : (S.map fun v => v.category).sum ≤ 8) (hd : decode cc pc = .ok (.invokevirtual 33, 3)) (k : bV X (pc + 3) L (.int x :: S) w') : bV X pc L (a1 :: a0 :: .ref 5 :: S) w := V_callV (As := [a0, a1]) hX hC lk_RX2_33 md_X0_part iv_X0_part co_X0_part (Nat.le_of_ble_eq_true rfl) (Nat.le_of_ble_eq_true rfl) lay_5 rfl rfl hr hd k
theorem lk_RX2_39 : lkOk RX2 39 yX9_at = true := by decide +kernel
theorem C_RX2_39 {cc : ByteArray} {nL d pc : Nat} {X : bX} {L : List (Option Value)} {S : List Value} {w : Wd} {w' : Wd} {a0 : Value} {a1 : Value} {x : Int32} (hX : bOk cc nL RX2 (d + 1) X) (hC : Con d yX9_at cX9_at 2 (some .int) [a0, a1] w (some (.int x)) w') (hr : (S.map fun v => v.category).sum ≤ 8) (hd : decode cc pc = .ok (.invokestatic 39, 3)) (k : bV X (pc + 3) L (.int x :: S) w') : bV X pc L (a1 :: a0 :: S) w := V_callS (As := [a0, a1]) hX hC lk_RX2_39 md_X9_at iv_X9_at co_X9_at (Nat.le_of_ble_eq_true rfl) rfl hr hd k
theorem lk_RX2_43 : lkOk RX2 43 yX2_due = true := by decide +kernel
theorem C_RX2_43 {cc : ByteArray} {nL d pc : Nat} {X : bX} {L : List (Option Value)} {S : List Value} {w : Wd} {w' : Wd} {x : Int32} (hX : bOk cc nL RX2 (d + 1) X) (hC : Con d yX2_due cX2_due 3 (some .int) [.ref 29] w (some (.int x)) w') (hr : (S.map fun v => v.category).sum ≤ 8) (hd : decode cc pc = .ok (.invokevirtual 43, 3)) (k : bV X (pc + 3) L (.int x :: S) w') : bV X pc L (.ref 29 :: S) w := V_callV (As := []) hX hC lk_RX2_43 md_X2_due iv_X2_due co_X2_due (Nat.le_of_ble_eq_true rfl) (Nat.le_of_ble_eq_true rfl) lay_29 rfl rfl hr hd k
theorem lk_RX2_47 : lkOk RX2 47 yX2_standing = true := by decide +kernel
theorem C_RX2_47 {cc : ByteArray} {nL d pc : Nat} {X : bX} {L : List (Option Value)} {S : List Value} {w : Wd} {w' : Wd} {x : Int32} (hX : bOk cc nL RX2 (d + 1) X) (hC : Con d yX2_standing cX2_standing 3 (some .int) [.ref 29] w (some (.int x)) w') (hr : (S.map fun v => v.category).sum ≤ 8) (hd : decode cc pc = .ok (.invokevirtual 47, 3)) (k : bV X (pc + 3) L (.int x :: S) w') : bV X pc L (.ref 29 :: S) w := V_callV (As := []) hX hC lk_RX2_47 md_X2_standing iv_X2_standing co_X2_standing (Nat.le_of_ble_eq_true rfl) (Nat.le_of_ble_eq_true rfl) lay_29 rfl rfl hr hd k
theorem lk_RX2_50 : lkOk RX2 50 yX2_dueIn = true := by decide +kernel
theorem C_RX2_50 {cc : ByteArray} {nL d pc : Nat} {X : bX} {L : List (Option Value)} {S : List Value} {w : Wd} {w' : Wd} {a0 : Value} {x : Int32} (hX : bOk cc nL RX2 (d + 1) X) (hC : Con d yX2_dueIn cX2_dueIn 4 (some .int) [.ref 29, a0] w (some (.int x)) w') (hr : (S.map fun v => v.category).sum ≤ 8) (hd : decode cc pc = .ok (.invokevirtual 50, 3)) (k : bV X (pc + 3) L (.int x :: S) w') : bV X pc L (a0 :: .ref 29 :: S) w := V_callV (As := [a0]) hX hC lk_RX2_50 md_X2_dueIn iv_X2_dueIn co_X2_dueIn (Nat.le_of_ble_eq_true rfl) (Nat.le_of_ble_eq_true rfl) lay_29 rfl rfl hr hd k
theorem lk_RX2_54 : lkOk RX2 54 yX0_isBundle = true := by decide +kernel
theorem C_RX2_54 {cc : ByteArray} {nL d pc : Nat} {X : bX} {L : List (Option Value)} {S : List Value} {w : Wd} {w' : Wd} {a0 : Value} {x : Int32} (hX : bOk cc nL RX2 (d + 1) X) (hC : Con d yX0_isBundle cX0_isBundle 2 (some .boolean) [.ref 5, a0] w (some (.int x)) w') (hr : (S.map fun v => v.category).sum ≤ 8) (hd : decode cc pc = .ok (.invokevirtual 54, 3)) (k : bV X (pc + 3) L (.int x :: S) w') : bV X pc L (a0 :: .ref 5 :: S) w := V_callV (As := [a0]) hX hC lk_RX2_54 md_X0_isBundle iv_X0_isBundle co_X0_isBundle (Nat.le_of_ble_eq_true rfl) (Nat.le_of_ble_eq_true rfl) lay_5 rfl rfl hr hd k
theorem lk_RX2_58 : lkOk RX2 58 yX2_shouldShow = true := by decide +kernel
theorem C_RX2_58 {cc : ByteArray} {nL d pc : Nat} {X : bX} {L : List (Option Value)} {S : List Value} {w : Wd} {w' : Wd} {a0 : Value} {a1 : Value} {x : Int32} (hX : bOk cc nL RX2 (d + 1) X) (hC : Con d yX2_shouldShow cX2_shouldShow 3 (some .boolean) [.ref 29, a0, a1] w (some (.int x)) w') (hr : (S.map fun v => v.category).sum ≤ 8) (hd : decode cc pc = .ok (.invokevirtual 58, 3)) (k : bV X (pc + 3) L (.int x :: S) w') : bV X pc L (a1 :: a0 :: .ref 29 :: S) w := V_callV (As := [a0, a1]) hX hC lk_RX2_58 md_X2_shouldShow iv_X2_shouldShow co_X2_shouldShow (Nat.le_of_ble_eq_true rfl) (Nat.le_of_ble_eq_true rfl) lay_29 rfl rfl hr hd k
theorem lk_RX2_62 : lkOk RX2 62 yX0_toldBundles = true := by decide +kernel
theorem C_RX2_62 {cc : ByteArray} {nL d pc : Nat} {X : bX} {L : List (Option Value)} {S : List Value} {w : Wd} {w' : Wd} {x : Int32} (hX : bOk cc nL RX2 (d + 1) X) (hC : Con d yX0_toldBundles cX0_toldBundles 1 (some .int) [.ref 5] w (some (.int x)) w') (hr : (S.map fun v => v.category).sum ≤ 8) (hd : decode cc pc = .ok (.invokevirtual 62, 3)) (k : bV X (pc + 3) L (.int x :: S) w') : bV X pc L (.ref 5 :: S) w := V_callV (As := []) hX hC lk_RX2_62 md_X0_toldBundles iv_X0_toldBundles co_X0_toldBundles (Nat.le_of_ble_eq_true rfl) (Nat.le_of_ble_eq_true rfl) lay_5 rfl rfl hr hd k
theorem lk_RX2_65 : lkOk RX2 65 yX9_has = true := by decide +kernel
theorem C_RX2_65 {cc : ByteArray} {nL d pc : Nat} {X : bX} {L : List (Option Value)} {S : List Value} {w : Wd} {w' : Wd} {a0 : Value} {a1 : Value} {x : Int32} (hX : bOk cc nL RX2 (d + 1) X) (hC : Con d yX9_has cX9_has 2 (some .boolean) [a0, a1] w (some (.int x)) w') (hr : (S.map fun v => v.category).sum ≤ 8) (hd : decode cc pc = .ok (.invokestatic 65, 3)) (k : bV X (pc + 3) L (.int x :: S) w') : bV X pc L (a1 :: a0 :: S) w := V_callS (As := [a0, a1]) hX hC lk_RX2_65 md_X9_has iv_X9_has co_X9_has (Nat.le_of_ble_eq_true rfl) rfl hr hd k
theorem lk_RX3_19 : lkOk RX3 19 yX0_isBundle = true := by decide +kernel
theorem C_RX3_19 {cc : ByteArray} {nL d pc : Nat} {X : bX} {L : List (Option Value)} {S : List Value} {w : Wd} {w' : Wd} {a0 : Value} {x : Int32} (hX : bOk cc nL RX3 (d + 1) X) (hC : Con d yX0_isBundle cX0_isBundle 2 (some .boolean) [.ref 5, a0] w (some (.int x)) w') (hr : (S.map fun v => v.category).sum ≤ 8) (hd : decode cc pc = .ok (.invokevirtual 19, 3)) (k : bV X (pc + 3) L (.int x :: S) w') : bV X pc L (a0 :: .ref 5 :: S) w := V_callV (As := [a0]) hX hC lk_RX3_19 md_X0_isBundle iv_X0_isBundle co_X0_isBundle (Nat.le_of_ble_eq_true rfl) (Nat.le_of_ble_eq_true rfl) lay_5 rfl rfl hr hd k
theorem lk_RX3_25 : lkOk RX3 25 yX3_isPloughed = true := by decide +kernel
theorem C_RX3_25 {cc : ByteArray} {nL d pc : Nat} {X : bX} {L : List (Option Value)} {S : List Value} {w : Wd} {w' : Wd} {a0 : Value} {a1 : Value} {a2 : Value} {x : Int32} (hX : bOk cc nL RX3 (d + 1) X) (hC : Con d yX3_isPloughed cX3_isPloughed 5 (some .boolean) [.ref 19, a0, a1, a2] w (some (.int x)) w') (hr : (S.map fun v => v.category).sum ≤ 8) (hd : decode cc pc = .ok (.invokevirtual 25, 3)) (k : bV X (pc + 3) L (.int x :: S) w') : bV X pc L (a2 :: a1 :: a0 :: .ref 19 :: S) w := V_callV (As := [a0, a1, a2]) hX hC lk_RX3_25 md_X3_isPloughed iv_X3_isPloughed co_X3_isPloughed (Nat.le_of_ble_eq_true rfl) (Nat.le_of_ble_eq_true rfl) lay_19 rfl rfl hr hd k
theorem lk_RX3_29 : lkOk RX3 29 yX0_yards = true := by decide +kernel
theorem C_RX3_29 {cc : ByteArray} {nL d pc : Nat} {X : bX} {L : List (Option Value)} {S : List Value} {w : Wd} {w' : Wd} {a0 : Value} {x : Int32} (hX : bOk cc nL RX3 (d + 1) X) (hC : Con d yX0_yards cX0_yards 2 (some .int) [.ref 5, a0] w (some (.int x)) w') (hr : (S.map fun v => v.category).sum ≤ 8) (hd : decode cc pc = .ok (.invokevirtual 29, 3)) (k : bV X (pc + 3) L (.int x :: S) w') : bV X pc L (a0 :: .ref 5 :: S) w := V_callV (As := [a0]) hX hC lk_RX3_29 md_X0_yards iv_X0_yards co_X0_yards (Nat.le_of_ble_eq_true rfl) (Nat.le_of_ble_eq_true rfl) lay_5 rfl rfl hr hd k
theorem lk_RX3_33 : lkOk RX3 33 yX8_earliestOf = true := by decide +kernel
theorem C_RX3_33 {cc : ByteArray} {nL d pc : Nat} {X : bX} {L : List (Option Value)} {S : List Value} {w : Wd} {w' : Wd} {a0 : Value} {x : Int32} (hX : bOk cc nL RX3 (d + 1) X) (hC : Con d yX8_earliestOf cX8_earliestOf 2 (some .int) [.ref 12, a0] w (some (.int x)) w') (hr : (S.map fun v => v.category).sum ≤ 8) (hd : decode cc pc = .ok (.invokevirtual 33, 3)) (k : bV X (pc + 3) L (.int x :: S) w') : bV X pc L (a0 :: .ref 12 :: S) w := V_callV (As := [a0]) hX hC lk_RX3_33 md_X8_earliestOf iv_X8_earliestOf co_X8_earliestOf (Nat.le_of_ble_eq_true rfl) (Nat.le_of_ble_eq_true rfl) lay_12 rfl rfl hr hd k
theorem lk_RX3_38 : lkOk RX3 38 yX8_latestOf = true := by decide +kernel
theorem C_RX3_38 {cc : ByteArray} {nL d pc : Nat} {X : bX} {L : List (Option Value)} {S : List Value} {w : Wd} {w' : Wd} {a0 : Value} {x : Int32} (hX : bOk cc nL RX3 (d + 1) X) (hC : Con d yX8_latestOf cX8_latestOf 2 (some .int) [.ref 12, a0] w (some (.int x)) w') (hr : (S.map fun v => v.category).sum ≤ 8) (hd : decode cc pc = .ok (.invokevirtual 38, 3)) (k : bV X (pc + 3) L (.int x :: S) w') : bV X pc L (a0 :: .ref 12 :: S) w := V_callV (As := [a0]) hX hC lk_RX3_38 md_X8_latestOf iv_X8_latestOf co_X8_latestOf (Nat.le_of_ble_eq_true rfl) (Nat.le_of_ble_eq_true rfl) lay_12 rfl rfl hr hd k
theorem lk_RX3_41 : lkOk RX3 41 yX3_yearOfLoss = true := by decide +kernel
theorem C_RX3_41 {cc : ByteArray} {nL d pc : Nat} {X : bX} {L : List (Option Value)} {S : List Value} {w : Wd} {w' : Wd} {a0 : Value} {a1 : Value} {x : Int32} (hX : bOk cc nL RX3 (d + 1) X) (hC : Con d yX3_yearOfLoss cX3_yearOfLoss 5 (some .int) [.ref 19, a0, a1] w (some (.int x)) w') (hr : (S.map fun v => v.category).sum ≤ 8) (hd : decode cc pc = .ok (.invokevirtual 41, 3)) (k : bV X (pc + 3) L (.int x :: S) w') : bV X pc L (a1 :: a0 :: .ref 19 :: S) w := V_callV (As := [a0, a1]) hX hC lk_RX3_41 md_X3_yearOfLoss iv_X3_yearOfLoss co_X3_yearOfLoss (Nat.le_of_ble_eq_true rfl) (Nat.le_of_ble_eq_true rfl) lay_19 rfl rfl hr hd k
theorem lk_RX3_45 : lkOk RX3 45 yX0_rightUnder = true := by decide +kernel
theorem C_RX3_45 {cc : ByteArray} {nL d pc : Nat} {X : bX} {L : List (Option Value)} {S : List Value} {w : Wd} {w' : Wd} {a0 : Value} {x : Int32} (hX : bOk cc nL RX3 (d + 1) X) (hC : Con d yX0_rightUnder cX0_rightUnder 2 (some .int) [.ref 5, a0] w (some (.int x)) w') (hr : (S.map fun v => v.category).sum ≤ 8) (hd : decode cc pc = .ok (.invokevirtual 45, 3)) (k : bV X (pc + 3) L (.int x :: S) w') : bV X pc L (a0 :: .ref 5 :: S) w := V_callV (As := [a0]) hX hC lk_RX3_45 md_X0_rightUnder iv_X0_rightUnder co_X0_rightUnder (Nat.le_of_ble_eq_true rfl) (Nat.le_of_ble_eq_true rfl) lay_5 rfl rfl hr hd k
theorem lk_RX3_48 : lkOk RX3 48 yX9_has = true := by decide +kernel
theorem C_RX3_48 {cc : ByteArray} {nL d pc : Nat} {X : bX} {L : List (Option Value)} {S : List Value} {w : Wd} {w' : Wd} {a0 : Value} {a1 : Value} {x : Int32} (hX : bOk cc nL RX3 (d + 1) X) (hC : Con d yX9_has cX9_has 2 (some .boolean) [a0, a1] w (some (.int x)) w') (hr : (S.map fun v => v.category).sum ≤ 8) (hd : decode cc pc = .ok (.invokestatic 48, 3)) (k : bV X (pc + 3) L (.int x :: S) w') : bV X pc L (a1 :: a0 :: S) w := V_callS (As := [a0, a1]) hX hC lk_RX3_48 md_X9_has iv_X9_has co_X9_has (Nat.le_of_ble_eq_true rfl) rfl hr hd k
theorem mt_RX3_52 : (inGd (.methodLink RX3 52 Lib.Math.min.name) && (inGd (.static Lib.Math.min.name) && (inGd (.initialized "java/lang/Math") && inGd (.code Lib.Math.min.name Lib.Math.min.code 2 (some .int))))) = true := by decide +kernel
theorem lk_RX3_57 : lkOk RX3 57 yX3_yardsIn = true := by decide +kernel
theorem C_RX3_57 {cc : ByteArray} {nL d pc : Nat} {X : bX} {L : List (Option Value)} {S : List Value} {w : Wd} {w' : Wd} {a0 : Value} {a1 : Value} {x : Int32} (hX : bOk cc nL RX3 (d + 1) X) (hC : Con d yX3_yardsIn cX3_yardsIn 5 (some .int) [.ref 19, a0, a1] w (some (.int x)) w') (hr : (S.map fun v => v.category).sum ≤ 8) (hd : decode cc pc = .ok (.invokevirtual 57, 3)) (k : bV X (pc + 3) L (.int x :: S) w') : bV X pc L (a1 :: a0 :: .ref 19 :: S) w := V_callV (As := [a0, a1]) hX hC lk_RX3_57 md_X3_yardsIn iv_X3_yardsIn co_X3_yardsIn (Nat.le_of_ble_eq_true rfl) (Nat.le_of_ble_eq_true rfl) lay_19 rfl rfl hr hd k
theorem lk_RX4_26 : lkOk RX4 26 yX4_readLine = true := by decide +kernel
theorem C_RX4_26 {cc : ByteArray} {nL d pc : Nat} {X : bX} {L : List (Option Value)} {S : List Value} {w : Wd} {w' : Wd} {a0 : Value} {x : Int32} (hX : bOk cc nL RX4 (d + 1) X) (hC : Con d yX4_readLine cX4_readLine 7 (some .boolean) [.ref 3, a0] w (some (.int x)) w') (hr : (S.map fun v => v.category).sum ≤ 8) (hd : decode cc pc = .ok (.invokevirtual 26, 3)) (k : bV X (pc + 3) L (.int x :: S) w') : bV X pc L (a0 :: .ref 3 :: S) w := V_callV (As := [a0]) hX hC lk_RX4_26 md_X4_readLine iv_X4_readLine co_X4_readLine (Nat.le_of_ble_eq_true rfl) (Nat.le_of_ble_eq_true rfl) lay_3 rfl rfl hr hd k
theorem lk_RX4_33 : lkOk RX4 33 yX4_takeToken = true := by decide +kernel
theorem C_RX4_33 {cc : ByteArray} {nL d pc : Nat} {X : bX} {L : List (Option Value)} {S : List Value} {w : Wd} {w' : Wd} (hX : bOk cc nL RX4 (d + 1) X) (hC : Con d yX4_takeToken cX4_takeToken 2 none [.ref 3] w none w') (hr : (S.map fun v => v.category).sum ≤ 8) (hd : decode cc pc = .ok (.invokevirtual 33, 3)) (k : bV X (pc + 3) L S w') : bV X pc L (.ref 3 :: S) w := V_callV (As := []) hX hC lk_RX4_33 md_X4_takeToken iv_X4_takeToken co_X4_takeToken (Nat.le_of_ble_eq_true rfl) (Nat.le_of_ble_eq_true rfl) lay_3 rfl rfl hr hd k
theorem lk_RX4_43 : lkOk RX4 43 yX4_tokenIs = true := by decide +kernel
theorem C_RX4_43 {cc : ByteArray} {nL d pc : Nat} {X : bX} {L : List (Option Value)} {S : List Value} {w : Wd} {w' : Wd} {a0 : Value} {x : Int32} (hX : bOk cc nL RX4 (d + 1) X) (hC : Con d yX4_tokenIs cX4_tokenIs 3 (some .boolean) [.ref 3, a0] w (some (.int x)) w') (hr : (S.map fun v => v.category).sum ≤ 8) (hd : decode cc pc = .ok (.invokevirtual 43, 3)) (k : bV X (pc + 3) L (.int x :: S) w') : bV X pc L (a0 :: .ref 3 :: S) w := V_callV (As := [a0]) hX hC lk_RX4_43 md_X4_tokenIs iv_X4_tokenIs co_X4_tokenIs (Nat.le_of_ble_eq_true rfl) (Nat.le_of_ble_eq_true rfl) lay_3 rfl rfl hr hd k
theorem lk_RX4_47 : lkOk RX4 47 yX9_at = true := by decide +kernel
theorem C_RX4_47 {cc : ByteArray} {nL d pc : Nat} {X : bX} {L : List (Option Value)} {S : List Value} {w : Wd} {w' : Wd} {a0 : Value} {a1 : Value} {x : Int32} (hX : bOk cc nL RX4 (d + 1) X) (hC : Con d yX9_at cX9_at 2 (some .int) [a0, a1] w (some (.int x)) w') (hr : (S.map fun v => v.category).sum ≤ 8) (hd : decode cc pc = .ok (.invokestatic 47, 3)) (k : bV X (pc + 3) L (.int x :: S) w') : bV X pc L (a1 :: a0 :: S) w := V_callS (As := [a0, a1]) hX hC lk_RX4_47 md_X9_at iv_X9_at co_X9_at (Nat.le_of_ble_eq_true rfl) rfl hr hd k
theorem lk_RX4_51 : lkOk RX4 51 yX4_kindTold = true := by decide +kernel
theorem C_RX4_51 {cc : ByteArray} {nL d pc : Nat} {X : bX} {L : List (Option Value)} {S : List Value} {w : Wd} {w' : Wd} {x : Int32} (hX : bOk cc nL RX4 (d + 1) X) (hC : Con d yX4_kindTold cX4_kindTold 2 (some .int) [.ref 3] w (some (.int x)) w') (hr : (S.map fun v => v.category).sum ≤ 8) (hd : decode cc pc = .ok (.invokevirtual 51, 3)) (k : bV X (pc + 3) L (.int x :: S) w') : bV X pc L (.ref 3 :: S) w := V_callV (As := []) hX hC lk_RX4_51 md_X4_kindTold iv_X4_kindTold co_X4_kindTold (Nat.le_of_ble_eq_true rfl) (Nat.le_of_ble_eq_true rfl) lay_3 rfl rfl hr hd k
theorem lk_RX4_55 : lkOk RX4 55 yX9_put = true := by decide +kernel
theorem C_RX4_55 {cc : ByteArray} {nL d pc : Nat} {X : bX} {L : List (Option Value)} {S : List Value} {w : Wd} {w' : Wd} {a0 : Value} {a1 : Value} {a2 : Value} (hX : bOk cc nL RX4 (d + 1) X) (hC : Con d yX9_put cX9_put 3 none [a0, a1, a2] w none w') (hr : (S.map fun v => v.category).sum ≤ 8) (hd : decode cc pc = .ok (.invokestatic 55, 3)) (k : bV X (pc + 3) L S w') : bV X pc L (a2 :: a1 :: a0 :: S) w := V_callS (As := [a0, a1, a2]) hX hC lk_RX4_55 md_X9_put iv_X9_put co_X9_put (Nat.le_of_ble_eq_true rfl) rfl hr hd k
theorem lk_RX4_62 : lkOk RX4 62 yX4_valueIn = true := by decide +kernel
theorem C_RX4_62 {cc : ByteArray} {nL d pc : Nat} {X : bX} {L : List (Option Value)} {S : List Value} {w : Wd} {w' : Wd} {a0 : Value} {a1 : Value} {x : Int32} (hX : bOk cc nL RX4 (d + 1) X) (hC : Con d yX4_valueIn cX4_valueIn 5 (some .int) [.ref 3, a0, a1] w (some (.int x)) w') (hr : (S.map fun v => v.category).sum ≤ 8) (hd : decode cc pc = .ok (.invokevirtual 62, 3)) (k : bV X (pc + 3) L (.int x :: S) w') : bV X pc L (a1 :: a0 :: .ref 3 :: S) w := V_callV (As := [a0, a1]) hX hC lk_RX4_62 md_X4_valueIn iv_X4_valueIn co_X4_valueIn (Nat.le_of_ble_eq_true rfl) (Nat.le_of_ble_eq_true rfl) lay_3 rfl rfl hr hd k
theorem lk_RX4_69 : lkOk RX4 69 yX4_sortOf = true := by decide +kernel
theorem C_RX4_69 {cc : ByteArray} {nL d pc : Nat} {X : bX} {L : List (Option Value)} {S : List Value} {w : Wd} {w' : Wd} {a0 : Value} {x : Int32} (hX : bOk cc nL RX4 (d + 1) X) (hC : Con d yX4_sortOf cX4_sortOf 1 (some .int) [a0] w (some (.int x)) w') (hr : (S.map fun v => v.category).sum ≤ 8) (hd : decode cc pc = .ok (.invokestatic 69, 3)) (k : bV X (pc + 3) L (.int x :: S) w') : bV X pc L (a0 :: S) w := V_callS (As := [a0]) hX hC lk_RX4_69 md_X4_sortOf iv_X4_sortOf co_X4_sortOf (Nat.le_of_ble_eq_true rfl) rfl hr hd k
theorem lk_RX4_73 : lkOk RX4 73 yX9_within = true := by decide +kernel
theorem C_RX4_73 {cc : ByteArray} {nL d pc : Nat} {X : bX} {L : List (Option Value)} {S : List Value} {w : Wd} {w' : Wd} {a0 : Value} {a1 : Value} {a2 : Value} {x : Int32} (hX : bOk cc nL RX4 (d + 1) X) (hC : Con d yX9_within cX9_within 3 (some .boolean) [a0, a1, a2] w (some (.int x)) w') (hr : (S.map fun v => v.category).sum ≤ 8) (hd : decode cc pc = .ok (.invokestatic 73, 3)) (k : bV X (pc + 3) L (.int x :: S) w') : bV X pc L (a2 :: a1 :: a0 :: S) w := V_callS (As := [a0, a1, a2]) hX hC lk_RX4_73 md_X9_within iv_X9_within co_X9_within (Nat.le_of_ble_eq_true rfl) rfl hr hd k
theorem lk_RX4_77 : lkOk RX4 77 yX4_nameOf = true := by decide +kernel
theorem C_RX4_77 {cc : ByteArray} {nL d pc : Nat} {X : bX} {L : List (Option Value)} {S : List Value} {w : Wd} {w' : Wd} {a0 : Value} {x : Nat} (hX : bOk cc nL RX4 (d + 1) X) (hC : Con d yX4_nameOf cX4_nameOf 1 (some (.object "java/lang/String")) [a0] w (some (.ref x)) w') (hr : (S.map fun v => v.category).sum ≤ 8) (hd : decode cc pc = .ok (.invokestatic 77, 3)) (k : bV X (pc + 3) L (.ref x :: S) w') : bV X pc L (a0 :: S) w := V_callS (As := [a0]) hX hC lk_RX4_77 md_X4_nameOf iv_X4_nameOf co_X4_nameOf (Nat.le_of_ble_eq_true rfl) rfl hr hd k
theorem lk_RX4_102 : lkOk RX4 102 yX4_whichWord = true := by decide +kernel
theorem C_RX4_102 {cc : ByteArray} {nL d pc : Nat} {X : bX} {L : List (Option Value)} {S : List Value} {w : Wd} {w' : Wd} {a0 : Value} {a1 : Value} {x : Int32} (hX : bOk cc nL RX4 (d + 1) X) (hC : Con d yX4_whichWord cX4_whichWord 3 (some .int) [.ref 3, a0, a1] w (some (.int x)) w') (hr : (S.map fun v => v.category).sum ≤ 8) (hd : decode cc pc = .ok (.invokevirtual 102, 3)) (k : bV X (pc + 3) L (.int x :: S) w') : bV X pc L (a1 :: a0 :: .ref 3 :: S) w := V_callV (As := [a0, a1]) hX hC lk_RX4_102 md_X4_whichWord iv_X4_whichWord co_X4_whichWord (Nat.le_of_ble_eq_true rfl) (Nat.le_of_ble_eq_true rfl) lay_3 rfl rfl hr hd k
theorem lk_RX4_110 : lkOk RX4 110 yX4_tokenNumber = true := by decide +kernel
theorem C_RX4_110 {cc : ByteArray} {nL d pc : Nat} {X : bX} {L : List (Option Value)} {S : List Value} {w : Wd} {w' : Wd} {x : Int32} (hX : bOk cc nL RX4 (d + 1) X) (hC : Con d yX4_tokenNumber cX4_tokenNumber 3 (some .int) [.ref 3] w (some (.int x)) w') (hr : (S.map fun v => v.category).sum ≤ 8) (hd : decode cc pc = .ok (.invokevirtual 110, 3)) (k : bV X (pc + 3) L (.int x :: S) w') : bV X pc L (.ref 3 :: S) w := V_callV (As := []) hX hC lk_RX4_110 md_X4_tokenNumber iv_X4_tokenNumber co_X4_tokenNumber (Nat.le_of_ble_eq_true rfl) (Nat.le_of_ble_eq_true rfl) lay_3 rfl rfl hr hd k
theorem lk_RX4_113 : lkOk RX4 113 yJ0_length_8abf5 = true := by decide +kernel
theorem lk_RX4_117 : lkOk RX4 117 yJ0_charAt_5068e = true := by decide +kernel
theorem lk_RX5_34 : lkOk RX5 34 yX5_isTold = true := by decide +kernel
theorem C_RX5_34 {cc : ByteArray} {nL d pc : Nat} {X : bX} {L : List (Option Value)} {S : List Value} {w : Wd} {w' : Wd} {a0 : Value} {x : Int32} (hX : bOk cc nL RX5 (d + 1) X) (hC : Con d yX5_isTold cX5_isTold 2 (some .boolean) [.ref 20, a0] w (some (.int x)) w') (hr : (S.map fun v => v.category).sum ≤ 8) (hd : decode cc pc = .ok (.invokevirtual 34, 3)) (k : bV X (pc + 3) L (.int x :: S) w') : bV X pc L (a0 :: .ref 20 :: S) w := V_callV (As := [a0]) hX hC lk_RX5_34 md_X5_isTold iv_X5_isTold co_X5_isTold (Nat.le_of_ble_eq_true rfl) (Nat.le_of_ble_eq_true rfl) lay_20 rfl rfl hr hd k
theorem lk_RX5_38 : lkOk RX5 38 yX9_oneIf = true := by decide +kernel
theorem C_RX5_38 {cc : ByteArray} {nL d pc : Nat} {X : bX} {L : List (Option Value)} {S : List Value} {w : Wd} {w' : Wd} {a0 : Value} {x : Int32} (hX : bOk cc nL RX5 (d + 1) X) (hC : Con d yX9_oneIf cX9_oneIf 1 (some .int) [a0] w (some (.int x)) w') (hr : (S.map fun v => v.category).sum ≤ 8) (hd : decode cc pc = .ok (.invokestatic 38, 3)) (k : bV X (pc + 3) L (.int x :: S) w') : bV X pc L (a0 :: S) w := V_callS (As := [a0]) hX hC lk_RX5_38 md_X9_oneIf iv_X9_oneIf co_X9_oneIf (Nat.le_of_ble_eq_true rfl) rfl hr hd k
theorem lk_RX5_42 : lkOk RX5 42 yX9_at = true := by decide +kernel
theorem C_RX5_42 {cc : ByteArray} {nL d pc : Nat} {X : bX} {L : List (Option Value)} {S : List Value} {w : Wd} {w' : Wd} {a0 : Value} {a1 : Value} {x : Int32} (hX : bOk cc nL RX5 (d + 1) X) (hC : Con d yX9_at cX9_at 2 (some .int) [a0, a1] w (some (.int x)) w') (hr : (S.map fun v => v.category).sum ≤ 8) (hd : decode cc pc = .ok (.invokestatic 42, 3)) (k : bV X (pc + 3) L (.int x :: S) w') : bV X pc L (a1 :: a0 :: S) w := V_callS (As := [a0, a1]) hX hC lk_RX5_42 md_X9_at iv_X9_at co_X9_at (Nat.le_of_ble_eq_true rfl) rfl hr hd k
theorem lk_RX5_46 : lkOk RX5 46 yX9_put = true := by decide +kernel
theorem C_RX5_46 {cc : ByteArray} {nL d pc : Nat} {X : bX} {L : List (Option Value)} {S : List Value} {w : Wd} {w' : Wd} {a0 : Value} {a1 : Value} {a2 : Value} (hX : bOk cc nL RX5 (d + 1) X) (hC : Con d yX9_put cX9_put 3 none [a0, a1, a2] w none w') (hr : (S.map fun v => v.category).sum ≤ 8) (hd : decode cc pc = .ok (.invokestatic 46, 3)) (k : bV X (pc + 3) L S w') : bV X pc L (a2 :: a1 :: a0 :: S) w := V_callS (As := [a0, a1, a2]) hX hC lk_RX5_46 md_X9_put iv_X9_put co_X9_put (Nat.le_of_ble_eq_true rfl) rfl hr hd k
theorem lk_RX5_50 : lkOk RX5 50 yX9_has = true := by decide +kernel
theorem C_RX5_50 {cc : ByteArray} {nL d pc : Nat} {X : bX} {L : List (Option Value)} {S : List Value} {w : Wd} {w' : Wd} {a0 : Value} {a1 : Value} {x : Int32} (hX : bOk cc nL RX5 (d + 1) X) (hC : Con d yX9_has cX9_has 2 (some .boolean) [a0, a1] w (some (.int x)) w') (hr : (S.map fun v => v.category).sum ≤ 8) (hd : decode cc pc = .ok (.invokestatic 50, 3)) (k : bV X (pc + 3) L (.int x :: S) w') : bV X pc L (a1 :: a0 :: S) w := V_callS (As := [a0, a1]) hX hC lk_RX5_50 md_X9_has iv_X9_has co_X9_has (Nat.le_of_ble_eq_true rfl) rfl hr hd k
theorem lk_RX5_61 : lkOk RX5 61 yX5_touchedBy = true := by decide +kernel
theorem C_RX5_61 {cc : ByteArray} {nL d pc : Nat} {X : bX} {L : List (Option Value)} {S : List Value} {w : Wd} {w' : Wd} {a0 : Value} {x : Int32} (hX : bOk cc nL RX5 (d + 1) X) (hC : Con d yX5_touchedBy cX5_touchedBy 4 (some .int) [.ref 20, a0] w (some (.int x)) w') (hr : (S.map fun v => v.category).sum ≤ 8) (hd : decode cc pc = .ok (.invokevirtual 61, 3)) (k : bV X (pc + 3) L (.int x :: S) w') : bV X pc L (a0 :: .ref 20 :: S) w := V_callV (As := [a0]) hX hC lk_RX5_61 md_X5_touchedBy iv_X5_touchedBy co_X5_touchedBy (Nat.le_of_ble_eq_true rfl) (Nat.le_of_ble_eq_true rfl) lay_20 rfl rfl hr hd k
theorem lk_RX5_65 : lkOk RX5 65 yX5_suitingOf = true := by decide +kernel
theorem C_RX5_65 {cc : ByteArray} {nL d pc : Nat} {X : bX} {L : List (Option Value)} {S : List Value} {w : Wd} {w' : Wd} {a0 : Value} {x : Int32} (hX : bOk cc nL RX5 (d + 1) X) (hC : Con d yX5_suitingOf cX5_suitingOf 4 (some .int) [.ref 20, a0] w (some (.int x)) w') (hr : (S.map fun v => v.category).sum ≤ 8) (hd : decode cc pc = .ok (.invokevirtual 65, 3)) (k : bV X (pc + 3) L (.int x :: S) w') : bV X pc L (a0 :: .ref 20 :: S) w := V_callV (As := [a0]) hX hC lk_RX5_65 md_X5_suitingOf iv_X5_suitingOf co_X5_suitingOf (Nat.le_of_ble_eq_true rfl) (Nat.le_of_ble_eq_true rfl) lay_20 rfl rfl hr hd k
theorem lk_RX5_68 : lkOk RX5 68 yX5_giveFrom = true := by decide +kernel
theorem C_RX5_68 {cc : ByteArray} {nL d pc : Nat} {X : bX} {L : List (Option Value)} {S : List Value} {w : Wd} {w' : Wd} {a0 : Value} {a1 : Value} {a2 : Value} {a3 : Value} (hX : bOk cc nL RX5 (d + 1) X) (hC : Con d yX5_giveFrom cX5_giveFrom 7 none [a0, a1, a2, a3] w none w') (hr : (S.map fun v => v.category).sum ≤ 8) (hd : decode cc pc = .ok (.invokestatic 68, 3)) (k : bV X (pc + 3) L S w') : bV X pc L (a3 :: a2 :: a1 :: a0 :: S) w := V_callS (As := [a0, a1, a2, a3]) hX hC lk_RX5_68 md_X5_giveFrom iv_X5_giveFrom co_X5_giveFrom (Nat.le_of_ble_eq_true rfl) rfl hr hd k
theorem lk_RX5_72 : lkOk RX5 72 yX5_keepIfBetter = true := by decide +kernel
theorem C_RX5_72 {cc : ByteArray} {nL d pc : Nat} {X : bX} {L : List (Option Value)} {S : List Value} {w : Wd} {w' : Wd} {a0 : Value} (hX : bOk cc nL RX5 (d + 1) X) (hC : Con d yX5_keepIfBetter cX5_keepIfBetter 3 none [.ref 20, a0] w none w') (hr : (S.map fun v => v.category).sum ≤ 8) (hd : decode cc pc = .ok (.invokevirtual 72, 3)) (k : bV X (pc + 3) L S w') : bV X pc L (a0 :: .ref 20 :: S) w := V_callV (As := [a0]) hX hC lk_RX5_72 md_X5_keepIfBetter iv_X5_keepIfBetter co_X5_keepIfBetter (Nat.le_of_ble_eq_true rfl) (Nat.le_of_ble_eq_true rfl) lay_20 rfl rfl hr hd k
theorem lk_RX5_76 : lkOk RX5 76 yX5_openTo = true := by decide +kernel
theorem C_RX5_76 {cc : ByteArray} {nL d pc : Nat} {X : bX} {L : List (Option Value)} {S : List Value} {w : Wd} {w' : Wd} {a0 : Value} {x : Int32} (hX : bOk cc nL RX5 (d + 1) X) (hC : Con d yX5_openTo cX5_openTo 4 (some .int) [.ref 20, a0] w (some (.int x)) w') (hr : (S.map fun v => v.category).sum ≤ 8) (hd : decode cc pc = .ok (.invokevirtual 76, 3)) (k : bV X (pc + 3) L (.int x :: S) w') : bV X pc L (a0 :: .ref 20 :: S) w := V_callV (As := [a0]) hX hC lk_RX5_76 md_X5_openTo iv_X5_openTo co_X5_openTo (Nat.le_of_ble_eq_true rfl) (Nat.le_of_ble_eq_true rfl) lay_20 rfl rfl hr hd k
theorem lk_RX5_79 : lkOk RX5 79 yX5_difference = true := by decide +kernel
theorem C_RX5_79 {cc : ByteArray} {nL d pc : Nat} {X : bX} {L : List (Option Value)} {S : List Value} {w : Wd} {w' : Wd} {a0 : Value} {a1 : Value} {x : Int32} (hX : bOk cc nL RX5 (d + 1) X) (hC : Con d yX5_difference cX5_difference 3 (some .int) [.ref 20, a0, a1] w (some (.int x)) w') (hr : (S.map fun v => v.category).sum ≤ 8) (hd : decode cc pc = .ok (.invokevirtual 79, 3)) (k : bV X (pc + 3) L (.int x :: S) w') : bV X pc L (a1 :: a0 :: .ref 20 :: S) w := V_callV (As := [a0, a1]) hX hC lk_RX5_79 md_X5_difference iv_X5_difference co_X5_difference (Nat.le_of_ble_eq_true rfl) (Nat.le_of_ble_eq_true rfl) lay_20 rfl rfl hr hd k
theorem lk_RX5_83 : lkOk RX5 83 yX0_part = true := by decide +kernel
theorem C_RX5_83 {cc : ByteArray} {nL d pc : Nat} {X : bX} {L : List (Option Value)} {S : List Value} {w : Wd} {w' : Wd} {a0 : Value} {a1 : Value} {x : Int32} (hX : bOk cc nL RX5 (d + 1) X) (hC : Con d yX0_part cX0_part 3 (some .int) [.ref 5, a0, a1] w (some (.int x)) w') (hr : (S.map fun v => v.category).sum ≤ 8) (hd : decode cc pc = .ok (.invokevirtual 83, 3)) (k : bV X (pc + 3) L (.int x :: S) w') : bV X pc L (a1 :: a0 :: .ref 5 :: S) w := V_callV (As := [a0, a1]) hX hC lk_RX5_83 md_X0_part iv_X0_part co_X0_part (Nat.le_of_ble_eq_true rfl) (Nat.le_of_ble_eq_true rfl) lay_5 rfl rfl hr hd k
theorem mt_RX5_88 : (inGd (.methodLink RX5 88 Lib.Math.abs.name) && (inGd (.static Lib.Math.abs.name) && (inGd (.initialized "java/lang/Math") && inGd (.code Lib.Math.abs.name Lib.Math.abs.code 1 (some .int))))) = true := by decide +kernel
theorem lk_RX5_93 : lkOk RX5 93 yX0_isBundle = true := by decide +kernel
theorem C_RX5_93 {cc : ByteArray} {nL d pc : Nat} {X : bX} {L : List (Option Value)} {S : List Value} {w : Wd} {w' : Wd} {a0 : Value} {x : Int32} (hX : bOk cc nL RX5 (d + 1) X) (hC : Con d yX0_isBundle cX0_isBundle 2 (some .boolean) [.ref 5, a0] w (some (.int x)) w') (hr : (S.map fun v => v.category).sum ≤ 8) (hd : decode cc pc = .ok (.invokevirtual 93, 3)) (k : bV X (pc + 3) L (.int x :: S) w') : bV X pc L (a0 :: .ref 5 :: S) w := V_callV (As := [a0]) hX hC lk_RX5_93 md_X0_isBundle iv_X0_isBundle co_X0_isBundle (Nat.le_of_ble_eq_true rfl) (Nat.le_of_ble_eq_true rfl) lay_5 rfl rfl hr hd k
theorem lk_RX5_99 : lkOk RX5 99 yX0_yardsBetween = true := by decide +kernel
theorem C_RX5_99 {cc : ByteArray} {nL d pc : Nat} {X : bX} {L : List (Option Value)} {S : List Value} {w : Wd} {w' : Wd} {a0 : Value} {a1 : Value} {a2 : Value} {x : Int32} (hX : bOk cc nL RX5 (d + 1) X) (hC : Con d yX0_yardsBetween cX0_yardsBetween 4 (some .int) [.ref 5, a0, a1, a2] w (some (.int x)) w') (hr : (S.map fun v => v.category).sum ≤ 8) (hd : decode cc pc = .ok (.invokevirtual 99, 3)) (k : bV X (pc + 3) L (.int x :: S) w') : bV X pc L (a2 :: a1 :: a0 :: .ref 5 :: S) w := V_callV (As := [a0, a1, a2]) hX hC lk_RX5_99 md_X0_yardsBetween iv_X0_yardsBetween co_X0_yardsBetween (Nat.le_of_ble_eq_true rfl) (Nat.le_of_ble_eq_true rfl) lay_5 rfl rfl hr hd k
theorem lk_RX6_19 : lkOk RX6 19 yX9_put = true := by decide +kernel
theorem C_RX6_19 {cc : ByteArray} {nL d pc : Nat} {X : bX} {L : List (Option Value)} {S : List Value} {w : Wd} {w' : Wd} {a0 : Value} {a1 : Value} {a2 : Value} (hX : bOk cc nL RX6 (d + 1) X) (hC : Con d yX9_put cX9_put 3 none [a0, a1, a2] w none w') (hr : (S.map fun v => v.category).sum ≤ 8) (hd : decode cc pc = .ok (.invokestatic 19, 3)) (k : bV X (pc + 3) L S w') : bV X pc L (a2 :: a1 :: a0 :: S) w := V_callS (As := [a0, a1, a2]) hX hC lk_RX6_19 md_X9_put iv_X9_put co_X9_put (Nat.le_of_ble_eq_true rfl) rfl hr hd k
theorem lk_RX7_15 : lkOk RX7 15 yX9_put = true := by decide +kernel
theorem C_RX7_15 {cc : ByteArray} {nL d pc : Nat} {X : bX} {L : List (Option Value)} {S : List Value} {w : Wd} {w' : Wd} {a0 : Value} {a1 : Value} {a2 : Value} (hX : bOk cc nL RX7 (d + 1) X) (hC : Con d yX9_put cX9_put 3 none [a0, a1, a2] w none w') (hr : (S.map fun v => v.category).sum ≤ 8) (hd : decode cc pc = .ok (.invokestatic 15, 3)) (k : bV X (pc + 3) L S w') : bV X pc L (a2 :: a1 :: a0 :: S) w := V_callS (As := [a0, a1, a2]) hX hC lk_RX7_15 md_X9_put iv_X9_put co_X9_put (Nat.le_of_ble_eq_true rfl) rfl hr hd k
theorem lk_RX7_19 : lkOk RX7 19 yX9_at = true := by decide +kernel
theorem C_RX7_19 {cc : ByteArray} {nL d pc : Nat} {X : bX} {L : List (Option Value)} {S : List Value} {w : Wd} {w' : Wd} {a0 : Value} {a1 : Value} {x : Int32} (hX : bOk cc nL RX7 (d + 1) X) (hC : Con d yX9_at cX9_at 2 (some .int) [a0, a1] w (some (.int x)) w') (hr : (S.map fun v => v.category).sum ≤ 8) (hd : decode cc pc = .ok (.invokestatic 19, 3)) (k : bV X (pc + 3) L (.int x :: S) w') : bV X pc L (a1 :: a0 :: S) w := V_callS (As := [a0, a1]) hX hC lk_RX7_19 md_X9_at iv_X9_at co_X9_at (Nat.le_of_ble_eq_true rfl) rfl hr hd k
theorem lk_RX7_23 : lkOk RX7 23 yX7_allAlike = true := by decide +kernel
theorem C_RX7_23 {cc : ByteArray} {nL d pc : Nat} {X : bX} {L : List (Option Value)} {S : List Value} {w : Wd} {w' : Wd} {a0 : Value} {x : Int32} (hX : bOk cc nL RX7 (d + 1) X) (hC : Con d yX7_allAlike cX7_allAlike 4 (some .boolean) [.ref 27, a0] w (some (.int x)) w') (hr : (S.map fun v => v.category).sum ≤ 8) (hd : decode cc pc = .ok (.invokevirtual 23, 3)) (k : bV X (pc + 3) L (.int x :: S) w') : bV X pc L (a0 :: .ref 27 :: S) w := V_callV (As := [a0]) hX hC lk_RX7_23 md_X7_allAlike iv_X7_allAlike co_X7_allAlike (Nat.le_of_ble_eq_true rfl) (Nat.le_of_ble_eq_true rfl) lay_27 rfl rfl hr hd k
theorem lk_RX7_27 : lkOk RX7 27 yX7_areUnlike = true := by decide +kernel
theorem C_RX7_27 {cc : ByteArray} {nL d pc : Nat} {X : bX} {L : List (Option Value)} {S : List Value} {w : Wd} {w' : Wd} {a0 : Value} {a1 : Value} {x : Int32} (hX : bOk cc nL RX7 (d + 1) X) (hC : Con d yX7_areUnlike cX7_areUnlike 5 (some .boolean) [.ref 27, a0, a1] w (some (.int x)) w') (hr : (S.map fun v => v.category).sum ≤ 8) (hd : decode cc pc = .ok (.invokevirtual 27, 3)) (k : bV X (pc + 3) L (.int x :: S) w') : bV X pc L (a1 :: a0 :: .ref 27 :: S) w := V_callV (As := [a0, a1]) hX hC lk_RX7_27 md_X7_areUnlike iv_X7_areUnlike co_X7_areUnlike (Nat.le_of_ble_eq_true rfl) (Nat.le_of_ble_eq_true rfl) lay_27 rfl rfl hr hd k
theorem lk_RX7_31 : lkOk RX7 31 yX7_leastRound = true := by decide +kernel
theorem C_RX7_31 {cc : ByteArray} {nL d pc : Nat} {X : bX} {L : List (Option Value)} {S : List Value} {w : Wd} {w' : Wd} {x : Int32} (hX : bOk cc nL RX7 (d + 1) X) (hC : Con d yX7_leastRound cX7_leastRound 2 (some .int) [.ref 27] w (some (.int x)) w') (hr : (S.map fun v => v.category).sum ≤ 8) (hd : decode cc pc = .ok (.invokevirtual 31, 3)) (k : bV X (pc + 3) L (.int x :: S) w') : bV X pc L (.ref 27 :: S) w := V_callV (As := []) hX hC lk_RX7_31 md_X7_leastRound iv_X7_leastRound co_X7_leastRound (Nat.le_of_ble_eq_true rfl) (Nat.le_of_ble_eq_true rfl) lay_27 rfl rfl hr hd k
theorem lk_RX7_35 : lkOk RX7 35 yX9_remainder = true := by decide +kernel
theorem C_RX7_35 {cc : ByteArray} {nL d pc : Nat} {X : bX} {L : List (Option Value)} {S : List Value} {w : Wd} {w' : Wd} {a0 : Value} {a1 : Value} {x : Int32} (hX : bOk cc nL RX7 (d + 1) X) (hC : Con d yX9_remainder cX9_remainder 2 (some .int) [a0, a1] w (some (.int x)) w') (hr : (S.map fun v => v.category).sum ≤ 8) (hd : decode cc pc = .ok (.invokestatic 35, 3)) (k : bV X (pc + 3) L (.int x :: S) w') : bV X pc L (a1 :: a0 :: S) w := V_callS (As := [a0, a1]) hX hC lk_RX7_35 md_X9_remainder iv_X9_remainder co_X9_remainder (Nat.le_of_ble_eq_true rfl) rfl hr hd k
theorem lk_RX8_28 : lkOk RX8 28 yX9_at = true := by decide +kernel
theorem C_RX8_28 {cc : ByteArray} {nL d pc : Nat} {X : bX} {L : List (Option Value)} {S : List Value} {w : Wd} {w' : Wd} {a0 : Value} {a1 : Value} {x : Int32} (hX : bOk cc nL RX8 (d + 1) X) (hC : Con d yX9_at cX9_at 2 (some .int) [a0, a1] w (some (.int x)) w') (hr : (S.map fun v => v.category).sum ≤ 8) (hd : decode cc pc = .ok (.invokestatic 28, 3)) (k : bV X (pc + 3) L (.int x :: S) w') : bV X pc L (a1 :: a0 :: S) w := V_callS (As := [a0, a1]) hX hC lk_RX8_28 md_X9_at iv_X9_at co_X9_at (Nat.le_of_ble_eq_true rfl) rfl hr hd k
theorem lk_RX8_32 : lkOk RX8 32 yX8_ringed = true := by decide +kernel
theorem C_RX8_32 {cc : ByteArray} {nL d pc : Nat} {X : bX} {L : List (Option Value)} {S : List Value} {w : Wd} {w' : Wd} {x : Int32} (hX : bOk cc nL RX8 (d + 1) X) (hC : Con d yX8_ringed cX8_ringed 3 (some .int) [.ref 12] w (some (.int x)) w') (hr : (S.map fun v => v.category).sum ≤ 8) (hd : decode cc pc = .ok (.invokevirtual 32, 3)) (k : bV X (pc + 3) L (.int x :: S) w') : bV X pc L (.ref 12 :: S) w := V_callV (As := []) hX hC lk_RX8_32 md_X8_ringed iv_X8_ringed co_X8_ringed (Nat.le_of_ble_eq_true rfl) (Nat.le_of_ble_eq_true rfl) lay_12 rfl rfl hr hd k
theorem lk_RX8_36 : lkOk RX8 36 yX8_takeToldYears = true := by decide +kernel
theorem C_RX8_36 {cc : ByteArray} {nL d pc : Nat} {X : bX} {L : List (Option Value)} {S : List Value} {w : Wd} {w' : Wd} {a0 : Value} (hX : bOk cc nL RX8 (d + 1) X) (hC : Con d yX8_takeToldYears cX8_takeToldYears 8 none [.ref 12, a0] w none w') (hr : (S.map fun v => v.category).sum ≤ 8) (hd : decode cc pc = .ok (.invokevirtual 36, 3)) (k : bV X (pc + 3) L S w') : bV X pc L (a0 :: .ref 12 :: S) w := V_callV (As := [a0]) hX hC lk_RX8_36 md_X8_takeToldYears iv_X8_takeToldYears co_X8_takeToldYears (Nat.le_of_ble_eq_true rfl) (Nat.le_of_ble_eq_true rfl) lay_12 rfl rfl hr hd k
theorem lk_RX8_40 : lkOk RX8 40 yX0_rightUnder = true := by decide +kernel
theorem C_RX8_40 {cc : ByteArray} {nL d pc : Nat} {X : bX} {L : List (Option Value)} {S : List Value} {w : Wd} {w' : Wd} {a0 : Value} {x : Int32} (hX : bOk cc nL RX8 (d + 1) X) (hC : Con d yX0_rightUnder cX0_rightUnder 2 (some .int) [.ref 5, a0] w (some (.int x)) w') (hr : (S.map fun v => v.category).sum ≤ 8) (hd : decode cc pc = .ok (.invokevirtual 40, 3)) (k : bV X (pc + 3) L (.int x :: S) w') : bV X pc L (a0 :: .ref 5 :: S) w := V_callV (As := [a0]) hX hC lk_RX8_40 md_X0_rightUnder iv_X0_rightUnder co_X0_rightUnder (Nat.le_of_ble_eq_true rfl) (Nat.le_of_ble_eq_true rfl) lay_5 rfl rfl hr hd k
theorem lk_RX8_46 : lkOk RX8 46 yX8_tighten = true := by decide +kernel
theorem C_RX8_46 {cc : ByteArray} {nL d pc : Nat} {X : bX} {L : List (Option Value)} {S : List Value} {w : Wd} {w' : Wd} {a0 : Value} {a1 : Value} (hX : bOk cc nL RX8 (d + 1) X) (hC : Con d yX8_tighten cX8_tighten 4 none [.ref 12, a0, a1] w none w') (hr : (S.map fun v => v.category).sum ≤ 8) (hd : decode cc pc = .ok (.invokevirtual 46, 3)) (k : bV X (pc + 3) L S w') : bV X pc L (a1 :: a0 :: .ref 12 :: S) w := V_callV (As := [a0, a1]) hX hC lk_RX8_46 md_X8_tighten iv_X8_tighten co_X8_tighten (Nat.le_of_ble_eq_true rfl) (Nat.le_of_ble_eq_true rfl) lay_12 rfl rfl hr hd k
theorem lk_RX8_50 : lkOk RX8 50 yX0_isThing = true := by decide +kernel
theorem C_RX8_50 {cc : ByteArray} {nL d pc : Nat} {X : bX} {L : List (Option Value)} {S : List Value} {w : Wd} {w' : Wd} {a0 : Value} {x : Int32} (hX : bOk cc nL RX8 (d + 1) X) (hC : Con d yX0_isThing cX0_isThing 2 (some .boolean) [.ref 5, a0] w (some (.int x)) w') (hr : (S.map fun v => v.category).sum ≤ 8) (hd : decode cc pc = .ok (.invokevirtual 50, 3)) (k : bV X (pc + 3) L (.int x :: S) w') : bV X pc L (a0 :: .ref 5 :: S) w := V_callV (As := [a0]) hX hC lk_RX8_50 md_X0_isThing iv_X0_isThing co_X0_isThing (Nat.le_of_ble_eq_true rfl) (Nat.le_of_ble_eq_true rfl) lay_5 rfl rfl hr hd k
theorem lk_RX8_54 : lkOk RX8 54 yX8_earliestOf = true := by decide +kernel
theorem C_RX8_54 {cc : ByteArray} {nL d pc : Nat} {X : bX} {L : List (Option Value)} {S : List Value} {w : Wd} {w' : Wd} {a0 : Value} {x : Int32} (hX : bOk cc nL RX8 (d + 1) X) (hC : Con d yX8_earliestOf cX8_earliestOf 2 (some .int) [.ref 12, a0] w (some (.int x)) w') (hr : (S.map fun v => v.category).sum ≤ 8) (hd : decode cc pc = .ok (.invokevirtual 54, 3)) (k : bV X (pc + 3) L (.int x :: S) w') : bV X pc L (a0 :: .ref 12 :: S) w := V_callV (As := [a0]) hX hC lk_RX8_54 md_X8_earliestOf iv_X8_earliestOf co_X8_earliestOf (Nat.le_of_ble_eq_true rfl) (Nat.le_of_ble_eq_true rfl) lay_12 rfl rfl hr hd k
theorem lk_RX8_57 : lkOk RX8 57 yX8_latestOf = true := by decide +kernel
theorem C_RX8_57 {cc : ByteArray} {nL d pc : Nat} {X : bX} {L : List (Option Value)} {S : List Value} {w : Wd} {w' : Wd} {a0 : Value} {x : Int32} (hX : bOk cc nL RX8 (d + 1) X) (hC : Con d yX8_latestOf cX8_latestOf 2 (some .int) [.ref 12, a0] w (some (.int x)) w') (hr : (S.map fun v => v.category).sum ≤ 8) (hd : decode cc pc = .ok (.invokevirtual 57, 3)) (k : bV X (pc + 3) L (.int x :: S) w') : bV X pc L (a0 :: .ref 12 :: S) w := V_callV (As := [a0]) hX hC lk_RX8_57 md_X8_latestOf iv_X8_latestOf co_X8_latestOf (Nat.le_of_ble_eq_true rfl) (Nat.le_of_ble_eq_true rfl) lay_12 rfl rfl hr hd k
theorem lk_RX8_66 : lkOk RX8 66 yX0_isBundle = true := by decide +kernel
theorem C_RX8_66 {cc : ByteArray} {nL d pc : Nat} {X : bX} {L : List (Option Value)} {S : List Value} {w : Wd} {w' : Wd} {a0 : Value} {x : Int32} (hX : bOk cc nL RX8 (d + 1) X) (hC : Con d yX0_isBundle cX0_isBundle 2 (some .boolean) [.ref 5, a0] w (some (.int x)) w') (hr : (S.map fun v => v.category).sum ≤ 8) (hd : decode cc pc = .ok (.invokevirtual 66, 3)) (k : bV X (pc + 3) L (.int x :: S) w') : bV X pc L (a0 :: .ref 5 :: S) w := V_callV (As := [a0]) hX hC lk_RX8_66 md_X0_isBundle iv_X0_isBundle co_X0_isBundle (Nat.le_of_ble_eq_true rfl) (Nat.le_of_ble_eq_true rfl) lay_5 rfl rfl hr hd k
theorem lk_RX8_69 : lkOk RX8 69 yX0_fittingTeams = true := by decide +kernel
theorem C_RX8_69 {cc : ByteArray} {nL d pc : Nat} {X : bX} {L : List (Option Value)} {S : List Value} {w : Wd} {w' : Wd} {a0 : Value} {x : Int32} (hX : bOk cc nL RX8 (d + 1) X) (hC : Con d yX0_fittingTeams cX0_fittingTeams 5 (some .int) [.ref 5, a0] w (some (.int x)) w') (hr : (S.map fun v => v.category).sum ≤ 8) (hd : decode cc pc = .ok (.invokevirtual 69, 3)) (k : bV X (pc + 3) L (.int x :: S) w') : bV X pc L (a0 :: .ref 5 :: S) w := V_callV (As := [a0]) hX hC lk_RX8_69 md_X0_fittingTeams iv_X0_fittingTeams co_X0_fittingTeams (Nat.le_of_ble_eq_true rfl) (Nat.le_of_ble_eq_true rfl) lay_5 rfl rfl hr hd k
theorem lk_RX8_72 : lkOk RX8 72 yX9_has = true := by decide +kernel
theorem C_RX8_72 {cc : ByteArray} {nL d pc : Nat} {X : bX} {L : List (Option Value)} {S : List Value} {w : Wd} {w' : Wd} {a0 : Value} {a1 : Value} {x : Int32} (hX : bOk cc nL RX8 (d + 1) X) (hC : Con d yX9_has cX9_has 2 (some .boolean) [a0, a1] w (some (.int x)) w') (hr : (S.map fun v => v.category).sum ≤ 8) (hd : decode cc pc = .ok (.invokestatic 72, 3)) (k : bV X (pc + 3) L (.int x :: S) w') : bV X pc L (a1 :: a0 :: S) w := V_callS (As := [a0, a1]) hX hC lk_RX8_72 md_X9_has iv_X9_has co_X9_has (Nat.le_of_ble_eq_true rfl) rfl hr hd k
theorem lk_RX8_76 : lkOk RX8 76 yX0_teamPart = true := by decide +kernel
theorem C_RX8_76 {cc : ByteArray} {nL d pc : Nat} {X : bX} {L : List (Option Value)} {S : List Value} {w : Wd} {w' : Wd} {a0 : Value} {a1 : Value} {x : Int32} (hX : bOk cc nL RX8 (d + 1) X) (hC : Con d yX0_teamPart cX0_teamPart 3 (some .int) [.ref 5, a0, a1] w (some (.int x)) w') (hr : (S.map fun v => v.category).sum ≤ 8) (hd : decode cc pc = .ok (.invokevirtual 76, 3)) (k : bV X (pc + 3) L (.int x :: S) w') : bV X pc L (a1 :: a0 :: .ref 5 :: S) w := V_callV (As := [a0, a1]) hX hC lk_RX8_76 md_X0_teamPart iv_X0_teamPart co_X0_teamPart (Nat.le_of_ble_eq_true rfl) (Nat.le_of_ble_eq_true rfl) lay_5 rfl rfl hr hd k
theorem mt_RX8_80 : (inGd (.methodLink RX8 80 Lib.Math.min.name) && (inGd (.static Lib.Math.min.name) && (inGd (.initialized "java/lang/Math") && inGd (.code Lib.Math.min.name Lib.Math.min.code 2 (some .int))))) = true := by decide +kernel
theorem mt_RX8_85 : (inGd (.methodLink RX8 85 Lib.Math.max.name) && (inGd (.static Lib.Math.max.name) && (inGd (.initialized "java/lang/Math") && inGd (.code Lib.Math.max.name Lib.Math.max.code 2 (some .int))))) = true := by decide +kernel
theorem lk_RX8_88 : lkOk RX8 88 yX9_put = true := by decide +kernel
theorem C_RX8_88 {cc : ByteArray} {nL d pc : Nat} {X : bX} {L : List (Option Value)} {S : List Value} {w : Wd} {w' : Wd} {a0 : Value} {a1 : Value} {a2 : Value} (hX : bOk cc nL RX8 (d + 1) X) (hC : Con d yX9_put cX9_put 3 none [a0, a1, a2] w none w') (hr : (S.map fun v => v.category).sum ≤ 8) (hd : decode cc pc = .ok (.invokestatic 88, 3)) (k : bV X (pc + 3) L S w') : bV X pc L (a2 :: a1 :: a0 :: S) w := V_callS (As := [a0, a1, a2]) hX hC lk_RX8_88 md_X9_put iv_X9_put co_X9_put (Nat.le_of_ble_eq_true rfl) rfl hr hd k
theorem lk_RX8_92 : lkOk RX8 92 yX8_closeOver = true := by decide +kernel
theorem C_RX8_92 {cc : ByteArray} {nL d pc : Nat} {X : bX} {L : List (Option Value)} {S : List Value} {w : Wd} {w' : Wd} (hX : bOk cc nL RX8 (d + 1) X) (hC : Con d yX8_closeOver cX8_closeOver 3 none [.ref 12] w none w') (hr : (S.map fun v => v.category).sum ≤ 8) (hd : decode cc pc = .ok (.invokevirtual 92, 3)) (k : bV X (pc + 3) L S w') : bV X pc L (.ref 12 :: S) w := V_callV (As := []) hX hC lk_RX8_92 md_X8_closeOver iv_X8_closeOver co_X8_closeOver (Nat.le_of_ble_eq_true rfl) (Nat.le_of_ble_eq_true rfl) lay_12 rfl rfl hr hd k
theorem lk_RX8_95 : lkOk RX8 95 yX8_measureHeights = true := by decide +kernel
theorem C_RX8_95 {cc : ByteArray} {nL d pc : Nat} {X : bX} {L : List (Option Value)} {S : List Value} {w : Wd} {w' : Wd} {x : Int32} (hX : bOk cc nL RX8 (d + 1) X) (hC : Con d yX8_measureHeights cX8_measureHeights 4 (some .int) [.ref 12] w (some (.int x)) w') (hr : (S.map fun v => v.category).sum ≤ 8) (hd : decode cc pc = .ok (.invokevirtual 95, 3)) (k : bV X (pc + 3) L (.int x :: S) w') : bV X pc L (.ref 12 :: S) w := V_callV (As := []) hX hC lk_RX8_95 md_X8_measureHeights iv_X8_measureHeights co_X8_measureHeights (Nat.le_of_ble_eq_true rfl) (Nat.le_of_ble_eq_true rfl) lay_12 rfl rfl hr hd k
theorem lk_RX8_102 : lkOk RX8 102 yX8_firstOfHeight = true := by decide +kernel
theorem C_RX8_102 {cc : ByteArray} {nL d pc : Nat} {X : bX} {L : List (Option Value)} {S : List Value} {w : Wd} {w' : Wd} {a0 : Value} {a1 : Value} {x : Int32} (hX : bOk cc nL RX8 (d + 1) X) (hC : Con d yX8_firstOfHeight cX8_firstOfHeight 4 (some .int) [.ref 12, a0, a1] w (some (.int x)) w') (hr : (S.map fun v => v.category).sum ≤ 8) (hd : decode cc pc = .ok (.invokevirtual 102, 3)) (k : bV X (pc + 3) L (.int x :: S) w') : bV X pc L (a1 :: a0 :: .ref 12 :: S) w := V_callV (As := [a0, a1]) hX hC lk_RX8_102 md_X8_firstOfHeight iv_X8_firstOfHeight co_X8_firstOfHeight (Nat.le_of_ble_eq_true rfl) (Nat.le_of_ble_eq_true rfl) lay_12 rfl rfl hr hd k
theorem lk_RX8_105 : lkOk RX8 105 yX9_oneIf = true := by decide +kernel
theorem C_RX8_105 {cc : ByteArray} {nL d pc : Nat} {X : bX} {L : List (Option Value)} {S : List Value} {w : Wd} {w' : Wd} {a0 : Value} {x : Int32} (hX : bOk cc nL RX8 (d + 1) X) (hC : Con d yX9_oneIf cX9_oneIf 1 (some .int) [a0] w (some (.int x)) w') (hr : (S.map fun v => v.category).sum ≤ 8) (hd : decode cc pc = .ok (.invokestatic 105, 3)) (k : bV X (pc + 3) L (.int x :: S) w') : bV X pc L (a0 :: S) w := V_callS (As := [a0]) hX hC lk_RX8_105 md_X9_oneIf iv_X9_oneIf co_X9_oneIf (Nat.le_of_ble_eq_true rfl) rfl hr hd k
theorem lk_RX8_109 : lkOk RX8 109 yX8_raise = true := by decide +kernel
theorem C_RX8_109 {cc : ByteArray} {nL d pc : Nat} {X : bX} {L : List (Option Value)} {S : List Value} {w : Wd} {w' : Wd} {a0 : Value} {a1 : Value} (hX : bOk cc nL RX8 (d + 1) X) (hC : Con d yX8_raise cX8_raise 4 none [.ref 12, a0, a1] w none w') (hr : (S.map fun v => v.category).sum ≤ 8) (hd : decode cc pc = .ok (.invokevirtual 109, 3)) (k : bV X (pc + 3) L S w') : bV X pc L (a1 :: a0 :: .ref 12 :: S) w := V_callV (As := [a0, a1]) hX hC lk_RX8_109 md_X8_raise iv_X8_raise co_X8_raise (Nat.le_of_ble_eq_true rfl) (Nat.le_of_ble_eq_true rfl) lay_12 rfl rfl hr hd k
theorem lk_RX9_78 : lkOk RX9 78 yX9_within = true := by decide +kernel
theorem C_RX9_78 {cc : ByteArray} {nL d pc : Nat} {X : bX} {L : List (Option Value)} {S : List Value} {w : Wd} {w' : Wd} {a0 : Value} {a1 : Value} {a2 : Value} {x : Int32} (hX : bOk cc nL RX9 (d + 1) X) (hC : Con d yX9_within cX9_within 3 (some .boolean) [a0, a1, a2] w (some (.int x)) w') (hr : (S.map fun v => v.category).sum ≤ 8) (hd : decode cc pc = .ok (.invokestatic 78, 3)) (k : bV X (pc + 3) L (.int x :: S) w') : bV X pc L (a2 :: a1 :: a0 :: S) w := V_callS (As := [a0, a1, a2]) hX hC lk_RX9_78 md_X9_within iv_X9_within co_X9_within (Nat.le_of_ble_eq_true rfl) rfl hr hd k
theorem lk_RX9_82 : lkOk RX9 82 yX6_hasRoomFor = true := by decide +kernel
theorem C_RX9_82 {cc : ByteArray} {nL d pc : Nat} {X : bX} {L : List (Option Value)} {S : List Value} {w : Wd} {w' : Wd} {a0 : Value} {x : Int32} (hX : bOk cc nL RX9 (d + 1) X) (hC : Con d yX6_hasRoomFor cX6_hasRoomFor 2 (some .boolean) [.ref 1, a0] w (some (.int x)) w') (hr : (S.map fun v => v.category).sum ≤ 8) (hd : decode cc pc = .ok (.invokevirtual 82, 3)) (k : bV X (pc + 3) L (.int x :: S) w') : bV X pc L (a0 :: .ref 1 :: S) w := V_callV (As := [a0]) hX hC lk_RX9_82 md_X6_hasRoomFor iv_X6_hasRoomFor co_X6_hasRoomFor (Nat.le_of_ble_eq_true rfl) (Nat.le_of_ble_eq_true rfl) lay_1 rfl rfl hr hd k
theorem lk_RX9_86 : lkOk RX9 86 yX6_add = true := by decide +kernel
theorem C_RX9_86 {cc : ByteArray} {nL d pc : Nat} {X : bX} {L : List (Option Value)} {S : List Value} {w : Wd} {w' : Wd} {a0 : Value} {a1 : Value} (hX : bOk cc nL RX9 (d + 1) X) (hC : Con d yX6_add cX6_add 5 none [.ref 1, a0, a1] w none w') (hr : (S.map fun v => v.category).sum ≤ 8) (hd : decode cc pc = .ok (.invokevirtual 86, 3)) (k : bV X (pc + 3) L S w') : bV X pc L (a1 :: a0 :: .ref 1 :: S) w := V_callV (As := [a0, a1]) hX hC lk_RX9_86 md_X6_add iv_X6_add co_X6_add (Nat.le_of_ble_eq_true rfl) (Nat.le_of_ble_eq_true rfl) lay_1 rfl rfl hr hd k
theorem lk_RX9_94 : lkOk RX9 94 yX4_firstFault = true := by decide +kernel
theorem C_RX9_94 {cc : ByteArray} {nL d pc : Nat} {X : bX} {L : List (Option Value)} {S : List Value} {w : Wd} {w' : Wd} {x : Int32} (hX : bOk cc nL RX9 (d + 1) X) (hC : Con d yX4_firstFault cX4_firstFault 2 (some .int) [.ref 3] w (some (.int x)) w') (hr : (S.map fun v => v.category).sum ≤ 8) (hd : decode cc pc = .ok (.invokevirtual 94, 3)) (k : bV X (pc + 3) L (.int x :: S) w') : bV X pc L (.ref 3 :: S) w := V_callV (As := []) hX hC lk_RX9_94 md_X4_firstFault iv_X4_firstFault co_X4_firstFault (Nat.le_of_ble_eq_true rfl) (Nat.le_of_ble_eq_true rfl) lay_3 rfl rfl hr hd k
theorem lk_RX9_101 : lkOk RX9 101 yX0_doLine = true := by decide +kernel
theorem C_RX9_101 {cc : ByteArray} {nL d pc : Nat} {X : bX} {L : List (Option Value)} {S : List Value} {w : Wd} {w' : Wd} {a0 : Value} {a1 : Value} (hX : bOk cc nL RX9 (d + 1) X) (hC : Con d yX0_doLine cX0_doLine 4 none [.ref 5, a0, a1] w none w') (hr : (S.map fun v => v.category).sum ≤ 8) (hd : decode cc pc = .ok (.invokevirtual 101, 3)) (k : bV X (pc + 3) L S w') : bV X pc L (a1 :: a0 :: .ref 5 :: S) w := V_callV (As := [a0, a1]) hX hC lk_RX9_101 md_X0_doLine iv_X0_doLine co_X0_doLine (Nat.le_of_ble_eq_true rfl) (Nat.le_of_ble_eq_true rfl) lay_5 rfl rfl hr hd k
theorem lk_RX9_105 : lkOk RX9 105 yX0_isBundle = true := by decide +kernel
theorem C_RX9_105 {cc : ByteArray} {nL d pc : Nat} {X : bX} {L : List (Option Value)} {S : List Value} {w : Wd} {w' : Wd} {a0 : Value} {x : Int32} (hX : bOk cc nL RX9 (d + 1) X) (hC : Con d yX0_isBundle cX0_isBundle 2 (some .boolean) [.ref 5, a0] w (some (.int x)) w') (hr : (S.map fun v => v.category).sum ≤ 8) (hd : decode cc pc = .ok (.invokevirtual 105, 3)) (k : bV X (pc + 3) L (.int x :: S) w') : bV X pc L (a0 :: .ref 5 :: S) w := V_callV (As := [a0]) hX hC lk_RX9_105 md_X0_isBundle iv_X0_isBundle co_X0_isBundle (Nat.le_of_ble_eq_true rfl) (Nat.le_of_ble_eq_true rfl) lay_5 rfl rfl hr hd k
theorem lk_RX9_108 : lkOk RX9 108 yX0_yards = true := by decide +kernel
theorem C_RX9_108 {cc : ByteArray} {nL d pc : Nat} {X : bX} {L : List (Option Value)} {S : List Value} {w : Wd} {w' : Wd} {a0 : Value} {x : Int32} (hX : bOk cc nL RX9 (d + 1) X) (hC : Con d yX0_yards cX0_yards 2 (some .int) [.ref 5, a0] w (some (.int x)) w') (hr : (S.map fun v => v.category).sum ≤ 8) (hd : decode cc pc = .ok (.invokevirtual 108, 3)) (k : bV X (pc + 3) L (.int x :: S) w') : bV X pc L (a0 :: .ref 5 :: S) w := V_callV (As := [a0]) hX hC lk_RX9_108 md_X0_yards iv_X0_yards co_X0_yards (Nat.le_of_ble_eq_true rfl) (Nat.le_of_ble_eq_true rfl) lay_5 rfl rfl hr hd k
theorem lk_RX9_112 : lkOk RX9 112 yX0_part = true := by decide +kernel
theorem C_RX9_112 {cc : ByteArray} {nL d pc : Nat} {X : bX} {L : List (Option Value)} {S : List Value} {w : Wd} {w' : Wd} {a0 : Value} {a1 : Value} {x : Int32} (hX : bOk cc nL RX9 (d + 1) X) (hC : Con d yX0_part cX0_part 3 (some .int) [.ref 5, a0, a1] w (some (.int x)) w') (hr : (S.map fun v => v.category).sum ≤ 8) (hd : decode cc pc = .ok (.invokevirtual 112, 3)) (k : bV X (pc + 3) L (.int x :: S) w') : bV X pc L (a1 :: a0 :: .ref 5 :: S) w := V_callV (As := [a0, a1]) hX hC lk_RX9_112 md_X0_part iv_X0_part co_X0_part (Nat.le_of_ble_eq_true rfl) (Nat.le_of_ble_eq_true rfl) lay_5 rfl rfl hr hd k
theorem lk_RX9_116 : lkOk RX9 116 yX0_isThing = true := by decide +kernel
theorem C_RX9_116 {cc : ByteArray} {nL d pc : Nat} {X : bX} {L : List (Option Value)} {S : List Value} {w : Wd} {w' : Wd} {a0 : Value} {x : Int32} (hX : bOk cc nL RX9 (d + 1) X) (hC : Con d yX0_isThing cX0_isThing 2 (some .boolean) [.ref 5, a0] w (some (.int x)) w') (hr : (S.map fun v => v.category).sum ≤ 8) (hd : decode cc pc = .ok (.invokevirtual 116, 3)) (k : bV X (pc + 3) L (.int x :: S) w') : bV X pc L (a0 :: .ref 5 :: S) w := V_callV (As := [a0]) hX hC lk_RX9_116 md_X0_isThing iv_X0_isThing co_X0_isThing (Nat.le_of_ble_eq_true rfl) (Nat.le_of_ble_eq_true rfl) lay_5 rfl rfl hr hd k
theorem lk_RX9_119 : lkOk RX9 119 yX0_boxPart = true := by decide +kernel
theorem C_RX9_119 {cc : ByteArray} {nL d pc : Nat} {X : bX} {L : List (Option Value)} {S : List Value} {w : Wd} {w' : Wd} {a0 : Value} {a1 : Value} {x : Int32} (hX : bOk cc nL RX9 (d + 1) X) (hC : Con d yX0_boxPart cX0_boxPart 3 (some .int) [.ref 5, a0, a1] w (some (.int x)) w') (hr : (S.map fun v => v.category).sum ≤ 8) (hd : decode cc pc = .ok (.invokevirtual 119, 3)) (k : bV X (pc + 3) L (.int x :: S) w') : bV X pc L (a1 :: a0 :: .ref 5 :: S) w := V_callV (As := [a0, a1]) hX hC lk_RX9_119 md_X0_boxPart iv_X0_boxPart co_X0_boxPart (Nat.le_of_ble_eq_true rfl) (Nat.le_of_ble_eq_true rfl) lay_5 rfl rfl hr hd k
theorem lk_RX9_122 : lkOk RX9 122 yX0_fittingTeams = true := by decide +kernel
theorem C_RX9_122 {cc : ByteArray} {nL d pc : Nat} {X : bX} {L : List (Option Value)} {S : List Value} {w : Wd} {w' : Wd} {a0 : Value} {x : Int32} (hX : bOk cc nL RX9 (d + 1) X) (hC : Con d yX0_fittingTeams cX0_fittingTeams 5 (some .int) [.ref 5, a0] w (some (.int x)) w') (hr : (S.map fun v => v.category).sum ≤ 8) (hd : decode cc pc = .ok (.invokevirtual 122, 3)) (k : bV X (pc + 3) L (.int x :: S) w') : bV X pc L (a0 :: .ref 5 :: S) w := V_callV (As := [a0]) hX hC lk_RX9_122 md_X0_fittingTeams iv_X0_fittingTeams co_X0_fittingTeams (Nat.le_of_ble_eq_true rfl) (Nat.le_of_ble_eq_true rfl) lay_5 rfl rfl hr hd k
theorem lk_RX9_125 : lkOk RX9 125 yX8_settle = true := by decide +kernel
theorem C_RX9_125 {cc : ByteArray} {nL d pc : Nat} {X : bX} {L : List (Option Value)} {S : List Value} {w : Wd} {w' : Wd} {x : Int32} (hX : bOk cc nL RX9 (d + 1) X) (hC : Con d yX8_settle cX8_settle 3 (some .boolean) [.ref 12] w (some (.int x)) w') (hr : (S.map fun v => v.category).sum ≤ 8) (hd : decode cc pc = .ok (.invokevirtual 125, 3)) (k : bV X (pc + 3) L (.int x :: S) w') : bV X pc L (.ref 12 :: S) w := V_callV (As := []) hX hC lk_RX9_125 md_X8_settle iv_X8_settle co_X8_settle (Nat.le_of_ble_eq_true rfl) (Nat.le_of_ble_eq_true rfl) lay_12 rfl rfl hr hd k
theorem lk_RX9_129 : lkOk RX9 129 yX8_earliestOf = true := by decide +kernel
theorem C_RX9_129 {cc : ByteArray} {nL d pc : Nat} {X : bX} {L : List (Option Value)} {S : List Value} {w : Wd} {w' : Wd} {a0 : Value} {x : Int32} (hX : bOk cc nL RX9 (d + 1) X) (hC : Con d yX8_earliestOf cX8_earliestOf 2 (some .int) [.ref 12, a0] w (some (.int x)) w') (hr : (S.map fun v => v.category).sum ≤ 8) (hd : decode cc pc = .ok (.invokevirtual 129, 3)) (k : bV X (pc + 3) L (.int x :: S) w') : bV X pc L (a0 :: .ref 12 :: S) w := V_callV (As := [a0]) hX hC lk_RX9_129 md_X8_earliestOf iv_X8_earliestOf co_X8_earliestOf (Nat.le_of_ble_eq_true rfl) (Nat.le_of_ble_eq_true rfl) lay_12 rfl rfl hr hd k
theorem lk_RX9_132 : lkOk RX9 132 yX8_latestOf = true := by decide +kernel
theorem C_RX9_132 {cc : ByteArray} {nL d pc : Nat} {X : bX} {L : List (Option Value)} {S : List Value} {w : Wd} {w' : Wd} {a0 : Value} {x : Int32} (hX : bOk cc nL RX9 (d + 1) X) (hC : Con d yX8_latestOf cX8_latestOf 2 (some .int) [.ref 12, a0] w (some (.int x)) w') (hr : (S.map fun v => v.category).sum ≤ 8) (hd : decode cc pc = .ok (.invokevirtual 132, 3)) (k : bV X (pc + 3) L (.int x :: S) w') : bV X pc L (a0 :: .ref 12 :: S) w := V_callV (As := [a0]) hX hC lk_RX9_132 md_X8_latestOf iv_X8_latestOf co_X8_latestOf (Nat.le_of_ble_eq_true rfl) (Nat.le_of_ble_eq_true rfl) lay_12 rfl rfl hr hd k
theorem lk_RX9_135 : lkOk RX9 135 yX8_ringed = true := by decide +kernel
theorem C_RX9_135 {cc : ByteArray} {nL d pc : Nat} {X : bX} {L : List (Option Value)} {S : List Value} {w : Wd} {w' : Wd} {x : Int32} (hX : bOk cc nL RX9 (d + 1) X) (hC : Con d yX8_ringed cX8_ringed 3 (some .int) [.ref 12] w (some (.int x)) w') (hr : (S.map fun v => v.category).sum ≤ 8) (hd : decode cc pc = .ok (.invokevirtual 135, 3)) (k : bV X (pc + 3) L (.int x :: S) w') : bV X pc L (.ref 12 :: S) w := V_callV (As := []) hX hC lk_RX9_135 md_X8_ringed iv_X8_ringed co_X8_ringed (Nat.le_of_ble_eq_true rfl) (Nat.le_of_ble_eq_true rfl) lay_12 rfl rfl hr hd k
theorem lk_RX9_138 : lkOk RX9 138 yX8_stackAt = true := by decide +kernel
theorem C_RX9_138 {cc : ByteArray} {nL d pc : Nat} {X : bX} {L : List (Option Value)} {S : List Value} {w : Wd} {w' : Wd} {a0 : Value} {x : Int32} (hX : bOk cc nL RX9 (d + 1) X) (hC : Con d yX8_stackAt cX8_stackAt 5 (some .int) [.ref 12, a0] w (some (.int x)) w') (hr : (S.map fun v => v.category).sum ≤ 8) (hd : decode cc pc = .ok (.invokevirtual 138, 3)) (k : bV X (pc + 3) L (.int x :: S) w') : bV X pc L (a0 :: .ref 12 :: S) w := V_callV (As := [a0]) hX hC lk_RX9_138 md_X8_stackAt iv_X8_stackAt co_X8_stackAt (Nat.le_of_ble_eq_true rfl) (Nat.le_of_ble_eq_true rfl) lay_12 rfl rfl hr hd k
theorem lk_RX9_141 : lkOk RX9 141 yX8_liesOverByOthers = true := by decide +kernel
theorem C_RX9_141 {cc : ByteArray} {nL d pc : Nat} {X : bX} {L : List (Option Value)} {S : List Value} {w : Wd} {w' : Wd} {a0 : Value} {a1 : Value} {x : Int32} (hX : bOk cc nL RX9 (d + 1) X) (hC : Con d yX8_liesOverByOthers cX8_liesOverByOthers 3 (some .boolean) [.ref 12, a0, a1] w (some (.int x)) w') (hr : (S.map fun v => v.category).sum ≤ 8) (hd : decode cc pc = .ok (.invokevirtual 141, 3)) (k : bV X (pc + 3) L (.int x :: S) w') : bV X pc L (a1 :: a0 :: .ref 12 :: S) w := V_callV (As := [a0, a1]) hX hC lk_RX9_141 md_X8_liesOverByOthers iv_X8_liesOverByOthers co_X8_liesOverByOthers (Nat.le_of_ble_eq_true rfl) (Nat.le_of_ble_eq_true rfl) lay_12 rfl rfl hr hd k
theorem lk_RX9_145 : lkOk RX9 145 yX9_oneIf = true := by decide +kernel
theorem C_RX9_145 {cc : ByteArray} {nL d pc : Nat} {X : bX} {L : List (Option Value)} {S : List Value} {w : Wd} {w' : Wd} {a0 : Value} {x : Int32} (hX : bOk cc nL RX9 (d + 1) X) (hC : Con d yX9_oneIf cX9_oneIf 1 (some .int) [a0] w (some (.int x)) w') (hr : (S.map fun v => v.category).sum ≤ 8) (hd : decode cc pc = .ok (.invokestatic 145, 3)) (k : bV X (pc + 3) L (.int x :: S) w') : bV X pc L (a0 :: S) w := V_callS (As := [a0]) hX hC lk_RX9_145 md_X9_oneIf iv_X9_oneIf co_X9_oneIf (Nat.le_of_ble_eq_true rfl) rfl hr hd k
theorem lk_RX9_149 : lkOk RX9 149 yX9_isPair = true := by decide +kernel
theorem C_RX9_149 {cc : ByteArray} {nL d pc : Nat} {X : bX} {L : List (Option Value)} {S : List Value} {w : Wd} {w' : Wd} {a0 : Value} {a1 : Value} {x : Int32} (hX : bOk cc nL RX9 (d + 1) X) (hC : Con d yX9_isPair cX9_isPair 3 (some .boolean) [.ref 0, a0, a1] w (some (.int x)) w') (hr : (S.map fun v => v.category).sum ≤ 8) (hd : decode cc pc = .ok (.invokevirtual 149, 3)) (k : bV X (pc + 3) L (.int x :: S) w') : bV X pc L (a1 :: a0 :: .ref 0 :: S) w := V_callV (As := [a0, a1]) hX hC lk_RX9_149 md_X9_isPair iv_X9_isPair co_X9_isPair (Nat.le_of_ble_eq_true rfl) (Nat.le_of_ble_eq_true rfl) lay_0 rfl rfl hr hd k
theorem lk_RX9_152 : lkOk RX9 152 yX1_areJoined = true := by decide +kernel
theorem C_RX9_152 {cc : ByteArray} {nL d pc : Nat} {X : bX} {L : List (Option Value)} {S : List Value} {w : Wd} {w' : Wd} {a0 : Value} {a1 : Value} {x : Int32} (hX : bOk cc nL RX9 (d + 1) X) (hC : Con d yX1_areJoined cX1_areJoined 4 (some .boolean) [.ref 17, a0, a1] w (some (.int x)) w') (hr : (S.map fun v => v.category).sum ≤ 8) (hd : decode cc pc = .ok (.invokevirtual 152, 3)) (k : bV X (pc + 3) L (.int x :: S) w') : bV X pc L (a1 :: a0 :: .ref 17 :: S) w := V_callV (As := [a0, a1]) hX hC lk_RX9_152 md_X1_areJoined iv_X1_areJoined co_X1_areJoined (Nat.le_of_ble_eq_true rfl) (Nat.le_of_ble_eq_true rfl) lay_17 rfl rfl hr hd k
theorem lk_RX9_155 : lkOk RX9 155 yX1_marksBetween = true := by decide +kernel
theorem C_RX9_155 {cc : ByteArray} {nL d pc : Nat} {X : bX} {L : List (Option Value)} {S : List Value} {w : Wd} {w' : Wd} {a0 : Value} {a1 : Value} {x : Int32} (hX : bOk cc nL RX9 (d + 1) X) (hC : Con d yX1_marksBetween cX1_marksBetween 11 (some .int) [.ref 17, a0, a1] w (some (.int x)) w') (hr : (S.map fun v => v.category).sum ≤ 8) (hd : decode cc pc = .ok (.invokevirtual 155, 3)) (k : bV X (pc + 3) L (.int x :: S) w') : bV X pc L (a1 :: a0 :: .ref 17 :: S) w := V_callV (As := [a0, a1]) hX hC lk_RX9_155 md_X1_marksBetween iv_X1_marksBetween co_X1_marksBetween (Nat.le_of_ble_eq_true rfl) (Nat.le_of_ble_eq_true rfl) lay_17 rfl rfl hr hd k
theorem lk_RX9_158 : lkOk RX9 158 yX1_oddsPart = true := by decide +kernel
theorem C_RX9_158 {cc : ByteArray} {nL d pc : Nat} {X : bX} {L : List (Option Value)} {S : List Value} {w : Wd} {w' : Wd} {a0 : Value} {a1 : Value} {x : Int32} (hX : bOk cc nL RX9 (d + 1) X) (hC : Con d yX1_oddsPart cX1_oddsPart 6 (some .int) [.ref 17, a0, a1] w (some (.int x)) w') (hr : (S.map fun v => v.category).sum ≤ 8) (hd : decode cc pc = .ok (.invokevirtual 158, 3)) (k : bV X (pc + 3) L (.int x :: S) w') : bV X pc L (a1 :: a0 :: .ref 17 :: S) w := V_callV (As := [a0, a1]) hX hC lk_RX9_158 md_X1_oddsPart iv_X1_oddsPart co_X1_oddsPart (Nat.le_of_ble_eq_true rfl) (Nat.le_of_ble_eq_true rfl) lay_17 rfl rfl hr hd k
theorem lk_RX9_161 : lkOk RX9 161 yX1_membersWith = true := by decide +kernel
theorem C_RX9_161 {cc : ByteArray} {nL d pc : Nat} {X : bX} {L : List (Option Value)} {S : List Value} {w : Wd} {w' : Wd} {a0 : Value} {x : Int32} (hX : bOk cc nL RX9 (d + 1) X) (hC : Con d yX1_membersWith cX1_membersWith 2 (some .int) [.ref 17, a0] w (some (.int x)) w') (hr : (S.map fun v => v.category).sum ≤ 8) (hd : decode cc pc = .ok (.invokevirtual 161, 3)) (k : bV X (pc + 3) L (.int x :: S) w') : bV X pc L (a0 :: .ref 17 :: S) w := V_callV (As := [a0]) hX hC lk_RX9_161 md_X1_membersWith iv_X1_membersWith co_X1_membersWith (Nat.le_of_ble_eq_true rfl) (Nat.le_of_ble_eq_true rfl) lay_17 rfl rfl hr hd k
theorem lk_RX9_164 : lkOk RX9 164 yX1_yardsOf = true := by decide +kernel
theorem C_RX9_164 {cc : ByteArray} {nL d pc : Nat} {X : bX} {L : List (Option Value)} {S : List Value} {w : Wd} {w' : Wd} {a0 : Value} {x : Int32} (hX : bOk cc nL RX9 (d + 1) X) (hC : Con d yX1_yardsOf cX1_yardsOf 4 (some .int) [.ref 17, a0] w (some (.int x)) w') (hr : (S.map fun v => v.category).sum ≤ 8) (hd : decode cc pc = .ok (.invokevirtual 164, 3)) (k : bV X (pc + 3) L (.int x :: S) w') : bV X pc L (a0 :: .ref 17 :: S) w := V_callV (As := [a0]) hX hC lk_RX9_164 md_X1_yardsOf iv_X1_yardsOf co_X1_yardsOf (Nat.le_of_ble_eq_true rfl) (Nat.le_of_ble_eq_true rfl) lay_17 rfl rfl hr hd k
theorem lk_RX9_167 : lkOk RX9 167 yX1_firstYearOf = true := by decide +kernel
theorem C_RX9_167 {cc : ByteArray} {nL d pc : Nat} {X : bX} {L : List (Option Value)} {S : List Value} {w : Wd} {w' : Wd} {a0 : Value} {x : Int32} (hX : bOk cc nL RX9 (d + 1) X) (hC : Con d yX1_firstYearOf cX1_firstYearOf 4 (some .int) [.ref 17, a0] w (some (.int x)) w') (hr : (S.map fun v => v.category).sum ≤ 8) (hd : decode cc pc = .ok (.invokevirtual 167, 3)) (k : bV X (pc + 3) L (.int x :: S) w') : bV X pc L (a0 :: .ref 17 :: S) w := V_callV (As := [a0]) hX hC lk_RX9_167 md_X1_firstYearOf iv_X1_firstYearOf co_X1_firstYearOf (Nat.le_of_ble_eq_true rfl) (Nat.le_of_ble_eq_true rfl) lay_17 rfl rfl hr hd k
theorem lk_RX9_170 : lkOk RX9 170 yX1_howManyFields = true := by decide +kernel
theorem C_RX9_170 {cc : ByteArray} {nL d pc : Nat} {X : bX} {L : List (Option Value)} {S : List Value} {w : Wd} {w' : Wd} {x : Int32} (hX : bOk cc nL RX9 (d + 1) X) (hC : Con d yX1_howManyFields cX1_howManyFields 4 (some .int) [.ref 17] w (some (.int x)) w') (hr : (S.map fun v => v.category).sum ≤ 8) (hd : decode cc pc = .ok (.invokevirtual 170, 3)) (k : bV X (pc + 3) L (.int x :: S) w') : bV X pc L (.ref 17 :: S) w := V_callV (As := []) hX hC lk_RX9_170 md_X1_howManyFields iv_X1_howManyFields co_X1_howManyFields (Nat.le_of_ble_eq_true rfl) (Nat.le_of_ble_eq_true rfl) lay_17 rfl rfl hr hd k
theorem lk_RX9_173 : lkOk RX9 173 yX3_yardsIn = true := by decide +kernel
theorem C_RX9_173 {cc : ByteArray} {nL d pc : Nat} {X : bX} {L : List (Option Value)} {S : List Value} {w : Wd} {w' : Wd} {a0 : Value} {a1 : Value} {x : Int32} (hX : bOk cc nL RX9 (d + 1) X) (hC : Con d yX3_yardsIn cX3_yardsIn 5 (some .int) [.ref 19, a0, a1] w (some (.int x)) w') (hr : (S.map fun v => v.category).sum ≤ 8) (hd : decode cc pc = .ok (.invokevirtual 173, 3)) (k : bV X (pc + 3) L (.int x :: S) w') : bV X pc L (a1 :: a0 :: .ref 19 :: S) w := V_callV (As := [a0, a1]) hX hC lk_RX9_173 md_X3_yardsIn iv_X3_yardsIn co_X3_yardsIn (Nat.le_of_ble_eq_true rfl) (Nat.le_of_ble_eq_true rfl) lay_19 rfl rfl hr hd k
theorem lk_RX9_176 : lkOk RX9 176 yX3_yearOfMost = true := by decide +kernel
theorem C_RX9_176 {cc : ByteArray} {nL d pc : Nat} {X : bX} {L : List (Option Value)} {S : List Value} {w : Wd} {w' : Wd} {x : Int32} (hX : bOk cc nL RX9 (d + 1) X) (hC : Con d yX3_yearOfMost cX3_yearOfMost 6 (some .int) [.ref 19] w (some (.int x)) w') (hr : (S.map fun v => v.category).sum ≤ 8) (hd : decode cc pc = .ok (.invokevirtual 176, 3)) (k : bV X (pc + 3) L (.int x :: S) w') : bV X pc L (.ref 19 :: S) w := V_callV (As := []) hX hC lk_RX9_176 md_X3_yearOfMost iv_X3_yearOfMost co_X3_yearOfMost (Nat.le_of_ble_eq_true rfl) (Nat.le_of_ble_eq_true rfl) lay_19 rfl rfl hr hd k
theorem lk_RX9_179 : lkOk RX9 179 yX5_tell = true := by decide +kernel
theorem C_RX9_179 {cc : ByteArray} {nL d pc : Nat} {X : bX} {L : List (Option Value)} {S : List Value} {w : Wd} {w' : Wd} {a0 : Value} {a1 : Value} {a2 : Value} (hX : bOk cc nL RX9 (d + 1) X) (hC : Con d yX5_tell cX5_tell 8 none [.ref 20, a0, a1, a2] w none w') (hr : (S.map fun v => v.category).sum ≤ 8) (hd : decode cc pc = .ok (.invokevirtual 179, 3)) (k : bV X (pc + 3) L S w') : bV X pc L (a2 :: a1 :: a0 :: .ref 20 :: S) w := V_callV (As := [a0, a1, a2]) hX hC lk_RX9_179 md_X5_tell iv_X5_tell co_X5_tell (Nat.le_of_ble_eq_true rfl) (Nat.le_of_ble_eq_true rfl) lay_20 rfl rfl hr hd k
theorem lk_RX9_183 : lkOk RX9 183 yX5_giveAll = true := by decide +kernel
theorem C_RX9_183 {cc : ByteArray} {nL d pc : Nat} {X : bX} {L : List (Option Value)} {S : List Value} {w : Wd} {w' : Wd} (hX : bOk cc nL RX9 (d + 1) X) (hC : Con d yX5_giveAll cX5_giveAll 2 none [.ref 20] w none w') (hr : (S.map fun v => v.category).sum ≤ 8) (hd : decode cc pc = .ok (.invokevirtual 183, 3)) (k : bV X (pc + 3) L S w') : bV X pc L (.ref 20 :: S) w := V_callV (As := []) hX hC lk_RX9_183 md_X5_giveAll iv_X5_giveAll co_X5_giveAll (Nat.le_of_ble_eq_true rfl) (Nat.le_of_ble_eq_true rfl) lay_20 rfl rfl hr hd k
theorem lk_RX9_186 : lkOk RX9 186 yX5_answer = true := by decide +kernel
theorem C_RX9_186 {cc : ByteArray} {nL d pc : Nat} {X : bX} {L : List (Option Value)} {S : List Value} {w : Wd} {w' : Wd} {a0 : Value} {x : Int32} (hX : bOk cc nL RX9 (d + 1) X) (hC : Con d yX5_answer cX5_answer 2 (some .int) [.ref 20, a0] w (some (.int x)) w') (hr : (S.map fun v => v.category).sum ≤ 8) (hd : decode cc pc = .ok (.invokevirtual 186, 3)) (k : bV X (pc + 3) L (.int x :: S) w') : bV X pc L (a0 :: .ref 20 :: S) w := V_callV (As := [a0]) hX hC lk_RX9_186 md_X5_answer iv_X5_answer co_X5_answer (Nat.le_of_ble_eq_true rfl) (Nat.le_of_ble_eq_true rfl) lay_20 rfl rfl hr hd k
theorem lk_RX9_189 : lkOk RX9 189 yX7_tell = true := by decide +kernel
theorem C_RX9_189 {cc : ByteArray} {nL d pc : Nat} {X : bX} {L : List (Option Value)} {S : List Value} {w : Wd} {w' : Wd} {a0 : Value} {a1 : Value} {x : Int32} (hX : bOk cc nL RX9 (d + 1) X) (hC : Con d yX7_tell cX7_tell 4 (some .int) [.ref 27, a0, a1] w (some (.int x)) w') (hr : (S.map fun v => v.category).sum ≤ 8) (hd : decode cc pc = .ok (.invokevirtual 189, 3)) (k : bV X (pc + 3) L (.int x :: S) w') : bV X pc L (a1 :: a0 :: .ref 27 :: S) w := V_callV (As := [a0, a1]) hX hC lk_RX9_189 md_X7_tell iv_X7_tell co_X7_tell (Nat.le_of_ble_eq_true rfl) (Nat.le_of_ble_eq_true rfl) lay_27 rfl rfl hr hd k
theorem lk_RX9_191 : lkOk RX9 191 yX7_leastRound = true := by decide +kernel
theorem C_RX9_191 {cc : ByteArray} {nL d pc : Nat} {X : bX} {L : List (Option Value)} {S : List Value} {w : Wd} {w' : Wd} {x : Int32} (hX : bOk cc nL RX9 (d + 1) X) (hC : Con d yX7_leastRound cX7_leastRound 2 (some .int) [.ref 27] w (some (.int x)) w') (hr : (S.map fun v => v.category).sum ≤ 8) (hd : decode cc pc = .ok (.invokevirtual 191, 3)) (k : bV X (pc + 3) L (.int x :: S) w') : bV X pc L (.ref 27 :: S) w := V_callV (As := []) hX hC lk_RX9_191 md_X7_leastRound iv_X7_leastRound co_X7_leastRound (Nat.le_of_ble_eq_true rfl) (Nat.le_of_ble_eq_true rfl) lay_27 rfl rfl hr hd k
theorem lk_RX9_194 : lkOk RX9 194 yX7_holderByTurns = true := by decide +kernel
theorem C_RX9_194 {cc : ByteArray} {nL d pc : Nat} {X : bX} {L : List (Option Value)} {S : List Value} {w : Wd} {w' : Wd} {a0 : Value} {x : Int32} (hX : bOk cc nL RX9 (d + 1) X) (hC : Con d yX7_holderByTurns cX7_holderByTurns 5 (some .int) [.ref 27, a0] w (some (.int x)) w') (hr : (S.map fun v => v.category).sum ≤ 8) (hd : decode cc pc = .ok (.invokevirtual 194, 3)) (k : bV X (pc + 3) L (.int x :: S) w') : bV X pc L (a0 :: .ref 27 :: S) w := V_callV (As := [a0]) hX hC lk_RX9_194 md_X7_holderByTurns iv_X7_holderByTurns co_X7_holderByTurns (Nat.le_of_ble_eq_true rfl) (Nat.le_of_ble_eq_true rfl) lay_27 rfl rfl hr hd k
theorem lk_RX9_197 : lkOk RX9 197 yX2_add = true := by decide +kernel
theorem C_RX9_197 {cc : ByteArray} {nL d pc : Nat} {X : bX} {L : List (Option Value)} {S : List Value} {w : Wd} {w' : Wd} {a0 : Value} {a1 : Value} {a2 : Value} {x : Int32} (hX : bOk cc nL RX9 (d + 1) X) (hC : Con d yX2_add cX2_add 4 (some .boolean) [.ref 29, a0, a1, a2] w (some (.int x)) w') (hr : (S.map fun v => v.category).sum ≤ 8) (hd : decode cc pc = .ok (.invokevirtual 197, 3)) (k : bV X (pc + 3) L (.int x :: S) w') : bV X pc L (a2 :: a1 :: a0 :: .ref 29 :: S) w := V_callV (As := [a0, a1, a2]) hX hC lk_RX9_197 md_X2_add iv_X2_add co_X2_add (Nat.le_of_ble_eq_true rfl) (Nat.le_of_ble_eq_true rfl) lay_29 rfl rfl hr hd k
theorem lk_RX9_202 : lkOk RX9 202 yX2_shouldShow = true := by decide +kernel
theorem C_RX9_202 {cc : ByteArray} {nL d pc : Nat} {X : bX} {L : List (Option Value)} {S : List Value} {w : Wd} {w' : Wd} {a0 : Value} {a1 : Value} {x : Int32} (hX : bOk cc nL RX9 (d + 1) X) (hC : Con d yX2_shouldShow cX2_shouldShow 3 (some .boolean) [.ref 29, a0, a1] w (some (.int x)) w') (hr : (S.map fun v => v.category).sum ≤ 8) (hd : decode cc pc = .ok (.invokevirtual 202, 3)) (k : bV X (pc + 3) L (.int x :: S) w') : bV X pc L (a1 :: a0 :: .ref 29 :: S) w := V_callV (As := [a0, a1]) hX hC lk_RX9_202 md_X2_shouldShow iv_X2_shouldShow co_X2_shouldShow (Nat.le_of_ble_eq_true rfl) (Nat.le_of_ble_eq_true rfl) lay_29 rfl rfl hr hd k
theorem lk_RX9_205 : lkOk RX9 205 yX2_flat = true := by decide +kernel
theorem C_RX9_205 {cc : ByteArray} {nL d pc : Nat} {X : bX} {L : List (Option Value)} {S : List Value} {w : Wd} {w' : Wd} {x : Int32} (hX : bOk cc nL RX9 (d + 1) X) (hC : Con d yX2_flat cX2_flat 1 (some .int) [.ref 29] w (some (.int x)) w') (hr : (S.map fun v => v.category).sum ≤ 8) (hd : decode cc pc = .ok (.invokevirtual 205, 3)) (k : bV X (pc + 3) L (.int x :: S) w') : bV X pc L (.ref 29 :: S) w := V_callV (As := []) hX hC lk_RX9_205 md_X2_flat iv_X2_flat co_X2_flat (Nat.le_of_ble_eq_true rfl) (Nat.le_of_ble_eq_true rfl) lay_29 rfl rfl hr hd k
theorem lk_RX9_208 : lkOk RX9 208 yX2_standing = true := by decide +kernel
theorem C_RX9_208 {cc : ByteArray} {nL d pc : Nat} {X : bX} {L : List (Option Value)} {S : List Value} {w : Wd} {w' : Wd} {x : Int32} (hX : bOk cc nL RX9 (d + 1) X) (hC : Con d yX2_standing cX2_standing 3 (some .int) [.ref 29] w (some (.int x)) w') (hr : (S.map fun v => v.category).sum ≤ 8) (hd : decode cc pc = .ok (.invokevirtual 208, 3)) (k : bV X (pc + 3) L (.int x :: S) w') : bV X pc L (.ref 29 :: S) w := V_callV (As := []) hX hC lk_RX9_208 md_X2_standing iv_X2_standing co_X2_standing (Nat.le_of_ble_eq_true rfl) (Nat.le_of_ble_eq_true rfl) lay_29 rfl rfl hr hd k
theorem lk_RX9_211 : lkOk RX9 211 yX2_bestSun = true := by decide +kernel
theorem C_RX9_211 {cc : ByteArray} {nL d pc : Nat} {X : bX} {L : List (Option Value)} {S : List Value} {w : Wd} {w' : Wd} {x : Int32} (hX : bOk cc nL RX9 (d + 1) X) (hC : Con d yX2_bestSun cX2_bestSun 5 (some .int) [.ref 29] w (some (.int x)) w') (hr : (S.map fun v => v.category).sum ≤ 8) (hd : decode cc pc = .ok (.invokevirtual 211, 3)) (k : bV X (pc + 3) L (.int x :: S) w') : bV X pc L (.ref 29 :: S) w := V_callV (As := []) hX hC lk_RX9_211 md_X2_bestSun iv_X2_bestSun co_X2_bestSun (Nat.le_of_ble_eq_true rfl) (Nat.le_of_ble_eq_true rfl) lay_29 rfl rfl hr hd k
theorem lk_RX9_214 : lkOk RX9 214 yX0_toldBundles = true := by decide +kernel
theorem C_RX9_214 {cc : ByteArray} {nL d pc : Nat} {X : bX} {L : List (Option Value)} {S : List Value} {w : Wd} {w' : Wd} {x : Int32} (hX : bOk cc nL RX9 (d + 1) X) (hC : Con d yX0_toldBundles cX0_toldBundles 1 (some .int) [.ref 5] w (some (.int x)) w') (hr : (S.map fun v => v.category).sum ≤ 8) (hd : decode cc pc = .ok (.invokevirtual 214, 3)) (k : bV X (pc + 3) L (.int x :: S) w') : bV X pc L (.ref 5 :: S) w := V_callV (As := []) hX hC lk_RX9_214 md_X0_toldBundles iv_X0_toldBundles co_X0_toldBundles (Nat.le_of_ble_eq_true rfl) (Nat.le_of_ble_eq_true rfl) lay_5 rfl rfl hr hd k
theorem lk_RX9_217 : lkOk RX9 217 yJ6_bitCount_0f7a4 = true := by decide +kernel
theorem C_RX9_217 {cc : ByteArray} {nL d pc : Nat} {X : bX} {L : List (Option Value)} {S : List Value} {w : Wd} {w' : Wd} {a0 : Value} {x : Int32} (hX : bOk cc nL RX9 (d + 1) X) (hC : Con d yJ6_bitCount_0f7a4 cJ6_bitCount_0f7a4 1 (some .int) [a0] w (some (.int x)) w') (hr : (S.map fun v => v.category).sum ≤ 8) (hd : decode cc pc = .ok (.invokestatic 217, 3)) (k : bV X (pc + 3) L (.int x :: S) w') : bV X pc L (a0 :: S) w := V_callS (As := [a0]) hX hC lk_RX9_217 md_J6_bitCount_0f7a4 iv_J6_bitCount_0f7a4 co_J6_bitCount_0f7a4 (Nat.le_of_ble_eq_true rfl) rfl hr hd k
theorem lk_RX9_231 : lkOk RX9 231 yX5_howManyTold = true := by decide +kernel
theorem C_RX9_231 {cc : ByteArray} {nL d pc : Nat} {X : bX} {L : List (Option Value)} {S : List Value} {w : Wd} {w' : Wd} {x : Int32} (hX : bOk cc nL RX9 (d + 1) X) (hC : Con d yX5_howManyTold cX5_howManyTold 3 (some .int) [.ref 20] w (some (.int x)) w') (hr : (S.map fun v => v.category).sum ≤ 8) (hd : decode cc pc = .ok (.invokevirtual 231, 3)) (k : bV X (pc + 3) L (.int x :: S) w') : bV X pc L (.ref 20 :: S) w := V_callV (As := []) hX hC lk_RX9_231 md_X5_howManyTold iv_X5_howManyTold co_X5_howManyTold (Nat.le_of_ble_eq_true rfl) (Nat.le_of_ble_eq_true rfl) lay_20 rfl rfl hr hd k
