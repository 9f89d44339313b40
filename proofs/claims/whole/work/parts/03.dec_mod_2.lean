theorem dX10_areJoined_65 : decode cX10_areJoined 65 = .ok (.istore_n 3, 1) := by decide +kernel
theorem dX10_areJoined_66 : decode cX10_areJoined 66 = .ok (.aload_n 0, 1) := by decide +kernel
theorem dX10_areJoined_67 : decode cX10_areJoined 67 = .ok (.iload_n 1, 1) := by decide +kernel
theorem dX10_areJoined_68 : decode cX10_areJoined 68 = .ok (.iload_n 2, 1) := by decide +kernel
theorem dX10_areJoined_69 : decode cX10_areJoined 69 = .ok (.invokevirtual 235, 3) := by decide +kernel
theorem dX10_areJoined_72 : decode cX10_areJoined 72 = .ok (.iconst 0, 1) := by decide +kernel
theorem dX10_areJoined_73 : decode cX10_areJoined 73 = .ok (.aload_n 0, 1) := by decide +kernel
theorem dX10_areJoined_74 : decode cX10_areJoined 74 = .ok (.getfield 44, 3) := by decide +kernel
theorem dX10_areJoined_77 : decode cX10_areJoined 77 = .ok (.invokestatic 86, 3) := by decide +kernel
theorem dX10_areJoined_80 : decode cX10_areJoined 80 = .ok (.ifCond .ne 20, 3) := by decide +kernel
theorem dX10_areJoined_83 : decode cX10_areJoined 83 = .ok (.aload_n 0, 1) := by decide +kernel
theorem dX10_areJoined_84 : decode cX10_areJoined 84 = .ok (.iload_n 2, 1) := by decide +kernel
theorem dX10_areJoined_85 : decode cX10_areJoined 85 = .ok (.iload_n 1, 1) := by decide +kernel
theorem dX10_areJoined_86 : decode cX10_areJoined 86 = .ok (.invokevirtual 235, 3) := by decide +kernel
theorem dX10_areJoined_89 : decode cX10_areJoined 89 = .ok (.iconst 0, 1) := by decide +kernel
theorem dX10_areJoined_90 : decode cX10_areJoined 90 = .ok (.aload_n 0, 1) := by decide +kernel
theorem dX10_areJoined_91 : decode cX10_areJoined 91 = .ok (.getfield 44, 3) := by decide +kernel
theorem dX10_areJoined_94 : decode cX10_areJoined 94 = .ok (.invokestatic 86, 3) := by decide +kernel
theorem dX10_areJoined_97 : decode cX10_areJoined 97 = .ok (.ifCond .eq 7, 3) := by decide +kernel
theorem dX10_areJoined_100 : decode cX10_areJoined 100 = .ok (.iconst 1, 1) := by decide +kernel
theorem dX10_areJoined_101 : decode cX10_areJoined 101 = .ok (.goto 4, 3) := by decide +kernel
theorem dX10_areJoined_104 : decode cX10_areJoined 104 = .ok (.iconst 0, 1) := by decide +kernel
theorem dX10_areJoined_105 : decode cX10_areJoined 105 = .ok (.istore 4, 2) := by decide +kernel
theorem dX10_areJoined_107 : decode cX10_areJoined 107 = .ok (.aload_n 0, 1) := by decide +kernel
theorem dX10_areJoined_108 : decode cX10_areJoined 108 = .ok (.iload_n 1, 1) := by decide +kernel
theorem dX10_areJoined_109 : decode cX10_areJoined 109 = .ok (.invokevirtual 238, 3) := by decide +kernel
theorem dX10_areJoined_112 : decode cX10_areJoined 112 = .ok (.aload_n 0, 1) := by decide +kernel
theorem dX10_areJoined_113 : decode cX10_areJoined 113 = .ok (.iload_n 2, 1) := by decide +kernel
theorem dX10_areJoined_114 : decode cX10_areJoined 114 = .ok (.invokevirtual 238, 3) := by decide +kernel
theorem dX10_areJoined_117 : decode cX10_areJoined 117 = .ok (.aload_n 0, 1) := by decide +kernel
theorem dX10_areJoined_118 : decode cX10_areJoined 118 = .ok (.iload_n 2, 1) := by decide +kernel
theorem dX10_areJoined_119 : decode cX10_areJoined 119 = .ok (.invokevirtual 241, 3) := by decide +kernel
theorem dX10_areJoined_122 : decode cX10_areJoined 122 = .ok (.iadd, 1) := by decide +kernel
theorem dX10_areJoined_123 : decode cX10_areJoined 123 = .ok (.if_icmp .ge 26, 3) := by decide +kernel
theorem dX10_areJoined_126 : decode cX10_areJoined 126 = .ok (.aload_n 0, 1) := by decide +kernel
theorem dX10_areJoined_127 : decode cX10_areJoined 127 = .ok (.iload_n 2, 1) := by decide +kernel
theorem dX10_areJoined_128 : decode cX10_areJoined 128 = .ok (.invokevirtual 238, 3) := by decide +kernel
theorem dX10_areJoined_131 : decode cX10_areJoined 131 = .ok (.aload_n 0, 1) := by decide +kernel
theorem dX10_areJoined_132 : decode cX10_areJoined 132 = .ok (.iload_n 1, 1) := by decide +kernel
theorem dX10_areJoined_133 : decode cX10_areJoined 133 = .ok (.invokevirtual 238, 3) := by decide +kernel
theorem dX10_areJoined_136 : decode cX10_areJoined 136 = .ok (.aload_n 0, 1) := by decide +kernel
theorem dX10_areJoined_137 : decode cX10_areJoined 137 = .ok (.iload_n 1, 1) := by decide +kernel
theorem dX10_areJoined_138 : decode cX10_areJoined 138 = .ok (.invokevirtual 241, 3) := by decide +kernel
theorem dX10_areJoined_141 : decode cX10_areJoined 141 = .ok (.iadd, 1) := by decide +kernel
theorem dX10_areJoined_142 : decode cX10_areJoined 142 = .ok (.if_icmp .ge 7, 3) := by decide +kernel
theorem dX10_areJoined_145 : decode cX10_areJoined 145 = .ok (.iconst 1, 1) := by decide +kernel
theorem dX10_areJoined_146 : decode cX10_areJoined 146 = .ok (.goto 4, 3) := by decide +kernel
theorem dX10_areJoined_149 : decode cX10_areJoined 149 = .ok (.iconst 0, 1) := by decide +kernel
theorem dX10_areJoined_150 : decode cX10_areJoined 150 = .ok (.istore 5, 2) := by decide +kernel
theorem dX10_areJoined_152 : decode cX10_areJoined 152 = .ok (.aload_n 0, 1) := by decide +kernel
theorem dX10_areJoined_153 : decode cX10_areJoined 153 = .ok (.iload_n 1, 1) := by decide +kernel
theorem dX10_areJoined_154 : decode cX10_areJoined 154 = .ok (.invokevirtual 238, 3) := by decide +kernel
theorem dX10_areJoined_157 : decode cX10_areJoined 157 = .ok (.aload_n 0, 1) := by decide +kernel
theorem dX10_areJoined_158 : decode cX10_areJoined 158 = .ok (.iload_n 2, 1) := by decide +kernel
theorem dX10_areJoined_159 : decode cX10_areJoined 159 = .ok (.invokevirtual 238, 3) := by decide +kernel
theorem dX10_areJoined_162 : decode cX10_areJoined 162 = .ok (.if_icmp .le 17, 3) := by decide +kernel
theorem dX10_areJoined_165 : decode cX10_areJoined 165 = .ok (.aload_n 0, 1) := by decide +kernel
theorem dX10_areJoined_166 : decode cX10_areJoined 166 = .ok (.iload_n 1, 1) := by decide +kernel
theorem dX10_areJoined_167 : decode cX10_areJoined 167 = .ok (.invokevirtual 238, 3) := by decide +kernel
theorem dX10_areJoined_170 : decode cX10_areJoined 170 = .ok (.aload_n 0, 1) := by decide +kernel
theorem dX10_areJoined_171 : decode cX10_areJoined 171 = .ok (.iload_n 2, 1) := by decide +kernel
theorem dX10_areJoined_172 : decode cX10_areJoined 172 = .ok (.invokevirtual 238, 3) := by decide +kernel
theorem dX10_areJoined_175 : decode cX10_areJoined 175 = .ok (.isub, 1) := by decide +kernel
theorem dX10_areJoined_176 : decode cX10_areJoined 176 = .ok (.goto 14, 3) := by decide +kernel
theorem dX10_areJoined_179 : decode cX10_areJoined 179 = .ok (.aload_n 0, 1) := by decide +kernel
theorem dX10_areJoined_180 : decode cX10_areJoined 180 = .ok (.iload_n 2, 1) := by decide +kernel
theorem dX10_areJoined_181 : decode cX10_areJoined 181 = .ok (.invokevirtual 238, 3) := by decide +kernel
theorem dX10_areJoined_184 : decode cX10_areJoined 184 = .ok (.aload_n 0, 1) := by decide +kernel
theorem dX10_areJoined_185 : decode cX10_areJoined 185 = .ok (.iload_n 1, 1) := by decide +kernel
theorem dX10_areJoined_186 : decode cX10_areJoined 186 = .ok (.invokevirtual 238, 3) := by decide +kernel
theorem dX10_areJoined_189 : decode cX10_areJoined 189 = .ok (.isub, 1) := by decide +kernel
theorem dX10_areJoined_190 : decode cX10_areJoined 190 = .ok (.istore 6, 2) := by decide +kernel
theorem dX10_areJoined_192 : decode cX10_areJoined 192 = .ok (.iload_n 3, 1) := by decide +kernel
theorem dX10_areJoined_193 : decode cX10_areJoined 193 = .ok (.ifCond .eq 39, 3) := by decide +kernel
theorem dX10_areJoined_196 : decode cX10_areJoined 196 = .ok (.iload 4, 2) := by decide +kernel
theorem dX10_areJoined_198 : decode cX10_areJoined 198 = .ok (.ifCond .eq 34, 3) := by decide +kernel
theorem dX10_areJoined_201 : decode cX10_areJoined 201 = .ok (.iload 5, 2) := by decide +kernel
theorem dX10_areJoined_203 : decode cX10_areJoined 203 = .ok (.ifCond .eq 29, 3) := by decide +kernel
theorem dX10_areJoined_206 : decode cX10_areJoined 206 = .ok (.aload_n 0, 1) := by decide +kernel
theorem dX10_areJoined_207 : decode cX10_areJoined 207 = .ok (.iload 6, 2) := by decide +kernel
theorem dX10_areJoined_209 : decode cX10_areJoined 209 = .ok (.aload_n 0, 1) := by decide +kernel
theorem dX10_areJoined_210 : decode cX10_areJoined 210 = .ok (.iload_n 1, 1) := by decide +kernel
theorem dX10_areJoined_211 : decode cX10_areJoined 211 = .ok (.iconst 2, 1) := by decide +kernel
theorem dX10_areJoined_212 : decode cX10_areJoined 212 = .ok (.invokevirtual 184, 3) := by decide +kernel
theorem dX10_areJoined_215 : decode cX10_areJoined 215 = .ok (.irem, 1) := by decide +kernel
theorem dX10_areJoined_216 : decode cX10_areJoined 216 = .ok (.aload_n 0, 1) := by decide +kernel
theorem dX10_areJoined_217 : decode cX10_areJoined 217 = .ok (.iload_n 1, 1) := by decide +kernel
theorem dX10_areJoined_218 : decode cX10_areJoined 218 = .ok (.iconst 2, 1) := by decide +kernel
theorem dX10_areJoined_219 : decode cX10_areJoined 219 = .ok (.invokevirtual 184, 3) := by decide +kernel
theorem dX10_areJoined_222 : decode cX10_areJoined 222 = .ok (.invokevirtual 244, 3) := by decide +kernel
theorem dX10_areJoined_225 : decode cX10_areJoined 225 = .ok (.ifCond .eq 7, 3) := by decide +kernel
theorem dX10_areJoined_228 : decode cX10_areJoined 228 = .ok (.iconst 1, 1) := by decide +kernel
theorem dX10_areJoined_229 : decode cX10_areJoined 229 = .ok (.goto 4, 3) := by decide +kernel
theorem dX10_areJoined_232 : decode cX10_areJoined 232 = .ok (.iconst 0, 1) := by decide +kernel
theorem dX10_areJoined_233 : decode cX10_areJoined 233 = .ok (.ireturn, 1) := by decide +kernel
theorem dX10_areTwo_0 : decode cX10_areTwo 0 = .ok (.aload_n 0, 1) := by decide +kernel
theorem dX10_areTwo_1 : decode cX10_areTwo 1 = .ok (.iload_n 1, 1) := by decide +kernel
theorem dX10_areTwo_2 : decode cX10_areTwo 2 = .ok (.invokevirtual 205, 3) := by decide +kernel
theorem dX10_areTwo_5 : decode cX10_areTwo 5 = .ok (.ifCond .eq 20, 3) := by decide +kernel
theorem dX10_areTwo_8 : decode cX10_areTwo 8 = .ok (.aload_n 0, 1) := by decide +kernel
theorem dX10_areTwo_9 : decode cX10_areTwo 9 = .ok (.iload_n 2, 1) := by decide +kernel
theorem dX10_areTwo_10 : decode cX10_areTwo 10 = .ok (.invokevirtual 205, 3) := by decide +kernel
theorem dX10_areTwo_13 : decode cX10_areTwo 13 = .ok (.ifCond .eq 12, 3) := by decide +kernel
theorem dX10_areTwo_16 : decode cX10_areTwo 16 = .ok (.iload_n 1, 1) := by decide +kernel
theorem dX10_areTwo_17 : decode cX10_areTwo 17 = .ok (.iload_n 2, 1) := by decide +kernel
theorem dX10_areTwo_18 : decode cX10_areTwo 18 = .ok (.if_icmp .eq 7, 3) := by decide +kernel
theorem dX10_areTwo_21 : decode cX10_areTwo 21 = .ok (.iconst 1, 1) := by decide +kernel
theorem dX10_areTwo_22 : decode cX10_areTwo 22 = .ok (.goto 4, 3) := by decide +kernel
theorem dX10_areTwo_25 : decode cX10_areTwo 25 = .ok (.iconst 0, 1) := by decide +kernel
theorem dX10_areTwo_26 : decode cX10_areTwo 26 = .ok (.ireturn, 1) := by decide +kernel
theorem dX10_joined_0 : decode cX10_joined 0 = .ok (.aload_n 0, 1) := by decide +kernel
theorem dX10_joined_1 : decode cX10_joined 1 = .ok (.iload_n 1, 1) := by decide +kernel
theorem dX10_joined_2 : decode cX10_joined 2 = .ok (.iload_n 2, 1) := by decide +kernel
theorem dX10_joined_3 : decode cX10_joined 3 = .ok (.invokevirtual 247, 3) := by decide +kernel
theorem dX10_joined_6 : decode cX10_joined 6 = .ok (.ifCond .ne 8, 3) := by decide +kernel
theorem dX10_joined_9 : decode cX10_joined 9 = .ok (.bipush (-2), 2) := by decide +kernel
theorem dX10_joined_11 : decode cX10_joined 11 = .ok (.goto 17, 3) := by decide +kernel
theorem dX10_joined_14 : decode cX10_joined 14 = .ok (.aload_n 0, 1) := by decide +kernel
theorem dX10_joined_15 : decode cX10_joined 15 = .ok (.iload_n 1, 1) := by decide +kernel
theorem dX10_joined_16 : decode cX10_joined 16 = .ok (.iload_n 2, 1) := by decide +kernel
theorem dX10_joined_17 : decode cX10_joined 17 = .ok (.invokevirtual 250, 3) := by decide +kernel
theorem dX10_joined_20 : decode cX10_joined 20 = .ok (.ifCond .eq 7, 3) := by decide +kernel
theorem dX10_joined_23 : decode cX10_joined 23 = .ok (.iconst 1, 1) := by decide +kernel
theorem dX10_joined_24 : decode cX10_joined 24 = .ok (.goto 4, 3) := by decide +kernel
theorem dX10_joined_27 : decode cX10_joined 27 = .ok (.iconst 0, 1) := by decide +kernel
theorem dX10_joined_28 : decode cX10_joined 28 = .ok (.ireturn, 1) := by decide +kernel
theorem dX10_meets_0 : decode cX10_meets 0 = .ok (.iload_n 0, 1) := by decide +kernel
theorem dX10_meets_1 : decode cX10_meets 1 = .ok (.iload_n 2, 1) := by decide +kernel
theorem dX10_meets_2 : decode cX10_meets 2 = .ok (.iload_n 3, 1) := by decide +kernel
theorem dX10_meets_3 : decode cX10_meets 3 = .ok (.iadd, 1) := by decide +kernel
theorem dX10_meets_4 : decode cX10_meets 4 = .ok (.if_icmp .ge 14, 3) := by decide +kernel
theorem dX10_meets_7 : decode cX10_meets 7 = .ok (.iload_n 2, 1) := by decide +kernel
theorem dX10_meets_8 : decode cX10_meets 8 = .ok (.iload_n 0, 1) := by decide +kernel
theorem dX10_meets_9 : decode cX10_meets 9 = .ok (.iload_n 1, 1) := by decide +kernel
theorem dX10_meets_10 : decode cX10_meets 10 = .ok (.iadd, 1) := by decide +kernel
theorem dX10_meets_11 : decode cX10_meets 11 = .ok (.if_icmp .ge 7, 3) := by decide +kernel
theorem dX10_meets_14 : decode cX10_meets 14 = .ok (.iconst 1, 1) := by decide +kernel
theorem dX10_meets_15 : decode cX10_meets 15 = .ok (.goto 4, 3) := by decide +kernel
theorem dX10_meets_18 : decode cX10_meets 18 = .ok (.iconst 0, 1) := by decide +kernel
theorem dX10_meets_19 : decode cX10_meets 19 = .ok (.ireturn, 1) := by decide +kernel
theorem dX10_later_0 : decode cX10_later 0 = .ok (.aload_n 0, 1) := by decide +kernel
theorem dX10_later_1 : decode cX10_later 1 = .ok (.iload_n 1, 1) := by decide +kernel
theorem dX10_later_2 : decode cX10_later 2 = .ok (.iload_n 2, 1) := by decide +kernel
theorem dX10_later_3 : decode cX10_later 3 = .ok (.invokevirtual 247, 3) := by decide +kernel
theorem dX10_later_6 : decode cX10_later 6 = .ok (.ifCond .ne 6, 3) := by decide +kernel
theorem dX10_later_9 : decode cX10_later 9 = .ok (.bipush (-2), 2) := by decide +kernel
theorem dX10_later_11 : decode cX10_later 11 = .ok (.ireturn, 1) := by decide +kernel
theorem dX10_later_12 : decode cX10_later 12 = .ok (.aload_n 0, 1) := by decide +kernel
theorem dX10_later_13 : decode cX10_later 13 = .ok (.iload_n 1, 1) := by decide +kernel
theorem dX10_later_14 : decode cX10_later 14 = .ok (.iload_n 2, 1) := by decide +kernel
theorem dX10_later_15 : decode cX10_later 15 = .ok (.invokevirtual 250, 3) := by decide +kernel
theorem dX10_later_18 : decode cX10_later 18 = .ok (.ifCond .ne 6, 3) := by decide +kernel
theorem dX10_later_21 : decode cX10_later 21 = .ok (.bipush (-4), 2) := by decide +kernel
theorem dX10_later_23 : decode cX10_later 23 = .ok (.ireturn, 1) := by decide +kernel
theorem dX10_later_24 : decode cX10_later 24 = .ok (.aload_n 0, 1) := by decide +kernel
theorem dX10_later_25 : decode cX10_later 25 = .ok (.iload_n 1, 1) := by decide +kernel
theorem dX10_later_26 : decode cX10_later 26 = .ok (.iload_n 2, 1) := by decide +kernel
theorem dX10_later_27 : decode cX10_later 27 = .ok (.invokevirtual 235, 3) := by decide +kernel
theorem dX10_later_30 : decode cX10_later 30 = .ok (.ifCond .lt 7, 3) := by decide +kernel
theorem dX10_later_33 : decode cX10_later 33 = .ok (.iload_n 1, 1) := by decide +kernel
theorem dX10_later_34 : decode cX10_later 34 = .ok (.goto 4, 3) := by decide +kernel
theorem dX10_later_37 : decode cX10_later 37 = .ok (.iload_n 2, 1) := by decide +kernel
theorem dX10_later_38 : decode cX10_later 38 = .ok (.istore_n 3, 1) := by decide +kernel
theorem dX10_later_39 : decode cX10_later 39 = .ok (.iload_n 3, 1) := by decide +kernel
theorem dX10_later_40 : decode cX10_later 40 = .ok (.iload_n 1, 1) := by decide +kernel
theorem dX10_later_41 : decode cX10_later 41 = .ok (.if_icmp .ne 7, 3) := by decide +kernel
theorem dX10_later_44 : decode cX10_later 44 = .ok (.iload_n 2, 1) := by decide +kernel
theorem dX10_later_45 : decode cX10_later 45 = .ok (.goto 4, 3) := by decide +kernel
theorem dX10_later_48 : decode cX10_later 48 = .ok (.iload_n 1, 1) := by decide +kernel
theorem dX10_later_49 : decode cX10_later 49 = .ok (.istore 4, 2) := by decide +kernel
theorem dX10_later_51 : decode cX10_later 51 = .ok (.aload_n 0, 1) := by decide +kernel
theorem dX10_later_52 : decode cX10_later 52 = .ok (.iload_n 3, 1) := by decide +kernel
theorem dX10_later_53 : decode cX10_later 53 = .ok (.invokevirtual 232, 3) := by decide +kernel
theorem dX10_later_56 : decode cX10_later 56 = .ok (.aload_n 0, 1) := by decide +kernel
theorem dX10_later_57 : decode cX10_later 57 = .ok (.iload_n 3, 1) := by decide +kernel
theorem dX10_later_58 : decode cX10_later 58 = .ok (.iconst 3, 1) := by decide +kernel
theorem dX10_later_59 : decode cX10_later 59 = .ok (.invokevirtual 184, 3) := by decide +kernel
theorem dX10_later_62 : decode cX10_later 62 = .ok (.iadd, 1) := by decide +kernel
theorem dX10_later_63 : decode cX10_later 63 = .ok (.istore 5, 2) := by decide +kernel
theorem dX10_later_65 : decode cX10_later 65 = .ok (.aload_n 0, 1) := by decide +kernel
theorem dX10_later_66 : decode cX10_later 66 = .ok (.iload_n 3, 1) := by decide +kernel
theorem dX10_later_67 : decode cX10_later 67 = .ok (.iload 4, 2) := by decide +kernel
theorem dX10_later_69 : decode cX10_later 69 = .ok (.invokevirtual 235, 3) := by decide +kernel
theorem dX10_later_72 : decode cX10_later 72 = .ok (.istore 6, 2) := by decide +kernel
theorem dX10_later_74 : decode cX10_later 74 = .ok (.aload_n 0, 1) := by decide +kernel
theorem dX10_later_75 : decode cX10_later 75 = .ok (.iload_n 1, 1) := by decide +kernel
theorem dX10_later_76 : decode cX10_later 76 = .ok (.invokevirtual 238, 3) := by decide +kernel
theorem dX10_later_79 : decode cX10_later 79 = .ok (.aload_n 0, 1) := by decide +kernel
theorem dX10_later_80 : decode cX10_later 80 = .ok (.iload_n 2, 1) := by decide +kernel
theorem dX10_later_81 : decode cX10_later 81 = .ok (.invokevirtual 238, 3) := by decide +kernel
theorem dX10_later_84 : decode cX10_later 84 = .ok (.if_icmp .ge 11, 3) := by decide +kernel
theorem dX10_later_87 : decode cX10_later 87 = .ok (.aload_n 0, 1) := by decide +kernel
theorem dX10_later_88 : decode cX10_later 88 = .ok (.iload_n 1, 1) := by decide +kernel
theorem dX10_later_89 : decode cX10_later 89 = .ok (.invokevirtual 238, 3) := by decide +kernel
theorem dX10_later_92 : decode cX10_later 92 = .ok (.goto 8, 3) := by decide +kernel
theorem dX10_later_95 : decode cX10_later 95 = .ok (.aload_n 0, 1) := by decide +kernel
theorem dX10_later_96 : decode cX10_later 96 = .ok (.iload_n 2, 1) := by decide +kernel
theorem dX10_later_97 : decode cX10_later 97 = .ok (.invokevirtual 238, 3) := by decide +kernel
theorem dX10_later_100 : decode cX10_later 100 = .ok (.istore 7, 2) := by decide +kernel
theorem dX10_later_102 : decode cX10_later 102 = .ok (.aload_n 0, 1) := by decide +kernel
theorem dX10_later_103 : decode cX10_later 103 = .ok (.iload_n 1, 1) := by decide +kernel
theorem dX10_later_104 : decode cX10_later 104 = .ok (.invokevirtual 238, 3) := by decide +kernel
theorem dX10_later_107 : decode cX10_later 107 = .ok (.aload_n 0, 1) := by decide +kernel
theorem dX10_later_108 : decode cX10_later 108 = .ok (.iload_n 1, 1) := by decide +kernel
theorem dX10_later_109 : decode cX10_later 109 = .ok (.invokevirtual 241, 3) := by decide +kernel
theorem dX10_later_112 : decode cX10_later 112 = .ok (.iadd, 1) := by decide +kernel
theorem dX10_later_113 : decode cX10_later 113 = .ok (.istore 8, 2) := by decide +kernel
theorem dX10_later_115 : decode cX10_later 115 = .ok (.aload_n 0, 1) := by decide +kernel
theorem dX10_later_116 : decode cX10_later 116 = .ok (.iload_n 2, 1) := by decide +kernel
theorem dX10_later_117 : decode cX10_later 117 = .ok (.invokevirtual 238, 3) := by decide +kernel
theorem dX10_later_120 : decode cX10_later 120 = .ok (.aload_n 0, 1) := by decide +kernel
theorem dX10_later_121 : decode cX10_later 121 = .ok (.iload_n 2, 1) := by decide +kernel
theorem dX10_later_122 : decode cX10_later 122 = .ok (.invokevirtual 241, 3) := by decide +kernel
theorem dX10_later_125 : decode cX10_later 125 = .ok (.iadd, 1) := by decide +kernel
theorem dX10_later_126 : decode cX10_later 126 = .ok (.istore 9, 2) := by decide +kernel
theorem dX10_later_128 : decode cX10_later 128 = .ok (.iload 8, 2) := by decide +kernel
theorem dX10_later_130 : decode cX10_later 130 = .ok (.iload 9, 2) := by decide +kernel
theorem dX10_later_132 : decode cX10_later 132 = .ok (.if_icmp .le 8, 3) := by decide +kernel
theorem dX10_later_135 : decode cX10_later 135 = .ok (.iload 8, 2) := by decide +kernel
theorem dX10_later_137 : decode cX10_later 137 = .ok (.goto 5, 3) := by decide +kernel
theorem dX10_later_140 : decode cX10_later 140 = .ok (.iload 9, 2) := by decide +kernel
theorem dX10_later_142 : decode cX10_later 142 = .ok (.iload 7, 2) := by decide +kernel
theorem dX10_later_144 : decode cX10_later 144 = .ok (.isub, 1) := by decide +kernel
theorem dX10_later_145 : decode cX10_later 145 = .ok (.istore 10, 2) := by decide +kernel
theorem dX10_later_147 : decode cX10_later 147 = .ok (.iconst 0, 1) := by decide +kernel
theorem dX10_later_148 : decode cX10_later 148 = .ok (.istore 11, 2) := by decide +kernel
theorem dX10_later_150 : decode cX10_later 150 = .ok (.bipush 8, 2) := by decide +kernel
theorem dX10_later_152 : decode cX10_later 152 = .ok (.istore 12, 2) := by decide +kernel
theorem dX10_later_154 : decode cX10_later 154 = .ok (.iload 12, 2) := by decide +kernel
theorem dX10_later_156 : decode cX10_later 156 = .ok (.bipush 14, 2) := by decide +kernel
theorem dX10_later_158 : decode cX10_later 158 = .ok (.if_icmp .ge 173, 3) := by decide +kernel
theorem dX10_later_161 : decode cX10_later 161 = .ok (.aload_n 0, 1) := by decide +kernel
theorem dX10_later_162 : decode cX10_later 162 = .ok (.iload 12, 2) := by decide +kernel
theorem dX10_later_164 : decode cX10_later 164 = .ok (.invokevirtual 93, 3) := by decide +kernel
theorem dX10_later_167 : decode cX10_later 167 = .ok (.ifCond .eq 158, 3) := by decide +kernel
theorem dX10_later_170 : decode cX10_later 170 = .ok (.iload 6, 2) := by decide +kernel
theorem dX10_later_172 : decode cX10_later 172 = .ok (.ifCond .le 153, 3) := by decide +kernel
theorem dX10_later_175 : decode cX10_later 175 = .ok (.aload_n 0, 1) := by decide +kernel
theorem dX10_later_176 : decode cX10_later 176 = .ok (.iload_n 1, 1) := by decide +kernel
theorem dX10_later_177 : decode cX10_later 177 = .ok (.iconst 0, 1) := by decide +kernel
theorem dX10_later_178 : decode cX10_later 178 = .ok (.invokevirtual 184, 3) := by decide +kernel
theorem dX10_later_181 : decode cX10_later 181 = .ok (.ifCond .ne 7, 3) := by decide +kernel
theorem dX10_later_184 : decode cX10_later 184 = .ok (.iconst 1, 1) := by decide +kernel
theorem dX10_later_185 : decode cX10_later 185 = .ok (.goto 4, 3) := by decide +kernel
theorem dX10_later_188 : decode cX10_later 188 = .ok (.iconst 0, 1) := by decide +kernel
theorem dX10_later_189 : decode cX10_later 189 = .ok (.istore 13, 2) := by decide +kernel
theorem dX10_later_191 : decode cX10_later 191 = .ok (.iload 13, 2) := by decide +kernel
theorem dX10_later_193 : decode cX10_later 193 = .ok (.ifCond .eq 59, 3) := by decide +kernel
theorem dX10_later_196 : decode cX10_later 196 = .ok (.aload_n 0, 1) := by decide +kernel
theorem dX10_later_197 : decode cX10_later 197 = .ok (.getfield 13, 3) := by decide +kernel
theorem dX10_later_200 : decode cX10_later 200 = .ok (.iload 12, 2) := by decide +kernel
theorem dX10_later_202 : decode cX10_later 202 = .ok (.iaload, 1) := by decide +kernel
theorem dX10_later_203 : decode cX10_later 203 = .ok (.aload_n 0, 1) := by decide +kernel
theorem dX10_later_204 : decode cX10_later 204 = .ok (.getfield 19, 3) := by decide +kernel
theorem dX10_later_207 : decode cX10_later 207 = .ok (.iload 12, 2) := by decide +kernel
theorem dX10_later_209 : decode cX10_later 209 = .ok (.iaload, 1) := by decide +kernel
theorem dX10_later_210 : decode cX10_later 210 = .ok (.iload 5, 2) := by decide +kernel
theorem dX10_later_212 : decode cX10_later 212 = .ok (.iload 6, 2) := by decide +kernel
theorem dX10_later_214 : decode cX10_later 214 = .ok (.invokestatic 253, 3) := by decide +kernel
theorem dX10_later_217 : decode cX10_later 217 = .ok (.ifCond .eq 31, 3) := by decide +kernel
theorem dX10_later_220 : decode cX10_later 220 = .ok (.aload_n 0, 1) := by decide +kernel
theorem dX10_later_221 : decode cX10_later 221 = .ok (.getfield 16, 3) := by decide +kernel
theorem dX10_later_224 : decode cX10_later 224 = .ok (.iload 12, 2) := by decide +kernel
theorem dX10_later_226 : decode cX10_later 226 = .ok (.iaload, 1) := by decide +kernel
theorem dX10_later_227 : decode cX10_later 227 = .ok (.aload_n 0, 1) := by decide +kernel
theorem dX10_later_228 : decode cX10_later 228 = .ok (.getfield 22, 3) := by decide +kernel
theorem dX10_later_231 : decode cX10_later 231 = .ok (.iload 12, 2) := by decide +kernel
theorem dX10_later_233 : decode cX10_later 233 = .ok (.iaload, 1) := by decide +kernel
theorem dX10_later_234 : decode cX10_later 234 = .ok (.iload 7, 2) := by decide +kernel
theorem dX10_later_236 : decode cX10_later 236 = .ok (.iload 10, 2) := by decide +kernel
theorem dX10_later_238 : decode cX10_later 238 = .ok (.invokestatic 253, 3) := by decide +kernel
theorem dX10_later_241 : decode cX10_later 241 = .ok (.ifCond .eq 7, 3) := by decide +kernel
theorem dX10_later_244 : decode cX10_later 244 = .ok (.iconst 1, 1) := by decide +kernel
theorem dX10_later_245 : decode cX10_later 245 = .ok (.goto 60, 3) := by decide +kernel
theorem dX10_later_248 : decode cX10_later 248 = .ok (.iconst 0, 1) := by decide +kernel
theorem dX10_later_249 : decode cX10_later 249 = .ok (.goto 56, 3) := by decide +kernel
theorem dX10_later_252 : decode cX10_later 252 = .ok (.aload_n 0, 1) := by decide +kernel
theorem dX10_later_253 : decode cX10_later 253 = .ok (.getfield 16, 3) := by decide +kernel
theorem dX10_later_256 : decode cX10_later 256 = .ok (.iload 12, 2) := by decide +kernel
theorem dX10_later_258 : decode cX10_later 258 = .ok (.iaload, 1) := by decide +kernel
theorem dX10_later_259 : decode cX10_later 259 = .ok (.aload_n 0, 1) := by decide +kernel
theorem dX10_later_260 : decode cX10_later 260 = .ok (.getfield 22, 3) := by decide +kernel
theorem dX10_later_263 : decode cX10_later 263 = .ok (.iload 12, 2) := by decide +kernel
theorem dX10_later_265 : decode cX10_later 265 = .ok (.iaload, 1) := by decide +kernel
theorem dX10_later_266 : decode cX10_later 266 = .ok (.iload 5, 2) := by decide +kernel
theorem dX10_later_268 : decode cX10_later 268 = .ok (.iload 6, 2) := by decide +kernel
theorem dX10_later_270 : decode cX10_later 270 = .ok (.invokestatic 253, 3) := by decide +kernel
theorem dX10_later_273 : decode cX10_later 273 = .ok (.ifCond .eq 31, 3) := by decide +kernel
theorem dX10_later_276 : decode cX10_later 276 = .ok (.aload_n 0, 1) := by decide +kernel
theorem dX10_later_277 : decode cX10_later 277 = .ok (.getfield 13, 3) := by decide +kernel
theorem dX10_later_280 : decode cX10_later 280 = .ok (.iload 12, 2) := by decide +kernel
theorem dX10_later_282 : decode cX10_later 282 = .ok (.iaload, 1) := by decide +kernel
theorem dX10_later_283 : decode cX10_later 283 = .ok (.aload_n 0, 1) := by decide +kernel
theorem dX10_later_284 : decode cX10_later 284 = .ok (.getfield 19, 3) := by decide +kernel
theorem dX10_later_287 : decode cX10_later 287 = .ok (.iload 12, 2) := by decide +kernel
theorem dX10_later_289 : decode cX10_later 289 = .ok (.iaload, 1) := by decide +kernel
theorem dX10_later_290 : decode cX10_later 290 = .ok (.iload 7, 2) := by decide +kernel
theorem dX10_later_292 : decode cX10_later 292 = .ok (.iload 10, 2) := by decide +kernel
theorem dX10_later_294 : decode cX10_later 294 = .ok (.invokestatic 253, 3) := by decide +kernel
theorem dX10_later_297 : decode cX10_later 297 = .ok (.ifCond .eq 7, 3) := by decide +kernel
theorem dX10_later_300 : decode cX10_later 300 = .ok (.iconst 1, 1) := by decide +kernel
theorem dX10_later_301 : decode cX10_later 301 = .ok (.goto 4, 3) := by decide +kernel
theorem dX10_later_304 : decode cX10_later 304 = .ok (.iconst 0, 1) := by decide +kernel
theorem dX10_later_305 : decode cX10_later 305 = .ok (.istore 14, 2) := by decide +kernel
theorem dX10_later_307 : decode cX10_later 307 = .ok (.iload 11, 2) := by decide +kernel
theorem dX10_later_309 : decode cX10_later 309 = .ok (.iload 14, 2) := by decide +kernel
theorem dX10_later_311 : decode cX10_later 311 = .ok (.ifCond .eq 10, 3) := by decide +kernel
theorem dX10_later_314 : decode cX10_later 314 = .ok (.iconst 1, 1) := by decide +kernel
theorem dX10_later_315 : decode cX10_later 315 = .ok (.iload 12, 2) := by decide +kernel
theorem dX10_later_317 : decode cX10_later 317 = .ok (.ishl, 1) := by decide +kernel
theorem dX10_later_318 : decode cX10_later 318 = .ok (.goto 4, 3) := by decide +kernel
theorem dX10_later_321 : decode cX10_later 321 = .ok (.iconst 0, 1) := by decide +kernel
theorem dX10_later_322 : decode cX10_later 322 = .ok (.ior, 1) := by decide +kernel
theorem dX10_later_323 : decode cX10_later 323 = .ok (.istore 11, 2) := by decide +kernel
theorem dX10_later_325 : decode cX10_later 325 = .ok (.iinc 12 1, 3) := by decide +kernel
theorem dX10_later_328 : decode cX10_later 328 = .ok (.goto (-174), 3) := by decide +kernel
theorem dX10_later_331 : decode cX10_later 331 = .ok (.iload 11, 2) := by decide +kernel
theorem dX10_later_333 : decode cX10_later 333 = .ok (.ireturn, 1) := by decide +kernel
theorem dX10_divisor_0 : decode cX10_divisor 0 = .ok (.iload_n 0, 1) := by decide +kernel
theorem dX10_divisor_1 : decode cX10_divisor 1 = .ok (.istore_n 2, 1) := by decide +kernel
theorem dX10_divisor_2 : decode cX10_divisor 2 = .ok (.iload_n 1, 1) := by decide +kernel
theorem dX10_divisor_3 : decode cX10_divisor 3 = .ok (.istore_n 3, 1) := by decide +kernel
theorem dX10_divisor_4 : decode cX10_divisor 4 = .ok (.iload_n 3, 1) := by decide +kernel
theorem dX10_divisor_5 : decode cX10_divisor 5 = .ok (.ifCond .eq 16, 3) := by decide +kernel
theorem dX10_divisor_8 : decode cX10_divisor 8 = .ok (.iload_n 2, 1) := by decide +kernel
theorem dX10_divisor_9 : decode cX10_divisor 9 = .ok (.iload_n 3, 1) := by decide +kernel
theorem dX10_divisor_10 : decode cX10_divisor 10 = .ok (.irem, 1) := by decide +kernel
theorem dX10_divisor_11 : decode cX10_divisor 11 = .ok (.istore 4, 2) := by decide +kernel
theorem dX10_divisor_13 : decode cX10_divisor 13 = .ok (.iload_n 3, 1) := by decide +kernel
theorem dX10_divisor_14 : decode cX10_divisor 14 = .ok (.istore_n 2, 1) := by decide +kernel
theorem dX10_divisor_15 : decode cX10_divisor 15 = .ok (.iload 4, 2) := by decide +kernel
theorem dX10_divisor_17 : decode cX10_divisor 17 = .ok (.istore_n 3, 1) := by decide +kernel
theorem dX10_divisor_18 : decode cX10_divisor 18 = .ok (.goto (-14), 3) := by decide +kernel
theorem dX10_divisor_21 : decode cX10_divisor 21 = .ok (.iload_n 2, 1) := by decide +kernel
theorem dX10_divisor_22 : decode cX10_divisor 22 = .ok (.ireturn, 1) := by decide +kernel
theorem dX10_odds_0 : decode cX10_odds 0 = .ok (.aload_n 0, 1) := by decide +kernel
theorem dX10_odds_1 : decode cX10_odds 1 = .ok (.iload_n 1, 1) := by decide +kernel
theorem dX10_odds_2 : decode cX10_odds 2 = .ok (.iload_n 2, 1) := by decide +kernel
theorem dX10_odds_3 : decode cX10_odds 3 = .ok (.invokevirtual 247, 3) := by decide +kernel
theorem dX10_odds_6 : decode cX10_odds 6 = .ok (.ifCond .ne 6, 3) := by decide +kernel
theorem dX10_odds_9 : decode cX10_odds 9 = .ok (.bipush (-2), 2) := by decide +kernel
theorem dX10_odds_11 : decode cX10_odds 11 = .ok (.ireturn, 1) := by decide +kernel
theorem dX10_odds_12 : decode cX10_odds 12 = .ok (.iload_n 3, 1) := by decide +kernel
theorem dX10_odds_13 : decode cX10_odds 13 = .ok (.iconst 0, 1) := by decide +kernel
theorem dX10_odds_14 : decode cX10_odds 14 = .ok (.iconst 1, 1) := by decide +kernel
theorem dX10_odds_15 : decode cX10_odds 15 = .ok (.invokestatic 86, 3) := by decide +kernel
theorem dX10_odds_18 : decode cX10_odds 18 = .ok (.ifCond .ne 6, 3) := by decide +kernel
theorem dX10_odds_21 : decode cX10_odds 21 = .ok (.bipush (-3), 2) := by decide +kernel
theorem dX10_odds_23 : decode cX10_odds 23 = .ok (.ireturn, 1) := by decide +kernel
theorem dX10_odds_24 : decode cX10_odds 24 = .ok (.aload_n 0, 1) := by decide +kernel
theorem dX10_odds_25 : decode cX10_odds 25 = .ok (.iload_n 1, 1) := by decide +kernel
theorem dX10_odds_26 : decode cX10_odds 26 = .ok (.iload_n 2, 1) := by decide +kernel
theorem dX10_odds_27 : decode cX10_odds 27 = .ok (.invokevirtual 250, 3) := by decide +kernel
theorem dX10_odds_30 : decode cX10_odds 30 = .ok (.ifCond .ne 6, 3) := by decide +kernel
theorem dX10_odds_33 : decode cX10_odds 33 = .ok (.bipush (-4), 2) := by decide +kernel
theorem dX10_odds_35 : decode cX10_odds 35 = .ok (.ireturn, 1) := by decide +kernel
theorem dX10_odds_36 : decode cX10_odds 36 = .ok (.aload_n 0, 1) := by decide +kernel
theorem dX10_odds_37 : decode cX10_odds 37 = .ok (.iload_n 1, 1) := by decide +kernel
theorem dX10_odds_38 : decode cX10_odds 38 = .ok (.iconst 2, 1) := by decide +kernel
theorem dX10_odds_39 : decode cX10_odds 39 = .ok (.invokevirtual 184, 3) := by decide +kernel
theorem dX10_odds_42 : decode cX10_odds 42 = .ok (.istore 4, 2) := by decide +kernel
theorem dX10_odds_44 : decode cX10_odds 44 = .ok (.iconst 0, 1) := by decide +kernel
theorem dX10_odds_45 : decode cX10_odds 45 = .ok (.istore 5, 2) := by decide +kernel
theorem dX10_odds_47 : decode cX10_odds 47 = .ok (.iconst 0, 1) := by decide +kernel
theorem dX10_odds_48 : decode cX10_odds 48 = .ok (.istore 6, 2) := by decide +kernel
theorem dX10_odds_50 : decode cX10_odds 50 = .ok (.iload 6, 2) := by decide +kernel
theorem dX10_odds_52 : decode cX10_odds 52 = .ok (.iload 4, 2) := by decide +kernel
theorem dX10_odds_54 : decode cX10_odds 54 = .ok (.if_icmp .ge 30, 3) := by decide +kernel
theorem dX10_odds_57 : decode cX10_odds 57 = .ok (.iload 5, 2) := by decide +kernel
theorem dX10_odds_59 : decode cX10_odds 59 = .ok (.aload_n 0, 1) := by decide +kernel
theorem dX10_odds_60 : decode cX10_odds 60 = .ok (.iload 6, 2) := by decide +kernel
theorem dX10_odds_62 : decode cX10_odds 62 = .ok (.iload 4, 2) := by decide +kernel
theorem dX10_odds_64 : decode cX10_odds 64 = .ok (.invokevirtual 244, 3) := by decide +kernel
theorem dX10_odds_67 : decode cX10_odds 67 = .ok (.ifCond .eq 7, 3) := by decide +kernel
theorem dX10_odds_70 : decode cX10_odds 70 = .ok (.iconst 1, 1) := by decide +kernel
theorem dX10_odds_71 : decode cX10_odds 71 = .ok (.goto 4, 3) := by decide +kernel
theorem dX10_odds_74 : decode cX10_odds 74 = .ok (.iconst 0, 1) := by decide +kernel
theorem dX10_odds_75 : decode cX10_odds 75 = .ok (.iadd, 1) := by decide +kernel
theorem dX10_odds_76 : decode cX10_odds 76 = .ok (.istore 5, 2) := by decide +kernel
theorem dX10_odds_78 : decode cX10_odds 78 = .ok (.iinc 6 1, 3) := by decide +kernel
theorem dX10_odds_81 : decode cX10_odds 81 = .ok (.goto (-31), 3) := by decide +kernel
theorem dX10_odds_84 : decode cX10_odds 84 = .ok (.iload 5, 2) := by decide +kernel
theorem dX10_odds_86 : decode cX10_odds 86 = .ok (.iload 4, 2) := by decide +kernel
theorem dX10_odds_88 : decode cX10_odds 88 = .ok (.invokestatic 257, 3) := by decide +kernel
theorem dX10_odds_91 : decode cX10_odds 91 = .ok (.istore 6, 2) := by decide +kernel
theorem dX10_odds_93 : decode cX10_odds 93 = .ok (.iload_n 3, 1) := by decide +kernel
theorem dX10_odds_94 : decode cX10_odds 94 = .ok (.ifCond .ne 11, 3) := by decide +kernel
theorem dX10_odds_97 : decode cX10_odds 97 = .ok (.iload 5, 2) := by decide +kernel
theorem dX10_odds_99 : decode cX10_odds 99 = .ok (.iload 6, 2) := by decide +kernel
theorem dX10_odds_101 : decode cX10_odds 101 = .ok (.idiv, 1) := by decide +kernel
theorem dX10_odds_102 : decode cX10_odds 102 = .ok (.goto 8, 3) := by decide +kernel
theorem dX10_odds_105 : decode cX10_odds 105 = .ok (.iload 4, 2) := by decide +kernel
theorem dX10_odds_107 : decode cX10_odds 107 = .ok (.iload 6, 2) := by decide +kernel
theorem dX10_odds_109 : decode cX10_odds 109 = .ok (.idiv, 1) := by decide +kernel
theorem dX10_odds_110 : decode cX10_odds 110 = .ok (.ireturn, 1) := by decide +kernel
theorem dX10_fieldOf_0 : decode cX10_fieldOf 0 = .ok (.iconst 1, 1) := by decide +kernel
theorem dX10_fieldOf_1 : decode cX10_fieldOf 1 = .ok (.iload_n 1, 1) := by decide +kernel
theorem dX10_fieldOf_2 : decode cX10_fieldOf 2 = .ok (.ishl, 1) := by decide +kernel
theorem dX10_fieldOf_3 : decode cX10_fieldOf 3 = .ok (.istore_n 2, 1) := by decide +kernel
theorem dX10_fieldOf_4 : decode cX10_fieldOf 4 = .ok (.iconst 0, 1) := by decide +kernel
theorem dX10_fieldOf_5 : decode cX10_fieldOf 5 = .ok (.istore_n 3, 1) := by decide +kernel
theorem dX10_fieldOf_6 : decode cX10_fieldOf 6 = .ok (.iload_n 3, 1) := by decide +kernel
theorem dX10_fieldOf_7 : decode cX10_fieldOf 7 = .ok (.bipush 8, 2) := by decide +kernel
theorem dX10_fieldOf_9 : decode cX10_fieldOf 9 = .ok (.if_icmp .ge 82, 3) := by decide +kernel
theorem dX10_fieldOf_12 : decode cX10_fieldOf 12 = .ok (.iconst 0, 1) := by decide +kernel
theorem dX10_fieldOf_13 : decode cX10_fieldOf 13 = .ok (.istore 4, 2) := by decide +kernel
theorem dX10_fieldOf_15 : decode cX10_fieldOf 15 = .ok (.iload 4, 2) := by decide +kernel
theorem dX10_fieldOf_17 : decode cX10_fieldOf 17 = .ok (.bipush 64, 2) := by decide +kernel
theorem dX10_fieldOf_19 : decode cX10_fieldOf 19 = .ok (.if_icmp .ge 66, 3) := by decide +kernel
theorem dX10_fieldOf_22 : decode cX10_fieldOf 22 = .ok (.iload 4, 2) := by decide +kernel
theorem dX10_fieldOf_24 : decode cX10_fieldOf 24 = .ok (.bipush 8, 2) := by decide +kernel
theorem dX10_fieldOf_26 : decode cX10_fieldOf 26 = .ok (.idiv, 1) := by decide +kernel
theorem dX10_fieldOf_27 : decode cX10_fieldOf 27 = .ok (.istore 5, 2) := by decide +kernel
theorem dX10_fieldOf_29 : decode cX10_fieldOf 29 = .ok (.iload 4, 2) := by decide +kernel
theorem dX10_fieldOf_31 : decode cX10_fieldOf 31 = .ok (.bipush 8, 2) := by decide +kernel
theorem dX10_fieldOf_33 : decode cX10_fieldOf 33 = .ok (.irem, 1) := by decide +kernel
theorem dX10_fieldOf_34 : decode cX10_fieldOf 34 = .ok (.istore 6, 2) := by decide +kernel
theorem dX10_fieldOf_36 : decode cX10_fieldOf 36 = .ok (.iload_n 2, 1) := by decide +kernel
theorem dX10_fieldOf_37 : decode cX10_fieldOf 37 = .ok (.iload_n 2, 1) := by decide +kernel
theorem dX10_fieldOf_38 : decode cX10_fieldOf 38 = .ok (.iload 5, 2) := by decide +kernel
theorem dX10_fieldOf_40 : decode cX10_fieldOf 40 = .ok (.ishr, 1) := by decide +kernel
theorem dX10_fieldOf_41 : decode cX10_fieldOf 41 = .ok (.iconst 1, 1) := by decide +kernel
theorem dX10_fieldOf_42 : decode cX10_fieldOf 42 = .ok (.iand, 1) := by decide +kernel
theorem dX10_fieldOf_43 : decode cX10_fieldOf 43 = .ok (.iconst 1, 1) := by decide +kernel
theorem dX10_fieldOf_44 : decode cX10_fieldOf 44 = .ok (.if_icmp .ne 32, 3) := by decide +kernel
theorem dX10_fieldOf_47 : decode cX10_fieldOf 47 = .ok (.aload_n 0, 1) := by decide +kernel
theorem dX10_fieldOf_48 : decode cX10_fieldOf 48 = .ok (.iload 5, 2) := by decide +kernel
theorem dX10_fieldOf_50 : decode cX10_fieldOf 50 = .ok (.iload 6, 2) := by decide +kernel
theorem dX10_fieldOf_52 : decode cX10_fieldOf 52 = .ok (.invokevirtual 247, 3) := by decide +kernel
theorem dX10_fieldOf_55 : decode cX10_fieldOf 55 = .ok (.ifCond .eq 21, 3) := by decide +kernel
theorem dX10_fieldOf_58 : decode cX10_fieldOf 58 = .ok (.aload_n 0, 1) := by decide +kernel
theorem dX10_fieldOf_59 : decode cX10_fieldOf 59 = .ok (.iload 5, 2) := by decide +kernel
theorem dX10_fieldOf_61 : decode cX10_fieldOf 61 = .ok (.iload 6, 2) := by decide +kernel
theorem dX10_fieldOf_63 : decode cX10_fieldOf 63 = .ok (.invokevirtual 250, 3) := by decide +kernel
theorem dX10_fieldOf_66 : decode cX10_fieldOf 66 = .ok (.ifCond .eq 10, 3) := by decide +kernel
theorem dX10_fieldOf_69 : decode cX10_fieldOf 69 = .ok (.iconst 1, 1) := by decide +kernel
theorem dX10_fieldOf_70 : decode cX10_fieldOf 70 = .ok (.iload 6, 2) := by decide +kernel
theorem dX10_fieldOf_72 : decode cX10_fieldOf 72 = .ok (.ishl, 1) := by decide +kernel
theorem dX10_fieldOf_73 : decode cX10_fieldOf 73 = .ok (.goto 4, 3) := by decide +kernel
theorem dX10_fieldOf_76 : decode cX10_fieldOf 76 = .ok (.iconst 0, 1) := by decide +kernel
theorem dX10_fieldOf_77 : decode cX10_fieldOf 77 = .ok (.ior, 1) := by decide +kernel
theorem dX10_fieldOf_78 : decode cX10_fieldOf 78 = .ok (.istore_n 2, 1) := by decide +kernel
theorem dX10_fieldOf_79 : decode cX10_fieldOf 79 = .ok (.iinc 4 1, 3) := by decide +kernel
theorem dX10_fieldOf_82 : decode cX10_fieldOf 82 = .ok (.goto (-67), 3) := by decide +kernel
theorem dX10_fieldOf_85 : decode cX10_fieldOf 85 = .ok (.iinc 3 1, 3) := by decide +kernel
theorem dX10_fieldOf_88 : decode cX10_fieldOf 88 = .ok (.goto (-82), 3) := by decide +kernel
theorem dX10_fieldOf_91 : decode cX10_fieldOf 91 = .ok (.iload_n 2, 1) := by decide +kernel
theorem dX10_fieldOf_92 : decode cX10_fieldOf 92 = .ok (.ireturn, 1) := by decide +kernel
theorem dX10_field_0 : decode cX10_field 0 = .ok (.aload_n 0, 1) := by decide +kernel
theorem dX10_field_1 : decode cX10_field 1 = .ok (.iload_n 1, 1) := by decide +kernel
theorem dX10_field_2 : decode cX10_field 2 = .ok (.invokevirtual 205, 3) := by decide +kernel
theorem dX10_field_5 : decode cX10_field 5 = .ok (.ifCond .ne 6, 3) := by decide +kernel
theorem dX10_field_8 : decode cX10_field 8 = .ok (.bipush (-2), 2) := by decide +kernel
theorem dX10_field_10 : decode cX10_field 10 = .ok (.ireturn, 1) := by decide +kernel
theorem dX10_field_11 : decode cX10_field 11 = .ok (.iload_n 2, 1) := by decide +kernel
theorem dX10_field_12 : decode cX10_field 12 = .ok (.iconst 0, 1) := by decide +kernel
theorem dX10_field_13 : decode cX10_field 13 = .ok (.iconst 2, 1) := by decide +kernel
theorem dX10_field_14 : decode cX10_field 14 = .ok (.invokestatic 86, 3) := by decide +kernel
theorem dX10_field_17 : decode cX10_field 17 = .ok (.ifCond .ne 6, 3) := by decide +kernel
theorem dX10_field_20 : decode cX10_field 20 = .ok (.bipush (-3), 2) := by decide +kernel
theorem dX10_field_22 : decode cX10_field 22 = .ok (.ireturn, 1) := by decide +kernel
theorem dX10_field_23 : decode cX10_field 23 = .ok (.aload_n 0, 1) := by decide +kernel
theorem dX10_field_24 : decode cX10_field 24 = .ok (.iload_n 1, 1) := by decide +kernel
theorem dX10_field_25 : decode cX10_field 25 = .ok (.invokevirtual 260, 3) := by decide +kernel
theorem dX10_field_28 : decode cX10_field 28 = .ok (.istore_n 3, 1) := by decide +kernel
theorem dX10_field_29 : decode cX10_field 29 = .ok (.iload_n 2, 1) := by decide +kernel
theorem dX10_field_30 : decode cX10_field 30 = .ok (.ifCond .ne 5, 3) := by decide +kernel
theorem dX10_field_33 : decode cX10_field 33 = .ok (.iload_n 3, 1) := by decide +kernel
theorem dX10_field_34 : decode cX10_field 34 = .ok (.ireturn, 1) := by decide +kernel
theorem dX10_field_35 : decode cX10_field 35 = .ok (.iload_n 2, 1) := by decide +kernel
theorem dX10_field_36 : decode cX10_field 36 = .ok (.iconst 2, 1) := by decide +kernel
theorem dX10_field_37 : decode cX10_field 37 = .ok (.if_icmp .ne 12, 3) := by decide +kernel
theorem dX10_field_40 : decode cX10_field 40 = .ok (.aload_n 0, 1) := by decide +kernel
theorem dX10_field_41 : decode cX10_field 41 = .ok (.invokevirtual 226, 3) := by decide +kernel
theorem dX10_field_44 : decode cX10_field 44 = .ok (.ifCond .ne 5, 3) := by decide +kernel
theorem dX10_field_47 : decode cX10_field 47 = .ok (.iconst (-1), 1) := by decide +kernel
theorem dX10_field_48 : decode cX10_field 48 = .ok (.ireturn, 1) := by decide +kernel
theorem dX10_field_49 : decode cX10_field 49 = .ok (.iconst 0, 1) := by decide +kernel
theorem dX10_field_50 : decode cX10_field 50 = .ok (.istore 4, 2) := by decide +kernel
theorem dX10_field_52 : decode cX10_field 52 = .ok (.sipush 2000, 3) := by decide +kernel
theorem dX10_field_55 : decode cX10_field 55 = .ok (.istore 5, 2) := by decide +kernel
theorem dX10_field_57 : decode cX10_field 57 = .ok (.iconst 0, 1) := by decide +kernel
theorem dX10_field_58 : decode cX10_field 58 = .ok (.istore 6, 2) := by decide +kernel
theorem dX10_field_60 : decode cX10_field 60 = .ok (.iload 6, 2) := by decide +kernel
theorem dX10_field_62 : decode cX10_field 62 = .ok (.bipush 8, 2) := by decide +kernel
theorem dX10_field_64 : decode cX10_field 64 = .ok (.if_icmp .ge 56, 3) := by decide +kernel
theorem dX10_field_67 : decode cX10_field 67 = .ok (.iload_n 3, 1) := by decide +kernel
theorem dX10_field_68 : decode cX10_field 68 = .ok (.iload 6, 2) := by decide +kernel
theorem dX10_field_70 : decode cX10_field 70 = .ok (.ishr, 1) := by decide +kernel
theorem dX10_field_71 : decode cX10_field 71 = .ok (.iconst 1, 1) := by decide +kernel
theorem dX10_field_72 : decode cX10_field 72 = .ok (.iand, 1) := by decide +kernel
theorem dX10_field_73 : decode cX10_field 73 = .ok (.iconst 1, 1) := by decide +kernel
theorem dX10_field_74 : decode cX10_field 74 = .ok (.if_icmp .ne 40, 3) := by decide +kernel
theorem dX10_field_77 : decode cX10_field 77 = .ok (.iload 4, 2) := by decide +kernel
theorem dX10_field_79 : decode cX10_field 79 = .ok (.aload_n 0, 1) := by decide +kernel
theorem dX10_field_80 : decode cX10_field 80 = .ok (.iload 6, 2) := by decide +kernel
theorem dX10_field_82 : decode cX10_field 82 = .ok (.invokevirtual 208, 3) := by decide +kernel
theorem dX10_field_85 : decode cX10_field 85 = .ok (.iadd, 1) := by decide +kernel
theorem dX10_field_86 : decode cX10_field 86 = .ok (.istore 4, 2) := by decide +kernel
theorem dX10_field_88 : decode cX10_field 88 = .ok (.aload_n 0, 1) := by decide +kernel
theorem dX10_field_89 : decode cX10_field 89 = .ok (.getfield 53, 3) := by decide +kernel
theorem dX10_field_92 : decode cX10_field 92 = .ok (.iload 6, 2) := by decide +kernel
theorem dX10_field_94 : decode cX10_field 94 = .ok (.iaload, 1) := by decide +kernel
theorem dX10_field_95 : decode cX10_field 95 = .ok (.iload 5, 2) := by decide +kernel
theorem dX10_field_97 : decode cX10_field 97 = .ok (.if_icmp .ge 13, 3) := by decide +kernel
theorem dX10_field_100 : decode cX10_field 100 = .ok (.aload_n 0, 1) := by decide +kernel
theorem dX10_field_101 : decode cX10_field 101 = .ok (.getfield 53, 3) := by decide +kernel
theorem dX10_field_104 : decode cX10_field 104 = .ok (.iload 6, 2) := by decide +kernel
theorem dX10_field_106 : decode cX10_field 106 = .ok (.iaload, 1) := by decide +kernel
theorem dX10_field_107 : decode cX10_field 107 = .ok (.goto 5, 3) := by decide +kernel
theorem dX10_field_110 : decode cX10_field 110 = .ok (.iload 5, 2) := by decide +kernel
theorem dX10_field_112 : decode cX10_field 112 = .ok (.istore 5, 2) := by decide +kernel
theorem dX10_field_114 : decode cX10_field 114 = .ok (.iinc 6 1, 3) := by decide +kernel
theorem dX10_field_117 : decode cX10_field 117 = .ok (.goto (-57), 3) := by decide +kernel
theorem dX10_field_120 : decode cX10_field 120 = .ok (.iload_n 2, 1) := by decide +kernel
theorem dX10_field_121 : decode cX10_field 121 = .ok (.iconst 1, 1) := by decide +kernel
theorem dX10_field_122 : decode cX10_field 122 = .ok (.if_icmp .ne 8, 3) := by decide +kernel
theorem dX10_field_125 : decode cX10_field 125 = .ok (.iload 4, 2) := by decide +kernel
theorem dX10_field_127 : decode cX10_field 127 = .ok (.goto 5, 3) := by decide +kernel
theorem dX10_field_130 : decode cX10_field 130 = .ok (.iload 5, 2) := by decide +kernel
theorem dX10_field_132 : decode cX10_field 132 = .ok (.ireturn, 1) := by decide +kernel
theorem dX10_fields_0 : decode cX10_fields 0 = .ok (.iconst 0, 1) := by decide +kernel
theorem dX10_fields_1 : decode cX10_fields 1 = .ok (.istore_n 1, 1) := by decide +kernel
theorem dX10_fields_2 : decode cX10_fields 2 = .ok (.iconst 0, 1) := by decide +kernel
theorem dX10_fields_3 : decode cX10_fields 3 = .ok (.istore_n 2, 1) := by decide +kernel
theorem dX10_fields_4 : decode cX10_fields 4 = .ok (.iload_n 2, 1) := by decide +kernel
theorem dX10_fields_5 : decode cX10_fields 5 = .ok (.bipush 8, 2) := by decide +kernel
theorem dX10_fields_7 : decode cX10_fields 7 = .ok (.if_icmp .ge 39, 3) := by decide +kernel
theorem dX10_fields_10 : decode cX10_fields 10 = .ok (.iload_n 1, 1) := by decide +kernel
theorem dX10_fields_11 : decode cX10_fields 11 = .ok (.aload_n 0, 1) := by decide +kernel
theorem dX10_fields_12 : decode cX10_fields 12 = .ok (.iload_n 2, 1) := by decide +kernel
theorem dX10_fields_13 : decode cX10_fields 13 = .ok (.invokevirtual 205, 3) := by decide +kernel
theorem dX10_fields_16 : decode cX10_fields 16 = .ok (.ifCond .eq 21, 3) := by decide +kernel
theorem dX10_fields_19 : decode cX10_fields 19 = .ok (.aload_n 0, 1) := by decide +kernel
theorem dX10_fields_20 : decode cX10_fields 20 = .ok (.iload_n 2, 1) := by decide +kernel
theorem dX10_fields_21 : decode cX10_fields 21 = .ok (.invokevirtual 260, 3) := by decide +kernel
theorem dX10_fields_24 : decode cX10_fields 24 = .ok (.iconst 1, 1) := by decide +kernel
theorem dX10_fields_25 : decode cX10_fields 25 = .ok (.iload_n 2, 1) := by decide +kernel
theorem dX10_fields_26 : decode cX10_fields 26 = .ok (.ishl, 1) := by decide +kernel
theorem dX10_fields_27 : decode cX10_fields 27 = .ok (.iconst 1, 1) := by decide +kernel
theorem dX10_fields_28 : decode cX10_fields 28 = .ok (.isub, 1) := by decide +kernel
theorem dX10_fields_29 : decode cX10_fields 29 = .ok (.iand, 1) := by decide +kernel
theorem dX10_fields_30 : decode cX10_fields 30 = .ok (.ifCond .ne 7, 3) := by decide +kernel
theorem dX10_fields_33 : decode cX10_fields 33 = .ok (.iconst 1, 1) := by decide +kernel
theorem dX10_fields_34 : decode cX10_fields 34 = .ok (.goto 4, 3) := by decide +kernel
theorem dX10_fields_37 : decode cX10_fields 37 = .ok (.iconst 0, 1) := by decide +kernel
theorem dX10_fields_38 : decode cX10_fields 38 = .ok (.iadd, 1) := by decide +kernel
theorem dX10_fields_39 : decode cX10_fields 39 = .ok (.istore_n 1, 1) := by decide +kernel
theorem dX10_fields_40 : decode cX10_fields 40 = .ok (.iinc 2 1, 3) := by decide +kernel
theorem dX10_fields_43 : decode cX10_fields 43 = .ok (.goto (-39), 3) := by decide +kernel
theorem dX10_fields_46 : decode cX10_fields 46 = .ok (.iload_n 1, 1) := by decide +kernel
theorem dX10_fields_47 : decode cX10_fields 47 = .ok (.ireturn, 1) := by decide +kernel
theorem dX10_ploughedIn_0 : decode cX10_ploughedIn 0 = .ok (.iconst 0, 1) := by decide +kernel
theorem dX10_ploughedIn_1 : decode cX10_ploughedIn 1 = .ok (.istore_n 3, 1) := by decide +kernel
theorem dX10_ploughedIn_2 : decode cX10_ploughedIn 2 = .ok (.iconst 0, 1) := by decide +kernel
theorem dX10_ploughedIn_3 : decode cX10_ploughedIn 3 = .ok (.istore 4, 2) := by decide +kernel
theorem dX10_ploughedIn_5 : decode cX10_ploughedIn 5 = .ok (.iload 4, 2) := by decide +kernel
theorem dX10_ploughedIn_7 : decode cX10_ploughedIn 7 = .ok (.bipush 8, 2) := by decide +kernel
theorem dX10_ploughedIn_9 : decode cX10_ploughedIn 9 = .ok (.if_icmp .ge 139, 3) := by decide +kernel
theorem dX10_ploughedIn_12 : decode cX10_ploughedIn 12 = .ok (.aload_n 0, 1) := by decide +kernel
theorem dX10_ploughedIn_13 : decode cX10_ploughedIn 13 = .ok (.iload 4, 2) := by decide +kernel
theorem dX10_ploughedIn_15 : decode cX10_ploughedIn 15 = .ok (.invokevirtual 205, 3) := by decide +kernel
theorem dX10_ploughedIn_18 : decode cX10_ploughedIn 18 = .ok (.ifCond .eq 124, 3) := by decide +kernel
theorem dX10_ploughedIn_21 : decode cX10_ploughedIn 21 = .ok (.sipush 2001, 3) := by decide +kernel
theorem dX10_ploughedIn_24 : decode cX10_ploughedIn 24 = .ok (.istore 5, 2) := by decide +kernel
theorem dX10_ploughedIn_26 : decode cX10_ploughedIn 26 = .ok (.bipush 8, 2) := by decide +kernel
theorem dX10_ploughedIn_28 : decode cX10_ploughedIn 28 = .ok (.istore 6, 2) := by decide +kernel
theorem dX10_ploughedIn_30 : decode cX10_ploughedIn 30 = .ok (.iload 6, 2) := by decide +kernel
theorem dX10_ploughedIn_32 : decode cX10_ploughedIn 32 = .ok (.bipush 14, 2) := by decide +kernel
theorem dX10_ploughedIn_34 : decode cX10_ploughedIn 34 = .ok (.if_icmp .ge 64, 3) := by decide +kernel
theorem dX10_ploughedIn_37 : decode cX10_ploughedIn 37 = .ok (.aload_n 0, 1) := by decide +kernel
theorem dX10_ploughedIn_38 : decode cX10_ploughedIn 38 = .ok (.iload 6, 2) := by decide +kernel
theorem dX10_ploughedIn_40 : decode cX10_ploughedIn 40 = .ok (.iload 4, 2) := by decide +kernel
theorem dX10_ploughedIn_42 : decode cX10_ploughedIn 42 = .ok (.invokevirtual 218, 3) := by decide +kernel
theorem dX10_ploughedIn_45 : decode cX10_ploughedIn 45 = .ok (.ifCond .eq 27, 3) := by decide +kernel
theorem dX10_ploughedIn_48 : decode cX10_ploughedIn 48 = .ok (.iload_n 2, 1) := by decide +kernel
theorem dX10_ploughedIn_49 : decode cX10_ploughedIn 49 = .ok (.ifCond .ne 13, 3) := by decide +kernel
theorem dX10_ploughedIn_52 : decode cX10_ploughedIn 52 = .ok (.aload_n 0, 1) := by decide +kernel
theorem dX10_ploughedIn_53 : decode cX10_ploughedIn 53 = .ok (.getfield 53, 3) := by decide +kernel
theorem dX10_ploughedIn_56 : decode cX10_ploughedIn 56 = .ok (.iload 6, 2) := by decide +kernel
theorem dX10_ploughedIn_58 : decode cX10_ploughedIn 58 = .ok (.iaload, 1) := by decide +kernel
theorem dX10_ploughedIn_59 : decode cX10_ploughedIn 59 = .ok (.goto 15, 3) := by decide +kernel
theorem dX10_ploughedIn_62 : decode cX10_ploughedIn 62 = .ok (.aload_n 0, 1) := by decide +kernel
theorem dX10_ploughedIn_63 : decode cX10_ploughedIn 63 = .ok (.getfield 56, 3) := by decide +kernel
theorem dX10_ploughedIn_66 : decode cX10_ploughedIn 66 = .ok (.iload 6, 2) := by decide +kernel
theorem dX10_ploughedIn_68 : decode cX10_ploughedIn 68 = .ok (.iaload, 1) := by decide +kernel
theorem dX10_ploughedIn_69 : decode cX10_ploughedIn 69 = .ok (.goto 5, 3) := by decide +kernel
theorem dX10_ploughedIn_72 : decode cX10_ploughedIn 72 = .ok (.iload 5, 2) := by decide +kernel
theorem dX10_ploughedIn_74 : decode cX10_ploughedIn 74 = .ok (.istore 7, 2) := by decide +kernel
theorem dX10_ploughedIn_76 : decode cX10_ploughedIn 76 = .ok (.iload 7, 2) := by decide +kernel
theorem dX10_ploughedIn_78 : decode cX10_ploughedIn 78 = .ok (.iload 5, 2) := by decide +kernel
theorem dX10_ploughedIn_80 : decode cX10_ploughedIn 80 = .ok (.if_icmp .ge 8, 3) := by decide +kernel
theorem dX10_ploughedIn_83 : decode cX10_ploughedIn 83 = .ok (.iload 7, 2) := by decide +kernel
theorem dX10_ploughedIn_85 : decode cX10_ploughedIn 85 = .ok (.goto 5, 3) := by decide +kernel
theorem dX10_ploughedIn_88 : decode cX10_ploughedIn 88 = .ok (.iload 5, 2) := by decide +kernel
theorem dX10_ploughedIn_90 : decode cX10_ploughedIn 90 = .ok (.istore 5, 2) := by decide +kernel
theorem dX10_ploughedIn_92 : decode cX10_ploughedIn 92 = .ok (.iinc 6 1, 3) := by decide +kernel
theorem dX10_ploughedIn_95 : decode cX10_ploughedIn 95 = .ok (.goto (-65), 3) := by decide +kernel
theorem dX10_ploughedIn_98 : decode cX10_ploughedIn 98 = .ok (.iload_n 3, 1) := by decide +kernel
theorem dX10_ploughedIn_99 : decode cX10_ploughedIn 99 = .ok (.iload_n 1, 1) := by decide +kernel
theorem dX10_ploughedIn_100 : decode cX10_ploughedIn 100 = .ok (.iload_n 2, 1) := by decide +kernel
theorem dX10_ploughedIn_101 : decode cX10_ploughedIn 101 = .ok (.ifCond .ne 13, 3) := by decide +kernel
theorem dX10_ploughedIn_104 : decode cX10_ploughedIn 104 = .ok (.aload_n 0, 1) := by decide +kernel
theorem dX10_ploughedIn_105 : decode cX10_ploughedIn 105 = .ok (.getfield 56, 3) := by decide +kernel
theorem dX10_ploughedIn_108 : decode cX10_ploughedIn 108 = .ok (.iload 4, 2) := by decide +kernel
theorem dX10_ploughedIn_110 : decode cX10_ploughedIn 110 = .ok (.iaload, 1) := by decide +kernel
theorem dX10_ploughedIn_111 : decode cX10_ploughedIn 111 = .ok (.goto 10, 3) := by decide +kernel
theorem dX10_ploughedIn_114 : decode cX10_ploughedIn 114 = .ok (.aload_n 0, 1) := by decide +kernel
theorem dX10_ploughedIn_115 : decode cX10_ploughedIn 115 = .ok (.getfield 53, 3) := by decide +kernel
theorem dX10_ploughedIn_118 : decode cX10_ploughedIn 118 = .ok (.iload 4, 2) := by decide +kernel
theorem dX10_ploughedIn_120 : decode cX10_ploughedIn 120 = .ok (.iaload, 1) := by decide +kernel
theorem dX10_ploughedIn_121 : decode cX10_ploughedIn 121 = .ok (.if_icmp .lt 18, 3) := by decide +kernel
theorem dX10_ploughedIn_124 : decode cX10_ploughedIn 124 = .ok (.iload_n 1, 1) := by decide +kernel
theorem dX10_ploughedIn_125 : decode cX10_ploughedIn 125 = .ok (.iload 5, 2) := by decide +kernel
theorem dX10_ploughedIn_127 : decode cX10_ploughedIn 127 = .ok (.if_icmp .ge 12, 3) := by decide +kernel
theorem dX10_ploughedIn_130 : decode cX10_ploughedIn 130 = .ok (.aload_n 0, 1) := by decide +kernel
theorem dX10_ploughedIn_131 : decode cX10_ploughedIn 131 = .ok (.iload 4, 2) := by decide +kernel
theorem dX10_ploughedIn_133 : decode cX10_ploughedIn 133 = .ok (.invokevirtual 208, 3) := by decide +kernel
theorem dX10_ploughedIn_136 : decode cX10_ploughedIn 136 = .ok (.goto 4, 3) := by decide +kernel
theorem dX10_ploughedIn_139 : decode cX10_ploughedIn 139 = .ok (.iconst 0, 1) := by decide +kernel
theorem dX10_ploughedIn_140 : decode cX10_ploughedIn 140 = .ok (.iadd, 1) := by decide +kernel
theorem dX10_ploughedIn_141 : decode cX10_ploughedIn 141 = .ok (.istore_n 3, 1) := by decide +kernel
theorem dX10_ploughedIn_142 : decode cX10_ploughedIn 142 = .ok (.iinc 4 1, 3) := by decide +kernel
theorem dX10_ploughedIn_145 : decode cX10_ploughedIn 145 = .ok (.goto (-140), 3) := by decide +kernel
theorem dX10_ploughedIn_148 : decode cX10_ploughedIn 148 = .ok (.iload_n 3, 1) := by decide +kernel
theorem dX10_ploughedIn_149 : decode cX10_ploughedIn 149 = .ok (.ireturn, 1) := by decide +kernel
theorem dX10_ploughed_0 : decode cX10_ploughed 0 = .ok (.iload_n 1, 1) := by decide +kernel
theorem dX10_ploughed_1 : decode cX10_ploughed 1 = .ok (.iconst 0, 1) := by decide +kernel
theorem dX10_ploughed_2 : decode cX10_ploughed 2 = .ok (.sipush 2000, 3) := by decide +kernel
theorem dX10_ploughed_5 : decode cX10_ploughed 5 = .ok (.invokestatic 86, 3) := by decide +kernel
theorem dX10_ploughed_8 : decode cX10_ploughed 8 = .ok (.ifCond .eq 12, 3) := by decide +kernel
theorem dX10_ploughed_11 : decode cX10_ploughed 11 = .ok (.iload_n 2, 1) := by decide +kernel
theorem dX10_ploughed_12 : decode cX10_ploughed 12 = .ok (.iconst 0, 1) := by decide +kernel
theorem dX10_ploughed_13 : decode cX10_ploughed 13 = .ok (.iconst 1, 1) := by decide +kernel
theorem dX10_ploughed_14 : decode cX10_ploughed 14 = .ok (.invokestatic 86, 3) := by decide +kernel
theorem dX10_ploughed_17 : decode cX10_ploughed 17 = .ok (.ifCond .ne 6, 3) := by decide +kernel
theorem dX10_ploughed_20 : decode cX10_ploughed 20 = .ok (.bipush (-3), 2) := by decide +kernel
theorem dX10_ploughed_22 : decode cX10_ploughed 22 = .ok (.ireturn, 1) := by decide +kernel
theorem dX10_ploughed_23 : decode cX10_ploughed 23 = .ok (.aload_n 0, 1) := by decide +kernel
theorem dX10_ploughed_24 : decode cX10_ploughed 24 = .ok (.invokevirtual 226, 3) := by decide +kernel
theorem dX10_ploughed_27 : decode cX10_ploughed 27 = .ok (.ifCond .eq 12, 3) := by decide +kernel
theorem dX10_ploughed_30 : decode cX10_ploughed 30 = .ok (.aload_n 0, 1) := by decide +kernel
theorem dX10_ploughed_31 : decode cX10_ploughed 31 = .ok (.iload_n 1, 1) := by decide +kernel
theorem dX10_ploughed_32 : decode cX10_ploughed 32 = .ok (.iload_n 2, 1) := by decide +kernel
theorem dX10_ploughed_33 : decode cX10_ploughed 33 = .ok (.invokevirtual 263, 3) := by decide +kernel
theorem dX10_ploughed_36 : decode cX10_ploughed 36 = .ok (.goto 4, 3) := by decide +kernel
theorem dX10_ploughed_39 : decode cX10_ploughed 39 = .ok (.iconst (-1), 1) := by decide +kernel
theorem dX10_ploughed_40 : decode cX10_ploughed 40 = .ok (.ireturn, 1) := by decide +kernel
theorem dX10_peak_0 : decode cX10_peak 0 = .ok (.iload_n 1, 1) := by decide +kernel
theorem dX10_peak_1 : decode cX10_peak 1 = .ok (.iconst 0, 1) := by decide +kernel
theorem dX10_peak_2 : decode cX10_peak 2 = .ok (.iconst 1, 1) := by decide +kernel
theorem dX10_peak_3 : decode cX10_peak 3 = .ok (.invokestatic 86, 3) := by decide +kernel
theorem dX10_peak_6 : decode cX10_peak 6 = .ok (.ifCond .ne 6, 3) := by decide +kernel
theorem dX10_peak_9 : decode cX10_peak 9 = .ok (.bipush (-3), 2) := by decide +kernel
theorem dX10_peak_11 : decode cX10_peak 11 = .ok (.ireturn, 1) := by decide +kernel
theorem dX10_peak_12 : decode cX10_peak 12 = .ok (.aload_n 0, 1) := by decide +kernel
theorem dX10_peak_13 : decode cX10_peak 13 = .ok (.invokevirtual 226, 3) := by decide +kernel
theorem dX10_peak_16 : decode cX10_peak 16 = .ok (.ifCond .ne 5, 3) := by decide +kernel
theorem dX10_peak_19 : decode cX10_peak 19 = .ok (.iconst (-1), 1) := by decide +kernel
theorem dX10_peak_20 : decode cX10_peak 20 = .ok (.ireturn, 1) := by decide +kernel
theorem dX10_peak_21 : decode cX10_peak 21 = .ok (.iconst 0, 1) := by decide +kernel
theorem dX10_peak_22 : decode cX10_peak 22 = .ok (.istore_n 2, 1) := by decide +kernel
theorem dX10_peak_23 : decode cX10_peak 23 = .ok (.iconst (-1), 1) := by decide +kernel
theorem dX10_peak_24 : decode cX10_peak 24 = .ok (.istore_n 3, 1) := by decide +kernel
theorem dX10_peak_25 : decode cX10_peak 25 = .ok (.iconst 0, 1) := by decide +kernel
theorem dX10_peak_26 : decode cX10_peak 26 = .ok (.istore 4, 2) := by decide +kernel
theorem dX10_peak_28 : decode cX10_peak 28 = .ok (.iload 4, 2) := by decide +kernel
theorem dX10_peak_30 : decode cX10_peak 30 = .ok (.sipush 2000, 3) := by decide +kernel
theorem dX10_peak_33 : decode cX10_peak 33 = .ok (.if_icmp .gt 44, 3) := by decide +kernel
theorem dX10_peak_36 : decode cX10_peak 36 = .ok (.aload_n 0, 1) := by decide +kernel
theorem dX10_peak_37 : decode cX10_peak 37 = .ok (.iload 4, 2) := by decide +kernel
theorem dX10_peak_39 : decode cX10_peak 39 = .ok (.iconst 1, 1) := by decide +kernel
theorem dX10_peak_40 : decode cX10_peak 40 = .ok (.invokevirtual 263, 3) := by decide +kernel
theorem dX10_peak_43 : decode cX10_peak 43 = .ok (.istore 5, 2) := by decide +kernel
theorem dX10_peak_45 : decode cX10_peak 45 = .ok (.iload 5, 2) := by decide +kernel
theorem dX10_peak_47 : decode cX10_peak 47 = .ok (.iload_n 3, 1) := by decide +kernel
theorem dX10_peak_48 : decode cX10_peak 48 = .ok (.if_icmp .le 8, 3) := by decide +kernel
theorem dX10_peak_51 : decode cX10_peak 51 = .ok (.iload 4, 2) := by decide +kernel
theorem dX10_peak_53 : decode cX10_peak 53 = .ok (.goto 4, 3) := by decide +kernel
theorem dX10_peak_56 : decode cX10_peak 56 = .ok (.iload_n 2, 1) := by decide +kernel
theorem dX10_peak_57 : decode cX10_peak 57 = .ok (.istore_n 2, 1) := by decide +kernel
theorem dX10_peak_58 : decode cX10_peak 58 = .ok (.iload 5, 2) := by decide +kernel
theorem dX10_peak_60 : decode cX10_peak 60 = .ok (.iload_n 3, 1) := by decide +kernel
theorem dX10_peak_61 : decode cX10_peak 61 = .ok (.if_icmp .le 8, 3) := by decide +kernel
theorem dX10_peak_64 : decode cX10_peak 64 = .ok (.iload 5, 2) := by decide +kernel
theorem dX10_peak_66 : decode cX10_peak 66 = .ok (.goto 4, 3) := by decide +kernel
theorem dX10_peak_69 : decode cX10_peak 69 = .ok (.iload_n 3, 1) := by decide +kernel
theorem dX10_peak_70 : decode cX10_peak 70 = .ok (.istore_n 3, 1) := by decide +kernel
theorem dX10_peak_71 : decode cX10_peak 71 = .ok (.iinc 4 1, 3) := by decide +kernel
theorem dX10_peak_74 : decode cX10_peak 74 = .ok (.goto (-46), 3) := by decide +kernel
theorem dX10_peak_77 : decode cX10_peak 77 = .ok (.iload_n 1, 1) := by decide +kernel
theorem dX10_peak_78 : decode cX10_peak 78 = .ok (.ifCond .ne 7, 3) := by decide +kernel
theorem dX10_peak_81 : decode cX10_peak 81 = .ok (.iload_n 2, 1) := by decide +kernel
theorem dX10_peak_82 : decode cX10_peak 82 = .ok (.goto 4, 3) := by decide +kernel
theorem dX10_peak_85 : decode cX10_peak 85 = .ok (.iload_n 3, 1) := by decide +kernel
theorem dX10_peak_86 : decode cX10_peak 86 = .ok (.ireturn, 1) := by decide +kernel
theorem dX10_terrier_0 : decode cX10_terrier 0 = .ok (.iload_n 1, 1) := by decide +kernel
theorem dX10_terrier_1 : decode cX10_terrier 1 = .ok (.iconst 0, 1) := by decide +kernel
theorem dX10_terrier_2 : decode cX10_terrier 2 = .ok (.iconst 4, 1) := by decide +kernel
theorem dX10_terrier_3 : decode cX10_terrier 3 = .ok (.invokestatic 86, 3) := by decide +kernel
theorem dX10_terrier_6 : decode cX10_terrier 6 = .ok (.ifCond .ne 6, 3) := by decide +kernel
theorem dX10_terrier_9 : decode cX10_terrier 9 = .ok (.bipush (-2), 2) := by decide +kernel
theorem dX10_terrier_11 : decode cX10_terrier 11 = .ok (.ireturn, 1) := by decide +kernel
theorem dX10_terrier_12 : decode cX10_terrier 12 = .ok (.iload_n 2, 1) := by decide +kernel
theorem dX10_terrier_13 : decode cX10_terrier 13 = .ok (.iconst 0, 1) := by decide +kernel
theorem dX10_terrier_14 : decode cX10_terrier 14 = .ok (.bipush 30, 2) := by decide +kernel
theorem dX10_terrier_16 : decode cX10_terrier 16 = .ok (.invokestatic 86, 3) := by decide +kernel
theorem dX10_terrier_19 : decode cX10_terrier 19 = .ok (.ifCond .eq 13, 3) := by decide +kernel
theorem dX10_terrier_22 : decode cX10_terrier 22 = .ok (.iload_n 3, 1) := by decide +kernel
theorem dX10_terrier_23 : decode cX10_terrier 23 = .ok (.iconst 0, 1) := by decide +kernel
theorem dX10_terrier_24 : decode cX10_terrier 24 = .ok (.bipush 31, 2) := by decide +kernel
theorem dX10_terrier_26 : decode cX10_terrier 26 = .ok (.invokestatic 86, 3) := by decide +kernel
theorem dX10_terrier_29 : decode cX10_terrier 29 = .ok (.ifCond .ne 6, 3) := by decide +kernel
theorem dX10_terrier_32 : decode cX10_terrier 32 = .ok (.bipush (-3), 2) := by decide +kernel
theorem dX10_terrier_34 : decode cX10_terrier 34 = .ok (.ireturn, 1) := by decide +kernel
theorem dX10_terrier_35 : decode cX10_terrier 35 = .ok (.aload_n 0, 1) := by decide +kernel
theorem dX10_terrier_36 : decode cX10_terrier 36 = .ok (.getfield 62, 3) := by decide +kernel
theorem dX10_terrier_39 : decode cX10_terrier 39 = .ok (.iload_n 1, 1) := by decide +kernel
theorem dX10_terrier_40 : decode cX10_terrier 40 = .ok (.iload_n 2, 1) := by decide +kernel
theorem dX10_terrier_41 : decode cX10_terrier 41 = .ok (.iastore, 1) := by decide +kernel
theorem dX10_terrier_42 : decode cX10_terrier 42 = .ok (.aload_n 0, 1) := by decide +kernel
theorem dX10_terrier_43 : decode cX10_terrier 43 = .ok (.getfield 65, 3) := by decide +kernel
theorem dX10_terrier_46 : decode cX10_terrier 46 = .ok (.iload_n 1, 1) := by decide +kernel
theorem dX10_terrier_47 : decode cX10_terrier 47 = .ok (.iload_n 2, 1) := by decide +kernel
theorem dX10_terrier_48 : decode cX10_terrier 48 = .ok (.ifCond .ne 7, 3) := by decide +kernel
theorem dX10_terrier_51 : decode cX10_terrier 51 = .ok (.iconst 0, 1) := by decide +kernel
theorem dX10_terrier_52 : decode cX10_terrier 52 = .ok (.goto 10, 3) := by decide +kernel
theorem dX10_terrier_55 : decode cX10_terrier 55 = .ok (.iload_n 3, 1) := by decide +kernel
theorem dX10_terrier_56 : decode cX10_terrier 56 = .ok (.iconst 1, 1) := by decide +kernel
theorem dX10_terrier_57 : decode cX10_terrier 57 = .ok (.iload_n 1, 1) := by decide +kernel
theorem dX10_terrier_58 : decode cX10_terrier 58 = .ok (.ishl, 1) := by decide +kernel
theorem dX10_terrier_59 : decode cX10_terrier 59 = .ok (.iconst (-1), 1) := by decide +kernel
theorem dX10_terrier_60 : decode cX10_terrier 60 = .ok (.ixor, 1) := by decide +kernel
theorem dX10_terrier_61 : decode cX10_terrier 61 = .ok (.iand, 1) := by decide +kernel
theorem dX10_terrier_62 : decode cX10_terrier 62 = .ok (.iastore, 1) := by decide +kernel
theorem dX10_terrier_63 : decode cX10_terrier 63 = .ok (.iconst 0, 1) := by decide +kernel
theorem dX10_terrier_64 : decode cX10_terrier 64 = .ok (.istore 4, 2) := by decide +kernel
theorem dX10_terrier_66 : decode cX10_terrier 66 = .ok (.iload 4, 2) := by decide +kernel
theorem dX10_terrier_68 : decode cX10_terrier 68 = .ok (.iconst 5, 1) := by decide +kernel
theorem dX10_terrier_69 : decode cX10_terrier 69 = .ok (.if_icmp .ge 59, 3) := by decide +kernel
theorem dX10_terrier_72 : decode cX10_terrier 72 = .ok (.aload_n 0, 1) := by decide +kernel
theorem dX10_terrier_73 : decode cX10_terrier 73 = .ok (.getfield 65, 3) := by decide +kernel
theorem dX10_terrier_76 : decode cX10_terrier 76 = .ok (.iload 4, 2) := by decide +kernel
theorem dX10_terrier_78 : decode cX10_terrier 78 = .ok (.iload 4, 2) := by decide +kernel
theorem dX10_terrier_80 : decode cX10_terrier 80 = .ok (.iload_n 1, 1) := by decide +kernel
theorem dX10_terrier_81 : decode cX10_terrier 81 = .ok (.if_icmp .ne 13, 3) := by decide +kernel
theorem dX10_terrier_84 : decode cX10_terrier 84 = .ok (.aload_n 0, 1) := by decide +kernel
theorem dX10_terrier_85 : decode cX10_terrier 85 = .ok (.getfield 65, 3) := by decide +kernel
theorem dX10_terrier_88 : decode cX10_terrier 88 = .ok (.iload 4, 2) := by decide +kernel
theorem dX10_terrier_90 : decode cX10_terrier 90 = .ok (.iaload, 1) := by decide +kernel
theorem dX10_terrier_91 : decode cX10_terrier 91 = .ok (.goto 30, 3) := by decide +kernel
theorem dX10_terrier_94 : decode cX10_terrier 94 = .ok (.aload_n 0, 1) := by decide +kernel
theorem dX10_terrier_95 : decode cX10_terrier 95 = .ok (.getfield 65, 3) := by decide +kernel
theorem dX10_terrier_98 : decode cX10_terrier 98 = .ok (.iload 4, 2) := by decide +kernel
theorem dX10_terrier_100 : decode cX10_terrier 100 = .ok (.iaload, 1) := by decide +kernel
theorem dX10_terrier_101 : decode cX10_terrier 101 = .ok (.iconst 1, 1) := by decide +kernel
theorem dX10_terrier_102 : decode cX10_terrier 102 = .ok (.iload_n 1, 1) := by decide +kernel
theorem dX10_terrier_103 : decode cX10_terrier 103 = .ok (.ishl, 1) := by decide +kernel
theorem dX10_terrier_104 : decode cX10_terrier 104 = .ok (.iconst (-1), 1) := by decide +kernel
theorem dX10_terrier_105 : decode cX10_terrier 105 = .ok (.ixor, 1) := by decide +kernel
theorem dX10_terrier_106 : decode cX10_terrier 106 = .ok (.iand, 1) := by decide +kernel
theorem dX10_terrier_107 : decode cX10_terrier 107 = .ok (.aload_n 0, 1) := by decide +kernel
theorem dX10_terrier_108 : decode cX10_terrier 108 = .ok (.getfield 65, 3) := by decide +kernel
theorem dX10_terrier_111 : decode cX10_terrier 111 = .ok (.iload_n 1, 1) := by decide +kernel
theorem dX10_terrier_112 : decode cX10_terrier 112 = .ok (.iaload, 1) := by decide +kernel
theorem dX10_terrier_113 : decode cX10_terrier 113 = .ok (.iload 4, 2) := by decide +kernel
theorem dX10_terrier_115 : decode cX10_terrier 115 = .ok (.ishr, 1) := by decide +kernel
theorem dX10_terrier_116 : decode cX10_terrier 116 = .ok (.iconst 1, 1) := by decide +kernel
theorem dX10_terrier_117 : decode cX10_terrier 117 = .ok (.iand, 1) := by decide +kernel
theorem dX10_terrier_118 : decode cX10_terrier 118 = .ok (.iload_n 1, 1) := by decide +kernel
theorem dX10_terrier_119 : decode cX10_terrier 119 = .ok (.ishl, 1) := by decide +kernel
theorem dX10_terrier_120 : decode cX10_terrier 120 = .ok (.ior, 1) := by decide +kernel
theorem dX10_terrier_121 : decode cX10_terrier 121 = .ok (.iastore, 1) := by decide +kernel
theorem dX10_terrier_122 : decode cX10_terrier 122 = .ok (.iinc 4 1, 3) := by decide +kernel
theorem dX10_terrier_125 : decode cX10_terrier 125 = .ok (.goto (-59), 3) := by decide +kernel
theorem dX10_terrier_128 : decode cX10_terrier 128 = .ok (.iconst 1, 1) := by decide +kernel
theorem dX10_terrier_129 : decode cX10_terrier 129 = .ok (.ireturn, 1) := by decide +kernel
theorem dX10_apart_0 : decode cX10_apart 0 = .ok (.iload_n 0, 1) := by decide +kernel
theorem dX10_apart_1 : decode cX10_apart 1 = .ok (.iload_n 2, 1) := by decide +kernel
theorem dX10_apart_2 : decode cX10_apart 2 = .ok (.iload_n 3, 1) := by decide +kernel
theorem dX10_apart_3 : decode cX10_apart 3 = .ok (.iadd, 1) := by decide +kernel
theorem dX10_apart_4 : decode cX10_apart 4 = .ok (.if_icmp .le 11, 3) := by decide +kernel
theorem dX10_apart_7 : decode cX10_apart 7 = .ok (.iload_n 0, 1) := by decide +kernel
theorem dX10_apart_8 : decode cX10_apart 8 = .ok (.iload_n 2, 1) := by decide +kernel
theorem dX10_apart_9 : decode cX10_apart 9 = .ok (.isub, 1) := by decide +kernel
theorem dX10_apart_10 : decode cX10_apart 10 = .ok (.iload_n 3, 1) := by decide +kernel
theorem dX10_apart_11 : decode cX10_apart 11 = .ok (.isub, 1) := by decide +kernel
theorem dX10_apart_12 : decode cX10_apart 12 = .ok (.goto 19, 3) := by decide +kernel
theorem dX10_apart_15 : decode cX10_apart 15 = .ok (.iload_n 2, 1) := by decide +kernel
theorem dX10_apart_16 : decode cX10_apart 16 = .ok (.iload_n 0, 1) := by decide +kernel
theorem dX10_apart_17 : decode cX10_apart 17 = .ok (.iload_n 1, 1) := by decide +kernel
theorem dX10_apart_18 : decode cX10_apart 18 = .ok (.iadd, 1) := by decide +kernel
theorem dX10_apart_19 : decode cX10_apart 19 = .ok (.if_icmp .le 11, 3) := by decide +kernel
theorem dX10_apart_22 : decode cX10_apart 22 = .ok (.iload_n 2, 1) := by decide +kernel
theorem dX10_apart_23 : decode cX10_apart 23 = .ok (.iload_n 0, 1) := by decide +kernel
theorem dX10_apart_24 : decode cX10_apart 24 = .ok (.isub, 1) := by decide +kernel
theorem dX10_apart_25 : decode cX10_apart 25 = .ok (.iload_n 1, 1) := by decide +kernel
theorem dX10_apart_26 : decode cX10_apart 26 = .ok (.isub, 1) := by decide +kernel
theorem dX10_apart_27 : decode cX10_apart 27 = .ok (.goto 4, 3) := by decide +kernel
theorem dX10_apart_30 : decode cX10_apart 30 = .ok (.iconst 0, 1) := by decide +kernel
theorem dX10_apart_31 : decode cX10_apart 31 = .ok (.ireturn, 1) := by decide +kernel
theorem dX10_doTouch_0 : decode cX10_doTouch 0 = .ok (.aload_n 0, 1) := by decide +kernel
theorem dX10_doTouch_1 : decode cX10_doTouch 1 = .ok (.getfield 13, 3) := by decide +kernel
theorem dX10_doTouch_4 : decode cX10_doTouch 4 = .ok (.iload_n 1, 1) := by decide +kernel
theorem dX10_doTouch_5 : decode cX10_doTouch 5 = .ok (.iaload, 1) := by decide +kernel
theorem dX10_doTouch_6 : decode cX10_doTouch 6 = .ok (.aload_n 0, 1) := by decide +kernel
theorem dX10_doTouch_7 : decode cX10_doTouch 7 = .ok (.getfield 19, 3) := by decide +kernel
theorem dX10_doTouch_10 : decode cX10_doTouch 10 = .ok (.iload_n 1, 1) := by decide +kernel
theorem dX10_doTouch_11 : decode cX10_doTouch 11 = .ok (.iaload, 1) := by decide +kernel
theorem dX10_doTouch_12 : decode cX10_doTouch 12 = .ok (.aload_n 0, 1) := by decide +kernel
theorem dX10_doTouch_13 : decode cX10_doTouch 13 = .ok (.getfield 13, 3) := by decide +kernel
theorem dX10_doTouch_16 : decode cX10_doTouch 16 = .ok (.iload_n 2, 1) := by decide +kernel
theorem dX10_doTouch_17 : decode cX10_doTouch 17 = .ok (.iaload, 1) := by decide +kernel
theorem dX10_doTouch_18 : decode cX10_doTouch 18 = .ok (.aload_n 0, 1) := by decide +kernel
theorem dX10_doTouch_19 : decode cX10_doTouch 19 = .ok (.getfield 19, 3) := by decide +kernel
theorem dX10_doTouch_22 : decode cX10_doTouch 22 = .ok (.iload_n 2, 1) := by decide +kernel
theorem dX10_doTouch_23 : decode cX10_doTouch 23 = .ok (.iaload, 1) := by decide +kernel
theorem dX10_doTouch_24 : decode cX10_doTouch 24 = .ok (.invokestatic 266, 3) := by decide +kernel
theorem dX10_doTouch_27 : decode cX10_doTouch 27 = .ok (.aload_n 0, 1) := by decide +kernel
theorem dX10_doTouch_28 : decode cX10_doTouch 28 = .ok (.getfield 44, 3) := by decide +kernel
theorem dX10_doTouch_31 : decode cX10_doTouch 31 = .ok (.if_icmp .gt 41, 3) := by decide +kernel
theorem dX10_doTouch_34 : decode cX10_doTouch 34 = .ok (.aload_n 0, 1) := by decide +kernel
theorem dX10_doTouch_35 : decode cX10_doTouch 35 = .ok (.getfield 16, 3) := by decide +kernel
theorem dX10_doTouch_38 : decode cX10_doTouch 38 = .ok (.iload_n 1, 1) := by decide +kernel
theorem dX10_doTouch_39 : decode cX10_doTouch 39 = .ok (.iaload, 1) := by decide +kernel
theorem dX10_doTouch_40 : decode cX10_doTouch 40 = .ok (.aload_n 0, 1) := by decide +kernel
theorem dX10_doTouch_41 : decode cX10_doTouch 41 = .ok (.getfield 22, 3) := by decide +kernel
theorem dX10_doTouch_44 : decode cX10_doTouch 44 = .ok (.iload_n 1, 1) := by decide +kernel
theorem dX10_doTouch_45 : decode cX10_doTouch 45 = .ok (.iaload, 1) := by decide +kernel
theorem dX10_doTouch_46 : decode cX10_doTouch 46 = .ok (.aload_n 0, 1) := by decide +kernel
theorem dX10_doTouch_47 : decode cX10_doTouch 47 = .ok (.getfield 16, 3) := by decide +kernel
theorem dX10_doTouch_50 : decode cX10_doTouch 50 = .ok (.iload_n 2, 1) := by decide +kernel
theorem dX10_doTouch_51 : decode cX10_doTouch 51 = .ok (.iaload, 1) := by decide +kernel
theorem dX10_doTouch_52 : decode cX10_doTouch 52 = .ok (.aload_n 0, 1) := by decide +kernel
theorem dX10_doTouch_53 : decode cX10_doTouch 53 = .ok (.getfield 22, 3) := by decide +kernel
theorem dX10_doTouch_56 : decode cX10_doTouch 56 = .ok (.iload_n 2, 1) := by decide +kernel
theorem dX10_doTouch_57 : decode cX10_doTouch 57 = .ok (.iaload, 1) := by decide +kernel
theorem dX10_doTouch_58 : decode cX10_doTouch 58 = .ok (.invokestatic 266, 3) := by decide +kernel
theorem dX10_doTouch_61 : decode cX10_doTouch 61 = .ok (.aload_n 0, 1) := by decide +kernel
theorem dX10_doTouch_62 : decode cX10_doTouch 62 = .ok (.getfield 44, 3) := by decide +kernel
theorem dX10_doTouch_65 : decode cX10_doTouch 65 = .ok (.if_icmp .gt 7, 3) := by decide +kernel
theorem dX10_doTouch_68 : decode cX10_doTouch 68 = .ok (.iconst 1, 1) := by decide +kernel
theorem dX10_doTouch_69 : decode cX10_doTouch 69 = .ok (.goto 4, 3) := by decide +kernel
theorem dX10_doTouch_72 : decode cX10_doTouch 72 = .ok (.iconst 0, 1) := by decide +kernel
theorem dX10_doTouch_73 : decode cX10_doTouch 73 = .ok (.ireturn, 1) := by decide +kernel
theorem dX10_offOf_0 : decode cX10_offOf 0 = .ok (.aload_n 0, 1) := by decide +kernel
theorem dX10_offOf_1 : decode cX10_offOf 1 = .ok (.getfield 62, 3) := by decide +kernel
theorem dX10_offOf_4 : decode cX10_offOf 4 = .ok (.iload_n 1, 1) := by decide +kernel
theorem dX10_offOf_5 : decode cX10_offOf 5 = .ok (.iaload, 1) := by decide +kernel
theorem dX10_offOf_6 : decode cX10_offOf 6 = .ok (.aload_n 0, 1) := by decide +kernel
theorem dX10_offOf_7 : decode cX10_offOf 7 = .ok (.iload_n 2, 1) := by decide +kernel
theorem dX10_offOf_8 : decode cX10_offOf 8 = .ok (.iconst 1, 1) := by decide +kernel
theorem dX10_offOf_9 : decode cX10_offOf 9 = .ok (.invokevirtual 184, 3) := by decide +kernel
theorem dX10_offOf_12 : decode cX10_offOf 12 = .ok (.isub, 1) := by decide +kernel
theorem dX10_offOf_13 : decode cX10_offOf 13 = .ok (.istore_n 3, 1) := by decide +kernel
theorem dX10_offOf_14 : decode cX10_offOf 14 = .ok (.iload_n 3, 1) := by decide +kernel
theorem dX10_offOf_15 : decode cX10_offOf 15 = .ok (.ifCond .ge 8, 3) := by decide +kernel
theorem dX10_offOf_18 : decode cX10_offOf 18 = .ok (.iload_n 3, 1) := by decide +kernel
theorem dX10_offOf_19 : decode cX10_offOf 19 = .ok (.ineg, 1) := by decide +kernel
theorem dX10_offOf_20 : decode cX10_offOf 20 = .ok (.goto 4, 3) := by decide +kernel
theorem dX10_offOf_23 : decode cX10_offOf 23 = .ok (.iload_n 3, 1) := by decide +kernel
theorem dX10_offOf_24 : decode cX10_offOf 24 = .ok (.ireturn, 1) := by decide +kernel
theorem dX10_mayHave_0 : decode cX10_mayHave 0 = .ok (.aload_n 0, 1) := by decide +kernel
theorem dX10_mayHave_1 : decode cX10_mayHave 1 = .ok (.iload_n 2, 1) := by decide +kernel
theorem dX10_mayHave_2 : decode cX10_mayHave 2 = .ok (.invokevirtual 205, 3) := by decide +kernel
theorem dX10_mayHave_5 : decode cX10_mayHave 5 = .ok (.ifCond .eq 16, 3) := by decide +kernel
theorem dX10_mayHave_8 : decode cX10_mayHave 8 = .ok (.aload_n 0, 1) := by decide +kernel
theorem dX10_mayHave_9 : decode cX10_mayHave 9 = .ok (.iload_n 1, 1) := by decide +kernel
theorem dX10_mayHave_10 : decode cX10_mayHave 10 = .ok (.iload_n 2, 1) := by decide +kernel
theorem dX10_mayHave_11 : decode cX10_mayHave 11 = .ok (.invokevirtual 270, 3) := by decide +kernel
theorem dX10_mayHave_14 : decode cX10_mayHave 14 = .ok (.aload_n 0, 1) := by decide +kernel
theorem dX10_mayHave_15 : decode cX10_mayHave 15 = .ok (.getfield 40, 3) := by decide +kernel
theorem dX10_mayHave_18 : decode cX10_mayHave 18 = .ok (.if_icmp .le 5, 3) := by decide +kernel
theorem dX10_mayHave_21 : decode cX10_mayHave 21 = .ok (.iconst 0, 1) := by decide +kernel
theorem dX10_mayHave_22 : decode cX10_mayHave 22 = .ok (.ireturn, 1) := by decide +kernel
theorem dX10_mayHave_23 : decode cX10_mayHave 23 = .ok (.iconst 0, 1) := by decide +kernel
theorem dX10_mayHave_24 : decode cX10_mayHave 24 = .ok (.istore_n 3, 1) := by decide +kernel
theorem dX10_mayHave_25 : decode cX10_mayHave 25 = .ok (.iload_n 3, 1) := by decide +kernel
theorem dX10_mayHave_26 : decode cX10_mayHave 26 = .ok (.iload_n 1, 1) := by decide +kernel
theorem dX10_mayHave_27 : decode cX10_mayHave 27 = .ok (.if_icmp .ge 58, 3) := by decide +kernel
theorem dX10_mayHave_30 : decode cX10_mayHave 30 = .ok (.aload_n 0, 1) := by decide +kernel
theorem dX10_mayHave_31 : decode cX10_mayHave 31 = .ok (.getfield 62, 3) := by decide +kernel
theorem dX10_mayHave_34 : decode cX10_mayHave 34 = .ok (.iload_n 3, 1) := by decide +kernel
theorem dX10_mayHave_35 : decode cX10_mayHave 35 = .ok (.iaload, 1) := by decide +kernel
theorem dX10_mayHave_36 : decode cX10_mayHave 36 = .ok (.ifCond .le 43, 3) := by decide +kernel
theorem dX10_mayHave_39 : decode cX10_mayHave 39 = .ok (.aload_n 0, 1) := by decide +kernel
theorem dX10_mayHave_40 : decode cX10_mayHave 40 = .ok (.getfield 68, 3) := by decide +kernel
theorem dX10_mayHave_43 : decode cX10_mayHave 43 = .ok (.iload_n 3, 1) := by decide +kernel
theorem dX10_mayHave_44 : decode cX10_mayHave 44 = .ok (.iaload, 1) := by decide +kernel
theorem dX10_mayHave_45 : decode cX10_mayHave 45 = .ok (.iload_n 2, 1) := by decide +kernel
theorem dX10_mayHave_46 : decode cX10_mayHave 46 = .ok (.if_icmp .eq 31, 3) := by decide +kernel
theorem dX10_mayHave_49 : decode cX10_mayHave 49 = .ok (.aload_n 0, 1) := by decide +kernel
theorem dX10_mayHave_50 : decode cX10_mayHave 50 = .ok (.getfield 65, 3) := by decide +kernel
theorem dX10_mayHave_53 : decode cX10_mayHave 53 = .ok (.iload_n 1, 1) := by decide +kernel
theorem dX10_mayHave_54 : decode cX10_mayHave 54 = .ok (.iaload, 1) := by decide +kernel
theorem dX10_mayHave_55 : decode cX10_mayHave 55 = .ok (.iload_n 3, 1) := by decide +kernel
theorem dX10_mayHave_56 : decode cX10_mayHave 56 = .ok (.ishr, 1) := by decide +kernel
theorem dX10_mayHave_57 : decode cX10_mayHave 57 = .ok (.iconst 1, 1) := by decide +kernel
theorem dX10_mayHave_58 : decode cX10_mayHave 58 = .ok (.iand, 1) := by decide +kernel
theorem dX10_mayHave_59 : decode cX10_mayHave 59 = .ok (.iconst 1, 1) := by decide +kernel
theorem dX10_mayHave_60 : decode cX10_mayHave 60 = .ok (.if_icmp .ne 19, 3) := by decide +kernel
theorem dX10_mayHave_63 : decode cX10_mayHave 63 = .ok (.aload_n 0, 1) := by decide +kernel
theorem dX10_mayHave_64 : decode cX10_mayHave 64 = .ok (.aload_n 0, 1) := by decide +kernel
theorem dX10_mayHave_65 : decode cX10_mayHave 65 = .ok (.getfield 68, 3) := by decide +kernel
theorem dX10_mayHave_68 : decode cX10_mayHave 68 = .ok (.iload_n 3, 1) := by decide +kernel
theorem dX10_mayHave_69 : decode cX10_mayHave 69 = .ok (.iaload, 1) := by decide +kernel
theorem dX10_mayHave_70 : decode cX10_mayHave 70 = .ok (.iload_n 2, 1) := by decide +kernel
theorem dX10_mayHave_71 : decode cX10_mayHave 71 = .ok (.invokevirtual 273, 3) := by decide +kernel
theorem dX10_mayHave_74 : decode cX10_mayHave 74 = .ok (.ifCond .ne 5, 3) := by decide +kernel
theorem dX10_mayHave_77 : decode cX10_mayHave 77 = .ok (.iconst 0, 1) := by decide +kernel
theorem dX10_mayHave_78 : decode cX10_mayHave 78 = .ok (.ireturn, 1) := by decide +kernel
theorem dX10_mayHave_79 : decode cX10_mayHave 79 = .ok (.iinc 3 1, 3) := by decide +kernel
theorem dX10_mayHave_82 : decode cX10_mayHave 82 = .ok (.goto (-57), 3) := by decide +kernel
theorem dX10_mayHave_85 : decode cX10_mayHave 85 = .ok (.iconst 1, 1) := by decide +kernel
theorem dX10_mayHave_86 : decode cX10_mayHave 86 = .ok (.ireturn, 1) := by decide +kernel
theorem dX10_giveAll_0 : decode cX10_giveAll 0 = .ok (.aload_n 0, 1) := by decide +kernel
theorem dX10_giveAll_1 : decode cX10_giveAll 1 = .ok (.iconst 0, 1) := by decide +kernel
theorem dX10_giveAll_2 : decode cX10_giveAll 2 = .ok (.putfield 276, 3) := by decide +kernel
theorem dX10_giveAll_5 : decode cX10_giveAll 5 = .ok (.aload_n 0, 1) := by decide +kernel
theorem dX10_giveAll_6 : decode cX10_giveAll 6 = .ok (.iconst (-1), 1) := by decide +kernel
theorem dX10_giveAll_7 : decode cX10_giveAll 7 = .ok (.putfield 279, 3) := by decide +kernel
theorem dX10_giveAll_10 : decode cX10_giveAll 10 = .ok (.iconst 0, 1) := by decide +kernel
theorem dX10_giveAll_11 : decode cX10_giveAll 11 = .ok (.istore_n 1, 1) := by decide +kernel
theorem dX10_giveAll_12 : decode cX10_giveAll 12 = .ok (.aload_n 0, 1) := by decide +kernel
theorem dX10_giveAll_13 : decode cX10_giveAll 13 = .ok (.getfield 68, 3) := by decide +kernel
theorem dX10_giveAll_16 : decode cX10_giveAll 16 = .ok (.iconst 0, 1) := by decide +kernel
theorem dX10_giveAll_17 : decode cX10_giveAll 17 = .ok (.iconst (-1), 1) := by decide +kernel
theorem dX10_giveAll_18 : decode cX10_giveAll 18 = .ok (.iastore, 1) := by decide +kernel
theorem dX10_giveAll_19 : decode cX10_giveAll 19 = .ok (.iload_n 1, 1) := by decide +kernel
theorem dX10_giveAll_20 : decode cX10_giveAll 20 = .ok (.ifCond .lt 117, 3) := by decide +kernel
theorem dX10_giveAll_23 : decode cX10_giveAll 23 = .ok (.iload_n 1, 1) := by decide +kernel
theorem dX10_giveAll_24 : decode cX10_giveAll 24 = .ok (.iconst 5, 1) := by decide +kernel
theorem dX10_giveAll_25 : decode cX10_giveAll 25 = .ok (.if_icmp .ne 13, 3) := by decide +kernel
theorem dX10_giveAll_28 : decode cX10_giveAll 28 = .ok (.aload_n 0, 1) := by decide +kernel
theorem dX10_giveAll_29 : decode cX10_giveAll 29 = .ok (.invokevirtual 282, 3) := by decide +kernel
theorem dX10_giveAll_32 : decode cX10_giveAll 32 = .ok (.iinc 1 (-1), 3) := by decide +kernel
theorem dX10_giveAll_35 : decode cX10_giveAll 35 = .ok (.goto (-16), 3) := by decide +kernel
theorem dX10_giveAll_38 : decode cX10_giveAll 38 = .ok (.aload_n 0, 1) := by decide +kernel
theorem dX10_giveAll_39 : decode cX10_giveAll 39 = .ok (.getfield 68, 3) := by decide +kernel
theorem dX10_giveAll_42 : decode cX10_giveAll 42 = .ok (.iload_n 1, 1) := by decide +kernel
theorem dX10_giveAll_43 : decode cX10_giveAll 43 = .ok (.dup2, 1) := by decide +kernel
theorem dX10_giveAll_44 : decode cX10_giveAll 44 = .ok (.iaload, 1) := by decide +kernel
theorem dX10_giveAll_45 : decode cX10_giveAll 45 = .ok (.iconst 1, 1) := by decide +kernel
theorem dX10_giveAll_46 : decode cX10_giveAll 46 = .ok (.iadd, 1) := by decide +kernel
theorem dX10_giveAll_47 : decode cX10_giveAll 47 = .ok (.iastore, 1) := by decide +kernel
theorem dX10_giveAll_48 : decode cX10_giveAll 48 = .ok (.aload_n 0, 1) := by decide +kernel
theorem dX10_giveAll_49 : decode cX10_giveAll 49 = .ok (.getfield 62, 3) := by decide +kernel
theorem dX10_giveAll_52 : decode cX10_giveAll 52 = .ok (.iload_n 1, 1) := by decide +kernel
theorem dX10_giveAll_53 : decode cX10_giveAll 53 = .ok (.iaload, 1) := by decide +kernel
theorem dX10_giveAll_54 : decode cX10_giveAll 54 = .ok (.ifCond .ne 20, 3) := by decide +kernel
theorem dX10_giveAll_57 : decode cX10_giveAll 57 = .ok (.aload_n 0, 1) := by decide +kernel
theorem dX10_giveAll_58 : decode cX10_giveAll 58 = .ok (.getfield 68, 3) := by decide +kernel
theorem dX10_giveAll_61 : decode cX10_giveAll 61 = .ok (.iload_n 1, 1) := by decide +kernel
theorem dX10_giveAll_62 : decode cX10_giveAll 62 = .ok (.iaload, 1) := by decide +kernel
theorem dX10_giveAll_63 : decode cX10_giveAll 63 = .ok (.ifCond .le 7, 3) := by decide +kernel
theorem dX10_giveAll_66 : decode cX10_giveAll 66 = .ok (.iconst 1, 1) := by decide +kernel
theorem dX10_giveAll_67 : decode cX10_giveAll 67 = .ok (.goto 23, 3) := by decide +kernel
theorem dX10_giveAll_70 : decode cX10_giveAll 70 = .ok (.iconst 0, 1) := by decide +kernel
theorem dX10_giveAll_71 : decode cX10_giveAll 71 = .ok (.goto 19, 3) := by decide +kernel
theorem dX10_giveAll_74 : decode cX10_giveAll 74 = .ok (.aload_n 0, 1) := by decide +kernel
theorem dX10_giveAll_75 : decode cX10_giveAll 75 = .ok (.getfield 68, 3) := by decide +kernel
theorem dX10_giveAll_78 : decode cX10_giveAll 78 = .ok (.iload_n 1, 1) := by decide +kernel
theorem dX10_giveAll_79 : decode cX10_giveAll 79 = .ok (.iaload, 1) := by decide +kernel
theorem dX10_giveAll_80 : decode cX10_giveAll 80 = .ok (.bipush 7, 2) := by decide +kernel
theorem dX10_giveAll_82 : decode cX10_giveAll 82 = .ok (.if_icmp .le 7, 3) := by decide +kernel
theorem dX10_giveAll_85 : decode cX10_giveAll 85 = .ok (.iconst 1, 1) := by decide +kernel
theorem dX10_giveAll_86 : decode cX10_giveAll 86 = .ok (.goto 4, 3) := by decide +kernel
theorem dX10_giveAll_89 : decode cX10_giveAll 89 = .ok (.iconst 0, 1) := by decide +kernel
theorem dX10_giveAll_90 : decode cX10_giveAll 90 = .ok (.istore_n 2, 1) := by decide +kernel
theorem dX10_giveAll_91 : decode cX10_giveAll 91 = .ok (.iload_n 2, 1) := by decide +kernel
theorem dX10_giveAll_92 : decode cX10_giveAll 92 = .ok (.ifCond .eq 9, 3) := by decide +kernel
theorem dX10_giveAll_95 : decode cX10_giveAll 95 = .ok (.iinc 1 (-1), 3) := by decide +kernel
theorem dX10_giveAll_98 : decode cX10_giveAll 98 = .ok (.goto 36, 3) := by decide +kernel
theorem dX10_giveAll_101 : decode cX10_giveAll 101 = .ok (.aload_n 0, 1) := by decide +kernel
theorem dX10_giveAll_102 : decode cX10_giveAll 102 = .ok (.getfield 62, 3) := by decide +kernel
theorem dX10_giveAll_105 : decode cX10_giveAll 105 = .ok (.iload_n 1, 1) := by decide +kernel
theorem dX10_giveAll_106 : decode cX10_giveAll 106 = .ok (.iaload, 1) := by decide +kernel
theorem dX10_giveAll_107 : decode cX10_giveAll 107 = .ok (.ifCond .eq 17, 3) := by decide +kernel
theorem dX10_giveAll_110 : decode cX10_giveAll 110 = .ok (.aload_n 0, 1) := by decide +kernel
theorem dX10_giveAll_111 : decode cX10_giveAll 111 = .ok (.iload_n 1, 1) := by decide +kernel
theorem dX10_giveAll_112 : decode cX10_giveAll 112 = .ok (.aload_n 0, 1) := by decide +kernel
theorem dX10_giveAll_113 : decode cX10_giveAll 113 = .ok (.getfield 68, 3) := by decide +kernel
theorem dX10_giveAll_116 : decode cX10_giveAll 116 = .ok (.iload_n 1, 1) := by decide +kernel
theorem dX10_giveAll_117 : decode cX10_giveAll 117 = .ok (.iaload, 1) := by decide +kernel
theorem dX10_giveAll_118 : decode cX10_giveAll 118 = .ok (.invokevirtual 285, 3) := by decide +kernel
theorem dX10_giveAll_121 : decode cX10_giveAll 121 = .ok (.ifCond .eq 13, 3) := by decide +kernel
theorem dX10_giveAll_124 : decode cX10_giveAll 124 = .ok (.iinc 1 1, 3) := by decide +kernel
theorem dX10_giveAll_127 : decode cX10_giveAll 127 = .ok (.aload_n 0, 1) := by decide +kernel
theorem dX10_giveAll_128 : decode cX10_giveAll 128 = .ok (.getfield 68, 3) := by decide +kernel
theorem dX10_giveAll_131 : decode cX10_giveAll 131 = .ok (.iload_n 1, 1) := by decide +kernel
theorem dX10_giveAll_132 : decode cX10_giveAll 132 = .ok (.iconst (-1), 1) := by decide +kernel
theorem dX10_giveAll_133 : decode cX10_giveAll 133 = .ok (.iastore, 1) := by decide +kernel
theorem dX10_giveAll_134 : decode cX10_giveAll 134 = .ok (.goto (-115), 3) := by decide +kernel
theorem dX10_giveAll_137 : decode cX10_giveAll 137 = .ok (.return_, 1) := by decide +kernel
theorem dX10_giveOne_0 : decode cX10_giveOne 0 = .ok (.iconst 0, 1) := by decide +kernel
theorem dX10_giveOne_1 : decode cX10_giveOne 1 = .ok (.istore_n 1, 1) := by decide +kernel
theorem dX10_giveOne_2 : decode cX10_giveOne 2 = .ok (.iconst 0, 1) := by decide +kernel
theorem dX10_giveOne_3 : decode cX10_giveOne 3 = .ok (.istore_n 2, 1) := by decide +kernel
theorem dX10_giveOne_4 : decode cX10_giveOne 4 = .ok (.iload_n 2, 1) := by decide +kernel
theorem dX10_giveOne_5 : decode cX10_giveOne 5 = .ok (.iconst 5, 1) := by decide +kernel
