theorem dX10_init_0 : decode cX10_init 0 = .ok (.aload_n 0, 1) := by decide +kernel
theorem dX10_init_1 : decode cX10_init 1 = .ok (.invokespecial 1, 3) := by decide +kernel
theorem dX10_init_4 : decode cX10_init 4 = .ok (.aload_n 0, 1) := by decide +kernel
theorem dX10_init_5 : decode cX10_init 5 = .ok (.bipush 56, 2) := by decide +kernel
theorem dX10_init_7 : decode cX10_init 7 = .ok (.newarray .int, 2) := by decide +kernel
theorem dX10_init_9 : decode cX10_init 9 = .ok (.putfield 7, 3) := by decide +kernel
theorem dX10_init_12 : decode cX10_init 12 = .ok (.aload_n 0, 1) := by decide +kernel
theorem dX10_init_13 : decode cX10_init 13 = .ok (.bipush 14, 2) := by decide +kernel
theorem dX10_init_15 : decode cX10_init 15 = .ok (.newarray .int, 2) := by decide +kernel
theorem dX10_init_17 : decode cX10_init 17 = .ok (.putfield 13, 3) := by decide +kernel
theorem dX10_init_20 : decode cX10_init 20 = .ok (.aload_n 0, 1) := by decide +kernel
theorem dX10_init_21 : decode cX10_init 21 = .ok (.bipush 14, 2) := by decide +kernel
theorem dX10_init_23 : decode cX10_init 23 = .ok (.newarray .int, 2) := by decide +kernel
theorem dX10_init_25 : decode cX10_init 25 = .ok (.putfield 16, 3) := by decide +kernel
theorem dX10_init_28 : decode cX10_init 28 = .ok (.aload_n 0, 1) := by decide +kernel
theorem dX10_init_29 : decode cX10_init 29 = .ok (.bipush 14, 2) := by decide +kernel
theorem dX10_init_31 : decode cX10_init 31 = .ok (.newarray .int, 2) := by decide +kernel
theorem dX10_init_33 : decode cX10_init 33 = .ok (.putfield 19, 3) := by decide +kernel
theorem dX10_init_36 : decode cX10_init 36 = .ok (.aload_n 0, 1) := by decide +kernel
theorem dX10_init_37 : decode cX10_init 37 = .ok (.bipush 14, 2) := by decide +kernel
theorem dX10_init_39 : decode cX10_init 39 = .ok (.newarray .int, 2) := by decide +kernel
theorem dX10_init_41 : decode cX10_init 41 = .ok (.putfield 22, 3) := by decide +kernel
theorem dX10_init_44 : decode cX10_init 44 = .ok (.aload_n 0, 1) := by decide +kernel
theorem dX10_init_45 : decode cX10_init 45 = .ok (.bipush 14, 2) := by decide +kernel
theorem dX10_init_47 : decode cX10_init 47 = .ok (.newarray .int, 2) := by decide +kernel
theorem dX10_init_49 : decode cX10_init 49 = .ok (.putfield 25, 3) := by decide +kernel
theorem dX10_init_52 : decode cX10_init 52 = .ok (.aload_n 0, 1) := by decide +kernel
theorem dX10_init_53 : decode cX10_init 53 = .ok (.bipush 14, 2) := by decide +kernel
theorem dX10_init_55 : decode cX10_init 55 = .ok (.newarray .int, 2) := by decide +kernel
theorem dX10_init_57 : decode cX10_init 57 = .ok (.putfield 28, 3) := by decide +kernel
theorem dX10_init_60 : decode cX10_init 60 = .ok (.aload_n 0, 1) := by decide +kernel
theorem dX10_init_61 : decode cX10_init 61 = .ok (.bipush 14, 2) := by decide +kernel
theorem dX10_init_63 : decode cX10_init 63 = .ok (.newarray .int, 2) := by decide +kernel
theorem dX10_init_65 : decode cX10_init 65 = .ok (.putfield 31, 3) := by decide +kernel
theorem dX10_init_68 : decode cX10_init 68 = .ok (.aload_n 0, 1) := by decide +kernel
theorem dX10_init_69 : decode cX10_init 69 = .ok (.bipush 14, 2) := by decide +kernel
theorem dX10_init_71 : decode cX10_init 71 = .ok (.newarray .int, 2) := by decide +kernel
theorem dX10_init_73 : decode cX10_init 73 = .ok (.putfield 34, 3) := by decide +kernel
theorem dX10_init_76 : decode cX10_init 76 = .ok (.aload_n 0, 1) := by decide +kernel
theorem dX10_init_77 : decode cX10_init 77 = .ok (.bipush 52, 2) := by decide +kernel
theorem dX10_init_79 : decode cX10_init 79 = .ok (.newarray .int, 2) := by decide +kernel
theorem dX10_init_81 : decode cX10_init 81 = .ok (.putfield 37, 3) := by decide +kernel
theorem dX10_init_84 : decode cX10_init 84 = .ok (.aload_n 0, 1) := by decide +kernel
theorem dX10_init_85 : decode cX10_init 85 = .ok (.iconst 2, 1) := by decide +kernel
theorem dX10_init_86 : decode cX10_init 86 = .ok (.putfield 40, 3) := by decide +kernel
theorem dX10_init_89 : decode cX10_init 89 = .ok (.aload_n 0, 1) := by decide +kernel
theorem dX10_init_90 : decode cX10_init 90 = .ok (.bipush 20, 2) := by decide +kernel
theorem dX10_init_92 : decode cX10_init 92 = .ok (.putfield 44, 3) := by decide +kernel
theorem dX10_init_95 : decode cX10_init 95 = .ok (.aload_n 0, 1) := by decide +kernel
theorem dX10_init_96 : decode cX10_init 96 = .ok (.sipush 200, 3) := by decide +kernel
theorem dX10_init_99 : decode cX10_init 99 = .ok (.newarray .int, 2) := by decide +kernel
theorem dX10_init_101 : decode cX10_init 101 = .ok (.putfield 47, 3) := by decide +kernel
theorem dX10_init_104 : decode cX10_init 104 = .ok (.aload_n 0, 1) := by decide +kernel
theorem dX10_init_105 : decode cX10_init 105 = .ok (.bipush 88, 2) := by decide +kernel
theorem dX10_init_107 : decode cX10_init 107 = .ok (.newarray .int, 2) := by decide +kernel
theorem dX10_init_109 : decode cX10_init 109 = .ok (.putfield 50, 3) := by decide +kernel
theorem dX10_init_112 : decode cX10_init 112 = .ok (.aload_n 0, 1) := by decide +kernel
theorem dX10_init_113 : decode cX10_init 113 = .ok (.bipush 14, 2) := by decide +kernel
theorem dX10_init_115 : decode cX10_init 115 = .ok (.newarray .int, 2) := by decide +kernel
theorem dX10_init_117 : decode cX10_init 117 = .ok (.putfield 53, 3) := by decide +kernel
theorem dX10_init_120 : decode cX10_init 120 = .ok (.aload_n 0, 1) := by decide +kernel
theorem dX10_init_121 : decode cX10_init 121 = .ok (.bipush 14, 2) := by decide +kernel
theorem dX10_init_123 : decode cX10_init 123 = .ok (.newarray .int, 2) := by decide +kernel
theorem dX10_init_125 : decode cX10_init 125 = .ok (.putfield 56, 3) := by decide +kernel
theorem dX10_init_128 : decode cX10_init 128 = .ok (.aload_n 0, 1) := by decide +kernel
theorem dX10_init_129 : decode cX10_init 129 = .ok (.bipush 14, 2) := by decide +kernel
theorem dX10_init_131 : decode cX10_init 131 = .ok (.newarray .int, 2) := by decide +kernel
theorem dX10_init_133 : decode cX10_init 133 = .ok (.putfield 59, 3) := by decide +kernel
theorem dX10_init_136 : decode cX10_init 136 = .ok (.aload_n 0, 1) := by decide +kernel
theorem dX10_init_137 : decode cX10_init 137 = .ok (.iconst 5, 1) := by decide +kernel
theorem dX10_init_138 : decode cX10_init 138 = .ok (.newarray .int, 2) := by decide +kernel
theorem dX10_init_140 : decode cX10_init 140 = .ok (.putfield 62, 3) := by decide +kernel
theorem dX10_init_143 : decode cX10_init 143 = .ok (.aload_n 0, 1) := by decide +kernel
theorem dX10_init_144 : decode cX10_init 144 = .ok (.iconst 5, 1) := by decide +kernel
theorem dX10_init_145 : decode cX10_init 145 = .ok (.newarray .int, 2) := by decide +kernel
theorem dX10_init_147 : decode cX10_init 147 = .ok (.putfield 65, 3) := by decide +kernel
theorem dX10_init_150 : decode cX10_init 150 = .ok (.aload_n 0, 1) := by decide +kernel
theorem dX10_init_151 : decode cX10_init 151 = .ok (.bipush 6, 2) := by decide +kernel
theorem dX10_init_153 : decode cX10_init 153 = .ok (.newarray .int, 2) := by decide +kernel
theorem dX10_init_155 : decode cX10_init 155 = .ok (.putfield 68, 3) := by decide +kernel
theorem dX10_init_158 : decode cX10_init 158 = .ok (.aload_n 0, 1) := by decide +kernel
theorem dX10_init_159 : decode cX10_init 159 = .ok (.iconst 5, 1) := by decide +kernel
theorem dX10_init_160 : decode cX10_init 160 = .ok (.newarray .int, 2) := by decide +kernel
theorem dX10_init_162 : decode cX10_init 162 = .ok (.putfield 71, 3) := by decide +kernel
theorem dX10_init_165 : decode cX10_init 165 = .ok (.aload_n 0, 1) := by decide +kernel
theorem dX10_init_166 : decode cX10_init 166 = .ok (.bipush 30, 2) := by decide +kernel
theorem dX10_init_168 : decode cX10_init 168 = .ok (.newarray .int, 2) := by decide +kernel
theorem dX10_init_170 : decode cX10_init 170 = .ok (.putfield 74, 3) := by decide +kernel
theorem dX10_init_173 : decode cX10_init 173 = .ok (.aload_n 0, 1) := by decide +kernel
theorem dX10_init_174 : decode cX10_init 174 = .ok (.bipush 8, 2) := by decide +kernel
theorem dX10_init_176 : decode cX10_init 176 = .ok (.newarray .int, 2) := by decide +kernel
theorem dX10_init_178 : decode cX10_init 178 = .ok (.putfield 77, 3) := by decide +kernel
theorem dX10_init_181 : decode cX10_init 181 = .ok (.aload_n 0, 1) := by decide +kernel
theorem dX10_init_182 : decode cX10_init 182 = .ok (.bipush 8, 2) := by decide +kernel
theorem dX10_init_184 : decode cX10_init 184 = .ok (.newarray .int, 2) := by decide +kernel
theorem dX10_init_186 : decode cX10_init 186 = .ok (.putfield 80, 3) := by decide +kernel
theorem dX10_init_189 : decode cX10_init 189 = .ok (.aload_n 0, 1) := by decide +kernel
theorem dX10_init_190 : decode cX10_init 190 = .ok (.bipush 8, 2) := by decide +kernel
theorem dX10_init_192 : decode cX10_init 192 = .ok (.newarray .int, 2) := by decide +kernel
theorem dX10_init_194 : decode cX10_init 194 = .ok (.putfield 83, 3) := by decide +kernel
theorem dX10_init_197 : decode cX10_init 197 = .ok (.iconst 0, 1) := by decide +kernel
theorem dX10_init_198 : decode cX10_init 198 = .ok (.istore_n 1, 1) := by decide +kernel
theorem dX10_init_199 : decode cX10_init 199 = .ok (.iload_n 1, 1) := by decide +kernel
theorem dX10_init_200 : decode cX10_init 200 = .ok (.bipush 14, 2) := by decide +kernel
theorem dX10_init_202 : decode cX10_init 202 = .ok (.if_icmp .ge 18, 3) := by decide +kernel
theorem dX10_init_205 : decode cX10_init 205 = .ok (.aload_n 0, 1) := by decide +kernel
theorem dX10_init_206 : decode cX10_init 206 = .ok (.getfield 28, 3) := by decide +kernel
theorem dX10_init_209 : decode cX10_init 209 = .ok (.iload_n 1, 1) := by decide +kernel
theorem dX10_init_210 : decode cX10_init 210 = .ok (.sipush 2000, 3) := by decide +kernel
theorem dX10_init_213 : decode cX10_init 213 = .ok (.iastore, 1) := by decide +kernel
theorem dX10_init_214 : decode cX10_init 214 = .ok (.iinc 1 1, 3) := by decide +kernel
theorem dX10_init_217 : decode cX10_init 217 = .ok (.goto (-18), 3) := by decide +kernel
theorem dX10_init_220 : decode cX10_init 220 = .ok (.iconst 0, 1) := by decide +kernel
theorem dX10_init_221 : decode cX10_init 221 = .ok (.istore_n 1, 1) := by decide +kernel
theorem dX10_init_222 : decode cX10_init 222 = .ok (.iload_n 1, 1) := by decide +kernel
theorem dX10_init_223 : decode cX10_init 223 = .ok (.bipush 30, 2) := by decide +kernel
theorem dX10_init_225 : decode cX10_init 225 = .ok (.if_icmp .ge 16, 3) := by decide +kernel
theorem dX10_init_228 : decode cX10_init 228 = .ok (.aload_n 0, 1) := by decide +kernel
theorem dX10_init_229 : decode cX10_init 229 = .ok (.getfield 74, 3) := by decide +kernel
theorem dX10_init_232 : decode cX10_init 232 = .ok (.iload_n 1, 1) := by decide +kernel
theorem dX10_init_233 : decode cX10_init 233 = .ok (.iconst (-1), 1) := by decide +kernel
theorem dX10_init_234 : decode cX10_init 234 = .ok (.iastore, 1) := by decide +kernel
theorem dX10_init_235 : decode cX10_init 235 = .ok (.iinc 1 1, 3) := by decide +kernel
theorem dX10_init_238 : decode cX10_init 238 = .ok (.goto (-16), 3) := by decide +kernel
theorem dX10_init_241 : decode cX10_init 241 = .ok (.return_, 1) := by decide +kernel
theorem dX10_in_0 : decode cX10_in 0 = .ok (.iload_n 0, 1) := by decide +kernel
theorem dX10_in_1 : decode cX10_in 1 = .ok (.iload_n 1, 1) := by decide +kernel
theorem dX10_in_2 : decode cX10_in 2 = .ok (.if_icmp .lt 12, 3) := by decide +kernel
theorem dX10_in_5 : decode cX10_in 5 = .ok (.iload_n 0, 1) := by decide +kernel
theorem dX10_in_6 : decode cX10_in 6 = .ok (.iload_n 2, 1) := by decide +kernel
theorem dX10_in_7 : decode cX10_in 7 = .ok (.if_icmp .gt 7, 3) := by decide +kernel
theorem dX10_in_10 : decode cX10_in 10 = .ok (.iconst 1, 1) := by decide +kernel
theorem dX10_in_11 : decode cX10_in 11 = .ok (.goto 4, 3) := by decide +kernel
theorem dX10_in_14 : decode cX10_in 14 = .ok (.iconst 0, 1) := by decide +kernel
theorem dX10_in_15 : decode cX10_in 15 = .ok (.ireturn, 1) := by decide +kernel
theorem dX10_isThing_0 : decode cX10_isThing 0 = .ok (.iload_n 1, 1) := by decide +kernel
theorem dX10_isThing_1 : decode cX10_isThing 1 = .ok (.iconst 0, 1) := by decide +kernel
theorem dX10_isThing_2 : decode cX10_isThing 2 = .ok (.bipush 13, 2) := by decide +kernel
theorem dX10_isThing_4 : decode cX10_isThing 4 = .ok (.invokestatic 86, 3) := by decide +kernel
theorem dX10_isThing_7 : decode cX10_isThing 7 = .ok (.ifCond .eq 19, 3) := by decide +kernel
theorem dX10_isThing_10 : decode cX10_isThing 10 = .ok (.aload_n 0, 1) := by decide +kernel
theorem dX10_isThing_11 : decode cX10_isThing 11 = .ok (.getfield 90, 3) := by decide +kernel
theorem dX10_isThing_14 : decode cX10_isThing 14 = .ok (.iload_n 1, 1) := by decide +kernel
theorem dX10_isThing_15 : decode cX10_isThing 15 = .ok (.ishr, 1) := by decide +kernel
theorem dX10_isThing_16 : decode cX10_isThing 16 = .ok (.iconst 1, 1) := by decide +kernel
theorem dX10_isThing_17 : decode cX10_isThing 17 = .ok (.iand, 1) := by decide +kernel
theorem dX10_isThing_18 : decode cX10_isThing 18 = .ok (.iconst 1, 1) := by decide +kernel
theorem dX10_isThing_19 : decode cX10_isThing 19 = .ok (.if_icmp .ne 7, 3) := by decide +kernel
theorem dX10_isThing_22 : decode cX10_isThing 22 = .ok (.iconst 1, 1) := by decide +kernel
theorem dX10_isThing_23 : decode cX10_isThing 23 = .ok (.goto 4, 3) := by decide +kernel
theorem dX10_isThing_26 : decode cX10_isThing 26 = .ok (.iconst 0, 1) := by decide +kernel
theorem dX10_isThing_27 : decode cX10_isThing 27 = .ok (.ireturn, 1) := by decide +kernel
theorem dX10_isBundle_0 : decode cX10_isBundle 0 = .ok (.iload_n 1, 1) := by decide +kernel
theorem dX10_isBundle_1 : decode cX10_isBundle 1 = .ok (.iconst 0, 1) := by decide +kernel
theorem dX10_isBundle_2 : decode cX10_isBundle 2 = .ok (.bipush 7, 2) := by decide +kernel
theorem dX10_isBundle_4 : decode cX10_isBundle 4 = .ok (.invokestatic 86, 3) := by decide +kernel
theorem dX10_isBundle_7 : decode cX10_isBundle 7 = .ok (.ifCond .eq 15, 3) := by decide +kernel
theorem dX10_isBundle_10 : decode cX10_isBundle 10 = .ok (.aload_n 0, 1) := by decide +kernel
theorem dX10_isBundle_11 : decode cX10_isBundle 11 = .ok (.iload_n 1, 1) := by decide +kernel
theorem dX10_isBundle_12 : decode cX10_isBundle 12 = .ok (.invokevirtual 93, 3) := by decide +kernel
theorem dX10_isBundle_15 : decode cX10_isBundle 15 = .ok (.ifCond .eq 7, 3) := by decide +kernel
theorem dX10_isBundle_18 : decode cX10_isBundle 18 = .ok (.iconst 1, 1) := by decide +kernel
theorem dX10_isBundle_19 : decode cX10_isBundle 19 = .ok (.goto 4, 3) := by decide +kernel
theorem dX10_isBundle_22 : decode cX10_isBundle 22 = .ok (.iconst 0, 1) := by decide +kernel
theorem dX10_isBundle_23 : decode cX10_isBundle 23 = .ok (.ireturn, 1) := by decide +kernel
theorem dX10_of_0 : decode cX10_of 0 = .ok (.aload_n 0, 1) := by decide +kernel
theorem dX10_of_1 : decode cX10_of 1 = .ok (.getfield 7, 3) := by decide +kernel
theorem dX10_of_4 : decode cX10_of 4 = .ok (.bipush 7, 2) := by decide +kernel
theorem dX10_of_6 : decode cX10_of 6 = .ok (.iload_n 1, 1) := by decide +kernel
theorem dX10_of_7 : decode cX10_of 7 = .ok (.imul, 1) := by decide +kernel
theorem dX10_of_8 : decode cX10_of 8 = .ok (.iload_n 2, 1) := by decide +kernel
theorem dX10_of_9 : decode cX10_of 9 = .ok (.iadd, 1) := by decide +kernel
theorem dX10_of_10 : decode cX10_of 10 = .ok (.iaload, 1) := by decide +kernel
theorem dX10_of_11 : decode cX10_of 11 = .ok (.ireturn, 1) := by decide +kernel
theorem dX10_bits_0 : decode cX10_bits 0 = .ok (.iconst 0, 1) := by decide +kernel
theorem dX10_bits_1 : decode cX10_bits 1 = .ok (.istore_n 1, 1) := by decide +kernel
theorem dX10_bits_2 : decode cX10_bits 2 = .ok (.iconst 0, 1) := by decide +kernel
theorem dX10_bits_3 : decode cX10_bits 3 = .ok (.istore_n 2, 1) := by decide +kernel
theorem dX10_bits_4 : decode cX10_bits 4 = .ok (.iload_n 2, 1) := by decide +kernel
theorem dX10_bits_5 : decode cX10_bits 5 = .ok (.bipush 14, 2) := by decide +kernel
theorem dX10_bits_7 : decode cX10_bits 7 = .ok (.if_icmp .ge 17, 3) := by decide +kernel
theorem dX10_bits_10 : decode cX10_bits 10 = .ok (.iload_n 1, 1) := by decide +kernel
theorem dX10_bits_11 : decode cX10_bits 11 = .ok (.iload_n 0, 1) := by decide +kernel
theorem dX10_bits_12 : decode cX10_bits 12 = .ok (.iload_n 2, 1) := by decide +kernel
theorem dX10_bits_13 : decode cX10_bits 13 = .ok (.ishr, 1) := by decide +kernel
theorem dX10_bits_14 : decode cX10_bits 14 = .ok (.iconst 1, 1) := by decide +kernel
theorem dX10_bits_15 : decode cX10_bits 15 = .ok (.iand, 1) := by decide +kernel
theorem dX10_bits_16 : decode cX10_bits 16 = .ok (.iadd, 1) := by decide +kernel
theorem dX10_bits_17 : decode cX10_bits 17 = .ok (.istore_n 1, 1) := by decide +kernel
theorem dX10_bits_18 : decode cX10_bits 18 = .ok (.iinc 2 1, 3) := by decide +kernel
theorem dX10_bits_21 : decode cX10_bits 21 = .ok (.goto (-17), 3) := by decide +kernel
theorem dX10_bits_24 : decode cX10_bits 24 = .ok (.iload_n 1, 1) := by decide +kernel
theorem dX10_bits_25 : decode cX10_bits 25 = .ok (.ireturn, 1) := by decide +kernel
theorem dX10_write_0 : decode cX10_write 0 = .ok (.iload_n 3, 1) := by decide +kernel
theorem dX10_write_1 : decode cX10_write 1 = .ok (.iconst 1, 1) := by decide +kernel
theorem dX10_write_2 : decode cX10_write 2 = .ok (.bipush 8, 2) := by decide +kernel
theorem dX10_write_4 : decode cX10_write 4 = .ok (.invokestatic 86, 3) := by decide +kernel
theorem dX10_write_7 : decode cX10_write 7 = .ok (.ifCond .ne 6, 3) := by decide +kernel
theorem dX10_write_10 : decode cX10_write 10 = .ok (.bipush (-3), 2) := by decide +kernel
theorem dX10_write_12 : decode cX10_write 12 = .ok (.ireturn, 1) := by decide +kernel
theorem dX10_write_13 : decode cX10_write 13 = .ok (.aload_n 0, 1) := by decide +kernel
theorem dX10_write_14 : decode cX10_write 14 = .ok (.getfield 97, 3) := by decide +kernel
theorem dX10_write_17 : decode cX10_write 17 = .ok (.iload_n 3, 1) := by decide +kernel
theorem dX10_write_18 : decode cX10_write 18 = .ok (.iadd, 1) := by decide +kernel
theorem dX10_write_19 : decode cX10_write 19 = .ok (.sipush 200, 3) := by decide +kernel
theorem dX10_write_22 : decode cX10_write 22 = .ok (.if_icmp .le 6, 3) := by decide +kernel
theorem dX10_write_25 : decode cX10_write 25 = .ok (.bipush (-5), 2) := by decide +kernel
theorem dX10_write_27 : decode cX10_write 27 = .ok (.ireturn, 1) := by decide +kernel
theorem dX10_write_28 : decode cX10_write 28 = .ok (.iconst 0, 1) := by decide +kernel
theorem dX10_write_29 : decode cX10_write 29 = .ok (.istore 4, 2) := by decide +kernel
theorem dX10_write_31 : decode cX10_write 31 = .ok (.iload 4, 2) := by decide +kernel
theorem dX10_write_33 : decode cX10_write 33 = .ok (.iload_n 3, 1) := by decide +kernel
theorem dX10_write_34 : decode cX10_write 34 = .ok (.if_icmp .ge 33, 3) := by decide +kernel
theorem dX10_write_37 : decode cX10_write 37 = .ok (.aload_n 0, 1) := by decide +kernel
theorem dX10_write_38 : decode cX10_write 38 = .ok (.getfield 47, 3) := by decide +kernel
theorem dX10_write_41 : decode cX10_write 41 = .ok (.aload_n 0, 1) := by decide +kernel
theorem dX10_write_42 : decode cX10_write 42 = .ok (.getfield 97, 3) := by decide +kernel
theorem dX10_write_45 : decode cX10_write 45 = .ok (.iload 4, 2) := by decide +kernel
theorem dX10_write_47 : decode cX10_write 47 = .ok (.iadd, 1) := by decide +kernel
theorem dX10_write_48 : decode cX10_write 48 = .ok (.lload_n 1, 1) := by decide +kernel
theorem dX10_write_49 : decode cX10_write 49 = .ok (.bipush 8, 2) := by decide +kernel
theorem dX10_write_51 : decode cX10_write 51 = .ok (.iload 4, 2) := by decide +kernel
theorem dX10_write_53 : decode cX10_write 53 = .ok (.imul, 1) := by decide +kernel
theorem dX10_write_54 : decode cX10_write 54 = .ok (.lshr, 1) := by decide +kernel
theorem dX10_write_55 : decode cX10_write 55 = .ok (.ldc2_w 100, 3) := by decide +kernel
theorem dX10_write_58 : decode cX10_write 58 = .ok (.land, 1) := by decide +kernel
theorem dX10_write_59 : decode cX10_write 59 = .ok (.l2i, 1) := by decide +kernel
theorem dX10_write_60 : decode cX10_write 60 = .ok (.iastore, 1) := by decide +kernel
theorem dX10_write_61 : decode cX10_write 61 = .ok (.iinc 4 1, 3) := by decide +kernel
theorem dX10_write_64 : decode cX10_write 64 = .ok (.goto (-33), 3) := by decide +kernel
theorem dX10_write_67 : decode cX10_write 67 = .ok (.aload_n 0, 1) := by decide +kernel
theorem dX10_write_68 : decode cX10_write 68 = .ok (.dup, 1) := by decide +kernel
theorem dX10_write_69 : decode cX10_write 69 = .ok (.getfield 97, 3) := by decide +kernel
theorem dX10_write_72 : decode cX10_write 72 = .ok (.iload_n 3, 1) := by decide +kernel
theorem dX10_write_73 : decode cX10_write 73 = .ok (.iadd, 1) := by decide +kernel
theorem dX10_write_74 : decode cX10_write 74 = .ok (.putfield 97, 3) := by decide +kernel
theorem dX10_write_77 : decode cX10_write 77 = .ok (.aload_n 0, 1) := by decide +kernel
theorem dX10_write_78 : decode cX10_write 78 = .ok (.getfield 97, 3) := by decide +kernel
theorem dX10_write_81 : decode cX10_write 81 = .ok (.ireturn, 1) := by decide +kernel
theorem dX10_erase_0 : decode cX10_erase 0 = .ok (.aload_n 0, 1) := by decide +kernel
theorem dX10_erase_1 : decode cX10_erase 1 = .ok (.getfield 97, 3) := by decide +kernel
theorem dX10_erase_4 : decode cX10_erase 4 = .ok (.istore_n 1, 1) := by decide +kernel
theorem dX10_erase_5 : decode cX10_erase 5 = .ok (.aload_n 0, 1) := by decide +kernel
theorem dX10_erase_6 : decode cX10_erase 6 = .ok (.iconst 0, 1) := by decide +kernel
theorem dX10_erase_7 : decode cX10_erase 7 = .ok (.putfield 97, 3) := by decide +kernel
theorem dX10_erase_10 : decode cX10_erase 10 = .ok (.iload_n 1, 1) := by decide +kernel
theorem dX10_erase_11 : decode cX10_erase 11 = .ok (.ireturn, 1) := by decide +kernel
theorem dX10_nextToken_0 : decode cX10_nextToken 0 = .ok (.aload_n 0, 1) := by decide +kernel
theorem dX10_nextToken_1 : decode cX10_nextToken 1 = .ok (.getfield 102, 3) := by decide +kernel
theorem dX10_nextToken_4 : decode cX10_nextToken 4 = .ok (.aload_n 0, 1) := by decide +kernel
theorem dX10_nextToken_5 : decode cX10_nextToken 5 = .ok (.getfield 97, 3) := by decide +kernel
theorem dX10_nextToken_8 : decode cX10_nextToken 8 = .ok (.if_icmp .ge 30, 3) := by decide +kernel
theorem dX10_nextToken_11 : decode cX10_nextToken 11 = .ok (.aload_n 0, 1) := by decide +kernel
theorem dX10_nextToken_12 : decode cX10_nextToken 12 = .ok (.getfield 47, 3) := by decide +kernel
theorem dX10_nextToken_15 : decode cX10_nextToken 15 = .ok (.aload_n 0, 1) := by decide +kernel
theorem dX10_nextToken_16 : decode cX10_nextToken 16 = .ok (.getfield 102, 3) := by decide +kernel
theorem dX10_nextToken_19 : decode cX10_nextToken 19 = .ok (.iaload, 1) := by decide +kernel
theorem dX10_nextToken_20 : decode cX10_nextToken 20 = .ok (.bipush 32, 2) := by decide +kernel
theorem dX10_nextToken_22 : decode cX10_nextToken 22 = .ok (.if_icmp .ne 16, 3) := by decide +kernel
theorem dX10_nextToken_25 : decode cX10_nextToken 25 = .ok (.aload_n 0, 1) := by decide +kernel
theorem dX10_nextToken_26 : decode cX10_nextToken 26 = .ok (.dup, 1) := by decide +kernel
theorem dX10_nextToken_27 : decode cX10_nextToken 27 = .ok (.getfield 102, 3) := by decide +kernel
theorem dX10_nextToken_30 : decode cX10_nextToken 30 = .ok (.iconst 1, 1) := by decide +kernel
theorem dX10_nextToken_31 : decode cX10_nextToken 31 = .ok (.iadd, 1) := by decide +kernel
theorem dX10_nextToken_32 : decode cX10_nextToken 32 = .ok (.putfield 102, 3) := by decide +kernel
theorem dX10_nextToken_35 : decode cX10_nextToken 35 = .ok (.goto (-35), 3) := by decide +kernel
theorem dX10_nextToken_38 : decode cX10_nextToken 38 = .ok (.aload_n 0, 1) := by decide +kernel
theorem dX10_nextToken_39 : decode cX10_nextToken 39 = .ok (.aload_n 0, 1) := by decide +kernel
theorem dX10_nextToken_40 : decode cX10_nextToken 40 = .ok (.getfield 102, 3) := by decide +kernel
theorem dX10_nextToken_43 : decode cX10_nextToken 43 = .ok (.putfield 105, 3) := by decide +kernel
theorem dX10_nextToken_46 : decode cX10_nextToken 46 = .ok (.aload_n 0, 1) := by decide +kernel
theorem dX10_nextToken_47 : decode cX10_nextToken 47 = .ok (.iconst 0, 1) := by decide +kernel
theorem dX10_nextToken_48 : decode cX10_nextToken 48 = .ok (.putfield 108, 3) := by decide +kernel
theorem dX10_nextToken_51 : decode cX10_nextToken 51 = .ok (.aload_n 0, 1) := by decide +kernel
theorem dX10_nextToken_52 : decode cX10_nextToken 52 = .ok (.iconst 0, 1) := by decide +kernel
theorem dX10_nextToken_53 : decode cX10_nextToken 53 = .ok (.putfield 111, 3) := by decide +kernel
theorem dX10_nextToken_56 : decode cX10_nextToken 56 = .ok (.aload_n 0, 1) := by decide +kernel
theorem dX10_nextToken_57 : decode cX10_nextToken 57 = .ok (.getfield 102, 3) := by decide +kernel
theorem dX10_nextToken_60 : decode cX10_nextToken 60 = .ok (.aload_n 0, 1) := by decide +kernel
theorem dX10_nextToken_61 : decode cX10_nextToken 61 = .ok (.getfield 97, 3) := by decide +kernel
theorem dX10_nextToken_64 : decode cX10_nextToken 64 = .ok (.if_icmp .ne 13, 3) := by decide +kernel
theorem dX10_nextToken_67 : decode cX10_nextToken 67 = .ok (.aload_n 0, 1) := by decide +kernel
theorem dX10_nextToken_68 : decode cX10_nextToken 68 = .ok (.ldc2_w 114, 3) := by decide +kernel
theorem dX10_nextToken_71 : decode cX10_nextToken 71 = .ok (.putfield 116, 3) := by decide +kernel
theorem dX10_nextToken_74 : decode cX10_nextToken 74 = .ok (.goto 320, 3) := by decide +kernel
theorem dX10_nextToken_77 : decode cX10_nextToken 77 = .ok (.aload_n 0, 1) := by decide +kernel
theorem dX10_nextToken_78 : decode cX10_nextToken 78 = .ok (.getfield 47, 3) := by decide +kernel
theorem dX10_nextToken_81 : decode cX10_nextToken 81 = .ok (.aload_n 0, 1) := by decide +kernel
theorem dX10_nextToken_82 : decode cX10_nextToken 82 = .ok (.getfield 102, 3) := by decide +kernel
theorem dX10_nextToken_85 : decode cX10_nextToken 85 = .ok (.iaload, 1) := by decide +kernel
theorem dX10_nextToken_86 : decode cX10_nextToken 86 = .ok (.bipush 97, 2) := by decide +kernel
theorem dX10_nextToken_88 : decode cX10_nextToken 88 = .ok (.bipush 122, 2) := by decide +kernel
theorem dX10_nextToken_90 : decode cX10_nextToken 90 = .ok (.invokestatic 86, 3) := by decide +kernel
theorem dX10_nextToken_93 : decode cX10_nextToken 93 = .ok (.ifCond .eq 129, 3) := by decide +kernel
theorem dX10_nextToken_96 : decode cX10_nextToken 96 = .ok (.aload_n 0, 1) := by decide +kernel
theorem dX10_nextToken_97 : decode cX10_nextToken 97 = .ok (.lconst 0, 1) := by decide +kernel
theorem dX10_nextToken_98 : decode cX10_nextToken 98 = .ok (.putfield 116, 3) := by decide +kernel
theorem dX10_nextToken_101 : decode cX10_nextToken 101 = .ok (.aload_n 0, 1) := by decide +kernel
theorem dX10_nextToken_102 : decode cX10_nextToken 102 = .ok (.getfield 102, 3) := by decide +kernel
theorem dX10_nextToken_105 : decode cX10_nextToken 105 = .ok (.aload_n 0, 1) := by decide +kernel
theorem dX10_nextToken_106 : decode cX10_nextToken 106 = .ok (.getfield 97, 3) := by decide +kernel
theorem dX10_nextToken_109 : decode cX10_nextToken 109 = .ok (.if_icmp .ge 82, 3) := by decide +kernel
theorem dX10_nextToken_112 : decode cX10_nextToken 112 = .ok (.aload_n 0, 1) := by decide +kernel
theorem dX10_nextToken_113 : decode cX10_nextToken 113 = .ok (.getfield 47, 3) := by decide +kernel
theorem dX10_nextToken_116 : decode cX10_nextToken 116 = .ok (.aload_n 0, 1) := by decide +kernel
theorem dX10_nextToken_117 : decode cX10_nextToken 117 = .ok (.getfield 102, 3) := by decide +kernel
theorem dX10_nextToken_120 : decode cX10_nextToken 120 = .ok (.iaload, 1) := by decide +kernel
theorem dX10_nextToken_121 : decode cX10_nextToken 121 = .ok (.bipush 97, 2) := by decide +kernel
theorem dX10_nextToken_123 : decode cX10_nextToken 123 = .ok (.bipush 122, 2) := by decide +kernel
theorem dX10_nextToken_125 : decode cX10_nextToken 125 = .ok (.invokestatic 86, 3) := by decide +kernel
theorem dX10_nextToken_128 : decode cX10_nextToken 128 = .ok (.ifCond .eq 63, 3) := by decide +kernel
theorem dX10_nextToken_131 : decode cX10_nextToken 131 = .ok (.aload_n 0, 1) := by decide +kernel
theorem dX10_nextToken_132 : decode cX10_nextToken 132 = .ok (.aload_n 0, 1) := by decide +kernel
theorem dX10_nextToken_133 : decode cX10_nextToken 133 = .ok (.getfield 102, 3) := by decide +kernel
theorem dX10_nextToken_136 : decode cX10_nextToken 136 = .ok (.aload_n 0, 1) := by decide +kernel
theorem dX10_nextToken_137 : decode cX10_nextToken 137 = .ok (.getfield 105, 3) := by decide +kernel
theorem dX10_nextToken_140 : decode cX10_nextToken 140 = .ok (.isub, 1) := by decide +kernel
theorem dX10_nextToken_141 : decode cX10_nextToken 141 = .ok (.bipush 9, 2) := by decide +kernel
theorem dX10_nextToken_143 : decode cX10_nextToken 143 = .ok (.if_icmp .ge 29, 3) := by decide +kernel
theorem dX10_nextToken_146 : decode cX10_nextToken 146 = .ok (.ldc2_w 120, 3) := by decide +kernel
theorem dX10_nextToken_149 : decode cX10_nextToken 149 = .ok (.aload_n 0, 1) := by decide +kernel
theorem dX10_nextToken_150 : decode cX10_nextToken 150 = .ok (.getfield 116, 3) := by decide +kernel
theorem dX10_nextToken_153 : decode cX10_nextToken 153 = .ok (.lmul, 1) := by decide +kernel
theorem dX10_nextToken_154 : decode cX10_nextToken 154 = .ok (.aload_n 0, 1) := by decide +kernel
theorem dX10_nextToken_155 : decode cX10_nextToken 155 = .ok (.getfield 47, 3) := by decide +kernel
theorem dX10_nextToken_158 : decode cX10_nextToken 158 = .ok (.aload_n 0, 1) := by decide +kernel
theorem dX10_nextToken_159 : decode cX10_nextToken 159 = .ok (.getfield 102, 3) := by decide +kernel
theorem dX10_nextToken_162 : decode cX10_nextToken 162 = .ok (.iaload, 1) := by decide +kernel
theorem dX10_nextToken_163 : decode cX10_nextToken 163 = .ok (.i2l, 1) := by decide +kernel
theorem dX10_nextToken_164 : decode cX10_nextToken 164 = .ok (.ladd, 1) := by decide +kernel
theorem dX10_nextToken_165 : decode cX10_nextToken 165 = .ok (.ldc2_w 122, 3) := by decide +kernel
theorem dX10_nextToken_168 : decode cX10_nextToken 168 = .ok (.lsub, 1) := by decide +kernel
theorem dX10_nextToken_169 : decode cX10_nextToken 169 = .ok (.goto 6, 3) := by decide +kernel
theorem dX10_nextToken_172 : decode cX10_nextToken 172 = .ok (.ldc2_w 124, 3) := by decide +kernel
theorem dX10_nextToken_175 : decode cX10_nextToken 175 = .ok (.putfield 116, 3) := by decide +kernel
theorem dX10_nextToken_178 : decode cX10_nextToken 178 = .ok (.aload_n 0, 1) := by decide +kernel
theorem dX10_nextToken_179 : decode cX10_nextToken 179 = .ok (.dup, 1) := by decide +kernel
theorem dX10_nextToken_180 : decode cX10_nextToken 180 = .ok (.getfield 102, 3) := by decide +kernel
theorem dX10_nextToken_183 : decode cX10_nextToken 183 = .ok (.iconst 1, 1) := by decide +kernel
theorem dX10_nextToken_184 : decode cX10_nextToken 184 = .ok (.iadd, 1) := by decide +kernel
theorem dX10_nextToken_185 : decode cX10_nextToken 185 = .ok (.putfield 102, 3) := by decide +kernel
theorem dX10_nextToken_188 : decode cX10_nextToken 188 = .ok (.goto (-87), 3) := by decide +kernel
theorem dX10_nextToken_191 : decode cX10_nextToken 191 = .ok (.aload_n 0, 1) := by decide +kernel
theorem dX10_nextToken_192 : decode cX10_nextToken 192 = .ok (.aload_n 0, 1) := by decide +kernel
theorem dX10_nextToken_193 : decode cX10_nextToken 193 = .ok (.getfield 102, 3) := by decide +kernel
theorem dX10_nextToken_196 : decode cX10_nextToken 196 = .ok (.aload_n 0, 1) := by decide +kernel
theorem dX10_nextToken_197 : decode cX10_nextToken 197 = .ok (.getfield 105, 3) := by decide +kernel
theorem dX10_nextToken_200 : decode cX10_nextToken 200 = .ok (.isub, 1) := by decide +kernel
theorem dX10_nextToken_201 : decode cX10_nextToken 201 = .ok (.bipush 9, 2) := by decide +kernel
theorem dX10_nextToken_203 : decode cX10_nextToken 203 = .ok (.if_icmp .le 9, 3) := by decide +kernel
theorem dX10_nextToken_206 : decode cX10_nextToken 206 = .ok (.ldc2_w 124, 3) := by decide +kernel
theorem dX10_nextToken_209 : decode cX10_nextToken 209 = .ok (.goto 7, 3) := by decide +kernel
theorem dX10_nextToken_212 : decode cX10_nextToken 212 = .ok (.aload_n 0, 1) := by decide +kernel
theorem dX10_nextToken_213 : decode cX10_nextToken 213 = .ok (.getfield 116, 3) := by decide +kernel
theorem dX10_nextToken_216 : decode cX10_nextToken 216 = .ok (.putfield 116, 3) := by decide +kernel
theorem dX10_nextToken_219 : decode cX10_nextToken 219 = .ok (.goto 175, 3) := by decide +kernel
theorem dX10_nextToken_222 : decode cX10_nextToken 222 = .ok (.aload_n 0, 1) := by decide +kernel
theorem dX10_nextToken_223 : decode cX10_nextToken 223 = .ok (.getfield 47, 3) := by decide +kernel
theorem dX10_nextToken_226 : decode cX10_nextToken 226 = .ok (.aload_n 0, 1) := by decide +kernel
theorem dX10_nextToken_227 : decode cX10_nextToken 227 = .ok (.getfield 102, 3) := by decide +kernel
theorem dX10_nextToken_230 : decode cX10_nextToken 230 = .ok (.iaload, 1) := by decide +kernel
theorem dX10_nextToken_231 : decode cX10_nextToken 231 = .ok (.bipush 48, 2) := by decide +kernel
theorem dX10_nextToken_233 : decode cX10_nextToken 233 = .ok (.bipush 57, 2) := by decide +kernel
theorem dX10_nextToken_235 : decode cX10_nextToken 235 = .ok (.invokestatic 86, 3) := by decide +kernel
theorem dX10_nextToken_238 : decode cX10_nextToken 238 = .ok (.ifCond .eq 119, 3) := by decide +kernel
theorem dX10_nextToken_241 : decode cX10_nextToken 241 = .ok (.aload_n 0, 1) := by decide +kernel
theorem dX10_nextToken_242 : decode cX10_nextToken 242 = .ok (.getfield 102, 3) := by decide +kernel
theorem dX10_nextToken_245 : decode cX10_nextToken 245 = .ok (.aload_n 0, 1) := by decide +kernel
theorem dX10_nextToken_246 : decode cX10_nextToken 246 = .ok (.getfield 97, 3) := by decide +kernel
theorem dX10_nextToken_249 : decode cX10_nextToken 249 = .ok (.if_icmp .ge 84, 3) := by decide +kernel
theorem dX10_nextToken_252 : decode cX10_nextToken 252 = .ok (.aload_n 0, 1) := by decide +kernel
theorem dX10_nextToken_253 : decode cX10_nextToken 253 = .ok (.getfield 47, 3) := by decide +kernel
theorem dX10_nextToken_256 : decode cX10_nextToken 256 = .ok (.aload_n 0, 1) := by decide +kernel
theorem dX10_nextToken_257 : decode cX10_nextToken 257 = .ok (.getfield 102, 3) := by decide +kernel
theorem dX10_nextToken_260 : decode cX10_nextToken 260 = .ok (.iaload, 1) := by decide +kernel
theorem dX10_nextToken_261 : decode cX10_nextToken 261 = .ok (.bipush 48, 2) := by decide +kernel
theorem dX10_nextToken_263 : decode cX10_nextToken 263 = .ok (.bipush 57, 2) := by decide +kernel
theorem dX10_nextToken_265 : decode cX10_nextToken 265 = .ok (.invokestatic 86, 3) := by decide +kernel
theorem dX10_nextToken_268 : decode cX10_nextToken 268 = .ok (.ifCond .eq 65, 3) := by decide +kernel
theorem dX10_nextToken_271 : decode cX10_nextToken 271 = .ok (.aload_n 0, 1) := by decide +kernel
theorem dX10_nextToken_272 : decode cX10_nextToken 272 = .ok (.aload_n 0, 1) := by decide +kernel
theorem dX10_nextToken_273 : decode cX10_nextToken 273 = .ok (.getfield 108, 3) := by decide +kernel
theorem dX10_nextToken_276 : decode cX10_nextToken 276 = .ok (.iconst 4, 1) := by decide +kernel
theorem dX10_nextToken_277 : decode cX10_nextToken 277 = .ok (.if_icmp .ge 26, 3) := by decide +kernel
theorem dX10_nextToken_280 : decode cX10_nextToken 280 = .ok (.bipush 10, 2) := by decide +kernel
theorem dX10_nextToken_282 : decode cX10_nextToken 282 = .ok (.aload_n 0, 1) := by decide +kernel
theorem dX10_nextToken_283 : decode cX10_nextToken 283 = .ok (.getfield 111, 3) := by decide +kernel
theorem dX10_nextToken_286 : decode cX10_nextToken 286 = .ok (.imul, 1) := by decide +kernel
theorem dX10_nextToken_287 : decode cX10_nextToken 287 = .ok (.aload_n 0, 1) := by decide +kernel
theorem dX10_nextToken_288 : decode cX10_nextToken 288 = .ok (.getfield 47, 3) := by decide +kernel
theorem dX10_nextToken_291 : decode cX10_nextToken 291 = .ok (.aload_n 0, 1) := by decide +kernel
theorem dX10_nextToken_292 : decode cX10_nextToken 292 = .ok (.getfield 102, 3) := by decide +kernel
theorem dX10_nextToken_295 : decode cX10_nextToken 295 = .ok (.iaload, 1) := by decide +kernel
theorem dX10_nextToken_296 : decode cX10_nextToken 296 = .ok (.iadd, 1) := by decide +kernel
theorem dX10_nextToken_297 : decode cX10_nextToken 297 = .ok (.bipush 48, 2) := by decide +kernel
theorem dX10_nextToken_299 : decode cX10_nextToken 299 = .ok (.isub, 1) := by decide +kernel
theorem dX10_nextToken_300 : decode cX10_nextToken 300 = .ok (.goto 7, 3) := by decide +kernel
theorem dX10_nextToken_303 : decode cX10_nextToken 303 = .ok (.aload_n 0, 1) := by decide +kernel
theorem dX10_nextToken_304 : decode cX10_nextToken 304 = .ok (.getfield 111, 3) := by decide +kernel
theorem dX10_nextToken_307 : decode cX10_nextToken 307 = .ok (.putfield 111, 3) := by decide +kernel
theorem dX10_nextToken_310 : decode cX10_nextToken 310 = .ok (.aload_n 0, 1) := by decide +kernel
theorem dX10_nextToken_311 : decode cX10_nextToken 311 = .ok (.dup, 1) := by decide +kernel
theorem dX10_nextToken_312 : decode cX10_nextToken 312 = .ok (.getfield 108, 3) := by decide +kernel
theorem dX10_nextToken_315 : decode cX10_nextToken 315 = .ok (.iconst 1, 1) := by decide +kernel
theorem dX10_nextToken_316 : decode cX10_nextToken 316 = .ok (.iadd, 1) := by decide +kernel
theorem dX10_nextToken_317 : decode cX10_nextToken 317 = .ok (.putfield 108, 3) := by decide +kernel
theorem dX10_nextToken_320 : decode cX10_nextToken 320 = .ok (.aload_n 0, 1) := by decide +kernel
theorem dX10_nextToken_321 : decode cX10_nextToken 321 = .ok (.dup, 1) := by decide +kernel
theorem dX10_nextToken_322 : decode cX10_nextToken 322 = .ok (.getfield 102, 3) := by decide +kernel
theorem dX10_nextToken_325 : decode cX10_nextToken 325 = .ok (.iconst 1, 1) := by decide +kernel
theorem dX10_nextToken_326 : decode cX10_nextToken 326 = .ok (.iadd, 1) := by decide +kernel
theorem dX10_nextToken_327 : decode cX10_nextToken 327 = .ok (.putfield 102, 3) := by decide +kernel
theorem dX10_nextToken_330 : decode cX10_nextToken 330 = .ok (.goto (-89), 3) := by decide +kernel
theorem dX10_nextToken_333 : decode cX10_nextToken 333 = .ok (.aload_n 0, 1) := by decide +kernel
theorem dX10_nextToken_334 : decode cX10_nextToken 334 = .ok (.aload_n 0, 1) := by decide +kernel
theorem dX10_nextToken_335 : decode cX10_nextToken 335 = .ok (.getfield 108, 3) := by decide +kernel
theorem dX10_nextToken_338 : decode cX10_nextToken 338 = .ok (.iconst 4, 1) := by decide +kernel
theorem dX10_nextToken_339 : decode cX10_nextToken 339 = .ok (.if_icmp .le 9, 3) := by decide +kernel
theorem dX10_nextToken_342 : decode cX10_nextToken 342 = .ok (.ldc2_w 124, 3) := by decide +kernel
theorem dX10_nextToken_345 : decode cX10_nextToken 345 = .ok (.goto 6, 3) := by decide +kernel
theorem dX10_nextToken_348 : decode cX10_nextToken 348 = .ok (.ldc2_w 126, 3) := by decide +kernel
theorem dX10_nextToken_351 : decode cX10_nextToken 351 = .ok (.putfield 116, 3) := by decide +kernel
theorem dX10_nextToken_354 : decode cX10_nextToken 354 = .ok (.goto 40, 3) := by decide +kernel
theorem dX10_nextToken_357 : decode cX10_nextToken 357 = .ok (.aload_n 0, 1) := by decide +kernel
theorem dX10_nextToken_358 : decode cX10_nextToken 358 = .ok (.aload_n 0, 1) := by decide +kernel
theorem dX10_nextToken_359 : decode cX10_nextToken 359 = .ok (.getfield 47, 3) := by decide +kernel
theorem dX10_nextToken_362 : decode cX10_nextToken 362 = .ok (.aload_n 0, 1) := by decide +kernel
theorem dX10_nextToken_363 : decode cX10_nextToken 363 = .ok (.getfield 102, 3) := by decide +kernel
theorem dX10_nextToken_366 : decode cX10_nextToken 366 = .ok (.iaload, 1) := by decide +kernel
theorem dX10_nextToken_367 : decode cX10_nextToken 367 = .ok (.bipush 59, 2) := by decide +kernel
theorem dX10_nextToken_369 : decode cX10_nextToken 369 = .ok (.if_icmp .ne 9, 3) := by decide +kernel
theorem dX10_nextToken_372 : decode cX10_nextToken 372 = .ok (.ldc2_w 128, 3) := by decide +kernel
theorem dX10_nextToken_375 : decode cX10_nextToken 375 = .ok (.goto 6, 3) := by decide +kernel
theorem dX10_nextToken_378 : decode cX10_nextToken 378 = .ok (.ldc2_w 124, 3) := by decide +kernel
theorem dX10_nextToken_381 : decode cX10_nextToken 381 = .ok (.putfield 116, 3) := by decide +kernel
theorem dX10_nextToken_384 : decode cX10_nextToken 384 = .ok (.aload_n 0, 1) := by decide +kernel
theorem dX10_nextToken_385 : decode cX10_nextToken 385 = .ok (.dup, 1) := by decide +kernel
theorem dX10_nextToken_386 : decode cX10_nextToken 386 = .ok (.getfield 102, 3) := by decide +kernel
theorem dX10_nextToken_389 : decode cX10_nextToken 389 = .ok (.iconst 1, 1) := by decide +kernel
theorem dX10_nextToken_390 : decode cX10_nextToken 390 = .ok (.iadd, 1) := by decide +kernel
theorem dX10_nextToken_391 : decode cX10_nextToken 391 = .ok (.putfield 102, 3) := by decide +kernel
theorem dX10_nextToken_394 : decode cX10_nextToken 394 = .ok (.return_, 1) := by decide +kernel
theorem dX10_fails_0 : decode cX10_fails 0 = .ok (.aload_n 0, 1) := by decide +kernel
theorem dX10_fails_1 : decode cX10_fails 1 = .ok (.aload_n 0, 1) := by decide +kernel
theorem dX10_fails_2 : decode cX10_fails 2 = .ok (.getfield 105, 3) := by decide +kernel
theorem dX10_fails_5 : decode cX10_fails 5 = .ok (.putfield 130, 3) := by decide +kernel
theorem dX10_fails_8 : decode cX10_fails 8 = .ok (.iconst 0, 1) := by decide +kernel
theorem dX10_fails_9 : decode cX10_fails 9 = .ok (.ireturn, 1) := by decide +kernel
theorem dX10_isNumber_0 : decode cX10_isNumber 0 = .ok (.aload_n 0, 1) := by decide +kernel
theorem dX10_isNumber_1 : decode cX10_isNumber 1 = .ok (.invokevirtual 133, 3) := by decide +kernel
theorem dX10_isNumber_4 : decode cX10_isNumber 4 = .ok (.aload_n 0, 1) := by decide +kernel
theorem dX10_isNumber_5 : decode cX10_isNumber 5 = .ok (.getfield 116, 3) := by decide +kernel
theorem dX10_isNumber_8 : decode cX10_isNumber 8 = .ok (.ldc2_w 126, 3) := by decide +kernel
theorem dX10_isNumber_11 : decode cX10_isNumber 11 = .ok (.lcmp, 1) := by decide +kernel
theorem dX10_isNumber_12 : decode cX10_isNumber 12 = .ok (.ifCond .ne 15, 3) := by decide +kernel
theorem dX10_isNumber_15 : decode cX10_isNumber 15 = .ok (.aload_n 0, 1) := by decide +kernel
theorem dX10_isNumber_16 : decode cX10_isNumber 16 = .ok (.getfield 111, 3) := by decide +kernel
theorem dX10_isNumber_19 : decode cX10_isNumber 19 = .ok (.iload_n 2, 1) := by decide +kernel
theorem dX10_isNumber_20 : decode cX10_isNumber 20 = .ok (.iload_n 3, 1) := by decide +kernel
theorem dX10_isNumber_21 : decode cX10_isNumber 21 = .ok (.invokestatic 86, 3) := by decide +kernel
theorem dX10_isNumber_24 : decode cX10_isNumber 24 = .ok (.ifCond .ne 8, 3) := by decide +kernel
theorem dX10_isNumber_27 : decode cX10_isNumber 27 = .ok (.aload_n 0, 1) := by decide +kernel
theorem dX10_isNumber_28 : decode cX10_isNumber 28 = .ok (.invokevirtual 136, 3) := by decide +kernel
theorem dX10_isNumber_31 : decode cX10_isNumber 31 = .ok (.ireturn, 1) := by decide +kernel
theorem dX10_isNumber_32 : decode cX10_isNumber 32 = .ok (.aload_n 0, 1) := by decide +kernel
theorem dX10_isNumber_33 : decode cX10_isNumber 33 = .ok (.getfield 50, 3) := by decide +kernel
theorem dX10_isNumber_36 : decode cX10_isNumber 36 = .ok (.iload_n 1, 1) := by decide +kernel
theorem dX10_isNumber_37 : decode cX10_isNumber 37 = .ok (.aload_n 0, 1) := by decide +kernel
theorem dX10_isNumber_38 : decode cX10_isNumber 38 = .ok (.getfield 111, 3) := by decide +kernel
theorem dX10_isNumber_41 : decode cX10_isNumber 41 = .ok (.iastore, 1) := by decide +kernel
theorem dX10_isNumber_42 : decode cX10_isNumber 42 = .ok (.iconst 1, 1) := by decide +kernel
theorem dX10_isNumber_43 : decode cX10_isNumber 43 = .ok (.ireturn, 1) := by decide +kernel
theorem dX10_isOneOf_0 : decode cX10_isOneOf 0 = .ok (.aload_n 0, 1) := by decide +kernel
theorem dX10_isOneOf_1 : decode cX10_isOneOf 1 = .ok (.invokevirtual 133, 3) := by decide +kernel
theorem dX10_isOneOf_4 : decode cX10_isOneOf 4 = .ok (.aload_n 0, 1) := by decide +kernel
theorem dX10_isOneOf_5 : decode cX10_isOneOf 5 = .ok (.getfield 50, 3) := by decide +kernel
theorem dX10_isOneOf_8 : decode cX10_isOneOf 8 = .ok (.iload_n 1, 1) := by decide +kernel
theorem dX10_isOneOf_9 : decode cX10_isOneOf 9 = .ok (.aload_n 0, 1) := by decide +kernel
theorem dX10_isOneOf_10 : decode cX10_isOneOf 10 = .ok (.getfield 116, 3) := by decide +kernel
theorem dX10_isOneOf_13 : decode cX10_isOneOf 13 = .ok (.lload_n 2, 1) := by decide +kernel
theorem dX10_isOneOf_14 : decode cX10_isOneOf 14 = .ok (.lcmp, 1) := by decide +kernel
theorem dX10_isOneOf_15 : decode cX10_isOneOf 15 = .ok (.ifCond .ne 7, 3) := by decide +kernel
theorem dX10_isOneOf_18 : decode cX10_isOneOf 18 = .ok (.iconst 0, 1) := by decide +kernel
theorem dX10_isOneOf_19 : decode cX10_isOneOf 19 = .ok (.goto 4, 3) := by decide +kernel
theorem dX10_isOneOf_22 : decode cX10_isOneOf 22 = .ok (.iconst 1, 1) := by decide +kernel
theorem dX10_isOneOf_23 : decode cX10_isOneOf 23 = .ok (.iastore, 1) := by decide +kernel
theorem dX10_isOneOf_24 : decode cX10_isOneOf 24 = .ok (.aload_n 0, 1) := by decide +kernel
theorem dX10_isOneOf_25 : decode cX10_isOneOf 25 = .ok (.getfield 116, 3) := by decide +kernel
theorem dX10_isOneOf_28 : decode cX10_isOneOf 28 = .ok (.lload_n 2, 1) := by decide +kernel
theorem dX10_isOneOf_29 : decode cX10_isOneOf 29 = .ok (.lcmp, 1) := by decide +kernel
theorem dX10_isOneOf_30 : decode cX10_isOneOf 30 = .ok (.ifCond .eq 20, 3) := by decide +kernel
theorem dX10_isOneOf_33 : decode cX10_isOneOf 33 = .ok (.aload_n 0, 1) := by decide +kernel
theorem dX10_isOneOf_34 : decode cX10_isOneOf 34 = .ok (.getfield 116, 3) := by decide +kernel
theorem dX10_isOneOf_37 : decode cX10_isOneOf 37 = .ok (.lload 4, 2) := by decide +kernel
theorem dX10_isOneOf_39 : decode cX10_isOneOf 39 = .ok (.lcmp, 1) := by decide +kernel
theorem dX10_isOneOf_40 : decode cX10_isOneOf 40 = .ok (.ifCond .eq 10, 3) := by decide +kernel
theorem dX10_isOneOf_43 : decode cX10_isOneOf 43 = .ok (.aload_n 0, 1) := by decide +kernel
theorem dX10_isOneOf_44 : decode cX10_isOneOf 44 = .ok (.invokevirtual 136, 3) := by decide +kernel
theorem dX10_isOneOf_47 : decode cX10_isOneOf 47 = .ok (.ifCond .eq 7, 3) := by decide +kernel
theorem dX10_isOneOf_50 : decode cX10_isOneOf 50 = .ok (.iconst 1, 1) := by decide +kernel
theorem dX10_isOneOf_51 : decode cX10_isOneOf 51 = .ok (.goto 4, 3) := by decide +kernel
theorem dX10_isOneOf_54 : decode cX10_isOneOf 54 = .ok (.iconst 0, 1) := by decide +kernel
theorem dX10_isOneOf_55 : decode cX10_isOneOf 55 = .ok (.ireturn, 1) := by decide +kernel
theorem dX10_isBundleLine_0 : decode cX10_isBundleLine 0 = .ok (.aload_n 0, 1) := by decide +kernel
theorem dX10_isBundleLine_1 : decode cX10_isBundleLine 1 = .ok (.iload_n 1, 1) := by decide +kernel
theorem dX10_isBundleLine_2 : decode cX10_isBundleLine 2 = .ok (.iconst 1, 1) := by decide +kernel
theorem dX10_isBundleLine_3 : decode cX10_isBundleLine 3 = .ok (.iadd, 1) := by decide +kernel
theorem dX10_isBundleLine_4 : decode cX10_isBundleLine 4 = .ok (.iconst 0, 1) := by decide +kernel
theorem dX10_isBundleLine_5 : decode cX10_isBundleLine 5 = .ok (.bipush 7, 2) := by decide +kernel
theorem dX10_isBundleLine_7 : decode cX10_isBundleLine 7 = .ok (.invokevirtual 140, 3) := by decide +kernel
theorem dX10_isBundleLine_10 : decode cX10_isBundleLine 10 = .ok (.ifCond .eq 138, 3) := by decide +kernel
theorem dX10_isBundleLine_13 : decode cX10_isBundleLine 13 = .ok (.aload_n 0, 1) := by decide +kernel
theorem dX10_isBundleLine_14 : decode cX10_isBundleLine 14 = .ok (.iload_n 1, 1) := by decide +kernel
theorem dX10_isBundleLine_15 : decode cX10_isBundleLine 15 = .ok (.iconst 2, 1) := by decide +kernel
theorem dX10_isBundleLine_16 : decode cX10_isBundleLine 16 = .ok (.iadd, 1) := by decide +kernel
theorem dX10_isBundleLine_17 : decode cX10_isBundleLine 17 = .ok (.iconst 0, 1) := by decide +kernel
theorem dX10_isBundleLine_18 : decode cX10_isBundleLine 18 = .ok (.sipush 999, 3) := by decide +kernel
theorem dX10_isBundleLine_21 : decode cX10_isBundleLine 21 = .ok (.invokevirtual 140, 3) := by decide +kernel
theorem dX10_isBundleLine_24 : decode cX10_isBundleLine 24 = .ok (.ifCond .eq 124, 3) := by decide +kernel
theorem dX10_isBundleLine_27 : decode cX10_isBundleLine 27 = .ok (.aload_n 0, 1) := by decide +kernel
theorem dX10_isBundleLine_28 : decode cX10_isBundleLine 28 = .ok (.iload_n 1, 1) := by decide +kernel
theorem dX10_isBundleLine_29 : decode cX10_isBundleLine 29 = .ok (.iconst 3, 1) := by decide +kernel
theorem dX10_isBundleLine_30 : decode cX10_isBundleLine 30 = .ok (.iadd, 1) := by decide +kernel
theorem dX10_isBundleLine_31 : decode cX10_isBundleLine 31 = .ok (.iconst 0, 1) := by decide +kernel
theorem dX10_isBundleLine_32 : decode cX10_isBundleLine 32 = .ok (.sipush 999, 3) := by decide +kernel
theorem dX10_isBundleLine_35 : decode cX10_isBundleLine 35 = .ok (.invokevirtual 140, 3) := by decide +kernel
theorem dX10_isBundleLine_38 : decode cX10_isBundleLine 38 = .ok (.ifCond .eq 110, 3) := by decide +kernel
theorem dX10_isBundleLine_41 : decode cX10_isBundleLine 41 = .ok (.aload_n 0, 1) := by decide +kernel
theorem dX10_isBundleLine_42 : decode cX10_isBundleLine 42 = .ok (.iload_n 1, 1) := by decide +kernel
theorem dX10_isBundleLine_43 : decode cX10_isBundleLine 43 = .ok (.iconst 4, 1) := by decide +kernel
theorem dX10_isBundleLine_44 : decode cX10_isBundleLine 44 = .ok (.iadd, 1) := by decide +kernel
theorem dX10_isBundleLine_45 : decode cX10_isBundleLine 45 = .ok (.ldc2_w 143, 3) := by decide +kernel
theorem dX10_isBundleLine_48 : decode cX10_isBundleLine 48 = .ok (.ldc2_w 145, 3) := by decide +kernel
theorem dX10_isBundleLine_51 : decode cX10_isBundleLine 51 = .ok (.invokevirtual 147, 3) := by decide +kernel
theorem dX10_isBundleLine_54 : decode cX10_isBundleLine 54 = .ok (.ifCond .eq 94, 3) := by decide +kernel
theorem dX10_isBundleLine_57 : decode cX10_isBundleLine 57 = .ok (.aload_n 0, 1) := by decide +kernel
theorem dX10_isBundleLine_58 : decode cX10_isBundleLine 58 = .ok (.iload_n 1, 1) := by decide +kernel
theorem dX10_isBundleLine_59 : decode cX10_isBundleLine 59 = .ok (.iconst 5, 1) := by decide +kernel
theorem dX10_isBundleLine_60 : decode cX10_isBundleLine 60 = .ok (.iadd, 1) := by decide +kernel
theorem dX10_isBundleLine_61 : decode cX10_isBundleLine 61 = .ok (.iconst 1, 1) := by decide +kernel
theorem dX10_isBundleLine_62 : decode cX10_isBundleLine 62 = .ok (.bipush 30, 2) := by decide +kernel
theorem dX10_isBundleLine_64 : decode cX10_isBundleLine 64 = .ok (.invokevirtual 140, 3) := by decide +kernel
theorem dX10_isBundleLine_67 : decode cX10_isBundleLine 67 = .ok (.ifCond .eq 81, 3) := by decide +kernel
theorem dX10_isBundleLine_70 : decode cX10_isBundleLine 70 = .ok (.aload_n 0, 1) := by decide +kernel
theorem dX10_isBundleLine_71 : decode cX10_isBundleLine 71 = .ok (.iload_n 1, 1) := by decide +kernel
theorem dX10_isBundleLine_72 : decode cX10_isBundleLine 72 = .ok (.bipush 6, 2) := by decide +kernel
theorem dX10_isBundleLine_74 : decode cX10_isBundleLine 74 = .ok (.iadd, 1) := by decide +kernel
theorem dX10_isBundleLine_75 : decode cX10_isBundleLine 75 = .ok (.iconst 1, 1) := by decide +kernel
theorem dX10_isBundleLine_76 : decode cX10_isBundleLine 76 = .ok (.bipush 20, 2) := by decide +kernel
theorem dX10_isBundleLine_78 : decode cX10_isBundleLine 78 = .ok (.invokevirtual 140, 3) := by decide +kernel
theorem dX10_isBundleLine_81 : decode cX10_isBundleLine 81 = .ok (.ifCond .eq 67, 3) := by decide +kernel
theorem dX10_isBundleLine_84 : decode cX10_isBundleLine 84 = .ok (.aload_n 0, 1) := by decide +kernel
theorem dX10_isBundleLine_85 : decode cX10_isBundleLine 85 = .ok (.iload_n 1, 1) := by decide +kernel
theorem dX10_isBundleLine_86 : decode cX10_isBundleLine 86 = .ok (.bipush 7, 2) := by decide +kernel
theorem dX10_isBundleLine_88 : decode cX10_isBundleLine 88 = .ok (.iadd, 1) := by decide +kernel
theorem dX10_isBundleLine_89 : decode cX10_isBundleLine 89 = .ok (.iconst 1, 1) := by decide +kernel
theorem dX10_isBundleLine_90 : decode cX10_isBundleLine 90 = .ok (.sipush 500, 3) := by decide +kernel
theorem dX10_isBundleLine_93 : decode cX10_isBundleLine 93 = .ok (.invokevirtual 140, 3) := by decide +kernel
theorem dX10_isBundleLine_96 : decode cX10_isBundleLine 96 = .ok (.ifCond .eq 52, 3) := by decide +kernel
theorem dX10_isBundleLine_99 : decode cX10_isBundleLine 99 = .ok (.aload_n 0, 1) := by decide +kernel
theorem dX10_isBundleLine_100 : decode cX10_isBundleLine 100 = .ok (.iload_n 1, 1) := by decide +kernel
theorem dX10_isBundleLine_101 : decode cX10_isBundleLine 101 = .ok (.bipush 8, 2) := by decide +kernel
theorem dX10_isBundleLine_103 : decode cX10_isBundleLine 103 = .ok (.iadd, 1) := by decide +kernel
theorem dX10_isBundleLine_104 : decode cX10_isBundleLine 104 = .ok (.iconst 0, 1) := by decide +kernel
theorem dX10_isBundleLine_105 : decode cX10_isBundleLine 105 = .ok (.bipush 40, 2) := by decide +kernel
theorem dX10_isBundleLine_107 : decode cX10_isBundleLine 107 = .ok (.invokevirtual 140, 3) := by decide +kernel
theorem dX10_isBundleLine_110 : decode cX10_isBundleLine 110 = .ok (.ifCond .eq 38, 3) := by decide +kernel
theorem dX10_isBundleLine_113 : decode cX10_isBundleLine 113 = .ok (.aload_n 0, 1) := by decide +kernel
theorem dX10_isBundleLine_114 : decode cX10_isBundleLine 114 = .ok (.iload_n 1, 1) := by decide +kernel
theorem dX10_isBundleLine_115 : decode cX10_isBundleLine 115 = .ok (.bipush 9, 2) := by decide +kernel
theorem dX10_isBundleLine_117 : decode cX10_isBundleLine 117 = .ok (.iadd, 1) := by decide +kernel
theorem dX10_isBundleLine_118 : decode cX10_isBundleLine 118 = .ok (.ldc2_w 151, 3) := by decide +kernel
theorem dX10_isBundleLine_121 : decode cX10_isBundleLine 121 = .ok (.ldc2_w 153, 3) := by decide +kernel
theorem dX10_isBundleLine_124 : decode cX10_isBundleLine 124 = .ok (.invokevirtual 147, 3) := by decide +kernel
theorem dX10_isBundleLine_127 : decode cX10_isBundleLine 127 = .ok (.ifCond .eq 21, 3) := by decide +kernel
theorem dX10_isBundleLine_130 : decode cX10_isBundleLine 130 = .ok (.aload_n 0, 1) := by decide +kernel
theorem dX10_isBundleLine_131 : decode cX10_isBundleLine 131 = .ok (.iload_n 1, 1) := by decide +kernel
theorem dX10_isBundleLine_132 : decode cX10_isBundleLine 132 = .ok (.bipush 10, 2) := by decide +kernel
theorem dX10_isBundleLine_134 : decode cX10_isBundleLine 134 = .ok (.iadd, 1) := by decide +kernel
theorem dX10_isBundleLine_135 : decode cX10_isBundleLine 135 = .ok (.iconst 0, 1) := by decide +kernel
theorem dX10_isBundleLine_136 : decode cX10_isBundleLine 136 = .ok (.bipush 60, 2) := by decide +kernel
theorem dX10_isBundleLine_138 : decode cX10_isBundleLine 138 = .ok (.invokevirtual 140, 3) := by decide +kernel
theorem dX10_isBundleLine_141 : decode cX10_isBundleLine 141 = .ok (.ifCond .eq 7, 3) := by decide +kernel
theorem dX10_isBundleLine_144 : decode cX10_isBundleLine 144 = .ok (.iconst 1, 1) := by decide +kernel
theorem dX10_isBundleLine_145 : decode cX10_isBundleLine 145 = .ok (.goto 4, 3) := by decide +kernel
theorem dX10_isBundleLine_148 : decode cX10_isBundleLine 148 = .ok (.iconst 0, 1) := by decide +kernel
theorem dX10_isBundleLine_149 : decode cX10_isBundleLine 149 = .ok (.ireturn, 1) := by decide +kernel
theorem dX10_isOverLine_0 : decode cX10_isOverLine 0 = .ok (.aload_n 0, 1) := by decide +kernel
theorem dX10_isOverLine_1 : decode cX10_isOverLine 1 = .ok (.iload_n 1, 1) := by decide +kernel
theorem dX10_isOverLine_2 : decode cX10_isOverLine 2 = .ok (.iconst 1, 1) := by decide +kernel
theorem dX10_isOverLine_3 : decode cX10_isOverLine 3 = .ok (.iadd, 1) := by decide +kernel
theorem dX10_isOverLine_4 : decode cX10_isOverLine 4 = .ok (.iconst 0, 1) := by decide +kernel
theorem dX10_isOverLine_5 : decode cX10_isOverLine 5 = .ok (.bipush 13, 2) := by decide +kernel
theorem dX10_isOverLine_7 : decode cX10_isOverLine 7 = .ok (.invokevirtual 140, 3) := by decide +kernel
theorem dX10_isOverLine_10 : decode cX10_isOverLine 10 = .ok (.ifCond .eq 16, 3) := by decide +kernel
theorem dX10_isOverLine_13 : decode cX10_isOverLine 13 = .ok (.aload_n 0, 1) := by decide +kernel
theorem dX10_isOverLine_14 : decode cX10_isOverLine 14 = .ok (.iload_n 1, 1) := by decide +kernel
theorem dX10_isOverLine_15 : decode cX10_isOverLine 15 = .ok (.iconst 2, 1) := by decide +kernel
theorem dX10_isOverLine_16 : decode cX10_isOverLine 16 = .ok (.iadd, 1) := by decide +kernel
theorem dX10_isOverLine_17 : decode cX10_isOverLine 17 = .ok (.iconst 0, 1) := by decide +kernel
theorem dX10_isOverLine_18 : decode cX10_isOverLine 18 = .ok (.bipush 13, 2) := by decide +kernel
theorem dX10_isOverLine_20 : decode cX10_isOverLine 20 = .ok (.invokevirtual 140, 3) := by decide +kernel
theorem dX10_isOverLine_23 : decode cX10_isOverLine 23 = .ok (.ifCond .ne 5, 3) := by decide +kernel
theorem dX10_isOverLine_26 : decode cX10_isOverLine 26 = .ok (.iconst 0, 1) := by decide +kernel
theorem dX10_isOverLine_27 : decode cX10_isOverLine 27 = .ok (.ireturn, 1) := by decide +kernel
theorem dX10_isOverLine_28 : decode cX10_isOverLine 28 = .ok (.aload_n 0, 1) := by decide +kernel
theorem dX10_isOverLine_29 : decode cX10_isOverLine 29 = .ok (.getfield 50, 3) := by decide +kernel
theorem dX10_isOverLine_32 : decode cX10_isOverLine 32 = .ok (.iload_n 1, 1) := by decide +kernel
theorem dX10_isOverLine_33 : decode cX10_isOverLine 33 = .ok (.iconst 1, 1) := by decide +kernel
theorem dX10_isOverLine_34 : decode cX10_isOverLine 34 = .ok (.iadd, 1) := by decide +kernel
theorem dX10_isOverLine_35 : decode cX10_isOverLine 35 = .ok (.iaload, 1) := by decide +kernel
theorem dX10_isOverLine_36 : decode cX10_isOverLine 36 = .ok (.aload_n 0, 1) := by decide +kernel
theorem dX10_isOverLine_37 : decode cX10_isOverLine 37 = .ok (.getfield 50, 3) := by decide +kernel
theorem dX10_isOverLine_40 : decode cX10_isOverLine 40 = .ok (.iload_n 1, 1) := by decide +kernel
theorem dX10_isOverLine_41 : decode cX10_isOverLine 41 = .ok (.iconst 2, 1) := by decide +kernel
theorem dX10_isOverLine_42 : decode cX10_isOverLine 42 = .ok (.iadd, 1) := by decide +kernel
theorem dX10_isOverLine_43 : decode cX10_isOverLine 43 = .ok (.iaload, 1) := by decide +kernel
theorem dX10_isOverLine_44 : decode cX10_isOverLine 44 = .ok (.if_icmp .ne 10, 3) := by decide +kernel
theorem dX10_isOverLine_47 : decode cX10_isOverLine 47 = .ok (.aload_n 0, 1) := by decide +kernel
theorem dX10_isOverLine_48 : decode cX10_isOverLine 48 = .ok (.invokevirtual 136, 3) := by decide +kernel
theorem dX10_isOverLine_51 : decode cX10_isOverLine 51 = .ok (.ifCond .eq 7, 3) := by decide +kernel
theorem dX10_isOverLine_54 : decode cX10_isOverLine 54 = .ok (.iconst 1, 1) := by decide +kernel
theorem dX10_isOverLine_55 : decode cX10_isOverLine 55 = .ok (.goto 4, 3) := by decide +kernel
theorem dX10_isOverLine_58 : decode cX10_isOverLine 58 = .ok (.iconst 0, 1) := by decide +kernel
theorem dX10_isOverLine_59 : decode cX10_isOverLine 59 = .ok (.ireturn, 1) := by decide +kernel
theorem dX10_isLine_0 : decode cX10_isLine 0 = .ok (.aload_n 0, 1) := by decide +kernel
theorem dX10_isLine_1 : decode cX10_isLine 1 = .ok (.invokevirtual 133, 3) := by decide +kernel
theorem dX10_isLine_4 : decode cX10_isLine 4 = .ok (.aload_n 0, 1) := by decide +kernel
theorem dX10_isLine_5 : decode cX10_isLine 5 = .ok (.getfield 50, 3) := by decide +kernel
theorem dX10_isLine_8 : decode cX10_isLine 8 = .ok (.iload_n 1, 1) := by decide +kernel
theorem dX10_isLine_9 : decode cX10_isLine 9 = .ok (.aload_n 0, 1) := by decide +kernel
theorem dX10_isLine_10 : decode cX10_isLine 10 = .ok (.getfield 116, 3) := by decide +kernel
theorem dX10_isLine_13 : decode cX10_isLine 13 = .ok (.ldc2_w 155, 3) := by decide +kernel
theorem dX10_isLine_16 : decode cX10_isLine 16 = .ok (.lcmp, 1) := by decide +kernel
theorem dX10_isLine_17 : decode cX10_isLine 17 = .ok (.ifCond .ne 7, 3) := by decide +kernel
theorem dX10_isLine_20 : decode cX10_isLine 20 = .ok (.iconst 0, 1) := by decide +kernel
theorem dX10_isLine_21 : decode cX10_isLine 21 = .ok (.goto 95, 3) := by decide +kernel
theorem dX10_isLine_24 : decode cX10_isLine 24 = .ok (.aload_n 0, 1) := by decide +kernel
theorem dX10_isLine_25 : decode cX10_isLine 25 = .ok (.getfield 116, 3) := by decide +kernel
theorem dX10_isLine_28 : decode cX10_isLine 28 = .ok (.ldc2_w 157, 3) := by decide +kernel
theorem dX10_isLine_31 : decode cX10_isLine 31 = .ok (.lcmp, 1) := by decide +kernel
theorem dX10_isLine_32 : decode cX10_isLine 32 = .ok (.ifCond .ne 7, 3) := by decide +kernel
theorem dX10_isLine_35 : decode cX10_isLine 35 = .ok (.iconst 1, 1) := by decide +kernel
theorem dX10_isLine_36 : decode cX10_isLine 36 = .ok (.goto 80, 3) := by decide +kernel
theorem dX10_isLine_39 : decode cX10_isLine 39 = .ok (.aload_n 0, 1) := by decide +kernel
theorem dX10_isLine_40 : decode cX10_isLine 40 = .ok (.getfield 116, 3) := by decide +kernel
theorem dX10_isLine_43 : decode cX10_isLine 43 = .ok (.ldc2_w 159, 3) := by decide +kernel
theorem dX10_isLine_46 : decode cX10_isLine 46 = .ok (.lcmp, 1) := by decide +kernel
theorem dX10_isLine_47 : decode cX10_isLine 47 = .ok (.ifCond .ne 7, 3) := by decide +kernel
theorem dX10_isLine_50 : decode cX10_isLine 50 = .ok (.iconst 2, 1) := by decide +kernel
theorem dX10_isLine_51 : decode cX10_isLine 51 = .ok (.goto 65, 3) := by decide +kernel
theorem dX10_isLine_54 : decode cX10_isLine 54 = .ok (.aload_n 0, 1) := by decide +kernel
theorem dX10_isLine_55 : decode cX10_isLine 55 = .ok (.getfield 116, 3) := by decide +kernel
theorem dX10_isLine_58 : decode cX10_isLine 58 = .ok (.ldc2_w 161, 3) := by decide +kernel
theorem dX10_isLine_61 : decode cX10_isLine 61 = .ok (.lcmp, 1) := by decide +kernel
theorem dX10_isLine_62 : decode cX10_isLine 62 = .ok (.ifCond .ne 7, 3) := by decide +kernel
theorem dX10_isLine_65 : decode cX10_isLine 65 = .ok (.iconst 3, 1) := by decide +kernel
theorem dX10_isLine_66 : decode cX10_isLine 66 = .ok (.goto 50, 3) := by decide +kernel
theorem dX10_isLine_69 : decode cX10_isLine 69 = .ok (.aload_n 0, 1) := by decide +kernel
theorem dX10_isLine_70 : decode cX10_isLine 70 = .ok (.getfield 116, 3) := by decide +kernel
theorem dX10_isLine_73 : decode cX10_isLine 73 = .ok (.ldc2_w 163, 3) := by decide +kernel
theorem dX10_isLine_76 : decode cX10_isLine 76 = .ok (.lcmp, 1) := by decide +kernel
theorem dX10_isLine_77 : decode cX10_isLine 77 = .ok (.ifCond .ne 7, 3) := by decide +kernel
theorem dX10_isLine_80 : decode cX10_isLine 80 = .ok (.iconst 4, 1) := by decide +kernel
theorem dX10_isLine_81 : decode cX10_isLine 81 = .ok (.goto 35, 3) := by decide +kernel
theorem dX10_isLine_84 : decode cX10_isLine 84 = .ok (.aload_n 0, 1) := by decide +kernel
theorem dX10_isLine_85 : decode cX10_isLine 85 = .ok (.getfield 116, 3) := by decide +kernel
theorem dX10_isLine_88 : decode cX10_isLine 88 = .ok (.ldc2_w 165, 3) := by decide +kernel
theorem dX10_isLine_91 : decode cX10_isLine 91 = .ok (.lcmp, 1) := by decide +kernel
theorem dX10_isLine_92 : decode cX10_isLine 92 = .ok (.ifCond .ne 7, 3) := by decide +kernel
theorem dX10_isLine_95 : decode cX10_isLine 95 = .ok (.iconst 5, 1) := by decide +kernel
theorem dX10_isLine_96 : decode cX10_isLine 96 = .ok (.goto 20, 3) := by decide +kernel
theorem dX10_isLine_99 : decode cX10_isLine 99 = .ok (.aload_n 0, 1) := by decide +kernel
theorem dX10_isLine_100 : decode cX10_isLine 100 = .ok (.getfield 116, 3) := by decide +kernel
theorem dX10_isLine_103 : decode cX10_isLine 103 = .ok (.ldc2_w 167, 3) := by decide +kernel
theorem dX10_isLine_106 : decode cX10_isLine 106 = .ok (.lcmp, 1) := by decide +kernel
theorem dX10_isLine_107 : decode cX10_isLine 107 = .ok (.ifCond .ne 8, 3) := by decide +kernel
theorem dX10_isLine_110 : decode cX10_isLine 110 = .ok (.bipush 6, 2) := by decide +kernel
theorem dX10_isLine_112 : decode cX10_isLine 112 = .ok (.goto 4, 3) := by decide +kernel
theorem dX10_isLine_115 : decode cX10_isLine 115 = .ok (.iconst (-1), 1) := by decide +kernel
theorem dX10_isLine_116 : decode cX10_isLine 116 = .ok (.iastore, 1) := by decide +kernel
theorem dX10_isLine_117 : decode cX10_isLine 117 = .ok (.aload_n 0, 1) := by decide +kernel
theorem dX10_isLine_118 : decode cX10_isLine 118 = .ok (.getfield 50, 3) := by decide +kernel
theorem dX10_isLine_121 : decode cX10_isLine 121 = .ok (.iload_n 1, 1) := by decide +kernel
theorem dX10_isLine_122 : decode cX10_isLine 122 = .ok (.iaload, 1) := by decide +kernel
theorem dX10_isLine_123 : decode cX10_isLine 123 = .ok (.tableswitch 281 0 6 #[41, 47, 123, 177, 183, 270, 270], 41) := by decide +kernel
theorem dX10_isLine_164 : decode cX10_isLine 164 = .ok (.aload_n 0, 1) := by decide +kernel
theorem dX10_isLine_165 : decode cX10_isLine 165 = .ok (.iload_n 1, 1) := by decide +kernel
theorem dX10_isLine_166 : decode cX10_isLine 166 = .ok (.invokevirtual 169, 3) := by decide +kernel
theorem dX10_isLine_169 : decode cX10_isLine 169 = .ok (.ireturn, 1) := by decide +kernel
theorem dX10_isLine_170 : decode cX10_isLine 170 = .ok (.aload_n 0, 1) := by decide +kernel
theorem dX10_isLine_171 : decode cX10_isLine 171 = .ok (.iload_n 1, 1) := by decide +kernel
theorem dX10_isLine_172 : decode cX10_isLine 172 = .ok (.iconst 1, 1) := by decide +kernel
theorem dX10_isLine_173 : decode cX10_isLine 173 = .ok (.iadd, 1) := by decide +kernel
theorem dX10_isLine_174 : decode cX10_isLine 174 = .ok (.bipush 8, 2) := by decide +kernel
theorem dX10_isLine_176 : decode cX10_isLine 176 = .ok (.bipush 13, 2) := by decide +kernel
theorem dX10_isLine_178 : decode cX10_isLine 178 = .ok (.invokevirtual 140, 3) := by decide +kernel
theorem dX10_isLine_181 : decode cX10_isLine 181 = .ok (.ifCond .eq 63, 3) := by decide +kernel
theorem dX10_isLine_184 : decode cX10_isLine 184 = .ok (.aload_n 0, 1) := by decide +kernel
theorem dX10_isLine_185 : decode cX10_isLine 185 = .ok (.iload_n 1, 1) := by decide +kernel
theorem dX10_isLine_186 : decode cX10_isLine 186 = .ok (.iconst 2, 1) := by decide +kernel
theorem dX10_isLine_187 : decode cX10_isLine 187 = .ok (.iadd, 1) := by decide +kernel
theorem dX10_isLine_188 : decode cX10_isLine 188 = .ok (.iconst 0, 1) := by decide +kernel
theorem dX10_isLine_189 : decode cX10_isLine 189 = .ok (.sipush 999, 3) := by decide +kernel
theorem dX10_isLine_192 : decode cX10_isLine 192 = .ok (.invokevirtual 140, 3) := by decide +kernel
theorem dX10_isLine_195 : decode cX10_isLine 195 = .ok (.ifCond .eq 49, 3) := by decide +kernel
theorem dX10_isLine_198 : decode cX10_isLine 198 = .ok (.aload_n 0, 1) := by decide +kernel
theorem dX10_isLine_199 : decode cX10_isLine 199 = .ok (.iload_n 1, 1) := by decide +kernel
theorem dX10_isLine_200 : decode cX10_isLine 200 = .ok (.iconst 3, 1) := by decide +kernel
theorem dX10_isLine_201 : decode cX10_isLine 201 = .ok (.iadd, 1) := by decide +kernel
theorem dX10_isLine_202 : decode cX10_isLine 202 = .ok (.iconst 0, 1) := by decide +kernel
theorem dX10_isLine_203 : decode cX10_isLine 203 = .ok (.sipush 999, 3) := by decide +kernel
theorem dX10_isLine_206 : decode cX10_isLine 206 = .ok (.invokevirtual 140, 3) := by decide +kernel
theorem dX10_isLine_209 : decode cX10_isLine 209 = .ok (.ifCond .eq 35, 3) := by decide +kernel
theorem dX10_isLine_212 : decode cX10_isLine 212 = .ok (.aload_n 0, 1) := by decide +kernel
theorem dX10_isLine_213 : decode cX10_isLine 213 = .ok (.iload_n 1, 1) := by decide +kernel
theorem dX10_isLine_214 : decode cX10_isLine 214 = .ok (.iconst 4, 1) := by decide +kernel
theorem dX10_isLine_215 : decode cX10_isLine 215 = .ok (.iadd, 1) := by decide +kernel
theorem dX10_isLine_216 : decode cX10_isLine 216 = .ok (.iconst 1, 1) := by decide +kernel
theorem dX10_isLine_217 : decode cX10_isLine 217 = .ok (.sipush 999, 3) := by decide +kernel
theorem dX10_isLine_220 : decode cX10_isLine 220 = .ok (.invokevirtual 140, 3) := by decide +kernel
theorem dX10_isLine_223 : decode cX10_isLine 223 = .ok (.ifCond .eq 21, 3) := by decide +kernel
theorem dX10_isLine_226 : decode cX10_isLine 226 = .ok (.aload_n 0, 1) := by decide +kernel
theorem dX10_isLine_227 : decode cX10_isLine 227 = .ok (.iload_n 1, 1) := by decide +kernel
theorem dX10_isLine_228 : decode cX10_isLine 228 = .ok (.iconst 5, 1) := by decide +kernel
theorem dX10_isLine_229 : decode cX10_isLine 229 = .ok (.iadd, 1) := by decide +kernel
theorem dX10_isLine_230 : decode cX10_isLine 230 = .ok (.iconst 1, 1) := by decide +kernel
theorem dX10_isLine_231 : decode cX10_isLine 231 = .ok (.sipush 999, 3) := by decide +kernel
theorem dX10_isLine_234 : decode cX10_isLine 234 = .ok (.invokevirtual 140, 3) := by decide +kernel
theorem dX10_isLine_237 : decode cX10_isLine 237 = .ok (.ifCond .eq 7, 3) := by decide +kernel
theorem dX10_isLine_240 : decode cX10_isLine 240 = .ok (.iconst 1, 1) := by decide +kernel
theorem dX10_isLine_241 : decode cX10_isLine 241 = .ok (.goto 4, 3) := by decide +kernel
theorem dX10_isLine_244 : decode cX10_isLine 244 = .ok (.iconst 0, 1) := by decide +kernel
theorem dX10_isLine_245 : decode cX10_isLine 245 = .ok (.ireturn, 1) := by decide +kernel
theorem dX10_isLine_246 : decode cX10_isLine 246 = .ok (.aload_n 0, 1) := by decide +kernel
theorem dX10_isLine_247 : decode cX10_isLine 247 = .ok (.iload_n 1, 1) := by decide +kernel
theorem dX10_isLine_248 : decode cX10_isLine 248 = .ok (.iconst 1, 1) := by decide +kernel
theorem dX10_isLine_249 : decode cX10_isLine 249 = .ok (.iadd, 1) := by decide +kernel
theorem dX10_isLine_250 : decode cX10_isLine 250 = .ok (.iconst 0, 1) := by decide +kernel
theorem dX10_isLine_251 : decode cX10_isLine 251 = .ok (.bipush 13, 2) := by decide +kernel
theorem dX10_isLine_253 : decode cX10_isLine 253 = .ok (.invokevirtual 140, 3) := by decide +kernel
theorem dX10_isLine_256 : decode cX10_isLine 256 = .ok (.ifCond .eq 42, 3) := by decide +kernel
theorem dX10_isLine_259 : decode cX10_isLine 259 = .ok (.aload_n 0, 1) := by decide +kernel
theorem dX10_isLine_260 : decode cX10_isLine 260 = .ok (.iload_n 1, 1) := by decide +kernel
theorem dX10_isLine_261 : decode cX10_isLine 261 = .ok (.iconst 2, 1) := by decide +kernel
theorem dX10_isLine_262 : decode cX10_isLine 262 = .ok (.iadd, 1) := by decide +kernel
theorem dX10_isLine_263 : decode cX10_isLine 263 = .ok (.iconst 0, 1) := by decide +kernel
theorem dX10_isLine_264 : decode cX10_isLine 264 = .ok (.sipush 2000, 3) := by decide +kernel
theorem dX10_isLine_267 : decode cX10_isLine 267 = .ok (.invokevirtual 140, 3) := by decide +kernel
theorem dX10_isLine_270 : decode cX10_isLine 270 = .ok (.ifCond .eq 28, 3) := by decide +kernel
theorem dX10_isLine_273 : decode cX10_isLine 273 = .ok (.aload_n 0, 1) := by decide +kernel
theorem dX10_isLine_274 : decode cX10_isLine 274 = .ok (.iload_n 1, 1) := by decide +kernel
theorem dX10_isLine_275 : decode cX10_isLine 275 = .ok (.iconst 3, 1) := by decide +kernel
theorem dX10_isLine_276 : decode cX10_isLine 276 = .ok (.iadd, 1) := by decide +kernel
theorem dX10_isLine_277 : decode cX10_isLine 277 = .ok (.aload_n 0, 1) := by decide +kernel
theorem dX10_isLine_278 : decode cX10_isLine 278 = .ok (.getfield 50, 3) := by decide +kernel
theorem dX10_isLine_281 : decode cX10_isLine 281 = .ok (.iload_n 1, 1) := by decide +kernel
theorem dX10_isLine_282 : decode cX10_isLine 282 = .ok (.iconst 2, 1) := by decide +kernel
theorem dX10_isLine_283 : decode cX10_isLine 283 = .ok (.iadd, 1) := by decide +kernel
theorem dX10_isLine_284 : decode cX10_isLine 284 = .ok (.iaload, 1) := by decide +kernel
theorem dX10_isLine_285 : decode cX10_isLine 285 = .ok (.sipush 2000, 3) := by decide +kernel
theorem dX10_isLine_288 : decode cX10_isLine 288 = .ok (.invokevirtual 140, 3) := by decide +kernel
theorem dX10_isLine_291 : decode cX10_isLine 291 = .ok (.ifCond .eq 7, 3) := by decide +kernel
theorem dX10_isLine_294 : decode cX10_isLine 294 = .ok (.iconst 1, 1) := by decide +kernel
theorem dX10_isLine_295 : decode cX10_isLine 295 = .ok (.goto 4, 3) := by decide +kernel
theorem dX10_isLine_298 : decode cX10_isLine 298 = .ok (.iconst 0, 1) := by decide +kernel
theorem dX10_isLine_299 : decode cX10_isLine 299 = .ok (.ireturn, 1) := by decide +kernel
theorem dX10_isLine_300 : decode cX10_isLine 300 = .ok (.aload_n 0, 1) := by decide +kernel
theorem dX10_isLine_301 : decode cX10_isLine 301 = .ok (.iload_n 1, 1) := by decide +kernel
theorem dX10_isLine_302 : decode cX10_isLine 302 = .ok (.invokevirtual 172, 3) := by decide +kernel
theorem dX10_isLine_305 : decode cX10_isLine 305 = .ok (.ireturn, 1) := by decide +kernel
theorem dX10_isLine_306 : decode cX10_isLine 306 = .ok (.aload_n 0, 1) := by decide +kernel
theorem dX10_isLine_307 : decode cX10_isLine 307 = .ok (.iload_n 1, 1) := by decide +kernel
theorem dX10_isLine_308 : decode cX10_isLine 308 = .ok (.iconst 1, 1) := by decide +kernel
theorem dX10_isLine_309 : decode cX10_isLine 309 = .ok (.iadd, 1) := by decide +kernel
theorem dX10_isLine_310 : decode cX10_isLine 310 = .ok (.iconst 1, 1) := by decide +kernel
theorem dX10_isLine_311 : decode cX10_isLine 311 = .ok (.bipush 12, 2) := by decide +kernel
theorem dX10_isLine_313 : decode cX10_isLine 313 = .ok (.invokevirtual 140, 3) := by decide +kernel
theorem dX10_isLine_316 : decode cX10_isLine 316 = .ok (.ifCond .eq 75, 3) := by decide +kernel
theorem dX10_isLine_319 : decode cX10_isLine 319 = .ok (.aload_n 0, 1) := by decide +kernel
theorem dX10_isLine_320 : decode cX10_isLine 320 = .ok (.iload_n 1, 1) := by decide +kernel
theorem dX10_isLine_321 : decode cX10_isLine 321 = .ok (.iconst 2, 1) := by decide +kernel
theorem dX10_isLine_322 : decode cX10_isLine 322 = .ok (.iadd, 1) := by decide +kernel
theorem dX10_isLine_323 : decode cX10_isLine 323 = .ok (.iconst 0, 1) := by decide +kernel
theorem dX10_isLine_324 : decode cX10_isLine 324 = .ok (.bipush 40, 2) := by decide +kernel
theorem dX10_isLine_326 : decode cX10_isLine 326 = .ok (.invokevirtual 140, 3) := by decide +kernel
theorem dX10_isLine_329 : decode cX10_isLine 329 = .ok (.ifCond .eq 62, 3) := by decide +kernel
theorem dX10_isLine_332 : decode cX10_isLine 332 = .ok (.aload_n 0, 1) := by decide +kernel
theorem dX10_isLine_333 : decode cX10_isLine 333 = .ok (.iload_n 1, 1) := by decide +kernel
theorem dX10_isLine_334 : decode cX10_isLine 334 = .ok (.iconst 3, 1) := by decide +kernel
theorem dX10_isLine_335 : decode cX10_isLine 335 = .ok (.iadd, 1) := by decide +kernel
theorem dX10_isLine_336 : decode cX10_isLine 336 = .ok (.aload_n 0, 1) := by decide +kernel
theorem dX10_isLine_337 : decode cX10_isLine 337 = .ok (.getfield 50, 3) := by decide +kernel
theorem dX10_isLine_340 : decode cX10_isLine 340 = .ok (.iload_n 1, 1) := by decide +kernel
theorem dX10_isLine_341 : decode cX10_isLine 341 = .ok (.iconst 2, 1) := by decide +kernel
theorem dX10_isLine_342 : decode cX10_isLine 342 = .ok (.iadd, 1) := by decide +kernel
theorem dX10_isLine_343 : decode cX10_isLine 343 = .ok (.iaload, 1) := by decide +kernel
theorem dX10_isLine_344 : decode cX10_isLine 344 = .ok (.bipush 40, 2) := by decide +kernel
theorem dX10_isLine_346 : decode cX10_isLine 346 = .ok (.invokevirtual 140, 3) := by decide +kernel
theorem dX10_isLine_349 : decode cX10_isLine 349 = .ok (.ifCond .eq 42, 3) := by decide +kernel
theorem dX10_isLine_352 : decode cX10_isLine 352 = .ok (.aload_n 0, 1) := by decide +kernel
theorem dX10_isLine_353 : decode cX10_isLine 353 = .ok (.iload_n 1, 1) := by decide +kernel
theorem dX10_isLine_354 : decode cX10_isLine 354 = .ok (.iconst 4, 1) := by decide +kernel
theorem dX10_isLine_355 : decode cX10_isLine 355 = .ok (.iadd, 1) := by decide +kernel
theorem dX10_isLine_356 : decode cX10_isLine 356 = .ok (.iconst 0, 1) := by decide +kernel
theorem dX10_isLine_357 : decode cX10_isLine 357 = .ok (.sipush 2000, 3) := by decide +kernel
theorem dX10_isLine_360 : decode cX10_isLine 360 = .ok (.invokevirtual 140, 3) := by decide +kernel
theorem dX10_isLine_363 : decode cX10_isLine 363 = .ok (.ifCond .eq 28, 3) := by decide +kernel
theorem dX10_isLine_366 : decode cX10_isLine 366 = .ok (.aload_n 0, 1) := by decide +kernel
theorem dX10_isLine_367 : decode cX10_isLine 367 = .ok (.iload_n 1, 1) := by decide +kernel
theorem dX10_isLine_368 : decode cX10_isLine 368 = .ok (.iconst 5, 1) := by decide +kernel
theorem dX10_isLine_369 : decode cX10_isLine 369 = .ok (.iadd, 1) := by decide +kernel
theorem dX10_isLine_370 : decode cX10_isLine 370 = .ok (.aload_n 0, 1) := by decide +kernel
theorem dX10_isLine_371 : decode cX10_isLine 371 = .ok (.getfield 50, 3) := by decide +kernel
theorem dX10_isLine_374 : decode cX10_isLine 374 = .ok (.iload_n 1, 1) := by decide +kernel
theorem dX10_isLine_375 : decode cX10_isLine 375 = .ok (.iconst 4, 1) := by decide +kernel
theorem dX10_isLine_376 : decode cX10_isLine 376 = .ok (.iadd, 1) := by decide +kernel
theorem dX10_isLine_377 : decode cX10_isLine 377 = .ok (.iaload, 1) := by decide +kernel
theorem dX10_isLine_378 : decode cX10_isLine 378 = .ok (.sipush 2000, 3) := by decide +kernel
theorem dX10_isLine_381 : decode cX10_isLine 381 = .ok (.invokevirtual 140, 3) := by decide +kernel
theorem dX10_isLine_384 : decode cX10_isLine 384 = .ok (.ifCond .eq 7, 3) := by decide +kernel
theorem dX10_isLine_387 : decode cX10_isLine 387 = .ok (.iconst 1, 1) := by decide +kernel
theorem dX10_isLine_388 : decode cX10_isLine 388 = .ok (.goto 4, 3) := by decide +kernel
theorem dX10_isLine_391 : decode cX10_isLine 391 = .ok (.iconst 0, 1) := by decide +kernel
theorem dX10_isLine_392 : decode cX10_isLine 392 = .ok (.ireturn, 1) := by decide +kernel
theorem dX10_isLine_393 : decode cX10_isLine 393 = .ok (.aload_n 0, 1) := by decide +kernel
theorem dX10_isLine_394 : decode cX10_isLine 394 = .ok (.iload_n 1, 1) := by decide +kernel
theorem dX10_isLine_395 : decode cX10_isLine 395 = .ok (.iconst 1, 1) := by decide +kernel
theorem dX10_isLine_396 : decode cX10_isLine 396 = .ok (.iadd, 1) := by decide +kernel
theorem dX10_isLine_397 : decode cX10_isLine 397 = .ok (.iconst 0, 1) := by decide +kernel
theorem dX10_isLine_398 : decode cX10_isLine 398 = .ok (.bipush 99, 2) := by decide +kernel
theorem dX10_isLine_400 : decode cX10_isLine 400 = .ok (.invokevirtual 140, 3) := by decide +kernel
theorem dX10_isLine_403 : decode cX10_isLine 403 = .ok (.ireturn, 1) := by decide +kernel
theorem dX10_isLine_404 : decode cX10_isLine 404 = .ok (.aload_n 0, 1) := by decide +kernel
theorem dX10_isLine_405 : decode cX10_isLine 405 = .ok (.invokevirtual 136, 3) := by decide +kernel
theorem dX10_isLine_408 : decode cX10_isLine 408 = .ok (.ireturn, 1) := by decide +kernel
theorem dX10_isRead_0 : decode cX10_isRead 0 = .ok (.aload_n 0, 1) := by decide +kernel
theorem dX10_isRead_1 : decode cX10_isRead 1 = .ok (.iconst 0, 1) := by decide +kernel
theorem dX10_isRead_2 : decode cX10_isRead 2 = .ok (.putfield 102, 3) := by decide +kernel
theorem dX10_isRead_5 : decode cX10_isRead 5 = .ok (.aload_n 0, 1) := by decide +kernel
theorem dX10_isRead_6 : decode cX10_isRead 6 = .ok (.iconst 0, 1) := by decide +kernel
theorem dX10_isRead_7 : decode cX10_isRead 7 = .ok (.putfield 175, 3) := by decide +kernel
theorem dX10_isRead_10 : decode cX10_isRead 10 = .ok (.iconst 1, 1) := by decide +kernel
theorem dX10_isRead_11 : decode cX10_isRead 11 = .ok (.istore_n 1, 1) := by decide +kernel
theorem dX10_isRead_12 : decode cX10_isRead 12 = .ok (.iload_n 1, 1) := by decide +kernel
theorem dX10_isRead_13 : decode cX10_isRead 13 = .ok (.ifCond .eq 62, 3) := by decide +kernel
theorem dX10_isRead_16 : decode cX10_isRead 16 = .ok (.aload_n 0, 1) := by decide +kernel
theorem dX10_isRead_17 : decode cX10_isRead 17 = .ok (.bipush 11, 2) := by decide +kernel
theorem dX10_isRead_19 : decode cX10_isRead 19 = .ok (.aload_n 0, 1) := by decide +kernel
theorem dX10_isRead_20 : decode cX10_isRead 20 = .ok (.getfield 175, 3) := by decide +kernel
theorem dX10_isRead_23 : decode cX10_isRead 23 = .ok (.imul, 1) := by decide +kernel
theorem dX10_isRead_24 : decode cX10_isRead 24 = .ok (.invokevirtual 178, 3) := by decide +kernel
theorem dX10_isRead_27 : decode cX10_isRead 27 = .ok (.ifCond .ne 5, 3) := by decide +kernel
theorem dX10_isRead_30 : decode cX10_isRead 30 = .ok (.iconst 0, 1) := by decide +kernel
theorem dX10_isRead_31 : decode cX10_isRead 31 = .ok (.ireturn, 1) := by decide +kernel
theorem dX10_isRead_32 : decode cX10_isRead 32 = .ok (.aload_n 0, 1) := by decide +kernel
theorem dX10_isRead_33 : decode cX10_isRead 33 = .ok (.dup, 1) := by decide +kernel
theorem dX10_isRead_34 : decode cX10_isRead 34 = .ok (.getfield 175, 3) := by decide +kernel
theorem dX10_isRead_37 : decode cX10_isRead 37 = .ok (.iconst 1, 1) := by decide +kernel
theorem dX10_isRead_38 : decode cX10_isRead 38 = .ok (.iadd, 1) := by decide +kernel
theorem dX10_isRead_39 : decode cX10_isRead 39 = .ok (.putfield 175, 3) := by decide +kernel
theorem dX10_isRead_42 : decode cX10_isRead 42 = .ok (.aload_n 0, 1) := by decide +kernel
theorem dX10_isRead_43 : decode cX10_isRead 43 = .ok (.invokevirtual 133, 3) := by decide +kernel
theorem dX10_isRead_46 : decode cX10_isRead 46 = .ok (.aload_n 0, 1) := by decide +kernel
theorem dX10_isRead_47 : decode cX10_isRead 47 = .ok (.getfield 116, 3) := by decide +kernel
theorem dX10_isRead_50 : decode cX10_isRead 50 = .ok (.ldc2_w 128, 3) := by decide +kernel
theorem dX10_isRead_53 : decode cX10_isRead 53 = .ok (.lcmp, 1) := by decide +kernel
theorem dX10_isRead_54 : decode cX10_isRead 54 = .ok (.ifCond .ne 16, 3) := by decide +kernel
theorem dX10_isRead_57 : decode cX10_isRead 57 = .ok (.aload_n 0, 1) := by decide +kernel
theorem dX10_isRead_58 : decode cX10_isRead 58 = .ok (.getfield 175, 3) := by decide +kernel
theorem dX10_isRead_61 : decode cX10_isRead 61 = .ok (.bipush 8, 2) := by decide +kernel
theorem dX10_isRead_63 : decode cX10_isRead 63 = .ok (.if_icmp .ge 7, 3) := by decide +kernel
theorem dX10_isRead_66 : decode cX10_isRead 66 = .ok (.iconst 1, 1) := by decide +kernel
theorem dX10_isRead_67 : decode cX10_isRead 67 = .ok (.goto 4, 3) := by decide +kernel
theorem dX10_isRead_70 : decode cX10_isRead 70 = .ok (.iconst 0, 1) := by decide +kernel
theorem dX10_isRead_71 : decode cX10_isRead 71 = .ok (.istore_n 1, 1) := by decide +kernel
theorem dX10_isRead_72 : decode cX10_isRead 72 = .ok (.goto (-60), 3) := by decide +kernel
theorem dX10_isRead_75 : decode cX10_isRead 75 = .ok (.aload_n 0, 1) := by decide +kernel
theorem dX10_isRead_76 : decode cX10_isRead 76 = .ok (.getfield 116, 3) := by decide +kernel
theorem dX10_isRead_79 : decode cX10_isRead 79 = .ok (.ldc2_w 114, 3) := by decide +kernel
theorem dX10_isRead_82 : decode cX10_isRead 82 = .ok (.lcmp, 1) := by decide +kernel
theorem dX10_isRead_83 : decode cX10_isRead 83 = .ok (.ifCond .eq 10, 3) := by decide +kernel
theorem dX10_isRead_86 : decode cX10_isRead 86 = .ok (.aload_n 0, 1) := by decide +kernel
theorem dX10_isRead_87 : decode cX10_isRead 87 = .ok (.invokevirtual 136, 3) := by decide +kernel
theorem dX10_isRead_90 : decode cX10_isRead 90 = .ok (.ifCond .eq 7, 3) := by decide +kernel
theorem dX10_isRead_93 : decode cX10_isRead 93 = .ok (.iconst 1, 1) := by decide +kernel
theorem dX10_isRead_94 : decode cX10_isRead 94 = .ok (.goto 4, 3) := by decide +kernel
theorem dX10_isRead_97 : decode cX10_isRead 97 = .ok (.iconst 0, 1) := by decide +kernel
theorem dX10_isRead_98 : decode cX10_isRead 98 = .ok (.ireturn, 1) := by decide +kernel
theorem dX10_fault_0 : decode cX10_fault 0 = .ok (.aload_n 0, 1) := by decide +kernel
theorem dX10_fault_1 : decode cX10_fault 1 = .ok (.invokevirtual 181, 3) := by decide +kernel
theorem dX10_fault_4 : decode cX10_fault 4 = .ok (.ifCond .eq 7, 3) := by decide +kernel
theorem dX10_fault_7 : decode cX10_fault 7 = .ok (.iconst (-1), 1) := by decide +kernel
theorem dX10_fault_8 : decode cX10_fault 8 = .ok (.goto 7, 3) := by decide +kernel
theorem dX10_fault_11 : decode cX10_fault 11 = .ok (.aload_n 0, 1) := by decide +kernel
theorem dX10_fault_12 : decode cX10_fault 12 = .ok (.getfield 130, 3) := by decide +kernel
theorem dX10_fault_15 : decode cX10_fault 15 = .ok (.ireturn, 1) := by decide +kernel
theorem dX10_doBundle_0 : decode cX10_doBundle 0 = .ok (.aload_n 0, 1) := by decide +kernel
theorem dX10_doBundle_1 : decode cX10_doBundle 1 = .ok (.getfield 50, 3) := by decide +kernel
theorem dX10_doBundle_4 : decode cX10_doBundle 4 = .ok (.iload_n 1, 1) := by decide +kernel
theorem dX10_doBundle_5 : decode cX10_doBundle 5 = .ok (.iconst 1, 1) := by decide +kernel
theorem dX10_doBundle_6 : decode cX10_doBundle 6 = .ok (.iadd, 1) := by decide +kernel
theorem dX10_doBundle_7 : decode cX10_doBundle 7 = .ok (.iaload, 1) := by decide +kernel
theorem dX10_doBundle_8 : decode cX10_doBundle 8 = .ok (.istore_n 2, 1) := by decide +kernel
theorem dX10_doBundle_9 : decode cX10_doBundle 9 = .ok (.aload_n 0, 1) := by decide +kernel
theorem dX10_doBundle_10 : decode cX10_doBundle 10 = .ok (.aload_n 0, 1) := by decide +kernel
theorem dX10_doBundle_11 : decode cX10_doBundle 11 = .ok (.getfield 90, 3) := by decide +kernel
theorem dX10_doBundle_14 : decode cX10_doBundle 14 = .ok (.iconst 1, 1) := by decide +kernel
theorem dX10_doBundle_15 : decode cX10_doBundle 15 = .ok (.iload_n 2, 1) := by decide +kernel
theorem dX10_doBundle_16 : decode cX10_doBundle 16 = .ok (.ishl, 1) := by decide +kernel
theorem dX10_doBundle_17 : decode cX10_doBundle 17 = .ok (.ior, 1) := by decide +kernel
theorem dX10_doBundle_18 : decode cX10_doBundle 18 = .ok (.putfield 90, 3) := by decide +kernel
theorem dX10_doBundle_21 : decode cX10_doBundle 21 = .ok (.iconst 0, 1) := by decide +kernel
theorem dX10_doBundle_22 : decode cX10_doBundle 22 = .ok (.istore_n 3, 1) := by decide +kernel
theorem dX10_doBundle_23 : decode cX10_doBundle 23 = .ok (.iload_n 3, 1) := by decide +kernel
theorem dX10_doBundle_24 : decode cX10_doBundle 24 = .ok (.bipush 7, 2) := by decide +kernel
theorem dX10_doBundle_26 : decode cX10_doBundle 26 = .ok (.if_icmp .ge 30, 3) := by decide +kernel
theorem dX10_doBundle_29 : decode cX10_doBundle 29 = .ok (.aload_n 0, 1) := by decide +kernel
theorem dX10_doBundle_30 : decode cX10_doBundle 30 = .ok (.getfield 7, 3) := by decide +kernel
theorem dX10_doBundle_33 : decode cX10_doBundle 33 = .ok (.bipush 7, 2) := by decide +kernel
theorem dX10_doBundle_35 : decode cX10_doBundle 35 = .ok (.iload_n 2, 1) := by decide +kernel
theorem dX10_doBundle_36 : decode cX10_doBundle 36 = .ok (.imul, 1) := by decide +kernel
theorem dX10_doBundle_37 : decode cX10_doBundle 37 = .ok (.iload_n 3, 1) := by decide +kernel
theorem dX10_doBundle_38 : decode cX10_doBundle 38 = .ok (.iadd, 1) := by decide +kernel
theorem dX10_doBundle_39 : decode cX10_doBundle 39 = .ok (.aload_n 0, 1) := by decide +kernel
theorem dX10_doBundle_40 : decode cX10_doBundle 40 = .ok (.getfield 50, 3) := by decide +kernel
theorem dX10_doBundle_43 : decode cX10_doBundle 43 = .ok (.iload_n 1, 1) := by decide +kernel
theorem dX10_doBundle_44 : decode cX10_doBundle 44 = .ok (.iconst 4, 1) := by decide +kernel
theorem dX10_doBundle_45 : decode cX10_doBundle 45 = .ok (.iadd, 1) := by decide +kernel
theorem dX10_doBundle_46 : decode cX10_doBundle 46 = .ok (.iload_n 3, 1) := by decide +kernel
theorem dX10_doBundle_47 : decode cX10_doBundle 47 = .ok (.iadd, 1) := by decide +kernel
theorem dX10_doBundle_48 : decode cX10_doBundle 48 = .ok (.iaload, 1) := by decide +kernel
theorem dX10_doBundle_49 : decode cX10_doBundle 49 = .ok (.iastore, 1) := by decide +kernel
theorem dX10_doBundle_50 : decode cX10_doBundle 50 = .ok (.iinc 3 1, 3) := by decide +kernel
theorem dX10_doBundle_53 : decode cX10_doBundle 53 = .ok (.goto (-30), 3) := by decide +kernel
theorem dX10_doBundle_56 : decode cX10_doBundle 56 = .ok (.aload_n 0, 1) := by decide +kernel
theorem dX10_doBundle_57 : decode cX10_doBundle 57 = .ok (.iload_n 2, 1) := by decide +kernel
theorem dX10_doBundle_58 : decode cX10_doBundle 58 = .ok (.iconst 1, 1) := by decide +kernel
theorem dX10_doBundle_59 : decode cX10_doBundle 59 = .ok (.invokevirtual 184, 3) := by decide +kernel
theorem dX10_doBundle_62 : decode cX10_doBundle 62 = .ok (.aload_n 0, 1) := by decide +kernel
theorem dX10_doBundle_63 : decode cX10_doBundle 63 = .ok (.iload_n 2, 1) := by decide +kernel
theorem dX10_doBundle_64 : decode cX10_doBundle 64 = .ok (.iconst 2, 1) := by decide +kernel
theorem dX10_doBundle_65 : decode cX10_doBundle 65 = .ok (.invokevirtual 184, 3) := by decide +kernel
theorem dX10_doBundle_68 : decode cX10_doBundle 68 = .ok (.imul, 1) := by decide +kernel
theorem dX10_doBundle_69 : decode cX10_doBundle 69 = .ok (.istore_n 3, 1) := by decide +kernel
theorem dX10_doBundle_70 : decode cX10_doBundle 70 = .ok (.aload_n 0, 1) := by decide +kernel
theorem dX10_doBundle_71 : decode cX10_doBundle 71 = .ok (.iload_n 2, 1) := by decide +kernel
theorem dX10_doBundle_72 : decode cX10_doBundle 72 = .ok (.aload_n 0, 1) := by decide +kernel
theorem dX10_doBundle_73 : decode cX10_doBundle 73 = .ok (.getfield 50, 3) := by decide +kernel
theorem dX10_doBundle_76 : decode cX10_doBundle 76 = .ok (.iload_n 1, 1) := by decide +kernel
theorem dX10_doBundle_77 : decode cX10_doBundle 77 = .ok (.iconst 2, 1) := by decide +kernel
theorem dX10_doBundle_78 : decode cX10_doBundle 78 = .ok (.iadd, 1) := by decide +kernel
theorem dX10_doBundle_79 : decode cX10_doBundle 79 = .ok (.iaload, 1) := by decide +kernel
theorem dX10_doBundle_80 : decode cX10_doBundle 80 = .ok (.aload_n 0, 1) := by decide +kernel
theorem dX10_doBundle_81 : decode cX10_doBundle 81 = .ok (.getfield 50, 3) := by decide +kernel
theorem dX10_doBundle_84 : decode cX10_doBundle 84 = .ok (.iload_n 1, 1) := by decide +kernel
theorem dX10_doBundle_85 : decode cX10_doBundle 85 = .ok (.iconst 3, 1) := by decide +kernel
theorem dX10_doBundle_86 : decode cX10_doBundle 86 = .ok (.iadd, 1) := by decide +kernel
theorem dX10_doBundle_87 : decode cX10_doBundle 87 = .ok (.iaload, 1) := by decide +kernel
theorem dX10_doBundle_88 : decode cX10_doBundle 88 = .ok (.aload_n 0, 1) := by decide +kernel
theorem dX10_doBundle_89 : decode cX10_doBundle 89 = .ok (.iload_n 2, 1) := by decide +kernel
theorem dX10_doBundle_90 : decode cX10_doBundle 90 = .ok (.iconst 0, 1) := by decide +kernel
theorem dX10_doBundle_91 : decode cX10_doBundle 91 = .ok (.invokevirtual 184, 3) := by decide +kernel
theorem dX10_doBundle_94 : decode cX10_doBundle 94 = .ok (.ifCond .ne 12, 3) := by decide +kernel
theorem dX10_doBundle_97 : decode cX10_doBundle 97 = .ok (.aload_n 0, 1) := by decide +kernel
theorem dX10_doBundle_98 : decode cX10_doBundle 98 = .ok (.iload_n 2, 1) := by decide +kernel
theorem dX10_doBundle_99 : decode cX10_doBundle 99 = .ok (.iconst 3, 1) := by decide +kernel
theorem dX10_doBundle_100 : decode cX10_doBundle 100 = .ok (.invokevirtual 184, 3) := by decide +kernel
theorem dX10_doBundle_103 : decode cX10_doBundle 103 = .ok (.goto 4, 3) := by decide +kernel
theorem dX10_doBundle_106 : decode cX10_doBundle 106 = .ok (.iload_n 3, 1) := by decide +kernel
theorem dX10_doBundle_107 : decode cX10_doBundle 107 = .ok (.aload_n 0, 1) := by decide +kernel
theorem dX10_doBundle_108 : decode cX10_doBundle 108 = .ok (.iload_n 2, 1) := by decide +kernel
theorem dX10_doBundle_109 : decode cX10_doBundle 109 = .ok (.iconst 0, 1) := by decide +kernel
theorem dX10_doBundle_110 : decode cX10_doBundle 110 = .ok (.invokevirtual 184, 3) := by decide +kernel
theorem dX10_doBundle_113 : decode cX10_doBundle 113 = .ok (.ifCond .ne 7, 3) := by decide +kernel
theorem dX10_doBundle_116 : decode cX10_doBundle 116 = .ok (.iload_n 3, 1) := by decide +kernel
theorem dX10_doBundle_117 : decode cX10_doBundle 117 = .ok (.goto 9, 3) := by decide +kernel
theorem dX10_doBundle_120 : decode cX10_doBundle 120 = .ok (.aload_n 0, 1) := by decide +kernel
theorem dX10_doBundle_121 : decode cX10_doBundle 121 = .ok (.iload_n 2, 1) := by decide +kernel
theorem dX10_doBundle_122 : decode cX10_doBundle 122 = .ok (.iconst 3, 1) := by decide +kernel
theorem dX10_doBundle_123 : decode cX10_doBundle 123 = .ok (.invokevirtual 184, 3) := by decide +kernel
theorem dX10_doBundle_126 : decode cX10_doBundle 126 = .ok (.invokevirtual 188, 3) := by decide +kernel
theorem dX10_doBundle_129 : decode cX10_doBundle 129 = .ok (.return_, 1) := by decide +kernel
theorem dX10_place_0 : decode cX10_place 0 = .ok (.aload_n 0, 1) := by decide +kernel
theorem dX10_place_1 : decode cX10_place 1 = .ok (.getfield 13, 3) := by decide +kernel
theorem dX10_place_4 : decode cX10_place 4 = .ok (.iload_n 1, 1) := by decide +kernel
theorem dX10_place_5 : decode cX10_place 5 = .ok (.iload_n 2, 1) := by decide +kernel
theorem dX10_place_6 : decode cX10_place 6 = .ok (.iastore, 1) := by decide +kernel
theorem dX10_place_7 : decode cX10_place 7 = .ok (.aload_n 0, 1) := by decide +kernel
theorem dX10_place_8 : decode cX10_place 8 = .ok (.getfield 16, 3) := by decide +kernel
theorem dX10_place_11 : decode cX10_place 11 = .ok (.iload_n 1, 1) := by decide +kernel
theorem dX10_place_12 : decode cX10_place 12 = .ok (.iload_n 3, 1) := by decide +kernel
theorem dX10_place_13 : decode cX10_place 13 = .ok (.iastore, 1) := by decide +kernel
theorem dX10_place_14 : decode cX10_place 14 = .ok (.aload_n 0, 1) := by decide +kernel
theorem dX10_place_15 : decode cX10_place 15 = .ok (.getfield 19, 3) := by decide +kernel
theorem dX10_place_18 : decode cX10_place 18 = .ok (.iload_n 1, 1) := by decide +kernel
theorem dX10_place_19 : decode cX10_place 19 = .ok (.iload 4, 2) := by decide +kernel
theorem dX10_place_21 : decode cX10_place 21 = .ok (.iastore, 1) := by decide +kernel
theorem dX10_place_22 : decode cX10_place 22 = .ok (.aload_n 0, 1) := by decide +kernel
theorem dX10_place_23 : decode cX10_place 23 = .ok (.getfield 22, 3) := by decide +kernel
