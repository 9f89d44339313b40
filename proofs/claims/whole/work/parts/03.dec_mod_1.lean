theorem dX10_place_26 : decode cX10_place 26 = .ok (.iload_n 1, 1) := by decide +kernel
theorem dX10_place_27 : decode cX10_place 27 = .ok (.iload 5, 2) := by decide +kernel
theorem dX10_place_29 : decode cX10_place 29 = .ok (.iastore, 1) := by decide +kernel
theorem dX10_place_30 : decode cX10_place 30 = .ok (.return_, 1) := by decide +kernel
theorem dX10_doLine_0 : decode cX10_doLine 0 = .ok (.aload_n 0, 1) := by decide +kernel
theorem dX10_doLine_1 : decode cX10_doLine 1 = .ok (.getfield 50, 3) := by decide +kernel
theorem dX10_doLine_4 : decode cX10_doLine 4 = .ok (.iload_n 1, 1) := by decide +kernel
theorem dX10_doLine_5 : decode cX10_doLine 5 = .ok (.iconst 1, 1) := by decide +kernel
theorem dX10_doLine_6 : decode cX10_doLine 6 = .ok (.iadd, 1) := by decide +kernel
theorem dX10_doLine_7 : decode cX10_doLine 7 = .ok (.iaload, 1) := by decide +kernel
theorem dX10_doLine_8 : decode cX10_doLine 8 = .ok (.istore_n 2, 1) := by decide +kernel
theorem dX10_doLine_9 : decode cX10_doLine 9 = .ok (.aload_n 0, 1) := by decide +kernel
theorem dX10_doLine_10 : decode cX10_doLine 10 = .ok (.getfield 50, 3) := by decide +kernel
theorem dX10_doLine_13 : decode cX10_doLine 13 = .ok (.iload_n 1, 1) := by decide +kernel
theorem dX10_doLine_14 : decode cX10_doLine 14 = .ok (.iconst 2, 1) := by decide +kernel
theorem dX10_doLine_15 : decode cX10_doLine 15 = .ok (.iadd, 1) := by decide +kernel
theorem dX10_doLine_16 : decode cX10_doLine 16 = .ok (.iaload, 1) := by decide +kernel
theorem dX10_doLine_17 : decode cX10_doLine 17 = .ok (.istore_n 3, 1) := by decide +kernel
theorem dX10_doLine_18 : decode cX10_doLine 18 = .ok (.aload_n 0, 1) := by decide +kernel
theorem dX10_doLine_19 : decode cX10_doLine 19 = .ok (.getfield 50, 3) := by decide +kernel
theorem dX10_doLine_22 : decode cX10_doLine 22 = .ok (.iload_n 1, 1) := by decide +kernel
theorem dX10_doLine_23 : decode cX10_doLine 23 = .ok (.iaload, 1) := by decide +kernel
theorem dX10_doLine_24 : decode cX10_doLine 24 = .ok (.tableswitch 228 0 5 #[40, 48, 93, 117, 168, 220], 40) := by decide +kernel
theorem dX10_doLine_64 : decode cX10_doLine 64 = .ok (.aload_n 0, 1) := by decide +kernel
theorem dX10_doLine_65 : decode cX10_doLine 65 = .ok (.iload_n 1, 1) := by decide +kernel
theorem dX10_doLine_66 : decode cX10_doLine 66 = .ok (.invokevirtual 192, 3) := by decide +kernel
theorem dX10_doLine_69 : decode cX10_doLine 69 = .ok (.goto 188, 3) := by decide +kernel
theorem dX10_doLine_72 : decode cX10_doLine 72 = .ok (.aload_n 0, 1) := by decide +kernel
theorem dX10_doLine_73 : decode cX10_doLine 73 = .ok (.aload_n 0, 1) := by decide +kernel
theorem dX10_doLine_74 : decode cX10_doLine 74 = .ok (.getfield 90, 3) := by decide +kernel
theorem dX10_doLine_77 : decode cX10_doLine 77 = .ok (.iconst 1, 1) := by decide +kernel
theorem dX10_doLine_78 : decode cX10_doLine 78 = .ok (.iload_n 2, 1) := by decide +kernel
theorem dX10_doLine_79 : decode cX10_doLine 79 = .ok (.ishl, 1) := by decide +kernel
theorem dX10_doLine_80 : decode cX10_doLine 80 = .ok (.ior, 1) := by decide +kernel
theorem dX10_doLine_81 : decode cX10_doLine 81 = .ok (.putfield 90, 3) := by decide +kernel
theorem dX10_doLine_84 : decode cX10_doLine 84 = .ok (.aload_n 0, 1) := by decide +kernel
theorem dX10_doLine_85 : decode cX10_doLine 85 = .ok (.iload_n 2, 1) := by decide +kernel
theorem dX10_doLine_86 : decode cX10_doLine 86 = .ok (.iload_n 3, 1) := by decide +kernel
theorem dX10_doLine_87 : decode cX10_doLine 87 = .ok (.aload_n 0, 1) := by decide +kernel
theorem dX10_doLine_88 : decode cX10_doLine 88 = .ok (.getfield 50, 3) := by decide +kernel
theorem dX10_doLine_91 : decode cX10_doLine 91 = .ok (.iload_n 1, 1) := by decide +kernel
theorem dX10_doLine_92 : decode cX10_doLine 92 = .ok (.iconst 3, 1) := by decide +kernel
theorem dX10_doLine_93 : decode cX10_doLine 93 = .ok (.iadd, 1) := by decide +kernel
theorem dX10_doLine_94 : decode cX10_doLine 94 = .ok (.iaload, 1) := by decide +kernel
theorem dX10_doLine_95 : decode cX10_doLine 95 = .ok (.aload_n 0, 1) := by decide +kernel
theorem dX10_doLine_96 : decode cX10_doLine 96 = .ok (.getfield 50, 3) := by decide +kernel
theorem dX10_doLine_99 : decode cX10_doLine 99 = .ok (.iload_n 1, 1) := by decide +kernel
theorem dX10_doLine_100 : decode cX10_doLine 100 = .ok (.iconst 4, 1) := by decide +kernel
theorem dX10_doLine_101 : decode cX10_doLine 101 = .ok (.iadd, 1) := by decide +kernel
theorem dX10_doLine_102 : decode cX10_doLine 102 = .ok (.iaload, 1) := by decide +kernel
theorem dX10_doLine_103 : decode cX10_doLine 103 = .ok (.aload_n 0, 1) := by decide +kernel
theorem dX10_doLine_104 : decode cX10_doLine 104 = .ok (.getfield 50, 3) := by decide +kernel
theorem dX10_doLine_107 : decode cX10_doLine 107 = .ok (.iload_n 1, 1) := by decide +kernel
theorem dX10_doLine_108 : decode cX10_doLine 108 = .ok (.iconst 5, 1) := by decide +kernel
theorem dX10_doLine_109 : decode cX10_doLine 109 = .ok (.iadd, 1) := by decide +kernel
theorem dX10_doLine_110 : decode cX10_doLine 110 = .ok (.iaload, 1) := by decide +kernel
theorem dX10_doLine_111 : decode cX10_doLine 111 = .ok (.invokevirtual 188, 3) := by decide +kernel
theorem dX10_doLine_114 : decode cX10_doLine 114 = .ok (.goto 143, 3) := by decide +kernel
theorem dX10_doLine_117 : decode cX10_doLine 117 = .ok (.aload_n 0, 1) := by decide +kernel
theorem dX10_doLine_118 : decode cX10_doLine 118 = .ok (.getfield 25, 3) := by decide +kernel
theorem dX10_doLine_121 : decode cX10_doLine 121 = .ok (.iload_n 2, 1) := by decide +kernel
theorem dX10_doLine_122 : decode cX10_doLine 122 = .ok (.iload_n 3, 1) := by decide +kernel
theorem dX10_doLine_123 : decode cX10_doLine 123 = .ok (.iastore, 1) := by decide +kernel
theorem dX10_doLine_124 : decode cX10_doLine 124 = .ok (.aload_n 0, 1) := by decide +kernel
theorem dX10_doLine_125 : decode cX10_doLine 125 = .ok (.getfield 28, 3) := by decide +kernel
theorem dX10_doLine_128 : decode cX10_doLine 128 = .ok (.iload_n 2, 1) := by decide +kernel
theorem dX10_doLine_129 : decode cX10_doLine 129 = .ok (.aload_n 0, 1) := by decide +kernel
theorem dX10_doLine_130 : decode cX10_doLine 130 = .ok (.getfield 50, 3) := by decide +kernel
theorem dX10_doLine_133 : decode cX10_doLine 133 = .ok (.iload_n 1, 1) := by decide +kernel
theorem dX10_doLine_134 : decode cX10_doLine 134 = .ok (.iconst 3, 1) := by decide +kernel
theorem dX10_doLine_135 : decode cX10_doLine 135 = .ok (.iadd, 1) := by decide +kernel
theorem dX10_doLine_136 : decode cX10_doLine 136 = .ok (.iaload, 1) := by decide +kernel
theorem dX10_doLine_137 : decode cX10_doLine 137 = .ok (.iastore, 1) := by decide +kernel
theorem dX10_doLine_138 : decode cX10_doLine 138 = .ok (.goto 119, 3) := by decide +kernel
theorem dX10_doLine_141 : decode cX10_doLine 141 = .ok (.aload_n 0, 1) := by decide +kernel
theorem dX10_doLine_142 : decode cX10_doLine 142 = .ok (.getfield 31, 3) := by decide +kernel
theorem dX10_doLine_145 : decode cX10_doLine 145 = .ok (.iload_n 2, 1) := by decide +kernel
theorem dX10_doLine_146 : decode cX10_doLine 146 = .ok (.iaload, 1) := by decide +kernel
theorem dX10_doLine_147 : decode cX10_doLine 147 = .ok (.iload_n 3, 1) := by decide +kernel
theorem dX10_doLine_148 : decode cX10_doLine 148 = .ok (.ishr, 1) := by decide +kernel
theorem dX10_doLine_149 : decode cX10_doLine 149 = .ok (.iconst 1, 1) := by decide +kernel
theorem dX10_doLine_150 : decode cX10_doLine 150 = .ok (.iand, 1) := by decide +kernel
theorem dX10_doLine_151 : decode cX10_doLine 151 = .ok (.ifCond .ne 106, 3) := by decide +kernel
theorem dX10_doLine_154 : decode cX10_doLine 154 = .ok (.aload_n 0, 1) := by decide +kernel
theorem dX10_doLine_155 : decode cX10_doLine 155 = .ok (.getfield 196, 3) := by decide +kernel
theorem dX10_doLine_158 : decode cX10_doLine 158 = .ok (.bipush 24, 2) := by decide +kernel
theorem dX10_doLine_160 : decode cX10_doLine 160 = .ok (.if_icmp .ge 97, 3) := by decide +kernel
theorem dX10_doLine_163 : decode cX10_doLine 163 = .ok (.aload_n 0, 1) := by decide +kernel
theorem dX10_doLine_164 : decode cX10_doLine 164 = .ok (.getfield 31, 3) := by decide +kernel
theorem dX10_doLine_167 : decode cX10_doLine 167 = .ok (.iload_n 2, 1) := by decide +kernel
theorem dX10_doLine_168 : decode cX10_doLine 168 = .ok (.aload_n 0, 1) := by decide +kernel
theorem dX10_doLine_169 : decode cX10_doLine 169 = .ok (.getfield 31, 3) := by decide +kernel
theorem dX10_doLine_172 : decode cX10_doLine 172 = .ok (.iload_n 2, 1) := by decide +kernel
theorem dX10_doLine_173 : decode cX10_doLine 173 = .ok (.iaload, 1) := by decide +kernel
theorem dX10_doLine_174 : decode cX10_doLine 174 = .ok (.iconst 1, 1) := by decide +kernel
theorem dX10_doLine_175 : decode cX10_doLine 175 = .ok (.iload_n 3, 1) := by decide +kernel
theorem dX10_doLine_176 : decode cX10_doLine 176 = .ok (.ishl, 1) := by decide +kernel
theorem dX10_doLine_177 : decode cX10_doLine 177 = .ok (.ior, 1) := by decide +kernel
theorem dX10_doLine_178 : decode cX10_doLine 178 = .ok (.iastore, 1) := by decide +kernel
theorem dX10_doLine_179 : decode cX10_doLine 179 = .ok (.aload_n 0, 1) := by decide +kernel
theorem dX10_doLine_180 : decode cX10_doLine 180 = .ok (.dup, 1) := by decide +kernel
theorem dX10_doLine_181 : decode cX10_doLine 181 = .ok (.getfield 196, 3) := by decide +kernel
theorem dX10_doLine_184 : decode cX10_doLine 184 = .ok (.iconst 1, 1) := by decide +kernel
theorem dX10_doLine_185 : decode cX10_doLine 185 = .ok (.iadd, 1) := by decide +kernel
theorem dX10_doLine_186 : decode cX10_doLine 186 = .ok (.putfield 196, 3) := by decide +kernel
theorem dX10_doLine_189 : decode cX10_doLine 189 = .ok (.goto 68, 3) := by decide +kernel
theorem dX10_doLine_192 : decode cX10_doLine 192 = .ok (.aload_n 0, 1) := by decide +kernel
theorem dX10_doLine_193 : decode cX10_doLine 193 = .ok (.aload_n 0, 1) := by decide +kernel
theorem dX10_doLine_194 : decode cX10_doLine 194 = .ok (.getfield 199, 3) := by decide +kernel
theorem dX10_doLine_197 : decode cX10_doLine 197 = .ok (.iconst 1, 1) := by decide +kernel
theorem dX10_doLine_198 : decode cX10_doLine 198 = .ok (.iload_n 2, 1) := by decide +kernel
theorem dX10_doLine_199 : decode cX10_doLine 199 = .ok (.ishl, 1) := by decide +kernel
theorem dX10_doLine_200 : decode cX10_doLine 200 = .ok (.ior, 1) := by decide +kernel
theorem dX10_doLine_201 : decode cX10_doLine 201 = .ok (.putfield 199, 3) := by decide +kernel
theorem dX10_doLine_204 : decode cX10_doLine 204 = .ok (.iconst 0, 1) := by decide +kernel
theorem dX10_doLine_205 : decode cX10_doLine 205 = .ok (.istore 4, 2) := by decide +kernel
theorem dX10_doLine_207 : decode cX10_doLine 207 = .ok (.iload 4, 2) := by decide +kernel
theorem dX10_doLine_209 : decode cX10_doLine 209 = .ok (.iconst 4, 1) := by decide +kernel
theorem dX10_doLine_210 : decode cX10_doLine 210 = .ok (.if_icmp .ge 31, 3) := by decide +kernel
theorem dX10_doLine_213 : decode cX10_doLine 213 = .ok (.aload_n 0, 1) := by decide +kernel
theorem dX10_doLine_214 : decode cX10_doLine 214 = .ok (.getfield 37, 3) := by decide +kernel
theorem dX10_doLine_217 : decode cX10_doLine 217 = .ok (.iconst 4, 1) := by decide +kernel
theorem dX10_doLine_218 : decode cX10_doLine 218 = .ok (.iload_n 2, 1) := by decide +kernel
theorem dX10_doLine_219 : decode cX10_doLine 219 = .ok (.imul, 1) := by decide +kernel
theorem dX10_doLine_220 : decode cX10_doLine 220 = .ok (.iload 4, 2) := by decide +kernel
theorem dX10_doLine_222 : decode cX10_doLine 222 = .ok (.iadd, 1) := by decide +kernel
theorem dX10_doLine_223 : decode cX10_doLine 223 = .ok (.aload_n 0, 1) := by decide +kernel
theorem dX10_doLine_224 : decode cX10_doLine 224 = .ok (.getfield 50, 3) := by decide +kernel
theorem dX10_doLine_227 : decode cX10_doLine 227 = .ok (.iload_n 1, 1) := by decide +kernel
theorem dX10_doLine_228 : decode cX10_doLine 228 = .ok (.iconst 2, 1) := by decide +kernel
theorem dX10_doLine_229 : decode cX10_doLine 229 = .ok (.iadd, 1) := by decide +kernel
theorem dX10_doLine_230 : decode cX10_doLine 230 = .ok (.iload 4, 2) := by decide +kernel
theorem dX10_doLine_232 : decode cX10_doLine 232 = .ok (.iadd, 1) := by decide +kernel
theorem dX10_doLine_233 : decode cX10_doLine 233 = .ok (.iaload, 1) := by decide +kernel
theorem dX10_doLine_234 : decode cX10_doLine 234 = .ok (.iastore, 1) := by decide +kernel
theorem dX10_doLine_235 : decode cX10_doLine 235 = .ok (.iinc 4 1, 3) := by decide +kernel
theorem dX10_doLine_238 : decode cX10_doLine 238 = .ok (.goto (-31), 3) := by decide +kernel
theorem dX10_doLine_241 : decode cX10_doLine 241 = .ok (.goto 16, 3) := by decide +kernel
theorem dX10_doLine_244 : decode cX10_doLine 244 = .ok (.aload_n 0, 1) := by decide +kernel
theorem dX10_doLine_245 : decode cX10_doLine 245 = .ok (.iload_n 2, 1) := by decide +kernel
theorem dX10_doLine_246 : decode cX10_doLine 246 = .ok (.putfield 40, 3) := by decide +kernel
theorem dX10_doLine_249 : decode cX10_doLine 249 = .ok (.goto 8, 3) := by decide +kernel
theorem dX10_doLine_252 : decode cX10_doLine 252 = .ok (.aload_n 0, 1) := by decide +kernel
theorem dX10_doLine_253 : decode cX10_doLine 253 = .ok (.iload_n 2, 1) := by decide +kernel
theorem dX10_doLine_254 : decode cX10_doLine 254 = .ok (.putfield 44, 3) := by decide +kernel
theorem dX10_doLine_257 : decode cX10_doLine 257 = .ok (.return_, 1) := by decide +kernel
theorem dX10_parish_0 : decode cX10_parish 0 = .ok (.aload_n 0, 1) := by decide +kernel
theorem dX10_parish_1 : decode cX10_parish 1 = .ok (.invokevirtual 181, 3) := by decide +kernel
theorem dX10_parish_4 : decode cX10_parish 4 = .ok (.ifCond .ne 6, 3) := by decide +kernel
theorem dX10_parish_7 : decode cX10_parish 7 = .ok (.bipush (-4), 2) := by decide +kernel
theorem dX10_parish_9 : decode cX10_parish 9 = .ok (.ireturn, 1) := by decide +kernel
theorem dX10_parish_10 : decode cX10_parish 10 = .ok (.iconst 0, 1) := by decide +kernel
theorem dX10_parish_11 : decode cX10_parish 11 = .ok (.istore_n 1, 1) := by decide +kernel
theorem dX10_parish_12 : decode cX10_parish 12 = .ok (.iload_n 1, 1) := by decide +kernel
theorem dX10_parish_13 : decode cX10_parish 13 = .ok (.aload_n 0, 1) := by decide +kernel
theorem dX10_parish_14 : decode cX10_parish 14 = .ok (.getfield 175, 3) := by decide +kernel
theorem dX10_parish_17 : decode cX10_parish 17 = .ok (.if_icmp .ge 17, 3) := by decide +kernel
theorem dX10_parish_20 : decode cX10_parish 20 = .ok (.aload_n 0, 1) := by decide +kernel
theorem dX10_parish_21 : decode cX10_parish 21 = .ok (.bipush 11, 2) := by decide +kernel
theorem dX10_parish_23 : decode cX10_parish 23 = .ok (.iload_n 1, 1) := by decide +kernel
theorem dX10_parish_24 : decode cX10_parish 24 = .ok (.imul, 1) := by decide +kernel
theorem dX10_parish_25 : decode cX10_parish 25 = .ok (.invokevirtual 202, 3) := by decide +kernel
theorem dX10_parish_28 : decode cX10_parish 28 = .ok (.iinc 1 1, 3) := by decide +kernel
theorem dX10_parish_31 : decode cX10_parish 31 = .ok (.goto (-19), 3) := by decide +kernel
theorem dX10_parish_34 : decode cX10_parish 34 = .ok (.aload_n 0, 1) := by decide +kernel
theorem dX10_parish_35 : decode cX10_parish 35 = .ok (.iconst 0, 1) := by decide +kernel
theorem dX10_parish_36 : decode cX10_parish 36 = .ok (.putfield 97, 3) := by decide +kernel
theorem dX10_parish_39 : decode cX10_parish 39 = .ok (.aload_n 0, 1) := by decide +kernel
theorem dX10_parish_40 : decode cX10_parish 40 = .ok (.getfield 175, 3) := by decide +kernel
theorem dX10_parish_43 : decode cX10_parish 43 = .ok (.ireturn, 1) := by decide +kernel
theorem dX10_yardsOf_0 : decode cX10_yardsOf 0 = .ok (.aload_n 0, 1) := by decide +kernel
theorem dX10_yardsOf_1 : decode cX10_yardsOf 1 = .ok (.getfield 19, 3) := by decide +kernel
theorem dX10_yardsOf_4 : decode cX10_yardsOf 4 = .ok (.iload_n 1, 1) := by decide +kernel
theorem dX10_yardsOf_5 : decode cX10_yardsOf 5 = .ok (.iaload, 1) := by decide +kernel
theorem dX10_yardsOf_6 : decode cX10_yardsOf 6 = .ok (.aload_n 0, 1) := by decide +kernel
theorem dX10_yardsOf_7 : decode cX10_yardsOf 7 = .ok (.getfield 22, 3) := by decide +kernel
theorem dX10_yardsOf_10 : decode cX10_yardsOf 10 = .ok (.iload_n 1, 1) := by decide +kernel
theorem dX10_yardsOf_11 : decode cX10_yardsOf 11 = .ok (.iaload, 1) := by decide +kernel
theorem dX10_yardsOf_12 : decode cX10_yardsOf 12 = .ok (.imul, 1) := by decide +kernel
theorem dX10_yardsOf_13 : decode cX10_yardsOf 13 = .ok (.ireturn, 1) := by decide +kernel
theorem dX10_bundle_0 : decode cX10_bundle 0 = .ok (.aload_n 0, 1) := by decide +kernel
theorem dX10_bundle_1 : decode cX10_bundle 1 = .ok (.iload_n 1, 1) := by decide +kernel
theorem dX10_bundle_2 : decode cX10_bundle 2 = .ok (.invokevirtual 205, 3) := by decide +kernel
theorem dX10_bundle_5 : decode cX10_bundle 5 = .ok (.ifCond .ne 6, 3) := by decide +kernel
theorem dX10_bundle_8 : decode cX10_bundle 8 = .ok (.bipush (-2), 2) := by decide +kernel
theorem dX10_bundle_10 : decode cX10_bundle 10 = .ok (.ireturn, 1) := by decide +kernel
theorem dX10_bundle_11 : decode cX10_bundle 11 = .ok (.iload_n 2, 1) := by decide +kernel
theorem dX10_bundle_12 : decode cX10_bundle 12 = .ok (.iconst 0, 1) := by decide +kernel
theorem dX10_bundle_13 : decode cX10_bundle 13 = .ok (.bipush 9, 2) := by decide +kernel
theorem dX10_bundle_15 : decode cX10_bundle 15 = .ok (.invokestatic 86, 3) := by decide +kernel
theorem dX10_bundle_18 : decode cX10_bundle 18 = .ok (.ifCond .ne 6, 3) := by decide +kernel
theorem dX10_bundle_21 : decode cX10_bundle 21 = .ok (.bipush (-3), 2) := by decide +kernel
theorem dX10_bundle_23 : decode cX10_bundle 23 = .ok (.ireturn, 1) := by decide +kernel
theorem dX10_bundle_24 : decode cX10_bundle 24 = .ok (.iload_n 2, 1) := by decide +kernel
theorem dX10_bundle_25 : decode cX10_bundle 25 = .ok (.ifCond .ne 12, 3) := by decide +kernel
theorem dX10_bundle_28 : decode cX10_bundle 28 = .ok (.aload_n 0, 1) := by decide +kernel
theorem dX10_bundle_29 : decode cX10_bundle 29 = .ok (.getfield 13, 3) := by decide +kernel
theorem dX10_bundle_32 : decode cX10_bundle 32 = .ok (.iload_n 1, 1) := by decide +kernel
theorem dX10_bundle_33 : decode cX10_bundle 33 = .ok (.iaload, 1) := by decide +kernel
theorem dX10_bundle_34 : decode cX10_bundle 34 = .ok (.goto 39, 3) := by decide +kernel
theorem dX10_bundle_37 : decode cX10_bundle 37 = .ok (.iload_n 2, 1) := by decide +kernel
theorem dX10_bundle_38 : decode cX10_bundle 38 = .ok (.iconst 1, 1) := by decide +kernel
theorem dX10_bundle_39 : decode cX10_bundle 39 = .ok (.if_icmp .ne 12, 3) := by decide +kernel
theorem dX10_bundle_42 : decode cX10_bundle 42 = .ok (.aload_n 0, 1) := by decide +kernel
theorem dX10_bundle_43 : decode cX10_bundle 43 = .ok (.getfield 16, 3) := by decide +kernel
theorem dX10_bundle_46 : decode cX10_bundle 46 = .ok (.iload_n 1, 1) := by decide +kernel
theorem dX10_bundle_47 : decode cX10_bundle 47 = .ok (.iaload, 1) := by decide +kernel
theorem dX10_bundle_48 : decode cX10_bundle 48 = .ok (.goto 25, 3) := by decide +kernel
theorem dX10_bundle_51 : decode cX10_bundle 51 = .ok (.iload_n 2, 1) := by decide +kernel
theorem dX10_bundle_52 : decode cX10_bundle 52 = .ok (.bipush 9, 2) := by decide +kernel
theorem dX10_bundle_54 : decode cX10_bundle 54 = .ok (.if_icmp .ne 11, 3) := by decide +kernel
theorem dX10_bundle_57 : decode cX10_bundle 57 = .ok (.aload_n 0, 1) := by decide +kernel
theorem dX10_bundle_58 : decode cX10_bundle 58 = .ok (.iload_n 1, 1) := by decide +kernel
theorem dX10_bundle_59 : decode cX10_bundle 59 = .ok (.invokevirtual 208, 3) := by decide +kernel
theorem dX10_bundle_62 : decode cX10_bundle 62 = .ok (.goto 11, 3) := by decide +kernel
theorem dX10_bundle_65 : decode cX10_bundle 65 = .ok (.aload_n 0, 1) := by decide +kernel
theorem dX10_bundle_66 : decode cX10_bundle 66 = .ok (.iload_n 1, 1) := by decide +kernel
theorem dX10_bundle_67 : decode cX10_bundle 67 = .ok (.iload_n 2, 1) := by decide +kernel
theorem dX10_bundle_68 : decode cX10_bundle 68 = .ok (.iconst 2, 1) := by decide +kernel
theorem dX10_bundle_69 : decode cX10_bundle 69 = .ok (.isub, 1) := by decide +kernel
theorem dX10_bundle_70 : decode cX10_bundle 70 = .ok (.invokevirtual 184, 3) := by decide +kernel
theorem dX10_bundle_73 : decode cX10_bundle 73 = .ok (.ireturn, 1) := by decide +kernel
theorem dX10_covers_0 : decode cX10_covers 0 = .ok (.aload_n 0, 1) := by decide +kernel
theorem dX10_covers_1 : decode cX10_covers 1 = .ok (.iload_n 1, 1) := by decide +kernel
theorem dX10_covers_2 : decode cX10_covers 2 = .ok (.invokevirtual 93, 3) := by decide +kernel
theorem dX10_covers_5 : decode cX10_covers 5 = .ok (.ifCond .ne 6, 3) := by decide +kernel
theorem dX10_covers_8 : decode cX10_covers 8 = .ok (.bipush (-2), 2) := by decide +kernel
theorem dX10_covers_10 : decode cX10_covers 10 = .ok (.ireturn, 1) := by decide +kernel
theorem dX10_covers_11 : decode cX10_covers 11 = .ok (.iload_n 2, 1) := by decide +kernel
theorem dX10_covers_12 : decode cX10_covers 12 = .ok (.ifCond .ne 12, 3) := by decide +kernel
theorem dX10_covers_15 : decode cX10_covers 15 = .ok (.aload_n 0, 1) := by decide +kernel
theorem dX10_covers_16 : decode cX10_covers 16 = .ok (.getfield 13, 3) := by decide +kernel
theorem dX10_covers_19 : decode cX10_covers 19 = .ok (.iload_n 1, 1) := by decide +kernel
theorem dX10_covers_20 : decode cX10_covers 20 = .ok (.iaload, 1) := by decide +kernel
theorem dX10_covers_21 : decode cX10_covers 21 = .ok (.goto 47, 3) := by decide +kernel
theorem dX10_covers_24 : decode cX10_covers 24 = .ok (.iload_n 2, 1) := by decide +kernel
theorem dX10_covers_25 : decode cX10_covers 25 = .ok (.iconst 1, 1) := by decide +kernel
theorem dX10_covers_26 : decode cX10_covers 26 = .ok (.if_icmp .ne 12, 3) := by decide +kernel
theorem dX10_covers_29 : decode cX10_covers 29 = .ok (.aload_n 0, 1) := by decide +kernel
theorem dX10_covers_30 : decode cX10_covers 30 = .ok (.getfield 16, 3) := by decide +kernel
theorem dX10_covers_33 : decode cX10_covers 33 = .ok (.iload_n 1, 1) := by decide +kernel
theorem dX10_covers_34 : decode cX10_covers 34 = .ok (.iaload, 1) := by decide +kernel
theorem dX10_covers_35 : decode cX10_covers 35 = .ok (.goto 33, 3) := by decide +kernel
theorem dX10_covers_38 : decode cX10_covers 38 = .ok (.iload_n 2, 1) := by decide +kernel
theorem dX10_covers_39 : decode cX10_covers 39 = .ok (.iconst 2, 1) := by decide +kernel
theorem dX10_covers_40 : decode cX10_covers 40 = .ok (.if_icmp .ne 12, 3) := by decide +kernel
theorem dX10_covers_43 : decode cX10_covers 43 = .ok (.aload_n 0, 1) := by decide +kernel
theorem dX10_covers_44 : decode cX10_covers 44 = .ok (.getfield 19, 3) := by decide +kernel
theorem dX10_covers_47 : decode cX10_covers 47 = .ok (.iload_n 1, 1) := by decide +kernel
theorem dX10_covers_48 : decode cX10_covers 48 = .ok (.iaload, 1) := by decide +kernel
theorem dX10_covers_49 : decode cX10_covers 49 = .ok (.goto 19, 3) := by decide +kernel
theorem dX10_covers_52 : decode cX10_covers 52 = .ok (.iload_n 2, 1) := by decide +kernel
theorem dX10_covers_53 : decode cX10_covers 53 = .ok (.iconst 3, 1) := by decide +kernel
theorem dX10_covers_54 : decode cX10_covers 54 = .ok (.if_icmp .ne 12, 3) := by decide +kernel
theorem dX10_covers_57 : decode cX10_covers 57 = .ok (.aload_n 0, 1) := by decide +kernel
theorem dX10_covers_58 : decode cX10_covers 58 = .ok (.getfield 22, 3) := by decide +kernel
theorem dX10_covers_61 : decode cX10_covers 61 = .ok (.iload_n 1, 1) := by decide +kernel
theorem dX10_covers_62 : decode cX10_covers 62 = .ok (.iaload, 1) := by decide +kernel
theorem dX10_covers_63 : decode cX10_covers 63 = .ok (.goto 5, 3) := by decide +kernel
theorem dX10_covers_66 : decode cX10_covers 66 = .ok (.bipush (-3), 2) := by decide +kernel
theorem dX10_covers_68 : decode cX10_covers 68 = .ok (.ireturn, 1) := by decide +kernel
theorem dX10_teamsOf_0 : decode cX10_teamsOf 0 = .ok (.iconst 0, 1) := by decide +kernel
theorem dX10_teamsOf_1 : decode cX10_teamsOf 1 = .ok (.istore_n 2, 1) := by decide +kernel
theorem dX10_teamsOf_2 : decode cX10_teamsOf 2 = .ok (.iconst 1, 1) := by decide +kernel
theorem dX10_teamsOf_3 : decode cX10_teamsOf 3 = .ok (.istore_n 3, 1) := by decide +kernel
theorem dX10_teamsOf_4 : decode cX10_teamsOf 4 = .ok (.iload_n 3, 1) := by decide +kernel
theorem dX10_teamsOf_5 : decode cX10_teamsOf 5 = .ok (.bipush 13, 2) := by decide +kernel
theorem dX10_teamsOf_7 : decode cX10_teamsOf 7 = .ok (.if_icmp .ge 61, 3) := by decide +kernel
theorem dX10_teamsOf_10 : decode cX10_teamsOf 10 = .ok (.iload_n 2, 1) := by decide +kernel
theorem dX10_teamsOf_11 : decode cX10_teamsOf 11 = .ok (.aload_n 0, 1) := by decide +kernel
theorem dX10_teamsOf_12 : decode cX10_teamsOf 12 = .ok (.getfield 199, 3) := by decide +kernel
theorem dX10_teamsOf_15 : decode cX10_teamsOf 15 = .ok (.iload_n 3, 1) := by decide +kernel
theorem dX10_teamsOf_16 : decode cX10_teamsOf 16 = .ok (.ishr, 1) := by decide +kernel
theorem dX10_teamsOf_17 : decode cX10_teamsOf 17 = .ok (.iconst 1, 1) := by decide +kernel
theorem dX10_teamsOf_18 : decode cX10_teamsOf 18 = .ok (.iand, 1) := by decide +kernel
theorem dX10_teamsOf_19 : decode cX10_teamsOf 19 = .ok (.iconst 1, 1) := by decide +kernel
theorem dX10_teamsOf_20 : decode cX10_teamsOf 20 = .ok (.if_icmp .ne 39, 3) := by decide +kernel
theorem dX10_teamsOf_23 : decode cX10_teamsOf 23 = .ok (.aload_n 0, 1) := by decide +kernel
theorem dX10_teamsOf_24 : decode cX10_teamsOf 24 = .ok (.iload_n 1, 1) := by decide +kernel
theorem dX10_teamsOf_25 : decode cX10_teamsOf 25 = .ok (.iconst 4, 1) := by decide +kernel
theorem dX10_teamsOf_26 : decode cX10_teamsOf 26 = .ok (.invokevirtual 184, 3) := by decide +kernel
theorem dX10_teamsOf_29 : decode cX10_teamsOf 29 = .ok (.aload_n 0, 1) := by decide +kernel
theorem dX10_teamsOf_30 : decode cX10_teamsOf 30 = .ok (.getfield 37, 3) := by decide +kernel
theorem dX10_teamsOf_33 : decode cX10_teamsOf 33 = .ok (.iconst 4, 1) := by decide +kernel
theorem dX10_teamsOf_34 : decode cX10_teamsOf 34 = .ok (.iload_n 3, 1) := by decide +kernel
theorem dX10_teamsOf_35 : decode cX10_teamsOf 35 = .ok (.imul, 1) := by decide +kernel
theorem dX10_teamsOf_36 : decode cX10_teamsOf 36 = .ok (.iaload, 1) := by decide +kernel
theorem dX10_teamsOf_37 : decode cX10_teamsOf 37 = .ok (.aload_n 0, 1) := by decide +kernel
theorem dX10_teamsOf_38 : decode cX10_teamsOf 38 = .ok (.getfield 37, 3) := by decide +kernel
theorem dX10_teamsOf_41 : decode cX10_teamsOf 41 = .ok (.iconst 4, 1) := by decide +kernel
theorem dX10_teamsOf_42 : decode cX10_teamsOf 42 = .ok (.iload_n 3, 1) := by decide +kernel
theorem dX10_teamsOf_43 : decode cX10_teamsOf 43 = .ok (.imul, 1) := by decide +kernel
theorem dX10_teamsOf_44 : decode cX10_teamsOf 44 = .ok (.iconst 1, 1) := by decide +kernel
theorem dX10_teamsOf_45 : decode cX10_teamsOf 45 = .ok (.iadd, 1) := by decide +kernel
theorem dX10_teamsOf_46 : decode cX10_teamsOf 46 = .ok (.iaload, 1) := by decide +kernel
theorem dX10_teamsOf_47 : decode cX10_teamsOf 47 = .ok (.invokestatic 86, 3) := by decide +kernel
theorem dX10_teamsOf_50 : decode cX10_teamsOf 50 = .ok (.ifCond .eq 9, 3) := by decide +kernel
theorem dX10_teamsOf_53 : decode cX10_teamsOf 53 = .ok (.iconst 1, 1) := by decide +kernel
theorem dX10_teamsOf_54 : decode cX10_teamsOf 54 = .ok (.iload_n 3, 1) := by decide +kernel
theorem dX10_teamsOf_55 : decode cX10_teamsOf 55 = .ok (.ishl, 1) := by decide +kernel
theorem dX10_teamsOf_56 : decode cX10_teamsOf 56 = .ok (.goto 4, 3) := by decide +kernel
theorem dX10_teamsOf_59 : decode cX10_teamsOf 59 = .ok (.iconst 0, 1) := by decide +kernel
theorem dX10_teamsOf_60 : decode cX10_teamsOf 60 = .ok (.ior, 1) := by decide +kernel
theorem dX10_teamsOf_61 : decode cX10_teamsOf 61 = .ok (.istore_n 2, 1) := by decide +kernel
theorem dX10_teamsOf_62 : decode cX10_teamsOf 62 = .ok (.iinc 3 1, 3) := by decide +kernel
theorem dX10_teamsOf_65 : decode cX10_teamsOf 65 = .ok (.goto (-61), 3) := by decide +kernel
theorem dX10_teamsOf_68 : decode cX10_teamsOf 68 = .ok (.iload_n 2, 1) := by decide +kernel
theorem dX10_teamsOf_69 : decode cX10_teamsOf 69 = .ok (.ireturn, 1) := by decide +kernel
theorem dX10_teams_0 : decode cX10_teams 0 = .ok (.aload_n 0, 1) := by decide +kernel
theorem dX10_teams_1 : decode cX10_teams 1 = .ok (.iload_n 1, 1) := by decide +kernel
theorem dX10_teams_2 : decode cX10_teams 2 = .ok (.invokevirtual 205, 3) := by decide +kernel
theorem dX10_teams_5 : decode cX10_teams 5 = .ok (.ifCond .eq 11, 3) := by decide +kernel
theorem dX10_teams_8 : decode cX10_teams 8 = .ok (.aload_n 0, 1) := by decide +kernel
theorem dX10_teams_9 : decode cX10_teams 9 = .ok (.iload_n 1, 1) := by decide +kernel
theorem dX10_teams_10 : decode cX10_teams 10 = .ok (.invokevirtual 212, 3) := by decide +kernel
theorem dX10_teams_13 : decode cX10_teams 13 = .ok (.goto 5, 3) := by decide +kernel
theorem dX10_teams_16 : decode cX10_teams 16 = .ok (.bipush (-2), 2) := by decide +kernel
theorem dX10_teams_18 : decode cX10_teams 18 = .ok (.ireturn, 1) := by decide +kernel
theorem dX10_beginYears_0 : decode cX10_beginYears 0 = .ok (.aload_n 0, 1) := by decide +kernel
theorem dX10_beginYears_1 : decode cX10_beginYears 1 = .ok (.getfield 53, 3) := by decide +kernel
theorem dX10_beginYears_4 : decode cX10_beginYears 4 = .ok (.iload_n 1, 1) := by decide +kernel
theorem dX10_beginYears_5 : decode cX10_beginYears 5 = .ok (.aload_n 0, 1) := by decide +kernel
theorem dX10_beginYears_6 : decode cX10_beginYears 6 = .ok (.getfield 25, 3) := by decide +kernel
theorem dX10_beginYears_9 : decode cX10_beginYears 9 = .ok (.iload_n 1, 1) := by decide +kernel
theorem dX10_beginYears_10 : decode cX10_beginYears 10 = .ok (.iaload, 1) := by decide +kernel
theorem dX10_beginYears_11 : decode cX10_beginYears 11 = .ok (.iastore, 1) := by decide +kernel
theorem dX10_beginYears_12 : decode cX10_beginYears 12 = .ok (.aload_n 0, 1) := by decide +kernel
theorem dX10_beginYears_13 : decode cX10_beginYears 13 = .ok (.getfield 56, 3) := by decide +kernel
theorem dX10_beginYears_16 : decode cX10_beginYears 16 = .ok (.iload_n 1, 1) := by decide +kernel
theorem dX10_beginYears_17 : decode cX10_beginYears 17 = .ok (.aload_n 0, 1) := by decide +kernel
theorem dX10_beginYears_18 : decode cX10_beginYears 18 = .ok (.getfield 28, 3) := by decide +kernel
theorem dX10_beginYears_21 : decode cX10_beginYears 21 = .ok (.iload_n 1, 1) := by decide +kernel
theorem dX10_beginYears_22 : decode cX10_beginYears 22 = .ok (.iaload, 1) := by decide +kernel
theorem dX10_beginYears_23 : decode cX10_beginYears 23 = .ok (.iastore, 1) := by decide +kernel
theorem dX10_beginYears_24 : decode cX10_beginYears 24 = .ok (.iload_n 1, 1) := by decide +kernel
theorem dX10_beginYears_25 : decode cX10_beginYears 25 = .ok (.bipush 8, 2) := by decide +kernel
theorem dX10_beginYears_27 : decode cX10_beginYears 27 = .ok (.if_icmp .ge 11, 3) := by decide +kernel
theorem dX10_beginYears_30 : decode cX10_beginYears 30 = .ok (.aload_n 0, 1) := by decide +kernel
theorem dX10_beginYears_31 : decode cX10_beginYears 31 = .ok (.iload_n 1, 1) := by decide +kernel
theorem dX10_beginYears_32 : decode cX10_beginYears 32 = .ok (.invokevirtual 212, 3) := by decide +kernel
theorem dX10_beginYears_35 : decode cX10_beginYears 35 = .ok (.goto 4, 3) := by decide +kernel
theorem dX10_beginYears_38 : decode cX10_beginYears 38 = .ok (.iconst 0, 1) := by decide +kernel
theorem dX10_beginYears_39 : decode cX10_beginYears 39 = .ok (.istore_n 2, 1) := by decide +kernel
theorem dX10_beginYears_40 : decode cX10_beginYears 40 = .ok (.sipush 2000, 3) := by decide +kernel
theorem dX10_beginYears_43 : decode cX10_beginYears 43 = .ok (.istore_n 3, 1) := by decide +kernel
theorem dX10_beginYears_44 : decode cX10_beginYears 44 = .ok (.iconst 0, 1) := by decide +kernel
theorem dX10_beginYears_45 : decode cX10_beginYears 45 = .ok (.istore 4, 2) := by decide +kernel
theorem dX10_beginYears_47 : decode cX10_beginYears 47 = .ok (.iconst 1, 1) := by decide +kernel
theorem dX10_beginYears_48 : decode cX10_beginYears 48 = .ok (.istore 5, 2) := by decide +kernel
theorem dX10_beginYears_50 : decode cX10_beginYears 50 = .ok (.iload 5, 2) := by decide +kernel
theorem dX10_beginYears_52 : decode cX10_beginYears 52 = .ok (.bipush 13, 2) := by decide +kernel
theorem dX10_beginYears_54 : decode cX10_beginYears 54 = .ok (.if_icmp .ge 84, 3) := by decide +kernel
theorem dX10_beginYears_57 : decode cX10_beginYears 57 = .ok (.iload_n 2, 1) := by decide +kernel
theorem dX10_beginYears_58 : decode cX10_beginYears 58 = .ok (.iload 5, 2) := by decide +kernel
theorem dX10_beginYears_60 : decode cX10_beginYears 60 = .ok (.ishr, 1) := by decide +kernel
theorem dX10_beginYears_61 : decode cX10_beginYears 61 = .ok (.iconst 1, 1) := by decide +kernel
theorem dX10_beginYears_62 : decode cX10_beginYears 62 = .ok (.iand, 1) := by decide +kernel
theorem dX10_beginYears_63 : decode cX10_beginYears 63 = .ok (.iconst 1, 1) := by decide +kernel
theorem dX10_beginYears_64 : decode cX10_beginYears 64 = .ok (.if_icmp .ne 68, 3) := by decide +kernel
theorem dX10_beginYears_67 : decode cX10_beginYears 67 = .ok (.aload_n 0, 1) := by decide +kernel
theorem dX10_beginYears_68 : decode cX10_beginYears 68 = .ok (.getfield 37, 3) := by decide +kernel
theorem dX10_beginYears_71 : decode cX10_beginYears 71 = .ok (.iconst 4, 1) := by decide +kernel
theorem dX10_beginYears_72 : decode cX10_beginYears 72 = .ok (.iload 5, 2) := by decide +kernel
theorem dX10_beginYears_74 : decode cX10_beginYears 74 = .ok (.imul, 1) := by decide +kernel
theorem dX10_beginYears_75 : decode cX10_beginYears 75 = .ok (.iconst 2, 1) := by decide +kernel
theorem dX10_beginYears_76 : decode cX10_beginYears 76 = .ok (.iadd, 1) := by decide +kernel
theorem dX10_beginYears_77 : decode cX10_beginYears 77 = .ok (.iaload, 1) := by decide +kernel
theorem dX10_beginYears_78 : decode cX10_beginYears 78 = .ok (.iload_n 3, 1) := by decide +kernel
theorem dX10_beginYears_79 : decode cX10_beginYears 79 = .ok (.if_icmp .ge 17, 3) := by decide +kernel
theorem dX10_beginYears_82 : decode cX10_beginYears 82 = .ok (.aload_n 0, 1) := by decide +kernel
theorem dX10_beginYears_83 : decode cX10_beginYears 83 = .ok (.getfield 37, 3) := by decide +kernel
theorem dX10_beginYears_86 : decode cX10_beginYears 86 = .ok (.iconst 4, 1) := by decide +kernel
theorem dX10_beginYears_87 : decode cX10_beginYears 87 = .ok (.iload 5, 2) := by decide +kernel
theorem dX10_beginYears_89 : decode cX10_beginYears 89 = .ok (.imul, 1) := by decide +kernel
theorem dX10_beginYears_90 : decode cX10_beginYears 90 = .ok (.iconst 2, 1) := by decide +kernel
theorem dX10_beginYears_91 : decode cX10_beginYears 91 = .ok (.iadd, 1) := by decide +kernel
theorem dX10_beginYears_92 : decode cX10_beginYears 92 = .ok (.iaload, 1) := by decide +kernel
theorem dX10_beginYears_93 : decode cX10_beginYears 93 = .ok (.goto 4, 3) := by decide +kernel
theorem dX10_beginYears_96 : decode cX10_beginYears 96 = .ok (.iload_n 3, 1) := by decide +kernel
theorem dX10_beginYears_97 : decode cX10_beginYears 97 = .ok (.istore_n 3, 1) := by decide +kernel
theorem dX10_beginYears_98 : decode cX10_beginYears 98 = .ok (.aload_n 0, 1) := by decide +kernel
theorem dX10_beginYears_99 : decode cX10_beginYears 99 = .ok (.getfield 37, 3) := by decide +kernel
theorem dX10_beginYears_102 : decode cX10_beginYears 102 = .ok (.iconst 4, 1) := by decide +kernel
theorem dX10_beginYears_103 : decode cX10_beginYears 103 = .ok (.iload 5, 2) := by decide +kernel
theorem dX10_beginYears_105 : decode cX10_beginYears 105 = .ok (.imul, 1) := by decide +kernel
theorem dX10_beginYears_106 : decode cX10_beginYears 106 = .ok (.iconst 3, 1) := by decide +kernel
theorem dX10_beginYears_107 : decode cX10_beginYears 107 = .ok (.iadd, 1) := by decide +kernel
theorem dX10_beginYears_108 : decode cX10_beginYears 108 = .ok (.iaload, 1) := by decide +kernel
theorem dX10_beginYears_109 : decode cX10_beginYears 109 = .ok (.iload 4, 2) := by decide +kernel
theorem dX10_beginYears_111 : decode cX10_beginYears 111 = .ok (.if_icmp .le 17, 3) := by decide +kernel
theorem dX10_beginYears_114 : decode cX10_beginYears 114 = .ok (.aload_n 0, 1) := by decide +kernel
theorem dX10_beginYears_115 : decode cX10_beginYears 115 = .ok (.getfield 37, 3) := by decide +kernel
theorem dX10_beginYears_118 : decode cX10_beginYears 118 = .ok (.iconst 4, 1) := by decide +kernel
theorem dX10_beginYears_119 : decode cX10_beginYears 119 = .ok (.iload 5, 2) := by decide +kernel
theorem dX10_beginYears_121 : decode cX10_beginYears 121 = .ok (.imul, 1) := by decide +kernel
theorem dX10_beginYears_122 : decode cX10_beginYears 122 = .ok (.iconst 3, 1) := by decide +kernel
theorem dX10_beginYears_123 : decode cX10_beginYears 123 = .ok (.iadd, 1) := by decide +kernel
theorem dX10_beginYears_124 : decode cX10_beginYears 124 = .ok (.iaload, 1) := by decide +kernel
theorem dX10_beginYears_125 : decode cX10_beginYears 125 = .ok (.goto 5, 3) := by decide +kernel
theorem dX10_beginYears_128 : decode cX10_beginYears 128 = .ok (.iload 4, 2) := by decide +kernel
theorem dX10_beginYears_130 : decode cX10_beginYears 130 = .ok (.istore 4, 2) := by decide +kernel
theorem dX10_beginYears_132 : decode cX10_beginYears 132 = .ok (.iinc 5 1, 3) := by decide +kernel
theorem dX10_beginYears_135 : decode cX10_beginYears 135 = .ok (.goto (-85), 3) := by decide +kernel
theorem dX10_beginYears_138 : decode cX10_beginYears 138 = .ok (.iload_n 2, 1) := by decide +kernel
theorem dX10_beginYears_139 : decode cX10_beginYears 139 = .ok (.ifCond .eq 57, 3) := by decide +kernel
theorem dX10_beginYears_142 : decode cX10_beginYears 142 = .ok (.aload_n 0, 1) := by decide +kernel
theorem dX10_beginYears_143 : decode cX10_beginYears 143 = .ok (.getfield 53, 3) := by decide +kernel
theorem dX10_beginYears_146 : decode cX10_beginYears 146 = .ok (.iload_n 1, 1) := by decide +kernel
theorem dX10_beginYears_147 : decode cX10_beginYears 147 = .ok (.iload_n 3, 1) := by decide +kernel
theorem dX10_beginYears_148 : decode cX10_beginYears 148 = .ok (.aload_n 0, 1) := by decide +kernel
theorem dX10_beginYears_149 : decode cX10_beginYears 149 = .ok (.getfield 53, 3) := by decide +kernel
theorem dX10_beginYears_152 : decode cX10_beginYears 152 = .ok (.iload_n 1, 1) := by decide +kernel
theorem dX10_beginYears_153 : decode cX10_beginYears 153 = .ok (.iaload, 1) := by decide +kernel
theorem dX10_beginYears_154 : decode cX10_beginYears 154 = .ok (.if_icmp .le 7, 3) := by decide +kernel
theorem dX10_beginYears_157 : decode cX10_beginYears 157 = .ok (.iload_n 3, 1) := by decide +kernel
theorem dX10_beginYears_158 : decode cX10_beginYears 158 = .ok (.goto 9, 3) := by decide +kernel
theorem dX10_beginYears_161 : decode cX10_beginYears 161 = .ok (.aload_n 0, 1) := by decide +kernel
theorem dX10_beginYears_162 : decode cX10_beginYears 162 = .ok (.getfield 53, 3) := by decide +kernel
theorem dX10_beginYears_165 : decode cX10_beginYears 165 = .ok (.iload_n 1, 1) := by decide +kernel
theorem dX10_beginYears_166 : decode cX10_beginYears 166 = .ok (.iaload, 1) := by decide +kernel
theorem dX10_beginYears_167 : decode cX10_beginYears 167 = .ok (.iastore, 1) := by decide +kernel
theorem dX10_beginYears_168 : decode cX10_beginYears 168 = .ok (.aload_n 0, 1) := by decide +kernel
theorem dX10_beginYears_169 : decode cX10_beginYears 169 = .ok (.getfield 56, 3) := by decide +kernel
theorem dX10_beginYears_172 : decode cX10_beginYears 172 = .ok (.iload_n 1, 1) := by decide +kernel
theorem dX10_beginYears_173 : decode cX10_beginYears 173 = .ok (.iload 4, 2) := by decide +kernel
theorem dX10_beginYears_175 : decode cX10_beginYears 175 = .ok (.aload_n 0, 1) := by decide +kernel
theorem dX10_beginYears_176 : decode cX10_beginYears 176 = .ok (.getfield 56, 3) := by decide +kernel
theorem dX10_beginYears_179 : decode cX10_beginYears 179 = .ok (.iload_n 1, 1) := by decide +kernel
theorem dX10_beginYears_180 : decode cX10_beginYears 180 = .ok (.iaload, 1) := by decide +kernel
theorem dX10_beginYears_181 : decode cX10_beginYears 181 = .ok (.if_icmp .ge 8, 3) := by decide +kernel
theorem dX10_beginYears_184 : decode cX10_beginYears 184 = .ok (.iload 4, 2) := by decide +kernel
theorem dX10_beginYears_186 : decode cX10_beginYears 186 = .ok (.goto 9, 3) := by decide +kernel
theorem dX10_beginYears_189 : decode cX10_beginYears 189 = .ok (.aload_n 0, 1) := by decide +kernel
theorem dX10_beginYears_190 : decode cX10_beginYears 190 = .ok (.getfield 56, 3) := by decide +kernel
theorem dX10_beginYears_193 : decode cX10_beginYears 193 = .ok (.iload_n 1, 1) := by decide +kernel
theorem dX10_beginYears_194 : decode cX10_beginYears 194 = .ok (.iaload, 1) := by decide +kernel
theorem dX10_beginYears_195 : decode cX10_beginYears 195 = .ok (.iastore, 1) := by decide +kernel
theorem dX10_beginYears_196 : decode cX10_beginYears 196 = .ok (.return_, 1) := by decide +kernel
theorem dX10_isPair_0 : decode cX10_isPair 0 = .ok (.aload_n 0, 1) := by decide +kernel
theorem dX10_isPair_1 : decode cX10_isPair 1 = .ok (.iload_n 1, 1) := by decide +kernel
theorem dX10_isPair_2 : decode cX10_isPair 2 = .ok (.invokevirtual 93, 3) := by decide +kernel
theorem dX10_isPair_5 : decode cX10_isPair 5 = .ok (.ifCond .eq 29, 3) := by decide +kernel
theorem dX10_isPair_8 : decode cX10_isPair 8 = .ok (.aload_n 0, 1) := by decide +kernel
theorem dX10_isPair_9 : decode cX10_isPair 9 = .ok (.iload_n 2, 1) := by decide +kernel
theorem dX10_isPair_10 : decode cX10_isPair 10 = .ok (.invokevirtual 93, 3) := by decide +kernel
theorem dX10_isPair_13 : decode cX10_isPair 13 = .ok (.ifCond .eq 21, 3) := by decide +kernel
theorem dX10_isPair_16 : decode cX10_isPair 16 = .ok (.aload_n 0, 1) := by decide +kernel
theorem dX10_isPair_17 : decode cX10_isPair 17 = .ok (.getfield 31, 3) := by decide +kernel
theorem dX10_isPair_20 : decode cX10_isPair 20 = .ok (.iload_n 1, 1) := by decide +kernel
theorem dX10_isPair_21 : decode cX10_isPair 21 = .ok (.iaload, 1) := by decide +kernel
theorem dX10_isPair_22 : decode cX10_isPair 22 = .ok (.iload_n 2, 1) := by decide +kernel
theorem dX10_isPair_23 : decode cX10_isPair 23 = .ok (.ishr, 1) := by decide +kernel
theorem dX10_isPair_24 : decode cX10_isPair 24 = .ok (.iconst 1, 1) := by decide +kernel
theorem dX10_isPair_25 : decode cX10_isPair 25 = .ok (.iand, 1) := by decide +kernel
theorem dX10_isPair_26 : decode cX10_isPair 26 = .ok (.iconst 1, 1) := by decide +kernel
theorem dX10_isPair_27 : decode cX10_isPair 27 = .ok (.if_icmp .ne 7, 3) := by decide +kernel
theorem dX10_isPair_30 : decode cX10_isPair 30 = .ok (.iconst 1, 1) := by decide +kernel
theorem dX10_isPair_31 : decode cX10_isPair 31 = .ok (.goto 4, 3) := by decide +kernel
theorem dX10_isPair_34 : decode cX10_isPair 34 = .ok (.iconst 0, 1) := by decide +kernel
theorem dX10_isPair_35 : decode cX10_isPair 35 = .ok (.ireturn, 1) := by decide +kernel
theorem dX10_areYears_0 : decode cX10_areYears 0 = .ok (.iconst 0, 1) := by decide +kernel
theorem dX10_areYears_1 : decode cX10_areYears 1 = .ok (.istore_n 1, 1) := by decide +kernel
theorem dX10_areYears_2 : decode cX10_areYears 2 = .ok (.iload_n 1, 1) := by decide +kernel
theorem dX10_areYears_3 : decode cX10_areYears 3 = .ok (.bipush 14, 2) := by decide +kernel
theorem dX10_areYears_5 : decode cX10_areYears 5 = .ok (.if_icmp .ge 22, 3) := by decide +kernel
theorem dX10_areYears_8 : decode cX10_areYears 8 = .ok (.aload_n 0, 1) := by decide +kernel
theorem dX10_areYears_9 : decode cX10_areYears 9 = .ok (.iload_n 1, 1) := by decide +kernel
theorem dX10_areYears_10 : decode cX10_areYears 10 = .ok (.invokevirtual 93, 3) := by decide +kernel
theorem dX10_areYears_13 : decode cX10_areYears 13 = .ok (.ifCond .eq 8, 3) := by decide +kernel
theorem dX10_areYears_16 : decode cX10_areYears 16 = .ok (.aload_n 0, 1) := by decide +kernel
theorem dX10_areYears_17 : decode cX10_areYears 17 = .ok (.iload_n 1, 1) := by decide +kernel
theorem dX10_areYears_18 : decode cX10_areYears 18 = .ok (.invokevirtual 215, 3) := by decide +kernel
theorem dX10_areYears_21 : decode cX10_areYears 21 = .ok (.iinc 1 1, 3) := by decide +kernel
theorem dX10_areYears_24 : decode cX10_areYears 24 = .ok (.goto (-22), 3) := by decide +kernel
theorem dX10_areYears_27 : decode cX10_areYears 27 = .ok (.iconst 0, 1) := by decide +kernel
theorem dX10_areYears_28 : decode cX10_areYears 28 = .ok (.istore_n 1, 1) := by decide +kernel
theorem dX10_areYears_29 : decode cX10_areYears 29 = .ok (.iload_n 1, 1) := by decide +kernel
theorem dX10_areYears_30 : decode cX10_areYears 30 = .ok (.bipush 15, 2) := by decide +kernel
theorem dX10_areYears_32 : decode cX10_areYears 32 = .ok (.if_icmp .ge 122, 3) := by decide +kernel
theorem dX10_areYears_35 : decode cX10_areYears 35 = .ok (.iconst 0, 1) := by decide +kernel
theorem dX10_areYears_36 : decode cX10_areYears 36 = .ok (.istore_n 2, 1) := by decide +kernel
theorem dX10_areYears_37 : decode cX10_areYears 37 = .ok (.iload_n 2, 1) := by decide +kernel
theorem dX10_areYears_38 : decode cX10_areYears 38 = .ok (.bipush 14, 2) := by decide +kernel
theorem dX10_areYears_40 : decode cX10_areYears 40 = .ok (.if_icmp .ge 108, 3) := by decide +kernel
theorem dX10_areYears_43 : decode cX10_areYears 43 = .ok (.iconst 0, 1) := by decide +kernel
theorem dX10_areYears_44 : decode cX10_areYears 44 = .ok (.istore_n 3, 1) := by decide +kernel
theorem dX10_areYears_45 : decode cX10_areYears 45 = .ok (.iload_n 3, 1) := by decide +kernel
theorem dX10_areYears_46 : decode cX10_areYears 46 = .ok (.bipush 14, 2) := by decide +kernel
theorem dX10_areYears_48 : decode cX10_areYears 48 = .ok (.if_icmp .ge 94, 3) := by decide +kernel
theorem dX10_areYears_51 : decode cX10_areYears 51 = .ok (.aload_n 0, 1) := by decide +kernel
theorem dX10_areYears_52 : decode cX10_areYears 52 = .ok (.iload_n 2, 1) := by decide +kernel
theorem dX10_areYears_53 : decode cX10_areYears 53 = .ok (.iload_n 3, 1) := by decide +kernel
theorem dX10_areYears_54 : decode cX10_areYears 54 = .ok (.invokevirtual 218, 3) := by decide +kernel
theorem dX10_areYears_57 : decode cX10_areYears 57 = .ok (.ifCond .eq 79, 3) := by decide +kernel
theorem dX10_areYears_60 : decode cX10_areYears 60 = .ok (.aload_n 0, 1) := by decide +kernel
theorem dX10_areYears_61 : decode cX10_areYears 61 = .ok (.getfield 53, 3) := by decide +kernel
theorem dX10_areYears_64 : decode cX10_areYears 64 = .ok (.iload_n 2, 1) := by decide +kernel
theorem dX10_areYears_65 : decode cX10_areYears 65 = .ok (.aload_n 0, 1) := by decide +kernel
theorem dX10_areYears_66 : decode cX10_areYears 66 = .ok (.getfield 53, 3) := by decide +kernel
theorem dX10_areYears_69 : decode cX10_areYears 69 = .ok (.iload_n 2, 1) := by decide +kernel
theorem dX10_areYears_70 : decode cX10_areYears 70 = .ok (.iaload, 1) := by decide +kernel
theorem dX10_areYears_71 : decode cX10_areYears 71 = .ok (.aload_n 0, 1) := by decide +kernel
theorem dX10_areYears_72 : decode cX10_areYears 72 = .ok (.getfield 53, 3) := by decide +kernel
theorem dX10_areYears_75 : decode cX10_areYears 75 = .ok (.iload_n 3, 1) := by decide +kernel
theorem dX10_areYears_76 : decode cX10_areYears 76 = .ok (.iaload, 1) := by decide +kernel
theorem dX10_areYears_77 : decode cX10_areYears 77 = .ok (.if_icmp .le 12, 3) := by decide +kernel
theorem dX10_areYears_80 : decode cX10_areYears 80 = .ok (.aload_n 0, 1) := by decide +kernel
theorem dX10_areYears_81 : decode cX10_areYears 81 = .ok (.getfield 53, 3) := by decide +kernel
theorem dX10_areYears_84 : decode cX10_areYears 84 = .ok (.iload_n 2, 1) := by decide +kernel
theorem dX10_areYears_85 : decode cX10_areYears 85 = .ok (.iaload, 1) := by decide +kernel
theorem dX10_areYears_86 : decode cX10_areYears 86 = .ok (.goto 11, 3) := by decide +kernel
theorem dX10_areYears_89 : decode cX10_areYears 89 = .ok (.aload_n 0, 1) := by decide +kernel
theorem dX10_areYears_90 : decode cX10_areYears 90 = .ok (.getfield 53, 3) := by decide +kernel
theorem dX10_areYears_93 : decode cX10_areYears 93 = .ok (.iload_n 3, 1) := by decide +kernel
theorem dX10_areYears_94 : decode cX10_areYears 94 = .ok (.iaload, 1) := by decide +kernel
theorem dX10_areYears_95 : decode cX10_areYears 95 = .ok (.iconst 1, 1) := by decide +kernel
theorem dX10_areYears_96 : decode cX10_areYears 96 = .ok (.iadd, 1) := by decide +kernel
theorem dX10_areYears_97 : decode cX10_areYears 97 = .ok (.iastore, 1) := by decide +kernel
theorem dX10_areYears_98 : decode cX10_areYears 98 = .ok (.aload_n 0, 1) := by decide +kernel
theorem dX10_areYears_99 : decode cX10_areYears 99 = .ok (.getfield 56, 3) := by decide +kernel
theorem dX10_areYears_102 : decode cX10_areYears 102 = .ok (.iload_n 3, 1) := by decide +kernel
theorem dX10_areYears_103 : decode cX10_areYears 103 = .ok (.aload_n 0, 1) := by decide +kernel
theorem dX10_areYears_104 : decode cX10_areYears 104 = .ok (.getfield 56, 3) := by decide +kernel
theorem dX10_areYears_107 : decode cX10_areYears 107 = .ok (.iload_n 3, 1) := by decide +kernel
theorem dX10_areYears_108 : decode cX10_areYears 108 = .ok (.iaload, 1) := by decide +kernel
theorem dX10_areYears_109 : decode cX10_areYears 109 = .ok (.aload_n 0, 1) := by decide +kernel
theorem dX10_areYears_110 : decode cX10_areYears 110 = .ok (.getfield 56, 3) := by decide +kernel
theorem dX10_areYears_113 : decode cX10_areYears 113 = .ok (.iload_n 2, 1) := by decide +kernel
theorem dX10_areYears_114 : decode cX10_areYears 114 = .ok (.iaload, 1) := by decide +kernel
theorem dX10_areYears_115 : decode cX10_areYears 115 = .ok (.if_icmp .ge 12, 3) := by decide +kernel
theorem dX10_areYears_118 : decode cX10_areYears 118 = .ok (.aload_n 0, 1) := by decide +kernel
theorem dX10_areYears_119 : decode cX10_areYears 119 = .ok (.getfield 56, 3) := by decide +kernel
theorem dX10_areYears_122 : decode cX10_areYears 122 = .ok (.iload_n 3, 1) := by decide +kernel
theorem dX10_areYears_123 : decode cX10_areYears 123 = .ok (.iaload, 1) := by decide +kernel
theorem dX10_areYears_124 : decode cX10_areYears 124 = .ok (.goto 11, 3) := by decide +kernel
theorem dX10_areYears_127 : decode cX10_areYears 127 = .ok (.aload_n 0, 1) := by decide +kernel
theorem dX10_areYears_128 : decode cX10_areYears 128 = .ok (.getfield 56, 3) := by decide +kernel
theorem dX10_areYears_131 : decode cX10_areYears 131 = .ok (.iload_n 2, 1) := by decide +kernel
theorem dX10_areYears_132 : decode cX10_areYears 132 = .ok (.iaload, 1) := by decide +kernel
theorem dX10_areYears_133 : decode cX10_areYears 133 = .ok (.iconst 1, 1) := by decide +kernel
theorem dX10_areYears_134 : decode cX10_areYears 134 = .ok (.isub, 1) := by decide +kernel
theorem dX10_areYears_135 : decode cX10_areYears 135 = .ok (.iastore, 1) := by decide +kernel
theorem dX10_areYears_136 : decode cX10_areYears 136 = .ok (.iinc 3 1, 3) := by decide +kernel
theorem dX10_areYears_139 : decode cX10_areYears 139 = .ok (.goto (-94), 3) := by decide +kernel
theorem dX10_areYears_142 : decode cX10_areYears 142 = .ok (.iinc 2 1, 3) := by decide +kernel
theorem dX10_areYears_145 : decode cX10_areYears 145 = .ok (.goto (-108), 3) := by decide +kernel
theorem dX10_areYears_148 : decode cX10_areYears 148 = .ok (.iinc 1 1, 3) := by decide +kernel
theorem dX10_areYears_151 : decode cX10_areYears 151 = .ok (.goto (-122), 3) := by decide +kernel
theorem dX10_areYears_154 : decode cX10_areYears 154 = .ok (.aload_n 0, 1) := by decide +kernel
theorem dX10_areYears_155 : decode cX10_areYears 155 = .ok (.invokevirtual 222, 3) := by decide +kernel
theorem dX10_areYears_158 : decode cX10_areYears 158 = .ok (.ifCond .ne 7, 3) := by decide +kernel
theorem dX10_areYears_161 : decode cX10_areYears 161 = .ok (.iconst 1, 1) := by decide +kernel
theorem dX10_areYears_162 : decode cX10_areYears 162 = .ok (.goto 4, 3) := by decide +kernel
theorem dX10_areYears_165 : decode cX10_areYears 165 = .ok (.iconst 0, 1) := by decide +kernel
theorem dX10_areYears_166 : decode cX10_areYears 166 = .ok (.istore_n 1, 1) := by decide +kernel
theorem dX10_areYears_167 : decode cX10_areYears 167 = .ok (.iconst 0, 1) := by decide +kernel
theorem dX10_areYears_168 : decode cX10_areYears 168 = .ok (.istore_n 2, 1) := by decide +kernel
theorem dX10_areYears_169 : decode cX10_areYears 169 = .ok (.iload_n 2, 1) := by decide +kernel
theorem dX10_areYears_170 : decode cX10_areYears 170 = .ok (.bipush 14, 2) := by decide +kernel
theorem dX10_areYears_172 : decode cX10_areYears 172 = .ok (.if_icmp .ge 42, 3) := by decide +kernel
theorem dX10_areYears_175 : decode cX10_areYears 175 = .ok (.iload_n 1, 1) := by decide +kernel
theorem dX10_areYears_176 : decode cX10_areYears 176 = .ok (.ifCond .eq 30, 3) := by decide +kernel
theorem dX10_areYears_179 : decode cX10_areYears 179 = .ok (.aload_n 0, 1) := by decide +kernel
theorem dX10_areYears_180 : decode cX10_areYears 180 = .ok (.iload_n 2, 1) := by decide +kernel
theorem dX10_areYears_181 : decode cX10_areYears 181 = .ok (.invokevirtual 93, 3) := by decide +kernel
theorem dX10_areYears_184 : decode cX10_areYears 184 = .ok (.ifCond .eq 18, 3) := by decide +kernel
theorem dX10_areYears_187 : decode cX10_areYears 187 = .ok (.aload_n 0, 1) := by decide +kernel
theorem dX10_areYears_188 : decode cX10_areYears 188 = .ok (.getfield 53, 3) := by decide +kernel
theorem dX10_areYears_191 : decode cX10_areYears 191 = .ok (.iload_n 2, 1) := by decide +kernel
theorem dX10_areYears_192 : decode cX10_areYears 192 = .ok (.iaload, 1) := by decide +kernel
theorem dX10_areYears_193 : decode cX10_areYears 193 = .ok (.aload_n 0, 1) := by decide +kernel
theorem dX10_areYears_194 : decode cX10_areYears 194 = .ok (.getfield 56, 3) := by decide +kernel
theorem dX10_areYears_197 : decode cX10_areYears 197 = .ok (.iload_n 2, 1) := by decide +kernel
theorem dX10_areYears_198 : decode cX10_areYears 198 = .ok (.iaload, 1) := by decide +kernel
theorem dX10_areYears_199 : decode cX10_areYears 199 = .ok (.if_icmp .gt 7, 3) := by decide +kernel
theorem dX10_areYears_202 : decode cX10_areYears 202 = .ok (.iconst 1, 1) := by decide +kernel
theorem dX10_areYears_203 : decode cX10_areYears 203 = .ok (.goto 4, 3) := by decide +kernel
theorem dX10_areYears_206 : decode cX10_areYears 206 = .ok (.iconst 0, 1) := by decide +kernel
theorem dX10_areYears_207 : decode cX10_areYears 207 = .ok (.istore_n 1, 1) := by decide +kernel
theorem dX10_areYears_208 : decode cX10_areYears 208 = .ok (.iinc 2 1, 3) := by decide +kernel
theorem dX10_areYears_211 : decode cX10_areYears 211 = .ok (.goto (-42), 3) := by decide +kernel
theorem dX10_areYears_214 : decode cX10_areYears 214 = .ok (.iload_n 1, 1) := by decide +kernel
theorem dX10_areYears_215 : decode cX10_areYears 215 = .ok (.ireturn, 1) := by decide +kernel
theorem dX10_span_0 : decode cX10_span 0 = .ok (.aload_n 0, 1) := by decide +kernel
theorem dX10_span_1 : decode cX10_span 1 = .ok (.iload_n 1, 1) := by decide +kernel
theorem dX10_span_2 : decode cX10_span 2 = .ok (.invokevirtual 93, 3) := by decide +kernel
theorem dX10_span_5 : decode cX10_span 5 = .ok (.ifCond .ne 6, 3) := by decide +kernel
theorem dX10_span_8 : decode cX10_span 8 = .ok (.bipush (-2), 2) := by decide +kernel
theorem dX10_span_10 : decode cX10_span 10 = .ok (.ireturn, 1) := by decide +kernel
theorem dX10_span_11 : decode cX10_span 11 = .ok (.iload_n 2, 1) := by decide +kernel
theorem dX10_span_12 : decode cX10_span 12 = .ok (.iconst 0, 1) := by decide +kernel
theorem dX10_span_13 : decode cX10_span 13 = .ok (.iconst 1, 1) := by decide +kernel
theorem dX10_span_14 : decode cX10_span 14 = .ok (.invokestatic 86, 3) := by decide +kernel
theorem dX10_span_17 : decode cX10_span 17 = .ok (.ifCond .ne 6, 3) := by decide +kernel
theorem dX10_span_20 : decode cX10_span 20 = .ok (.bipush (-3), 2) := by decide +kernel
theorem dX10_span_22 : decode cX10_span 22 = .ok (.ireturn, 1) := by decide +kernel
theorem dX10_span_23 : decode cX10_span 23 = .ok (.aload_n 0, 1) := by decide +kernel
theorem dX10_span_24 : decode cX10_span 24 = .ok (.invokevirtual 226, 3) := by decide +kernel
theorem dX10_span_27 : decode cX10_span 27 = .ok (.ifCond .ne 7, 3) := by decide +kernel
theorem dX10_span_30 : decode cX10_span 30 = .ok (.iconst (-1), 1) := by decide +kernel
theorem dX10_span_31 : decode cX10_span 31 = .ok (.goto 22, 3) := by decide +kernel
theorem dX10_span_34 : decode cX10_span 34 = .ok (.iload_n 2, 1) := by decide +kernel
theorem dX10_span_35 : decode cX10_span 35 = .ok (.ifCond .ne 12, 3) := by decide +kernel
theorem dX10_span_38 : decode cX10_span 38 = .ok (.aload_n 0, 1) := by decide +kernel
theorem dX10_span_39 : decode cX10_span 39 = .ok (.getfield 53, 3) := by decide +kernel
theorem dX10_span_42 : decode cX10_span 42 = .ok (.iload_n 1, 1) := by decide +kernel
theorem dX10_span_43 : decode cX10_span 43 = .ok (.iaload, 1) := by decide +kernel
theorem dX10_span_44 : decode cX10_span 44 = .ok (.goto 9, 3) := by decide +kernel
theorem dX10_span_47 : decode cX10_span 47 = .ok (.aload_n 0, 1) := by decide +kernel
theorem dX10_span_48 : decode cX10_span 48 = .ok (.getfield 56, 3) := by decide +kernel
theorem dX10_span_51 : decode cX10_span 51 = .ok (.iload_n 1, 1) := by decide +kernel
theorem dX10_span_52 : decode cX10_span 52 = .ok (.iaload, 1) := by decide +kernel
theorem dX10_span_53 : decode cX10_span 53 = .ok (.ireturn, 1) := by decide +kernel
theorem dX10_findReach_0 : decode cX10_findReach 0 = .ok (.iconst 0, 1) := by decide +kernel
theorem dX10_findReach_1 : decode cX10_findReach 1 = .ok (.istore_n 1, 1) := by decide +kernel
theorem dX10_findReach_2 : decode cX10_findReach 2 = .ok (.iload_n 1, 1) := by decide +kernel
theorem dX10_findReach_3 : decode cX10_findReach 3 = .ok (.bipush 14, 2) := by decide +kernel
theorem dX10_findReach_5 : decode cX10_findReach 5 = .ok (.if_icmp .ge 38, 3) := by decide +kernel
theorem dX10_findReach_8 : decode cX10_findReach 8 = .ok (.aload_n 0, 1) := by decide +kernel
theorem dX10_findReach_9 : decode cX10_findReach 9 = .ok (.getfield 34, 3) := by decide +kernel
theorem dX10_findReach_12 : decode cX10_findReach 12 = .ok (.iload_n 1, 1) := by decide +kernel
theorem dX10_findReach_13 : decode cX10_findReach 13 = .ok (.aload_n 0, 1) := by decide +kernel
theorem dX10_findReach_14 : decode cX10_findReach 14 = .ok (.iload_n 1, 1) := by decide +kernel
theorem dX10_findReach_15 : decode cX10_findReach 15 = .ok (.invokevirtual 93, 3) := by decide +kernel
theorem dX10_findReach_18 : decode cX10_findReach 18 = .ok (.ifCond .eq 17, 3) := by decide +kernel
theorem dX10_findReach_21 : decode cX10_findReach 21 = .ok (.aload_n 0, 1) := by decide +kernel
theorem dX10_findReach_22 : decode cX10_findReach 22 = .ok (.getfield 31, 3) := by decide +kernel
theorem dX10_findReach_25 : decode cX10_findReach 25 = .ok (.iload_n 1, 1) := by decide +kernel
theorem dX10_findReach_26 : decode cX10_findReach 26 = .ok (.iaload, 1) := by decide +kernel
theorem dX10_findReach_27 : decode cX10_findReach 27 = .ok (.aload_n 0, 1) := by decide +kernel
theorem dX10_findReach_28 : decode cX10_findReach 28 = .ok (.getfield 90, 3) := by decide +kernel
theorem dX10_findReach_31 : decode cX10_findReach 31 = .ok (.iand, 1) := by decide +kernel
theorem dX10_findReach_32 : decode cX10_findReach 32 = .ok (.goto 4, 3) := by decide +kernel
theorem dX10_findReach_35 : decode cX10_findReach 35 = .ok (.iconst 0, 1) := by decide +kernel
theorem dX10_findReach_36 : decode cX10_findReach 36 = .ok (.iastore, 1) := by decide +kernel
theorem dX10_findReach_37 : decode cX10_findReach 37 = .ok (.iinc 1 1, 3) := by decide +kernel
theorem dX10_findReach_40 : decode cX10_findReach 40 = .ok (.goto (-38), 3) := by decide +kernel
theorem dX10_findReach_43 : decode cX10_findReach 43 = .ok (.iconst 0, 1) := by decide +kernel
theorem dX10_findReach_44 : decode cX10_findReach 44 = .ok (.istore_n 1, 1) := by decide +kernel
theorem dX10_findReach_45 : decode cX10_findReach 45 = .ok (.iload_n 1, 1) := by decide +kernel
theorem dX10_findReach_46 : decode cX10_findReach 46 = .ok (.bipush 14, 2) := by decide +kernel
theorem dX10_findReach_48 : decode cX10_findReach 48 = .ok (.if_icmp .ge 74, 3) := by decide +kernel
theorem dX10_findReach_51 : decode cX10_findReach 51 = .ok (.iconst 0, 1) := by decide +kernel
theorem dX10_findReach_52 : decode cX10_findReach 52 = .ok (.istore_n 2, 1) := by decide +kernel
theorem dX10_findReach_53 : decode cX10_findReach 53 = .ok (.iload_n 2, 1) := by decide +kernel
theorem dX10_findReach_54 : decode cX10_findReach 54 = .ok (.bipush 14, 2) := by decide +kernel
theorem dX10_findReach_56 : decode cX10_findReach 56 = .ok (.if_icmp .ge 60, 3) := by decide +kernel
theorem dX10_findReach_59 : decode cX10_findReach 59 = .ok (.iconst 0, 1) := by decide +kernel
theorem dX10_findReach_60 : decode cX10_findReach 60 = .ok (.istore_n 3, 1) := by decide +kernel
theorem dX10_findReach_61 : decode cX10_findReach 61 = .ok (.iload_n 3, 1) := by decide +kernel
theorem dX10_findReach_62 : decode cX10_findReach 62 = .ok (.bipush 14, 2) := by decide +kernel
theorem dX10_findReach_64 : decode cX10_findReach 64 = .ok (.if_icmp .ge 46, 3) := by decide +kernel
theorem dX10_findReach_67 : decode cX10_findReach 67 = .ok (.aload_n 0, 1) := by decide +kernel
theorem dX10_findReach_68 : decode cX10_findReach 68 = .ok (.getfield 34, 3) := by decide +kernel
theorem dX10_findReach_71 : decode cX10_findReach 71 = .ok (.iload_n 2, 1) := by decide +kernel
theorem dX10_findReach_72 : decode cX10_findReach 72 = .ok (.aload_n 0, 1) := by decide +kernel
theorem dX10_findReach_73 : decode cX10_findReach 73 = .ok (.getfield 34, 3) := by decide +kernel
theorem dX10_findReach_76 : decode cX10_findReach 76 = .ok (.iload_n 2, 1) := by decide +kernel
theorem dX10_findReach_77 : decode cX10_findReach 77 = .ok (.iaload, 1) := by decide +kernel
theorem dX10_findReach_78 : decode cX10_findReach 78 = .ok (.aload_n 0, 1) := by decide +kernel
theorem dX10_findReach_79 : decode cX10_findReach 79 = .ok (.getfield 34, 3) := by decide +kernel
theorem dX10_findReach_82 : decode cX10_findReach 82 = .ok (.iload_n 2, 1) := by decide +kernel
theorem dX10_findReach_83 : decode cX10_findReach 83 = .ok (.iaload, 1) := by decide +kernel
theorem dX10_findReach_84 : decode cX10_findReach 84 = .ok (.iload_n 3, 1) := by decide +kernel
theorem dX10_findReach_85 : decode cX10_findReach 85 = .ok (.ishr, 1) := by decide +kernel
theorem dX10_findReach_86 : decode cX10_findReach 86 = .ok (.iconst 1, 1) := by decide +kernel
theorem dX10_findReach_87 : decode cX10_findReach 87 = .ok (.iand, 1) := by decide +kernel
theorem dX10_findReach_88 : decode cX10_findReach 88 = .ok (.iconst 1, 1) := by decide +kernel
theorem dX10_findReach_89 : decode cX10_findReach 89 = .ok (.if_icmp .ne 12, 3) := by decide +kernel
theorem dX10_findReach_92 : decode cX10_findReach 92 = .ok (.aload_n 0, 1) := by decide +kernel
theorem dX10_findReach_93 : decode cX10_findReach 93 = .ok (.getfield 34, 3) := by decide +kernel
theorem dX10_findReach_96 : decode cX10_findReach 96 = .ok (.iload_n 3, 1) := by decide +kernel
theorem dX10_findReach_97 : decode cX10_findReach 97 = .ok (.iaload, 1) := by decide +kernel
theorem dX10_findReach_98 : decode cX10_findReach 98 = .ok (.goto 4, 3) := by decide +kernel
theorem dX10_findReach_101 : decode cX10_findReach 101 = .ok (.iconst 0, 1) := by decide +kernel
theorem dX10_findReach_102 : decode cX10_findReach 102 = .ok (.ior, 1) := by decide +kernel
theorem dX10_findReach_103 : decode cX10_findReach 103 = .ok (.iastore, 1) := by decide +kernel
theorem dX10_findReach_104 : decode cX10_findReach 104 = .ok (.iinc 3 1, 3) := by decide +kernel
theorem dX10_findReach_107 : decode cX10_findReach 107 = .ok (.goto (-46), 3) := by decide +kernel
theorem dX10_findReach_110 : decode cX10_findReach 110 = .ok (.iinc 2 1, 3) := by decide +kernel
theorem dX10_findReach_113 : decode cX10_findReach 113 = .ok (.goto (-60), 3) := by decide +kernel
theorem dX10_findReach_116 : decode cX10_findReach 116 = .ok (.iinc 1 1, 3) := by decide +kernel
theorem dX10_findReach_119 : decode cX10_findReach 119 = .ok (.goto (-74), 3) := by decide +kernel
theorem dX10_findReach_122 : decode cX10_findReach 122 = .ok (.return_, 1) := by decide +kernel
theorem dX10_ringOf_0 : decode cX10_ringOf 0 = .ok (.aload_n 0, 1) := by decide +kernel
theorem dX10_ringOf_1 : decode cX10_ringOf 1 = .ok (.invokevirtual 229, 3) := by decide +kernel
theorem dX10_ringOf_4 : decode cX10_ringOf 4 = .ok (.iconst 0, 1) := by decide +kernel
theorem dX10_ringOf_5 : decode cX10_ringOf 5 = .ok (.istore_n 1, 1) := by decide +kernel
theorem dX10_ringOf_6 : decode cX10_ringOf 6 = .ok (.iconst 0, 1) := by decide +kernel
theorem dX10_ringOf_7 : decode cX10_ringOf 7 = .ok (.istore_n 2, 1) := by decide +kernel
theorem dX10_ringOf_8 : decode cX10_ringOf 8 = .ok (.iload_n 2, 1) := by decide +kernel
theorem dX10_ringOf_9 : decode cX10_ringOf 9 = .ok (.bipush 14, 2) := by decide +kernel
theorem dX10_ringOf_11 : decode cX10_ringOf 11 = .ok (.if_icmp .ge 22, 3) := by decide +kernel
theorem dX10_ringOf_14 : decode cX10_ringOf 14 = .ok (.iload_n 1, 1) := by decide +kernel
theorem dX10_ringOf_15 : decode cX10_ringOf 15 = .ok (.aload_n 0, 1) := by decide +kernel
theorem dX10_ringOf_16 : decode cX10_ringOf 16 = .ok (.getfield 34, 3) := by decide +kernel
theorem dX10_ringOf_19 : decode cX10_ringOf 19 = .ok (.iload_n 2, 1) := by decide +kernel
theorem dX10_ringOf_20 : decode cX10_ringOf 20 = .ok (.iaload, 1) := by decide +kernel
theorem dX10_ringOf_21 : decode cX10_ringOf 21 = .ok (.iconst 1, 1) := by decide +kernel
theorem dX10_ringOf_22 : decode cX10_ringOf 22 = .ok (.iload_n 2, 1) := by decide +kernel
theorem dX10_ringOf_23 : decode cX10_ringOf 23 = .ok (.ishl, 1) := by decide +kernel
theorem dX10_ringOf_24 : decode cX10_ringOf 24 = .ok (.iand, 1) := by decide +kernel
theorem dX10_ringOf_25 : decode cX10_ringOf 25 = .ok (.ior, 1) := by decide +kernel
theorem dX10_ringOf_26 : decode cX10_ringOf 26 = .ok (.istore_n 1, 1) := by decide +kernel
theorem dX10_ringOf_27 : decode cX10_ringOf 27 = .ok (.iinc 2 1, 3) := by decide +kernel
theorem dX10_ringOf_30 : decode cX10_ringOf 30 = .ok (.goto (-22), 3) := by decide +kernel
theorem dX10_ringOf_33 : decode cX10_ringOf 33 = .ok (.iload_n 1, 1) := by decide +kernel
theorem dX10_ringOf_34 : decode cX10_ringOf 34 = .ok (.ireturn, 1) := by decide +kernel
theorem dX10_ring_0 : decode cX10_ring 0 = .ok (.aload_n 0, 1) := by decide +kernel
theorem dX10_ring_1 : decode cX10_ring 1 = .ok (.invokevirtual 222, 3) := by decide +kernel
theorem dX10_ring_4 : decode cX10_ring 4 = .ok (.ireturn, 1) := by decide +kernel
theorem dX10_stack_0 : decode cX10_stack 0 = .ok (.iload_n 1, 1) := by decide +kernel
theorem dX10_stack_1 : decode cX10_stack 1 = .ok (.iconst (-1), 1) := by decide +kernel
theorem dX10_stack_2 : decode cX10_stack 2 = .ok (.if_icmp .ge 6, 3) := by decide +kernel
theorem dX10_stack_5 : decode cX10_stack 5 = .ok (.bipush (-3), 2) := by decide +kernel
theorem dX10_stack_7 : decode cX10_stack 7 = .ok (.ireturn, 1) := by decide +kernel
theorem dX10_stack_8 : decode cX10_stack 8 = .ok (.aload_n 0, 1) := by decide +kernel
theorem dX10_stack_9 : decode cX10_stack 9 = .ok (.invokevirtual 222, 3) := by decide +kernel
theorem dX10_stack_12 : decode cX10_stack 12 = .ok (.ifCond .eq 5, 3) := by decide +kernel
theorem dX10_stack_15 : decode cX10_stack 15 = .ok (.iconst (-1), 1) := by decide +kernel
theorem dX10_stack_16 : decode cX10_stack 16 = .ok (.ireturn, 1) := by decide +kernel
theorem dX10_stack_17 : decode cX10_stack 17 = .ok (.iconst (-1), 1) := by decide +kernel
theorem dX10_stack_18 : decode cX10_stack 18 = .ok (.istore_n 2, 1) := by decide +kernel
theorem dX10_stack_19 : decode cX10_stack 19 = .ok (.iconst 0, 1) := by decide +kernel
theorem dX10_stack_20 : decode cX10_stack 20 = .ok (.istore_n 3, 1) := by decide +kernel
theorem dX10_stack_21 : decode cX10_stack 21 = .ok (.iload_n 3, 1) := by decide +kernel
theorem dX10_stack_22 : decode cX10_stack 22 = .ok (.bipush 14, 2) := by decide +kernel
theorem dX10_stack_24 : decode cX10_stack 24 = .ok (.if_icmp .ge 28, 3) := by decide +kernel
theorem dX10_stack_27 : decode cX10_stack 27 = .ok (.aload_n 0, 1) := by decide +kernel
theorem dX10_stack_28 : decode cX10_stack 28 = .ok (.getfield 59, 3) := by decide +kernel
theorem dX10_stack_31 : decode cX10_stack 31 = .ok (.iload_n 3, 1) := by decide +kernel
theorem dX10_stack_32 : decode cX10_stack 32 = .ok (.aload_n 0, 1) := by decide +kernel
theorem dX10_stack_33 : decode cX10_stack 33 = .ok (.iload_n 3, 1) := by decide +kernel
theorem dX10_stack_34 : decode cX10_stack 34 = .ok (.invokevirtual 93, 3) := by decide +kernel
theorem dX10_stack_37 : decode cX10_stack 37 = .ok (.ifCond .eq 7, 3) := by decide +kernel
theorem dX10_stack_40 : decode cX10_stack 40 = .ok (.iconst 1, 1) := by decide +kernel
theorem dX10_stack_41 : decode cX10_stack 41 = .ok (.goto 4, 3) := by decide +kernel
theorem dX10_stack_44 : decode cX10_stack 44 = .ok (.iconst 0, 1) := by decide +kernel
theorem dX10_stack_45 : decode cX10_stack 45 = .ok (.iastore, 1) := by decide +kernel
theorem dX10_stack_46 : decode cX10_stack 46 = .ok (.iinc 3 1, 3) := by decide +kernel
theorem dX10_stack_49 : decode cX10_stack 49 = .ok (.goto (-28), 3) := by decide +kernel
theorem dX10_stack_52 : decode cX10_stack 52 = .ok (.iconst 0, 1) := by decide +kernel
theorem dX10_stack_53 : decode cX10_stack 53 = .ok (.istore_n 3, 1) := by decide +kernel
theorem dX10_stack_54 : decode cX10_stack 54 = .ok (.iload_n 3, 1) := by decide +kernel
theorem dX10_stack_55 : decode cX10_stack 55 = .ok (.bipush 14, 2) := by decide +kernel
theorem dX10_stack_57 : decode cX10_stack 57 = .ok (.if_icmp .ge 97, 3) := by decide +kernel
theorem dX10_stack_60 : decode cX10_stack 60 = .ok (.iconst 0, 1) := by decide +kernel
theorem dX10_stack_61 : decode cX10_stack 61 = .ok (.istore 4, 2) := by decide +kernel
theorem dX10_stack_63 : decode cX10_stack 63 = .ok (.iload 4, 2) := by decide +kernel
theorem dX10_stack_65 : decode cX10_stack 65 = .ok (.bipush 14, 2) := by decide +kernel
theorem dX10_stack_67 : decode cX10_stack 67 = .ok (.if_icmp .ge 81, 3) := by decide +kernel
theorem dX10_stack_70 : decode cX10_stack 70 = .ok (.iconst 0, 1) := by decide +kernel
theorem dX10_stack_71 : decode cX10_stack 71 = .ok (.istore 5, 2) := by decide +kernel
theorem dX10_stack_73 : decode cX10_stack 73 = .ok (.iload 5, 2) := by decide +kernel
theorem dX10_stack_75 : decode cX10_stack 75 = .ok (.bipush 14, 2) := by decide +kernel
theorem dX10_stack_77 : decode cX10_stack 77 = .ok (.if_icmp .ge 65, 3) := by decide +kernel
theorem dX10_stack_80 : decode cX10_stack 80 = .ok (.aload_n 0, 1) := by decide +kernel
theorem dX10_stack_81 : decode cX10_stack 81 = .ok (.getfield 59, 3) := by decide +kernel
theorem dX10_stack_84 : decode cX10_stack 84 = .ok (.iload 4, 2) := by decide +kernel
theorem dX10_stack_86 : decode cX10_stack 86 = .ok (.aload_n 0, 1) := by decide +kernel
theorem dX10_stack_87 : decode cX10_stack 87 = .ok (.iload 4, 2) := by decide +kernel
theorem dX10_stack_89 : decode cX10_stack 89 = .ok (.iload 5, 2) := by decide +kernel
theorem dX10_stack_91 : decode cX10_stack 91 = .ok (.invokevirtual 218, 3) := by decide +kernel
theorem dX10_stack_94 : decode cX10_stack 94 = .ok (.ifCond .eq 34, 3) := by decide +kernel
theorem dX10_stack_97 : decode cX10_stack 97 = .ok (.aload_n 0, 1) := by decide +kernel
theorem dX10_stack_98 : decode cX10_stack 98 = .ok (.getfield 59, 3) := by decide +kernel
theorem dX10_stack_101 : decode cX10_stack 101 = .ok (.iload 5, 2) := by decide +kernel
theorem dX10_stack_103 : decode cX10_stack 103 = .ok (.iaload, 1) := by decide +kernel
theorem dX10_stack_104 : decode cX10_stack 104 = .ok (.iconst 1, 1) := by decide +kernel
theorem dX10_stack_105 : decode cX10_stack 105 = .ok (.iadd, 1) := by decide +kernel
theorem dX10_stack_106 : decode cX10_stack 106 = .ok (.aload_n 0, 1) := by decide +kernel
theorem dX10_stack_107 : decode cX10_stack 107 = .ok (.getfield 59, 3) := by decide +kernel
theorem dX10_stack_110 : decode cX10_stack 110 = .ok (.iload 4, 2) := by decide +kernel
theorem dX10_stack_112 : decode cX10_stack 112 = .ok (.iaload, 1) := by decide +kernel
theorem dX10_stack_113 : decode cX10_stack 113 = .ok (.if_icmp .le 15, 3) := by decide +kernel
theorem dX10_stack_116 : decode cX10_stack 116 = .ok (.aload_n 0, 1) := by decide +kernel
theorem dX10_stack_117 : decode cX10_stack 117 = .ok (.getfield 59, 3) := by decide +kernel
theorem dX10_stack_120 : decode cX10_stack 120 = .ok (.iload 5, 2) := by decide +kernel
theorem dX10_stack_122 : decode cX10_stack 122 = .ok (.iaload, 1) := by decide +kernel
theorem dX10_stack_123 : decode cX10_stack 123 = .ok (.iconst 1, 1) := by decide +kernel
theorem dX10_stack_124 : decode cX10_stack 124 = .ok (.iadd, 1) := by decide +kernel
theorem dX10_stack_125 : decode cX10_stack 125 = .ok (.goto 10, 3) := by decide +kernel
theorem dX10_stack_128 : decode cX10_stack 128 = .ok (.aload_n 0, 1) := by decide +kernel
theorem dX10_stack_129 : decode cX10_stack 129 = .ok (.getfield 59, 3) := by decide +kernel
theorem dX10_stack_132 : decode cX10_stack 132 = .ok (.iload 4, 2) := by decide +kernel
theorem dX10_stack_134 : decode cX10_stack 134 = .ok (.iaload, 1) := by decide +kernel
theorem dX10_stack_135 : decode cX10_stack 135 = .ok (.iastore, 1) := by decide +kernel
theorem dX10_stack_136 : decode cX10_stack 136 = .ok (.iinc 5 1, 3) := by decide +kernel
theorem dX10_stack_139 : decode cX10_stack 139 = .ok (.goto (-66), 3) := by decide +kernel
theorem dX10_stack_142 : decode cX10_stack 142 = .ok (.iinc 4 1, 3) := by decide +kernel
theorem dX10_stack_145 : decode cX10_stack 145 = .ok (.goto (-82), 3) := by decide +kernel
theorem dX10_stack_148 : decode cX10_stack 148 = .ok (.iinc 3 1, 3) := by decide +kernel
theorem dX10_stack_151 : decode cX10_stack 151 = .ok (.goto (-97), 3) := by decide +kernel
theorem dX10_stack_154 : decode cX10_stack 154 = .ok (.iconst 0, 1) := by decide +kernel
theorem dX10_stack_155 : decode cX10_stack 155 = .ok (.istore_n 3, 1) := by decide +kernel
theorem dX10_stack_156 : decode cX10_stack 156 = .ok (.iload_n 3, 1) := by decide +kernel
theorem dX10_stack_157 : decode cX10_stack 157 = .ok (.bipush 14, 2) := by decide +kernel
theorem dX10_stack_159 : decode cX10_stack 159 = .ok (.if_icmp .ge 39, 3) := by decide +kernel
theorem dX10_stack_162 : decode cX10_stack 162 = .ok (.aload_n 0, 1) := by decide +kernel
theorem dX10_stack_163 : decode cX10_stack 163 = .ok (.getfield 59, 3) := by decide +kernel
theorem dX10_stack_166 : decode cX10_stack 166 = .ok (.iload_n 3, 1) := by decide +kernel
theorem dX10_stack_167 : decode cX10_stack 167 = .ok (.iaload, 1) := by decide +kernel
theorem dX10_stack_168 : decode cX10_stack 168 = .ok (.iload_n 2, 1) := by decide +kernel
theorem dX10_stack_169 : decode cX10_stack 169 = .ok (.iconst (-1), 1) := by decide +kernel
theorem dX10_stack_170 : decode cX10_stack 170 = .ok (.if_icmp .ne 7, 3) := by decide +kernel
theorem dX10_stack_173 : decode cX10_stack 173 = .ok (.iconst 0, 1) := by decide +kernel
theorem dX10_stack_174 : decode cX10_stack 174 = .ok (.goto 9, 3) := by decide +kernel
theorem dX10_stack_177 : decode cX10_stack 177 = .ok (.aload_n 0, 1) := by decide +kernel
theorem dX10_stack_178 : decode cX10_stack 178 = .ok (.getfield 59, 3) := by decide +kernel
theorem dX10_stack_181 : decode cX10_stack 181 = .ok (.iload_n 2, 1) := by decide +kernel
theorem dX10_stack_182 : decode cX10_stack 182 = .ok (.iaload, 1) := by decide +kernel
theorem dX10_stack_183 : decode cX10_stack 183 = .ok (.if_icmp .le 7, 3) := by decide +kernel
theorem dX10_stack_186 : decode cX10_stack 186 = .ok (.iload_n 3, 1) := by decide +kernel
theorem dX10_stack_187 : decode cX10_stack 187 = .ok (.goto 4, 3) := by decide +kernel
theorem dX10_stack_190 : decode cX10_stack 190 = .ok (.iload_n 2, 1) := by decide +kernel
theorem dX10_stack_191 : decode cX10_stack 191 = .ok (.istore_n 2, 1) := by decide +kernel
theorem dX10_stack_192 : decode cX10_stack 192 = .ok (.iinc 3 1, 3) := by decide +kernel
theorem dX10_stack_195 : decode cX10_stack 195 = .ok (.goto (-39), 3) := by decide +kernel
theorem dX10_stack_198 : decode cX10_stack 198 = .ok (.iload_n 1, 1) := by decide +kernel
theorem dX10_stack_199 : decode cX10_stack 199 = .ok (.iconst (-1), 1) := by decide +kernel
theorem dX10_stack_200 : decode cX10_stack 200 = .ok (.if_icmp .ne 19, 3) := by decide +kernel
theorem dX10_stack_203 : decode cX10_stack 203 = .ok (.iload_n 2, 1) := by decide +kernel
theorem dX10_stack_204 : decode cX10_stack 204 = .ok (.iconst (-1), 1) := by decide +kernel
theorem dX10_stack_205 : decode cX10_stack 205 = .ok (.if_icmp .ne 7, 3) := by decide +kernel
theorem dX10_stack_208 : decode cX10_stack 208 = .ok (.iconst 0, 1) := by decide +kernel
theorem dX10_stack_209 : decode cX10_stack 209 = .ok (.goto 9, 3) := by decide +kernel
theorem dX10_stack_212 : decode cX10_stack 212 = .ok (.aload_n 0, 1) := by decide +kernel
theorem dX10_stack_213 : decode cX10_stack 213 = .ok (.getfield 59, 3) := by decide +kernel
theorem dX10_stack_216 : decode cX10_stack 216 = .ok (.iload_n 2, 1) := by decide +kernel
theorem dX10_stack_217 : decode cX10_stack 217 = .ok (.iaload, 1) := by decide +kernel
theorem dX10_stack_218 : decode cX10_stack 218 = .ok (.ireturn, 1) := by decide +kernel
theorem dX10_stack_219 : decode cX10_stack 219 = .ok (.iconst 0, 1) := by decide +kernel
theorem dX10_stack_220 : decode cX10_stack 220 = .ok (.istore_n 3, 1) := by decide +kernel
theorem dX10_stack_221 : decode cX10_stack 221 = .ok (.iload_n 3, 1) := by decide +kernel
theorem dX10_stack_222 : decode cX10_stack 222 = .ok (.iload_n 1, 1) := by decide +kernel
theorem dX10_stack_223 : decode cX10_stack 223 = .ok (.if_icmp .ge 72, 3) := by decide +kernel
theorem dX10_stack_226 : decode cX10_stack 226 = .ok (.iload_n 2, 1) := by decide +kernel
theorem dX10_stack_227 : decode cX10_stack 227 = .ok (.iconst (-1), 1) := by decide +kernel
theorem dX10_stack_228 : decode cX10_stack 228 = .ok (.if_icmp .eq 67, 3) := by decide +kernel
theorem dX10_stack_231 : decode cX10_stack 231 = .ok (.iconst (-1), 1) := by decide +kernel
theorem dX10_stack_232 : decode cX10_stack 232 = .ok (.istore 4, 2) := by decide +kernel
theorem dX10_stack_234 : decode cX10_stack 234 = .ok (.bipush 13, 2) := by decide +kernel
theorem dX10_stack_236 : decode cX10_stack 236 = .ok (.istore 5, 2) := by decide +kernel
theorem dX10_stack_238 : decode cX10_stack 238 = .ok (.iload 5, 2) := by decide +kernel
theorem dX10_stack_240 : decode cX10_stack 240 = .ok (.ifCond .lt 46, 3) := by decide +kernel
theorem dX10_stack_243 : decode cX10_stack 243 = .ok (.aload_n 0, 1) := by decide +kernel
theorem dX10_stack_244 : decode cX10_stack 244 = .ok (.iload_n 2, 1) := by decide +kernel
theorem dX10_stack_245 : decode cX10_stack 245 = .ok (.iload 5, 2) := by decide +kernel
theorem dX10_stack_247 : decode cX10_stack 247 = .ok (.invokevirtual 218, 3) := by decide +kernel
theorem dX10_stack_250 : decode cX10_stack 250 = .ok (.ifCond .eq 26, 3) := by decide +kernel
theorem dX10_stack_253 : decode cX10_stack 253 = .ok (.aload_n 0, 1) := by decide +kernel
theorem dX10_stack_254 : decode cX10_stack 254 = .ok (.getfield 59, 3) := by decide +kernel
theorem dX10_stack_257 : decode cX10_stack 257 = .ok (.iload 5, 2) := by decide +kernel
theorem dX10_stack_259 : decode cX10_stack 259 = .ok (.iaload, 1) := by decide +kernel
theorem dX10_stack_260 : decode cX10_stack 260 = .ok (.iconst 1, 1) := by decide +kernel
theorem dX10_stack_261 : decode cX10_stack 261 = .ok (.iadd, 1) := by decide +kernel
theorem dX10_stack_262 : decode cX10_stack 262 = .ok (.aload_n 0, 1) := by decide +kernel
theorem dX10_stack_263 : decode cX10_stack 263 = .ok (.getfield 59, 3) := by decide +kernel
theorem dX10_stack_266 : decode cX10_stack 266 = .ok (.iload_n 2, 1) := by decide +kernel
theorem dX10_stack_267 : decode cX10_stack 267 = .ok (.iaload, 1) := by decide +kernel
theorem dX10_stack_268 : decode cX10_stack 268 = .ok (.if_icmp .ne 8, 3) := by decide +kernel
theorem dX10_stack_271 : decode cX10_stack 271 = .ok (.iload 5, 2) := by decide +kernel
theorem dX10_stack_273 : decode cX10_stack 273 = .ok (.goto 5, 3) := by decide +kernel
theorem dX10_stack_276 : decode cX10_stack 276 = .ok (.iload 4, 2) := by decide +kernel
theorem dX10_stack_278 : decode cX10_stack 278 = .ok (.istore 4, 2) := by decide +kernel
theorem dX10_stack_280 : decode cX10_stack 280 = .ok (.iinc 5 (-1), 3) := by decide +kernel
theorem dX10_stack_283 : decode cX10_stack 283 = .ok (.goto (-45), 3) := by decide +kernel
theorem dX10_stack_286 : decode cX10_stack 286 = .ok (.iload 4, 2) := by decide +kernel
theorem dX10_stack_288 : decode cX10_stack 288 = .ok (.istore_n 2, 1) := by decide +kernel
theorem dX10_stack_289 : decode cX10_stack 289 = .ok (.iinc 3 1, 3) := by decide +kernel
theorem dX10_stack_292 : decode cX10_stack 292 = .ok (.goto (-71), 3) := by decide +kernel
theorem dX10_stack_295 : decode cX10_stack 295 = .ok (.iload_n 2, 1) := by decide +kernel
theorem dX10_stack_296 : decode cX10_stack 296 = .ok (.ireturn, 1) := by decide +kernel
theorem dX10_over_0 : decode cX10_over 0 = .ok (.aload_n 0, 1) := by decide +kernel
theorem dX10_over_1 : decode cX10_over 1 = .ok (.iload_n 1, 1) := by decide +kernel
theorem dX10_over_2 : decode cX10_over 2 = .ok (.invokevirtual 93, 3) := by decide +kernel
theorem dX10_over_5 : decode cX10_over 5 = .ok (.ifCond .eq 11, 3) := by decide +kernel
theorem dX10_over_8 : decode cX10_over 8 = .ok (.aload_n 0, 1) := by decide +kernel
theorem dX10_over_9 : decode cX10_over 9 = .ok (.iload_n 2, 1) := by decide +kernel
theorem dX10_over_10 : decode cX10_over 10 = .ok (.invokevirtual 93, 3) := by decide +kernel
theorem dX10_over_13 : decode cX10_over 13 = .ok (.ifCond .ne 6, 3) := by decide +kernel
theorem dX10_over_16 : decode cX10_over 16 = .ok (.bipush (-2), 2) := by decide +kernel
theorem dX10_over_18 : decode cX10_over 18 = .ok (.ireturn, 1) := by decide +kernel
theorem dX10_over_19 : decode cX10_over 19 = .ok (.aload_n 0, 1) := by decide +kernel
theorem dX10_over_20 : decode cX10_over 20 = .ok (.invokevirtual 229, 3) := by decide +kernel
theorem dX10_over_23 : decode cX10_over 23 = .ok (.aload_n 0, 1) := by decide +kernel
theorem dX10_over_24 : decode cX10_over 24 = .ok (.getfield 34, 3) := by decide +kernel
theorem dX10_over_27 : decode cX10_over 27 = .ok (.iload_n 1, 1) := by decide +kernel
theorem dX10_over_28 : decode cX10_over 28 = .ok (.iaload, 1) := by decide +kernel
theorem dX10_over_29 : decode cX10_over 29 = .ok (.iload_n 2, 1) := by decide +kernel
theorem dX10_over_30 : decode cX10_over 30 = .ok (.ishr, 1) := by decide +kernel
theorem dX10_over_31 : decode cX10_over 31 = .ok (.iconst 1, 1) := by decide +kernel
theorem dX10_over_32 : decode cX10_over 32 = .ok (.iand, 1) := by decide +kernel
theorem dX10_over_33 : decode cX10_over 33 = .ok (.ireturn, 1) := by decide +kernel
theorem dX10_beginOf_0 : decode cX10_beginOf 0 = .ok (.aload_n 0, 1) := by decide +kernel
theorem dX10_beginOf_1 : decode cX10_beginOf 1 = .ok (.iload_n 1, 1) := by decide +kernel
theorem dX10_beginOf_2 : decode cX10_beginOf 2 = .ok (.iconst 0, 1) := by decide +kernel
theorem dX10_beginOf_3 : decode cX10_beginOf 3 = .ok (.invokevirtual 184, 3) := by decide +kernel
theorem dX10_beginOf_6 : decode cX10_beginOf 6 = .ok (.ifCond .ne 12, 3) := by decide +kernel
theorem dX10_beginOf_9 : decode cX10_beginOf 9 = .ok (.aload_n 0, 1) := by decide +kernel
theorem dX10_beginOf_10 : decode cX10_beginOf 10 = .ok (.getfield 13, 3) := by decide +kernel
theorem dX10_beginOf_13 : decode cX10_beginOf 13 = .ok (.iload_n 1, 1) := by decide +kernel
theorem dX10_beginOf_14 : decode cX10_beginOf 14 = .ok (.iaload, 1) := by decide +kernel
theorem dX10_beginOf_15 : decode cX10_beginOf 15 = .ok (.goto 9, 3) := by decide +kernel
theorem dX10_beginOf_18 : decode cX10_beginOf 18 = .ok (.aload_n 0, 1) := by decide +kernel
theorem dX10_beginOf_19 : decode cX10_beginOf 19 = .ok (.getfield 16, 3) := by decide +kernel
theorem dX10_beginOf_22 : decode cX10_beginOf 22 = .ok (.iload_n 1, 1) := by decide +kernel
theorem dX10_beginOf_23 : decode cX10_beginOf 23 = .ok (.iaload, 1) := by decide +kernel
theorem dX10_beginOf_24 : decode cX10_beginOf 24 = .ok (.ireturn, 1) := by decide +kernel
theorem dX10_sideOf_0 : decode cX10_sideOf 0 = .ok (.aload_n 0, 1) := by decide +kernel
theorem dX10_sideOf_1 : decode cX10_sideOf 1 = .ok (.iload_n 1, 1) := by decide +kernel
theorem dX10_sideOf_2 : decode cX10_sideOf 2 = .ok (.iconst 0, 1) := by decide +kernel
theorem dX10_sideOf_3 : decode cX10_sideOf 3 = .ok (.invokevirtual 184, 3) := by decide +kernel
theorem dX10_sideOf_6 : decode cX10_sideOf 6 = .ok (.ifCond .ne 12, 3) := by decide +kernel
theorem dX10_sideOf_9 : decode cX10_sideOf 9 = .ok (.aload_n 0, 1) := by decide +kernel
theorem dX10_sideOf_10 : decode cX10_sideOf 10 = .ok (.getfield 16, 3) := by decide +kernel
theorem dX10_sideOf_13 : decode cX10_sideOf 13 = .ok (.iload_n 1, 1) := by decide +kernel
theorem dX10_sideOf_14 : decode cX10_sideOf 14 = .ok (.iaload, 1) := by decide +kernel
theorem dX10_sideOf_15 : decode cX10_sideOf 15 = .ok (.goto 9, 3) := by decide +kernel
theorem dX10_sideOf_18 : decode cX10_sideOf 18 = .ok (.aload_n 0, 1) := by decide +kernel
theorem dX10_sideOf_19 : decode cX10_sideOf 19 = .ok (.getfield 13, 3) := by decide +kernel
theorem dX10_sideOf_22 : decode cX10_sideOf 22 = .ok (.iload_n 1, 1) := by decide +kernel
theorem dX10_sideOf_23 : decode cX10_sideOf 23 = .ok (.iaload, 1) := by decide +kernel
theorem dX10_sideOf_24 : decode cX10_sideOf 24 = .ok (.ireturn, 1) := by decide +kernel
theorem dX10_broadOf_0 : decode cX10_broadOf 0 = .ok (.aload_n 0, 1) := by decide +kernel
theorem dX10_broadOf_1 : decode cX10_broadOf 1 = .ok (.iload_n 1, 1) := by decide +kernel
theorem dX10_broadOf_2 : decode cX10_broadOf 2 = .ok (.iconst 1, 1) := by decide +kernel
theorem dX10_broadOf_3 : decode cX10_broadOf 3 = .ok (.invokevirtual 184, 3) := by decide +kernel
theorem dX10_broadOf_6 : decode cX10_broadOf 6 = .ok (.aload_n 0, 1) := by decide +kernel
theorem dX10_broadOf_7 : decode cX10_broadOf 7 = .ok (.iload_n 1, 1) := by decide +kernel
theorem dX10_broadOf_8 : decode cX10_broadOf 8 = .ok (.iconst 2, 1) := by decide +kernel
theorem dX10_broadOf_9 : decode cX10_broadOf 9 = .ok (.invokevirtual 184, 3) := by decide +kernel
theorem dX10_broadOf_12 : decode cX10_broadOf 12 = .ok (.imul, 1) := by decide +kernel
theorem dX10_broadOf_13 : decode cX10_broadOf 13 = .ok (.ireturn, 1) := by decide +kernel
theorem dX10_between_0 : decode cX10_between 0 = .ok (.aload_n 0, 1) := by decide +kernel
theorem dX10_between_1 : decode cX10_between 1 = .ok (.iload_n 2, 1) := by decide +kernel
theorem dX10_between_2 : decode cX10_between 2 = .ok (.invokevirtual 232, 3) := by decide +kernel
theorem dX10_between_5 : decode cX10_between 5 = .ok (.aload_n 0, 1) := by decide +kernel
theorem dX10_between_6 : decode cX10_between 6 = .ok (.iload_n 1, 1) := by decide +kernel
theorem dX10_between_7 : decode cX10_between 7 = .ok (.invokevirtual 232, 3) := by decide +kernel
theorem dX10_between_10 : decode cX10_between 10 = .ok (.isub, 1) := by decide +kernel
theorem dX10_between_11 : decode cX10_between 11 = .ok (.aload_n 0, 1) := by decide +kernel
theorem dX10_between_12 : decode cX10_between 12 = .ok (.iload_n 1, 1) := by decide +kernel
theorem dX10_between_13 : decode cX10_between 13 = .ok (.iconst 3, 1) := by decide +kernel
theorem dX10_between_14 : decode cX10_between 14 = .ok (.invokevirtual 184, 3) := by decide +kernel
theorem dX10_between_17 : decode cX10_between 17 = .ok (.isub, 1) := by decide +kernel
theorem dX10_between_18 : decode cX10_between 18 = .ok (.ireturn, 1) := by decide +kernel
theorem dX10_isOff_0 : decode cX10_isOff 0 = .ok (.iload_n 1, 1) := by decide +kernel
theorem dX10_isOff_1 : decode cX10_isOff 1 = .ok (.aload_n 0, 1) := by decide +kernel
theorem dX10_isOff_2 : decode cX10_isOff 2 = .ok (.getfield 40, 3) := by decide +kernel
theorem dX10_isOff_5 : decode cX10_isOff 5 = .ok (.if_icmp .le 13, 3) := by decide +kernel
theorem dX10_isOff_8 : decode cX10_isOff 8 = .ok (.iload_n 2, 1) := by decide +kernel
theorem dX10_isOff_9 : decode cX10_isOff 9 = .ok (.iload_n 1, 1) := by decide +kernel
theorem dX10_isOff_10 : decode cX10_isOff 10 = .ok (.isub, 1) := by decide +kernel
theorem dX10_isOff_11 : decode cX10_isOff 11 = .ok (.aload_n 0, 1) := by decide +kernel
theorem dX10_isOff_12 : decode cX10_isOff 12 = .ok (.getfield 40, 3) := by decide +kernel
theorem dX10_isOff_15 : decode cX10_isOff 15 = .ok (.if_icmp .gt 7, 3) := by decide +kernel
theorem dX10_isOff_18 : decode cX10_isOff 18 = .ok (.iconst 1, 1) := by decide +kernel
theorem dX10_isOff_19 : decode cX10_isOff 19 = .ok (.goto 4, 3) := by decide +kernel
theorem dX10_isOff_22 : decode cX10_isOff 22 = .ok (.iconst 0, 1) := by decide +kernel
theorem dX10_isOff_23 : decode cX10_isOff 23 = .ok (.ireturn, 1) := by decide +kernel
theorem dX10_areJoined_0 : decode cX10_areJoined 0 = .ok (.aload_n 0, 1) := by decide +kernel
theorem dX10_areJoined_1 : decode cX10_areJoined 1 = .ok (.iload_n 1, 1) := by decide +kernel
theorem dX10_areJoined_2 : decode cX10_areJoined 2 = .ok (.iconst 0, 1) := by decide +kernel
theorem dX10_areJoined_3 : decode cX10_areJoined 3 = .ok (.invokevirtual 184, 3) := by decide +kernel
theorem dX10_areJoined_6 : decode cX10_areJoined 6 = .ok (.aload_n 0, 1) := by decide +kernel
theorem dX10_areJoined_7 : decode cX10_areJoined 7 = .ok (.iload_n 2, 1) := by decide +kernel
theorem dX10_areJoined_8 : decode cX10_areJoined 8 = .ok (.iconst 0, 1) := by decide +kernel
theorem dX10_areJoined_9 : decode cX10_areJoined 9 = .ok (.invokevirtual 184, 3) := by decide +kernel
theorem dX10_areJoined_12 : decode cX10_areJoined 12 = .ok (.if_icmp .ne 52, 3) := by decide +kernel
theorem dX10_areJoined_15 : decode cX10_areJoined 15 = .ok (.aload_n 0, 1) := by decide +kernel
theorem dX10_areJoined_16 : decode cX10_areJoined 16 = .ok (.iload_n 1, 1) := by decide +kernel
theorem dX10_areJoined_17 : decode cX10_areJoined 17 = .ok (.iconst 2, 1) := by decide +kernel
theorem dX10_areJoined_18 : decode cX10_areJoined 18 = .ok (.invokevirtual 184, 3) := by decide +kernel
theorem dX10_areJoined_21 : decode cX10_areJoined 21 = .ok (.aload_n 0, 1) := by decide +kernel
theorem dX10_areJoined_22 : decode cX10_areJoined 22 = .ok (.iload_n 2, 1) := by decide +kernel
theorem dX10_areJoined_23 : decode cX10_areJoined 23 = .ok (.iconst 2, 1) := by decide +kernel
theorem dX10_areJoined_24 : decode cX10_areJoined 24 = .ok (.invokevirtual 184, 3) := by decide +kernel
theorem dX10_areJoined_27 : decode cX10_areJoined 27 = .ok (.if_icmp .ne 37, 3) := by decide +kernel
theorem dX10_areJoined_30 : decode cX10_areJoined 30 = .ok (.aload_n 0, 1) := by decide +kernel
theorem dX10_areJoined_31 : decode cX10_areJoined 31 = .ok (.iload_n 1, 1) := by decide +kernel
theorem dX10_areJoined_32 : decode cX10_areJoined 32 = .ok (.iconst 4, 1) := by decide +kernel
theorem dX10_areJoined_33 : decode cX10_areJoined 33 = .ok (.invokevirtual 184, 3) := by decide +kernel
theorem dX10_areJoined_36 : decode cX10_areJoined 36 = .ok (.aload_n 0, 1) := by decide +kernel
theorem dX10_areJoined_37 : decode cX10_areJoined 37 = .ok (.iload_n 2, 1) := by decide +kernel
theorem dX10_areJoined_38 : decode cX10_areJoined 38 = .ok (.iconst 4, 1) := by decide +kernel
theorem dX10_areJoined_39 : decode cX10_areJoined 39 = .ok (.invokevirtual 184, 3) := by decide +kernel
theorem dX10_areJoined_42 : decode cX10_areJoined 42 = .ok (.if_icmp .ne 22, 3) := by decide +kernel
theorem dX10_areJoined_45 : decode cX10_areJoined 45 = .ok (.aload_n 0, 1) := by decide +kernel
theorem dX10_areJoined_46 : decode cX10_areJoined 46 = .ok (.iload_n 1, 1) := by decide +kernel
theorem dX10_areJoined_47 : decode cX10_areJoined 47 = .ok (.iconst 5, 1) := by decide +kernel
theorem dX10_areJoined_48 : decode cX10_areJoined 48 = .ok (.invokevirtual 184, 3) := by decide +kernel
theorem dX10_areJoined_51 : decode cX10_areJoined 51 = .ok (.aload_n 0, 1) := by decide +kernel
theorem dX10_areJoined_52 : decode cX10_areJoined 52 = .ok (.iload_n 2, 1) := by decide +kernel
theorem dX10_areJoined_53 : decode cX10_areJoined 53 = .ok (.iconst 5, 1) := by decide +kernel
theorem dX10_areJoined_54 : decode cX10_areJoined 54 = .ok (.invokevirtual 184, 3) := by decide +kernel
theorem dX10_areJoined_57 : decode cX10_areJoined 57 = .ok (.if_icmp .ne 7, 3) := by decide +kernel
theorem dX10_areJoined_60 : decode cX10_areJoined 60 = .ok (.iconst 1, 1) := by decide +kernel
theorem dX10_areJoined_61 : decode cX10_areJoined 61 = .ok (.goto 4, 3) := by decide +kernel
theorem dX10_areJoined_64 : decode cX10_areJoined 64 = .ok (.iconst 0, 1) := by decide +kernel
