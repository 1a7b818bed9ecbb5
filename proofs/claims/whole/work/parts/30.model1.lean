/-! the model: texts, ringers: decode rows, links, walks from cut to cut (printed by wip/gen) -/
theorem dX13_in_0 : decode cX13_in 0 = .ok (.lload_n 0, 1) := by decide +kernel
theorem dX13_in_1 : decode cX13_in 1 = .ok (.lload_n 2, 1) := by decide +kernel
theorem dX13_in_2 : decode cX13_in 2 = .ok (.lcmp, 1) := by decide +kernel
theorem dX13_in_3 : decode cX13_in 3 = .ok (.ifCond .lt 14, 3) := by decide +kernel
theorem dX13_in_6 : decode cX13_in 6 = .ok (.lload_n 0, 1) := by decide +kernel
theorem dX13_in_7 : decode cX13_in 7 = .ok (.lload 4, 2) := by decide +kernel
theorem dX13_in_9 : decode cX13_in 9 = .ok (.lcmp, 1) := by decide +kernel
theorem dX13_in_10 : decode cX13_in 10 = .ok (.ifCond .gt 7, 3) := by decide +kernel
theorem dX13_in_13 : decode cX13_in 13 = .ok (.iconst 1, 1) := by decide +kernel
theorem dX13_in_14 : decode cX13_in 14 = .ok (.goto 4, 3) := by decide +kernel
theorem dX13_in_17 : decode cX13_in 17 = .ok (.iconst 0, 1) := by decide +kernel
theorem dX13_in_18 : decode cX13_in 18 = .ok (.ireturn, 1) := by decide +kernel
theorem dX13_isDay_0 : decode cX13_isDay 0 = .ok (.iload_n 0, 1) := by decide +kernel
theorem dX13_isDay_1 : decode cX13_isDay 1 = .ok (.i2l, 1) := by decide +kernel
theorem dX13_isDay_2 : decode cX13_isDay 2 = .ok (.lconst 0, 1) := by decide +kernel
theorem dX13_isDay_3 : decode cX13_isDay 3 = .ok (.ldc2_w 3, 3) := by decide +kernel
theorem dX13_isDay_6 : decode cX13_isDay 6 = .ok (.invokestatic 5, 3) := by decide +kernel
theorem dX13_isDay_9 : decode cX13_isDay 9 = .ok (.ireturn, 1) := by decide +kernel
theorem dX13_byteAt_0 : decode cX13_byteAt 0 = .ok (.iload_n 1, 1) := by decide +kernel
theorem dX13_byteAt_1 : decode cX13_byteAt 1 = .ok (.aload_n 0, 1) := by decide +kernel
theorem dX13_byteAt_2 : decode cX13_byteAt 2 = .ok (.getfield 23, 3) := by decide +kernel
theorem dX13_byteAt_5 : decode cX13_byteAt 5 = .ok (.if_icmp .ge 16, 3) := by decide +kernel
theorem dX13_byteAt_8 : decode cX13_byteAt 8 = .ok (.aload_n 0, 1) := by decide +kernel
theorem dX13_byteAt_9 : decode cX13_byteAt 9 = .ok (.getfield 26, 3) := by decide +kernel
theorem dX13_byteAt_12 : decode cX13_byteAt 12 = .ok (.iload_n 1, 1) := by decide +kernel
theorem dX13_byteAt_13 : decode cX13_byteAt 13 = .ok (.baload, 1) := by decide +kernel
theorem dX13_byteAt_14 : decode cX13_byteAt 14 = .ok (.sipush 255, 3) := by decide +kernel
theorem dX13_byteAt_17 : decode cX13_byteAt 17 = .ok (.iand, 1) := by decide +kernel
theorem dX13_byteAt_18 : decode cX13_byteAt 18 = .ok (.goto 4, 3) := by decide +kernel
theorem dX13_byteAt_21 : decode cX13_byteAt 21 = .ok (.iconst 0, 1) := by decide +kernel
theorem dX13_byteAt_22 : decode cX13_byteAt 22 = .ok (.ireturn, 1) := by decide +kernel
theorem dX13_isSmall_0 : decode cX13_isSmall 0 = .ok (.iload_n 0, 1) := by decide +kernel
theorem dX13_isSmall_1 : decode cX13_isSmall 1 = .ok (.bipush 97, 2) := by decide +kernel
theorem dX13_isSmall_3 : decode cX13_isSmall 3 = .ok (.if_icmp .lt 13, 3) := by decide +kernel
theorem dX13_isSmall_6 : decode cX13_isSmall 6 = .ok (.iload_n 0, 1) := by decide +kernel
theorem dX13_isSmall_7 : decode cX13_isSmall 7 = .ok (.bipush 122, 2) := by decide +kernel
theorem dX13_isSmall_9 : decode cX13_isSmall 9 = .ok (.if_icmp .gt 7, 3) := by decide +kernel
theorem dX13_isSmall_12 : decode cX13_isSmall 12 = .ok (.iconst 1, 1) := by decide +kernel
theorem dX13_isSmall_13 : decode cX13_isSmall 13 = .ok (.goto 4, 3) := by decide +kernel
theorem dX13_isSmall_16 : decode cX13_isSmall 16 = .ok (.iconst 0, 1) := by decide +kernel
theorem dX13_isSmall_17 : decode cX13_isSmall 17 = .ok (.ireturn, 1) := by decide +kernel
theorem dX13_isDigit_0 : decode cX13_isDigit 0 = .ok (.iload_n 0, 1) := by decide +kernel
theorem dX13_isDigit_1 : decode cX13_isDigit 1 = .ok (.bipush 48, 2) := by decide +kernel
theorem dX13_isDigit_3 : decode cX13_isDigit 3 = .ok (.if_icmp .lt 13, 3) := by decide +kernel
theorem dX13_isDigit_6 : decode cX13_isDigit 6 = .ok (.iload_n 0, 1) := by decide +kernel
theorem dX13_isDigit_7 : decode cX13_isDigit 7 = .ok (.bipush 57, 2) := by decide +kernel
theorem dX13_isDigit_9 : decode cX13_isDigit 9 = .ok (.if_icmp .gt 7, 3) := by decide +kernel
theorem dX13_isDigit_12 : decode cX13_isDigit 12 = .ok (.iconst 1, 1) := by decide +kernel
theorem dX13_isDigit_13 : decode cX13_isDigit 13 = .ok (.goto 4, 3) := by decide +kernel
theorem dX13_isDigit_16 : decode cX13_isDigit 16 = .ok (.iconst 0, 1) := by decide +kernel
theorem dX13_isDigit_17 : decode cX13_isDigit 17 = .ok (.ireturn, 1) := by decide +kernel
theorem dX13_scan_0 : decode cX13_scan 0 = .ok (.aload_n 0, 1) := by decide +kernel
theorem dX13_scan_1 : decode cX13_scan 1 = .ok (.getfield 30, 3) := by decide +kernel
theorem dX13_scan_4 : decode cX13_scan 4 = .ok (.aload_n 0, 1) := by decide +kernel
theorem dX13_scan_5 : decode cX13_scan 5 = .ok (.getfield 23, 3) := by decide +kernel
theorem dX13_scan_8 : decode cX13_scan 8 = .ok (.if_icmp .ge 44, 3) := by decide +kernel
theorem dX13_scan_11 : decode cX13_scan 11 = .ok (.aload_n 0, 1) := by decide +kernel
theorem dX13_scan_12 : decode cX13_scan 12 = .ok (.getfield 26, 3) := by decide +kernel
theorem dX13_scan_15 : decode cX13_scan 15 = .ok (.aload_n 0, 1) := by decide +kernel
theorem dX13_scan_16 : decode cX13_scan 16 = .ok (.getfield 30, 3) := by decide +kernel
theorem dX13_scan_19 : decode cX13_scan 19 = .ok (.baload, 1) := by decide +kernel
theorem dX13_scan_20 : decode cX13_scan 20 = .ok (.bipush 32, 2) := by decide +kernel
theorem dX13_scan_22 : decode cX13_scan 22 = .ok (.if_icmp .eq 17, 3) := by decide +kernel
theorem dX13_scan_25 : decode cX13_scan 25 = .ok (.aload_n 0, 1) := by decide +kernel
theorem dX13_scan_26 : decode cX13_scan 26 = .ok (.getfield 26, 3) := by decide +kernel
theorem dX13_scan_29 : decode cX13_scan 29 = .ok (.aload_n 0, 1) := by decide +kernel
theorem dX13_scan_30 : decode cX13_scan 30 = .ok (.getfield 30, 3) := by decide +kernel
theorem dX13_scan_33 : decode cX13_scan 33 = .ok (.baload, 1) := by decide +kernel
theorem dX13_scan_34 : decode cX13_scan 34 = .ok (.bipush 10, 2) := by decide +kernel
theorem dX13_scan_36 : decode cX13_scan 36 = .ok (.if_icmp .ne 16, 3) := by decide +kernel
theorem dX13_scan_39 : decode cX13_scan 39 = .ok (.aload_n 0, 1) := by decide +kernel
theorem dX13_scan_40 : decode cX13_scan 40 = .ok (.dup, 1) := by decide +kernel
theorem dX13_scan_41 : decode cX13_scan 41 = .ok (.getfield 30, 3) := by decide +kernel
theorem dX13_scan_44 : decode cX13_scan 44 = .ok (.iconst 1, 1) := by decide +kernel
theorem dX13_scan_45 : decode cX13_scan 45 = .ok (.iadd, 1) := by decide +kernel
theorem dX13_scan_46 : decode cX13_scan 46 = .ok (.putfield 30, 3) := by decide +kernel
theorem dX13_scan_49 : decode cX13_scan 49 = .ok (.goto (-49), 3) := by decide +kernel
theorem dX13_scan_52 : decode cX13_scan 52 = .ok (.aload_n 0, 1) := by decide +kernel
theorem dX13_scan_53 : decode cX13_scan 53 = .ok (.aload_n 0, 1) := by decide +kernel
theorem dX13_scan_54 : decode cX13_scan 54 = .ok (.getfield 30, 3) := by decide +kernel
theorem dX13_scan_57 : decode cX13_scan 57 = .ok (.putfield 13, 3) := by decide +kernel
theorem dX13_scan_60 : decode cX13_scan 60 = .ok (.aload_n 0, 1) := by decide +kernel
theorem dX13_scan_61 : decode cX13_scan 61 = .ok (.aload_n 0, 1) := by decide +kernel
theorem dX13_scan_62 : decode cX13_scan 62 = .ok (.getfield 13, 3) := by decide +kernel
theorem dX13_scan_65 : decode cX13_scan 65 = .ok (.invokevirtual 33, 3) := by decide +kernel
theorem dX13_scan_68 : decode cX13_scan 68 = .ok (.istore_n 1, 1) := by decide +kernel
theorem dX13_scan_69 : decode cX13_scan 69 = .ok (.aload_n 0, 1) := by decide +kernel
theorem dX13_scan_70 : decode cX13_scan 70 = .ok (.getfield 13, 3) := by decide +kernel
theorem dX13_scan_73 : decode cX13_scan 73 = .ok (.aload_n 0, 1) := by decide +kernel
theorem dX13_scan_74 : decode cX13_scan 74 = .ok (.getfield 23, 3) := by decide +kernel
theorem dX13_scan_77 : decode cX13_scan 77 = .ok (.if_icmp .ne 11, 3) := by decide +kernel
theorem dX13_scan_80 : decode cX13_scan 80 = .ok (.aload_n 0, 1) := by decide +kernel
theorem dX13_scan_81 : decode cX13_scan 81 = .ok (.iconst 0, 1) := by decide +kernel
theorem dX13_scan_82 : decode cX13_scan 82 = .ok (.putfield 37, 3) := by decide +kernel
theorem dX13_scan_85 : decode cX13_scan 85 = .ok (.goto 188, 3) := by decide +kernel
theorem dX13_scan_88 : decode cX13_scan 88 = .ok (.iload_n 1, 1) := by decide +kernel
theorem dX13_scan_89 : decode cX13_scan 89 = .ok (.invokestatic 40, 3) := by decide +kernel
theorem dX13_scan_92 : decode cX13_scan 92 = .ok (.ifCond .eq 56, 3) := by decide +kernel
theorem dX13_scan_95 : decode cX13_scan 95 = .ok (.aload_n 0, 1) := by decide +kernel
theorem dX13_scan_96 : decode cX13_scan 96 = .ok (.aload_n 0, 1) := by decide +kernel
theorem dX13_scan_97 : decode cX13_scan 97 = .ok (.getfield 30, 3) := by decide +kernel
theorem dX13_scan_100 : decode cX13_scan 100 = .ok (.invokevirtual 33, 3) := by decide +kernel
theorem dX13_scan_103 : decode cX13_scan 103 = .ok (.invokestatic 40, 3) := by decide +kernel
theorem dX13_scan_106 : decode cX13_scan 106 = .ok (.ifCond .eq 16, 3) := by decide +kernel
theorem dX13_scan_109 : decode cX13_scan 109 = .ok (.aload_n 0, 1) := by decide +kernel
theorem dX13_scan_110 : decode cX13_scan 110 = .ok (.dup, 1) := by decide +kernel
theorem dX13_scan_111 : decode cX13_scan 111 = .ok (.getfield 30, 3) := by decide +kernel
theorem dX13_scan_114 : decode cX13_scan 114 = .ok (.iconst 1, 1) := by decide +kernel
theorem dX13_scan_115 : decode cX13_scan 115 = .ok (.iadd, 1) := by decide +kernel
theorem dX13_scan_116 : decode cX13_scan 116 = .ok (.putfield 30, 3) := by decide +kernel
theorem dX13_scan_119 : decode cX13_scan 119 = .ok (.goto (-24), 3) := by decide +kernel
theorem dX13_scan_122 : decode cX13_scan 122 = .ok (.aload_n 0, 1) := by decide +kernel
theorem dX13_scan_123 : decode cX13_scan 123 = .ok (.aload_n 0, 1) := by decide +kernel
theorem dX13_scan_124 : decode cX13_scan 124 = .ok (.getfield 30, 3) := by decide +kernel
theorem dX13_scan_127 : decode cX13_scan 127 = .ok (.aload_n 0, 1) := by decide +kernel
theorem dX13_scan_128 : decode cX13_scan 128 = .ok (.getfield 13, 3) := by decide +kernel
theorem dX13_scan_131 : decode cX13_scan 131 = .ok (.isub, 1) := by decide +kernel
theorem dX13_scan_132 : decode cX13_scan 132 = .ok (.bipush 8, 2) := by decide +kernel
theorem dX13_scan_134 : decode cX13_scan 134 = .ok (.if_icmp .le 7, 3) := by decide +kernel
theorem dX13_scan_137 : decode cX13_scan 137 = .ok (.iconst 4, 1) := by decide +kernel
theorem dX13_scan_138 : decode cX13_scan 138 = .ok (.goto 4, 3) := by decide +kernel
theorem dX13_scan_141 : decode cX13_scan 141 = .ok (.iconst 1, 1) := by decide +kernel
theorem dX13_scan_142 : decode cX13_scan 142 = .ok (.putfield 37, 3) := by decide +kernel
theorem dX13_scan_145 : decode cX13_scan 145 = .ok (.goto 128, 3) := by decide +kernel
theorem dX13_scan_148 : decode cX13_scan 148 = .ok (.iload_n 1, 1) := by decide +kernel
theorem dX13_scan_149 : decode cX13_scan 149 = .ok (.invokestatic 44, 3) := by decide +kernel
theorem dX13_scan_152 : decode cX13_scan 152 = .ok (.ifCond .eq 96, 3) := by decide +kernel
theorem dX13_scan_155 : decode cX13_scan 155 = .ok (.aload_n 0, 1) := by decide +kernel
theorem dX13_scan_156 : decode cX13_scan 156 = .ok (.iconst 0, 1) := by decide +kernel
theorem dX13_scan_157 : decode cX13_scan 157 = .ok (.putfield 47, 3) := by decide +kernel
theorem dX13_scan_160 : decode cX13_scan 160 = .ok (.aload_n 0, 1) := by decide +kernel
theorem dX13_scan_161 : decode cX13_scan 161 = .ok (.aload_n 0, 1) := by decide +kernel
theorem dX13_scan_162 : decode cX13_scan 162 = .ok (.getfield 30, 3) := by decide +kernel
theorem dX13_scan_165 : decode cX13_scan 165 = .ok (.invokevirtual 33, 3) := by decide +kernel
theorem dX13_scan_168 : decode cX13_scan 168 = .ok (.invokestatic 44, 3) := by decide +kernel
theorem dX13_scan_171 : decode cX13_scan 171 = .ok (.ifCond .eq 52, 3) := by decide +kernel
theorem dX13_scan_174 : decode cX13_scan 174 = .ok (.aload_n 0, 1) := by decide +kernel
theorem dX13_scan_175 : decode cX13_scan 175 = .ok (.getfield 30, 3) := by decide +kernel
theorem dX13_scan_178 : decode cX13_scan 178 = .ok (.aload_n 0, 1) := by decide +kernel
theorem dX13_scan_179 : decode cX13_scan 179 = .ok (.getfield 13, 3) := by decide +kernel
theorem dX13_scan_182 : decode cX13_scan 182 = .ok (.isub, 1) := by decide +kernel
theorem dX13_scan_183 : decode cX13_scan 183 = .ok (.iconst 3, 1) := by decide +kernel
theorem dX13_scan_184 : decode cX13_scan 184 = .ok (.if_icmp .ge 26, 3) := by decide +kernel
theorem dX13_scan_187 : decode cX13_scan 187 = .ok (.aload_n 0, 1) := by decide +kernel
theorem dX13_scan_188 : decode cX13_scan 188 = .ok (.bipush 10, 2) := by decide +kernel
theorem dX13_scan_190 : decode cX13_scan 190 = .ok (.aload_n 0, 1) := by decide +kernel
theorem dX13_scan_191 : decode cX13_scan 191 = .ok (.getfield 47, 3) := by decide +kernel
theorem dX13_scan_194 : decode cX13_scan 194 = .ok (.imul, 1) := by decide +kernel
theorem dX13_scan_195 : decode cX13_scan 195 = .ok (.aload_n 0, 1) := by decide +kernel
theorem dX13_scan_196 : decode cX13_scan 196 = .ok (.aload_n 0, 1) := by decide +kernel
theorem dX13_scan_197 : decode cX13_scan 197 = .ok (.getfield 30, 3) := by decide +kernel
theorem dX13_scan_200 : decode cX13_scan 200 = .ok (.invokevirtual 33, 3) := by decide +kernel
theorem dX13_scan_203 : decode cX13_scan 203 = .ok (.iadd, 1) := by decide +kernel
theorem dX13_scan_204 : decode cX13_scan 204 = .ok (.bipush 48, 2) := by decide +kernel
theorem dX13_scan_206 : decode cX13_scan 206 = .ok (.isub, 1) := by decide +kernel
theorem dX13_scan_207 : decode cX13_scan 207 = .ok (.putfield 47, 3) := by decide +kernel
theorem dX13_scan_210 : decode cX13_scan 210 = .ok (.aload_n 0, 1) := by decide +kernel
theorem dX13_scan_211 : decode cX13_scan 211 = .ok (.dup, 1) := by decide +kernel
theorem dX13_scan_212 : decode cX13_scan 212 = .ok (.getfield 30, 3) := by decide +kernel
theorem dX13_scan_215 : decode cX13_scan 215 = .ok (.iconst 1, 1) := by decide +kernel
theorem dX13_scan_216 : decode cX13_scan 216 = .ok (.iadd, 1) := by decide +kernel
theorem dX13_scan_217 : decode cX13_scan 217 = .ok (.putfield 30, 3) := by decide +kernel
theorem dX13_scan_220 : decode cX13_scan 220 = .ok (.goto (-60), 3) := by decide +kernel
theorem dX13_scan_223 : decode cX13_scan 223 = .ok (.aload_n 0, 1) := by decide +kernel
theorem dX13_scan_224 : decode cX13_scan 224 = .ok (.aload_n 0, 1) := by decide +kernel
theorem dX13_scan_225 : decode cX13_scan 225 = .ok (.getfield 30, 3) := by decide +kernel
theorem dX13_scan_228 : decode cX13_scan 228 = .ok (.aload_n 0, 1) := by decide +kernel
theorem dX13_scan_229 : decode cX13_scan 229 = .ok (.getfield 13, 3) := by decide +kernel
theorem dX13_scan_232 : decode cX13_scan 232 = .ok (.isub, 1) := by decide +kernel
theorem dX13_scan_233 : decode cX13_scan 233 = .ok (.iconst 3, 1) := by decide +kernel
theorem dX13_scan_234 : decode cX13_scan 234 = .ok (.if_icmp .le 7, 3) := by decide +kernel
theorem dX13_scan_237 : decode cX13_scan 237 = .ok (.iconst 4, 1) := by decide +kernel
theorem dX13_scan_238 : decode cX13_scan 238 = .ok (.goto 4, 3) := by decide +kernel
theorem dX13_scan_241 : decode cX13_scan 241 = .ok (.iconst 2, 1) := by decide +kernel
theorem dX13_scan_242 : decode cX13_scan 242 = .ok (.putfield 37, 3) := by decide +kernel
theorem dX13_scan_245 : decode cX13_scan 245 = .ok (.goto 28, 3) := by decide +kernel
theorem dX13_scan_248 : decode cX13_scan 248 = .ok (.aload_n 0, 1) := by decide +kernel
theorem dX13_scan_249 : decode cX13_scan 249 = .ok (.iload_n 1, 1) := by decide +kernel
theorem dX13_scan_250 : decode cX13_scan 250 = .ok (.bipush 59, 2) := by decide +kernel
theorem dX13_scan_252 : decode cX13_scan 252 = .ok (.if_icmp .ne 7, 3) := by decide +kernel
theorem dX13_scan_255 : decode cX13_scan 255 = .ok (.iconst 3, 1) := by decide +kernel
theorem dX13_scan_256 : decode cX13_scan 256 = .ok (.goto 4, 3) := by decide +kernel
theorem dX13_scan_259 : decode cX13_scan 259 = .ok (.iconst 4, 1) := by decide +kernel
theorem dX13_scan_260 : decode cX13_scan 260 = .ok (.putfield 37, 3) := by decide +kernel
theorem dX13_scan_263 : decode cX13_scan 263 = .ok (.aload_n 0, 1) := by decide +kernel
theorem dX13_scan_264 : decode cX13_scan 264 = .ok (.dup, 1) := by decide +kernel
theorem dX13_scan_265 : decode cX13_scan 265 = .ok (.getfield 30, 3) := by decide +kernel
theorem dX13_scan_268 : decode cX13_scan 268 = .ok (.iconst 1, 1) := by decide +kernel
theorem dX13_scan_269 : decode cX13_scan 269 = .ok (.iadd, 1) := by decide +kernel
theorem dX13_scan_270 : decode cX13_scan 270 = .ok (.putfield 30, 3) := by decide +kernel
theorem dX13_scan_273 : decode cX13_scan 273 = .ok (.return_, 1) := by decide +kernel
theorem dX13_is_0 : decode cX13_is 0 = .ok (.aload_n 0, 1) := by decide +kernel
theorem dX13_is_1 : decode cX13_is 1 = .ok (.getfield 37, 3) := by decide +kernel
theorem dX13_is_4 : decode cX13_is 4 = .ok (.iconst 1, 1) := by decide +kernel
theorem dX13_is_5 : decode cX13_is 5 = .ok (.if_icmp .ne 23, 3) := by decide +kernel
theorem dX13_is_8 : decode cX13_is 8 = .ok (.aload_n 0, 1) := by decide +kernel
theorem dX13_is_9 : decode cX13_is 9 = .ok (.getfield 30, 3) := by decide +kernel
theorem dX13_is_12 : decode cX13_is 12 = .ok (.aload_n 0, 1) := by decide +kernel
theorem dX13_is_13 : decode cX13_is 13 = .ok (.getfield 13, 3) := by decide +kernel
theorem dX13_is_16 : decode cX13_is 16 = .ok (.isub, 1) := by decide +kernel
theorem dX13_is_17 : decode cX13_is 17 = .ok (.aload_n 1, 1) := by decide +kernel
theorem dX13_is_18 : decode cX13_is 18 = .ok (.invokevirtual 50, 3) := by decide +kernel
theorem dX13_is_21 : decode cX13_is 21 = .ok (.if_icmp .ne 7, 3) := by decide +kernel
theorem dX13_is_24 : decode cX13_is 24 = .ok (.iconst 1, 1) := by decide +kernel
theorem dX13_is_25 : decode cX13_is 25 = .ok (.goto 4, 3) := by decide +kernel
theorem dX13_is_28 : decode cX13_is 28 = .ok (.iconst 0, 1) := by decide +kernel
theorem dX13_is_29 : decode cX13_is 29 = .ok (.istore_n 2, 1) := by decide +kernel
theorem dX13_is_30 : decode cX13_is 30 = .ok (.iconst 0, 1) := by decide +kernel
theorem dX13_is_31 : decode cX13_is 31 = .ok (.istore_n 3, 1) := by decide +kernel
theorem dX13_is_32 : decode cX13_is 32 = .ok (.iload_n 3, 1) := by decide +kernel
theorem dX13_is_33 : decode cX13_is 33 = .ok (.aload_n 1, 1) := by decide +kernel
theorem dX13_is_34 : decode cX13_is 34 = .ok (.invokevirtual 50, 3) := by decide +kernel
theorem dX13_is_37 : decode cX13_is 37 = .ok (.if_icmp .ge 38, 3) := by decide +kernel
theorem dX13_is_40 : decode cX13_is 40 = .ok (.iload_n 2, 1) := by decide +kernel
theorem dX13_is_41 : decode cX13_is 41 = .ok (.ifCond .eq 34, 3) := by decide +kernel
theorem dX13_is_44 : decode cX13_is 44 = .ok (.aload_n 0, 1) := by decide +kernel
theorem dX13_is_45 : decode cX13_is 45 = .ok (.getfield 26, 3) := by decide +kernel
theorem dX13_is_48 : decode cX13_is 48 = .ok (.aload_n 0, 1) := by decide +kernel
theorem dX13_is_49 : decode cX13_is 49 = .ok (.getfield 13, 3) := by decide +kernel
theorem dX13_is_52 : decode cX13_is 52 = .ok (.iload_n 3, 1) := by decide +kernel
theorem dX13_is_53 : decode cX13_is 53 = .ok (.iadd, 1) := by decide +kernel
theorem dX13_is_54 : decode cX13_is 54 = .ok (.baload, 1) := by decide +kernel
theorem dX13_is_55 : decode cX13_is 55 = .ok (.aload_n 1, 1) := by decide +kernel
theorem dX13_is_56 : decode cX13_is 56 = .ok (.iload_n 3, 1) := by decide +kernel
theorem dX13_is_57 : decode cX13_is 57 = .ok (.invokevirtual 55, 3) := by decide +kernel
theorem dX13_is_60 : decode cX13_is 60 = .ok (.if_icmp .ne 7, 3) := by decide +kernel
theorem dX13_is_63 : decode cX13_is 63 = .ok (.iconst 1, 1) := by decide +kernel
theorem dX13_is_64 : decode cX13_is 64 = .ok (.goto 4, 3) := by decide +kernel
theorem dX13_is_67 : decode cX13_is 67 = .ok (.iconst 0, 1) := by decide +kernel
theorem dX13_is_68 : decode cX13_is 68 = .ok (.istore_n 2, 1) := by decide +kernel
theorem dX13_is_69 : decode cX13_is 69 = .ok (.iinc 3 1, 3) := by decide +kernel
theorem dX13_is_72 : decode cX13_is 72 = .ok (.goto (-40), 3) := by decide +kernel
theorem dX13_is_75 : decode cX13_is 75 = .ok (.iload_n 2, 1) := by decide +kernel
theorem dX13_is_76 : decode cX13_is 76 = .ok (.ireturn, 1) := by decide +kernel
theorem dX13_begin_0 : decode cX13_begin 0 = .ok (.aload_n 0, 1) := by decide +kernel
theorem dX13_begin_1 : decode cX13_begin 1 = .ok (.aload_n 0, 1) := by decide +kernel
theorem dX13_begin_2 : decode cX13_begin 2 = .ok (.getfield 75, 3) := by decide +kernel
theorem dX13_begin_5 : decode cX13_begin 5 = .ok (.putfield 23, 3) := by decide +kernel
theorem dX13_begin_8 : decode cX13_begin 8 = .ok (.aload_n 0, 1) := by decide +kernel
theorem dX13_begin_9 : decode cX13_begin 9 = .ok (.iconst 0, 1) := by decide +kernel
theorem dX13_begin_10 : decode cX13_begin 10 = .ok (.putfield 75, 3) := by decide +kernel
theorem dX13_begin_13 : decode cX13_begin 13 = .ok (.aload_n 0, 1) := by decide +kernel
theorem dX13_begin_14 : decode cX13_begin 14 = .ok (.iconst 0, 1) := by decide +kernel
theorem dX13_begin_15 : decode cX13_begin 15 = .ok (.putfield 30, 3) := by decide +kernel
theorem dX13_begin_18 : decode cX13_begin 18 = .ok (.aload_n 0, 1) := by decide +kernel
theorem dX13_begin_19 : decode cX13_begin 19 = .ok (.iconst 0, 1) := by decide +kernel
theorem dX13_begin_20 : decode cX13_begin 20 = .ok (.putfield 9, 3) := by decide +kernel
theorem dX13_begin_23 : decode cX13_begin 23 = .ok (.aload_n 0, 1) := by decide +kernel
theorem dX13_begin_24 : decode cX13_begin 24 = .ok (.iconst (-1), 1) := by decide +kernel
theorem dX13_begin_25 : decode cX13_begin 25 = .ok (.putfield 16, 3) := by decide +kernel
theorem dX13_begin_28 : decode cX13_begin 28 = .ok (.aload_n 0, 1) := by decide +kernel
theorem dX13_begin_29 : decode cX13_begin 29 = .ok (.invokevirtual 71, 3) := by decide +kernel
theorem dX13_begin_32 : decode cX13_begin 32 = .ok (.return_, 1) := by decide +kernel
theorem dX13_lay_0 : decode cX13_lay 0 = .ok (.bipush 24, 2) := by decide +kernel
theorem dX13_lay_2 : decode cX13_lay 2 = .ok (.istore_n 2, 1) := by decide +kernel
theorem dX13_lay_3 : decode cX13_lay 3 = .ok (.iload_n 2, 1) := by decide +kernel
theorem dX13_lay_4 : decode cX13_lay 4 = .ok (.ifCond .lt 32, 3) := by decide +kernel
theorem dX13_lay_7 : decode cX13_lay 7 = .ok (.aload_n 0, 1) := by decide +kernel
theorem dX13_lay_8 : decode cX13_lay 8 = .ok (.getfield 26, 3) := by decide +kernel
theorem dX13_lay_11 : decode cX13_lay 11 = .ok (.aload_n 0, 1) := by decide +kernel
theorem dX13_lay_12 : decode cX13_lay 12 = .ok (.getfield 75, 3) := by decide +kernel
theorem dX13_lay_15 : decode cX13_lay 15 = .ok (.iload_n 1, 1) := by decide +kernel
theorem dX13_lay_16 : decode cX13_lay 16 = .ok (.iload_n 2, 1) := by decide +kernel
theorem dX13_lay_17 : decode cX13_lay 17 = .ok (.ishr, 1) := by decide +kernel
theorem dX13_lay_18 : decode cX13_lay 18 = .ok (.i2b, 1) := by decide +kernel
theorem dX13_lay_19 : decode cX13_lay 19 = .ok (.bastore, 1) := by decide +kernel
theorem dX13_lay_20 : decode cX13_lay 20 = .ok (.aload_n 0, 1) := by decide +kernel
theorem dX13_lay_21 : decode cX13_lay 21 = .ok (.dup, 1) := by decide +kernel
theorem dX13_lay_22 : decode cX13_lay 22 = .ok (.getfield 75, 3) := by decide +kernel
theorem dX13_lay_25 : decode cX13_lay 25 = .ok (.iconst 1, 1) := by decide +kernel
theorem dX13_lay_26 : decode cX13_lay 26 = .ok (.iadd, 1) := by decide +kernel
theorem dX13_lay_27 : decode cX13_lay 27 = .ok (.putfield 75, 3) := by decide +kernel
theorem dX13_lay_30 : decode cX13_lay 30 = .ok (.iinc 2 (-8), 3) := by decide +kernel
theorem dX13_lay_33 : decode cX13_lay 33 = .ok (.goto (-30), 3) := by decide +kernel
theorem dX13_lay_36 : decode cX13_lay 36 = .ok (.return_, 1) := by decide +kernel
theorem dX13_feed_0 : decode cX13_feed 0 = .ok (.aload_n 0, 1) := by decide +kernel
theorem dX13_feed_1 : decode cX13_feed 1 = .ok (.getfield 75, 3) := by decide +kernel
theorem dX13_feed_4 : decode cX13_feed 4 = .ok (.bipush 20, 2) := by decide +kernel
theorem dX13_feed_6 : decode cX13_feed 6 = .ok (.iadd, 1) := by decide +kernel
theorem dX13_feed_7 : decode cX13_feed 7 = .ok (.sipush 1200, 3) := by decide +kernel
theorem dX13_feed_10 : decode cX13_feed 10 = .ok (.if_icmp .le 6, 3) := by decide +kernel
theorem dX13_feed_13 : decode cX13_feed 13 = .ok (.bipush (-3), 2) := by decide +kernel
theorem dX13_feed_15 : decode cX13_feed 15 = .ok (.ireturn, 1) := by decide +kernel
theorem dX13_feed_16 : decode cX13_feed 16 = .ok (.aload_n 0, 1) := by decide +kernel
theorem dX13_feed_17 : decode cX13_feed 17 = .ok (.iload_n 1, 1) := by decide +kernel
theorem dX13_feed_18 : decode cX13_feed 18 = .ok (.invokevirtual 113, 3) := by decide +kernel
theorem dX13_feed_21 : decode cX13_feed 21 = .ok (.aload_n 0, 1) := by decide +kernel
theorem dX13_feed_22 : decode cX13_feed 22 = .ok (.iload_n 2, 1) := by decide +kernel
theorem dX13_feed_23 : decode cX13_feed 23 = .ok (.invokevirtual 113, 3) := by decide +kernel
theorem dX13_feed_26 : decode cX13_feed 26 = .ok (.aload_n 0, 1) := by decide +kernel
theorem dX13_feed_27 : decode cX13_feed 27 = .ok (.iload_n 3, 1) := by decide +kernel
theorem dX13_feed_28 : decode cX13_feed 28 = .ok (.invokevirtual 113, 3) := by decide +kernel
theorem dX13_feed_31 : decode cX13_feed 31 = .ok (.aload_n 0, 1) := by decide +kernel
theorem dX13_feed_32 : decode cX13_feed 32 = .ok (.iload 4, 2) := by decide +kernel
theorem dX13_feed_34 : decode cX13_feed 34 = .ok (.invokevirtual 113, 3) := by decide +kernel
theorem dX13_feed_37 : decode cX13_feed 37 = .ok (.aload_n 0, 1) := by decide +kernel
theorem dX13_feed_38 : decode cX13_feed 38 = .ok (.iload 5, 2) := by decide +kernel
theorem dX13_feed_40 : decode cX13_feed 40 = .ok (.invokevirtual 113, 3) := by decide +kernel
theorem dX13_feed_43 : decode cX13_feed 43 = .ok (.aload_n 0, 1) := by decide +kernel
theorem dX13_feed_44 : decode cX13_feed 44 = .ok (.getfield 75, 3) := by decide +kernel
theorem dX13_feed_47 : decode cX13_feed 47 = .ok (.ireturn, 1) := by decide +kernel
theorem dX13_end_0 : decode cX13_end 0 = .ok (.iload_n 1, 1) := by decide +kernel
theorem dX13_end_1 : decode cX13_end 1 = .ok (.i2l, 1) := by decide +kernel
theorem dX13_end_2 : decode cX13_end 2 = .ok (.lconst 0, 1) := by decide +kernel
theorem dX13_end_3 : decode cX13_end 3 = .ok (.aload_n 0, 1) := by decide +kernel
theorem dX13_end_4 : decode cX13_end 4 = .ok (.getfield 75, 3) := by decide +kernel
theorem dX13_end_7 : decode cX13_end 7 = .ok (.i2l, 1) := by decide +kernel
theorem dX13_end_8 : decode cX13_end 8 = .ok (.invokestatic 5, 3) := by decide +kernel
theorem dX13_end_11 : decode cX13_end 11 = .ok (.ifCond .ne 5, 3) := by decide +kernel
theorem dX13_end_14 : decode cX13_end 14 = .ok (.iconst (-1), 1) := by decide +kernel
theorem dX13_end_15 : decode cX13_end 15 = .ok (.ireturn, 1) := by decide +kernel
theorem dX13_end_16 : decode cX13_end 16 = .ok (.aload_n 0, 1) := by decide +kernel
theorem dX13_end_17 : decode cX13_end 17 = .ok (.iload_n 1, 1) := by decide +kernel
theorem dX13_end_18 : decode cX13_end 18 = .ok (.putfield 75, 3) := by decide +kernel
theorem dX13_end_21 : decode cX13_end 21 = .ok (.iload_n 1, 1) := by decide +kernel
theorem dX13_end_22 : decode cX13_end 22 = .ok (.ireturn, 1) := by decide +kernel
theorem dX13_ruleAtHand_0 : decode cX13_ruleAtHand 0 = .ok (.aload_n 0, 1) := by decide +kernel
theorem dX13_ruleAtHand_1 : decode cX13_ruleAtHand 1 = .ok (.ldc 252, 2) := by decide +kernel
theorem dX13_ruleAtHand_3 : decode cX13_ruleAtHand 3 = .ok (.invokevirtual 83, 3) := by decide +kernel
theorem dX13_ruleAtHand_6 : decode cX13_ruleAtHand 6 = .ok (.ifCond .eq 5, 3) := by decide +kernel
theorem dX13_ruleAtHand_9 : decode cX13_ruleAtHand 9 = .ok (.iconst 0, 1) := by decide +kernel
theorem dX13_ruleAtHand_10 : decode cX13_ruleAtHand 10 = .ok (.ireturn, 1) := by decide +kernel
theorem dX13_ruleAtHand_11 : decode cX13_ruleAtHand 11 = .ok (.aload_n 0, 1) := by decide +kernel
theorem dX13_ruleAtHand_12 : decode cX13_ruleAtHand 12 = .ok (.ldc 254, 2) := by decide +kernel
theorem dX13_ruleAtHand_14 : decode cX13_ruleAtHand 14 = .ok (.invokevirtual 83, 3) := by decide +kernel
theorem dX13_ruleAtHand_17 : decode cX13_ruleAtHand 17 = .ok (.ifCond .eq 5, 3) := by decide +kernel
theorem dX13_ruleAtHand_20 : decode cX13_ruleAtHand 20 = .ok (.iconst 1, 1) := by decide +kernel
theorem dX13_ruleAtHand_21 : decode cX13_ruleAtHand 21 = .ok (.ireturn, 1) := by decide +kernel
theorem dX13_ruleAtHand_22 : decode cX13_ruleAtHand 22 = .ok (.aload_n 0, 1) := by decide +kernel
theorem dX13_ruleAtHand_23 : decode cX13_ruleAtHand 23 = .ok (.ldc_w 256, 3) := by decide +kernel
theorem dX13_ruleAtHand_26 : decode cX13_ruleAtHand 26 = .ok (.invokevirtual 83, 3) := by decide +kernel
theorem dX13_ruleAtHand_29 : decode cX13_ruleAtHand 29 = .ok (.ifCond .eq 5, 3) := by decide +kernel
theorem dX13_ruleAtHand_32 : decode cX13_ruleAtHand 32 = .ok (.iconst 2, 1) := by decide +kernel
theorem dX13_ruleAtHand_33 : decode cX13_ruleAtHand 33 = .ok (.ireturn, 1) := by decide +kernel
theorem dX13_ruleAtHand_34 : decode cX13_ruleAtHand 34 = .ok (.aload_n 0, 1) := by decide +kernel
theorem dX13_ruleAtHand_35 : decode cX13_ruleAtHand 35 = .ok (.ldc 103, 2) := by decide +kernel
theorem dX13_ruleAtHand_37 : decode cX13_ruleAtHand 37 = .ok (.invokevirtual 83, 3) := by decide +kernel
theorem dX13_ruleAtHand_40 : decode cX13_ruleAtHand 40 = .ok (.ifCond .eq 7, 3) := by decide +kernel
theorem dX13_ruleAtHand_43 : decode cX13_ruleAtHand 43 = .ok (.iconst 3, 1) := by decide +kernel
theorem dX13_ruleAtHand_44 : decode cX13_ruleAtHand 44 = .ok (.goto 4, 3) := by decide +kernel
theorem dX13_ruleAtHand_47 : decode cX13_ruleAtHand 47 = .ok (.iconst (-1), 1) := by decide +kernel
theorem dX13_ruleAtHand_48 : decode cX13_ruleAtHand 48 = .ok (.ireturn, 1) := by decide +kernel
theorem dX13_fault_0 : decode cX13_fault 0 = .ok (.iload_n 1, 1) := by decide +kernel
theorem dX13_fault_1 : decode cX13_fault 1 = .ok (.ifCond .ne 10, 3) := by decide +kernel
theorem dX13_fault_4 : decode cX13_fault 4 = .ok (.aload_n 0, 1) := by decide +kernel
theorem dX13_fault_5 : decode cX13_fault 5 = .ok (.getfield 9, 3) := by decide +kernel
theorem dX13_fault_8 : decode cX13_fault 8 = .ok (.goto 16, 3) := by decide +kernel
theorem dX13_fault_11 : decode cX13_fault 11 = .ok (.iload_n 1, 1) := by decide +kernel
theorem dX13_fault_12 : decode cX13_fault 12 = .ok (.iconst 1, 1) := by decide +kernel
theorem dX13_fault_13 : decode cX13_fault 13 = .ok (.if_icmp .ne 10, 3) := by decide +kernel
theorem dX13_fault_16 : decode cX13_fault 16 = .ok (.aload_n 0, 1) := by decide +kernel
theorem dX13_fault_17 : decode cX13_fault 17 = .ok (.getfield 16, 3) := by decide +kernel
theorem dX13_fault_20 : decode cX13_fault 20 = .ok (.goto 4, 3) := by decide +kernel
theorem dX13_fault_23 : decode cX13_fault 23 = .ok (.iconst (-1), 1) := by decide +kernel
theorem dX13_fault_24 : decode cX13_fault 24 = .ok (.ireturn, 1) := by decide +kernel
theorem dX13_rule_0 : decode cX13_rule 0 = .ok (.iload_n 1, 1) := by decide +kernel
theorem dX13_rule_1 : decode cX13_rule 1 = .ok (.i2l, 1) := by decide +kernel
theorem dX13_rule_2 : decode cX13_rule 2 = .ok (.lconst 0, 1) := by decide +kernel
theorem dX13_rule_3 : decode cX13_rule 3 = .ok (.ldc2_w 264, 3) := by decide +kernel
theorem dX13_rule_6 : decode cX13_rule 6 = .ok (.invokestatic 5, 3) := by decide +kernel
theorem dX13_rule_9 : decode cX13_rule 9 = .ok (.ifCond .eq 12, 3) := by decide +kernel
theorem dX13_rule_12 : decode cX13_rule 12 = .ok (.aload_n 0, 1) := by decide +kernel
theorem dX13_rule_13 : decode cX13_rule 13 = .ok (.getfield 140, 3) := by decide +kernel
theorem dX13_rule_16 : decode cX13_rule 16 = .ok (.iload_n 1, 1) := by decide +kernel
theorem dX13_rule_17 : decode cX13_rule 17 = .ok (.iaload, 1) := by decide +kernel
theorem dX13_rule_18 : decode cX13_rule 18 = .ok (.goto 4, 3) := by decide +kernel
theorem dX13_rule_21 : decode cX13_rule 21 = .ok (.iconst (-1), 1) := by decide +kernel
theorem dX13_rule_22 : decode cX13_rule 22 = .ok (.ireturn, 1) := by decide +kernel
theorem dX13_isStroke_0 : decode cX13_isStroke 0 = .ok (.iload_n 1, 1) := by decide +kernel
theorem dX13_isStroke_1 : decode cX13_isStroke 1 = .ok (.i2l, 1) := by decide +kernel
theorem dX13_isStroke_2 : decode cX13_isStroke 2 = .ok (.lconst 0, 1) := by decide +kernel
theorem dX13_isStroke_3 : decode cX13_isStroke 3 = .ok (.aload_n 0, 1) := by decide +kernel
theorem dX13_isStroke_4 : decode cX13_isStroke 4 = .ok (.getfield 233, 3) := by decide +kernel
theorem dX13_isStroke_7 : decode cX13_isStroke 7 = .ok (.i2l, 1) := by decide +kernel
theorem dX13_isStroke_8 : decode cX13_isStroke 8 = .ok (.lconst 1, 1) := by decide +kernel
theorem dX13_isStroke_9 : decode cX13_isStroke 9 = .ok (.lsub, 1) := by decide +kernel
theorem dX13_isStroke_10 : decode cX13_isStroke 10 = .ok (.invokestatic 5, 3) := by decide +kernel
theorem dX13_isStroke_13 : decode cX13_isStroke 13 = .ok (.ireturn, 1) := by decide +kernel
theorem dX13_endOf_0 : decode cX13_endOf 0 = .ok (.aload_n 0, 1) := by decide +kernel
theorem dX13_endOf_1 : decode cX13_endOf 1 = .ok (.getfield 125, 3) := by decide +kernel
theorem dX13_endOf_4 : decode cX13_endOf 4 = .ok (.iload_n 1, 1) := by decide +kernel
theorem dX13_endOf_5 : decode cX13_endOf 5 = .ok (.iaload, 1) := by decide +kernel
theorem dX13_endOf_6 : decode cX13_endOf 6 = .ok (.aload_n 0, 1) := by decide +kernel
theorem dX13_endOf_7 : decode cX13_endOf 7 = .ok (.getfield 131, 3) := by decide +kernel
theorem dX13_endOf_10 : decode cX13_endOf 10 = .ok (.iload_n 1, 1) := by decide +kernel
theorem dX13_endOf_11 : decode cX13_endOf 11 = .ok (.iaload, 1) := by decide +kernel
theorem dX13_endOf_12 : decode cX13_endOf 12 = .ok (.iadd, 1) := by decide +kernel
theorem dX13_endOf_13 : decode cX13_endOf 13 = .ok (.istore_n 2, 1) := by decide +kernel
theorem dX13_endOf_14 : decode cX13_endOf 14 = .ok (.iload_n 1, 1) := by decide +kernel
theorem dX13_endOf_15 : decode cX13_endOf 15 = .ok (.iconst 1, 1) := by decide +kernel
theorem dX13_endOf_16 : decode cX13_endOf 16 = .ok (.iadd, 1) := by decide +kernel
theorem dX13_endOf_17 : decode cX13_endOf 17 = .ok (.istore_n 3, 1) := by decide +kernel
theorem dX13_endOf_18 : decode cX13_endOf 18 = .ok (.iload_n 3, 1) := by decide +kernel
theorem dX13_endOf_19 : decode cX13_endOf 19 = .ok (.aload_n 0, 1) := by decide +kernel
theorem dX13_endOf_20 : decode cX13_endOf 20 = .ok (.getfield 233, 3) := by decide +kernel
theorem dX13_endOf_23 : decode cX13_endOf 23 = .ok (.if_icmp .ge 35, 3) := by decide +kernel
theorem dX13_endOf_26 : decode cX13_endOf 26 = .ok (.aload_n 0, 1) := by decide +kernel
theorem dX13_endOf_27 : decode cX13_endOf 27 = .ok (.getfield 128, 3) := by decide +kernel
theorem dX13_endOf_30 : decode cX13_endOf 30 = .ok (.iload_n 3, 1) := by decide +kernel
theorem dX13_endOf_31 : decode cX13_endOf 31 = .ok (.iaload, 1) := by decide +kernel
theorem dX13_endOf_32 : decode cX13_endOf 32 = .ok (.aload_n 0, 1) := by decide +kernel
theorem dX13_endOf_33 : decode cX13_endOf 33 = .ok (.getfield 128, 3) := by decide +kernel
theorem dX13_endOf_36 : decode cX13_endOf 36 = .ok (.iload_n 1, 1) := by decide +kernel
theorem dX13_endOf_37 : decode cX13_endOf 37 = .ok (.iaload, 1) := by decide +kernel
theorem dX13_endOf_38 : decode cX13_endOf 38 = .ok (.if_icmp .ne 14, 3) := by decide +kernel
theorem dX13_endOf_41 : decode cX13_endOf 41 = .ok (.iload_n 2, 1) := by decide +kernel
theorem dX13_endOf_42 : decode cX13_endOf 42 = .ok (.aload_n 0, 1) := by decide +kernel
theorem dX13_endOf_43 : decode cX13_endOf 43 = .ok (.getfield 125, 3) := by decide +kernel
theorem dX13_endOf_46 : decode cX13_endOf 46 = .ok (.iload_n 3, 1) := by decide +kernel
theorem dX13_endOf_47 : decode cX13_endOf 47 = .ok (.iaload, 1) := by decide +kernel
theorem dX13_endOf_48 : decode cX13_endOf 48 = .ok (.invokestatic 266, 3) := by decide +kernel
theorem dX13_endOf_51 : decode cX13_endOf 51 = .ok (.ireturn, 1) := by decide +kernel
theorem dX13_endOf_52 : decode cX13_endOf 52 = .ok (.iinc 3 1, 3) := by decide +kernel
theorem dX13_endOf_55 : decode cX13_endOf 55 = .ok (.goto (-37), 3) := by decide +kernel
theorem dX13_endOf_58 : decode cX13_endOf 58 = .ok (.iload_n 2, 1) := by decide +kernel
theorem dX13_endOf_59 : decode cX13_endOf 59 = .ok (.ireturn, 1) := by decide +kernel
theorem dX13_stroke_0 : decode cX13_stroke 0 = .ok (.aload_n 0, 1) := by decide +kernel
theorem dX13_stroke_1 : decode cX13_stroke 1 = .ok (.iload_n 1, 1) := by decide +kernel
theorem dX13_stroke_2 : decode cX13_stroke 2 = .ok (.invokevirtual 271, 3) := by decide +kernel
theorem dX13_stroke_5 : decode cX13_stroke 5 = .ok (.ifCond .ne 5, 3) := by decide +kernel
theorem dX13_stroke_8 : decode cX13_stroke 8 = .ok (.iconst (-1), 1) := by decide +kernel
theorem dX13_stroke_9 : decode cX13_stroke 9 = .ok (.ireturn, 1) := by decide +kernel
theorem dX13_stroke_10 : decode cX13_stroke 10 = .ok (.iload_n 2, 1) := by decide +kernel
theorem dX13_stroke_11 : decode cX13_stroke 11 = .ok (.tableswitch 67 0 4 #[33, 40, 47, 54, 61], 33) := by decide +kernel
theorem dX13_stroke_44 : decode cX13_stroke 44 = .ok (.aload_n 0, 1) := by decide +kernel
theorem dX13_stroke_45 : decode cX13_stroke 45 = .ok (.getfield 125, 3) := by decide +kernel
theorem dX13_stroke_48 : decode cX13_stroke 48 = .ok (.iload_n 1, 1) := by decide +kernel
theorem dX13_stroke_49 : decode cX13_stroke 49 = .ok (.iaload, 1) := by decide +kernel
theorem dX13_stroke_50 : decode cX13_stroke 50 = .ok (.ireturn, 1) := by decide +kernel
theorem dX13_stroke_51 : decode cX13_stroke 51 = .ok (.aload_n 0, 1) := by decide +kernel
theorem dX13_stroke_52 : decode cX13_stroke 52 = .ok (.getfield 128, 3) := by decide +kernel
theorem dX13_stroke_55 : decode cX13_stroke 55 = .ok (.iload_n 1, 1) := by decide +kernel
theorem dX13_stroke_56 : decode cX13_stroke 56 = .ok (.iaload, 1) := by decide +kernel
theorem dX13_stroke_57 : decode cX13_stroke 57 = .ok (.ireturn, 1) := by decide +kernel
theorem dX13_stroke_58 : decode cX13_stroke 58 = .ok (.aload_n 0, 1) := by decide +kernel
theorem dX13_stroke_59 : decode cX13_stroke 59 = .ok (.getfield 131, 3) := by decide +kernel
theorem dX13_stroke_62 : decode cX13_stroke 62 = .ok (.iload_n 1, 1) := by decide +kernel
theorem dX13_stroke_63 : decode cX13_stroke 63 = .ok (.iaload, 1) := by decide +kernel
theorem dX13_stroke_64 : decode cX13_stroke 64 = .ok (.ireturn, 1) := by decide +kernel
theorem dX13_stroke_65 : decode cX13_stroke 65 = .ok (.aload_n 0, 1) := by decide +kernel
theorem dX13_stroke_66 : decode cX13_stroke 66 = .ok (.getfield 134, 3) := by decide +kernel
theorem dX13_stroke_69 : decode cX13_stroke 69 = .ok (.iload_n 1, 1) := by decide +kernel
theorem dX13_stroke_70 : decode cX13_stroke 70 = .ok (.iaload, 1) := by decide +kernel
theorem dX13_stroke_71 : decode cX13_stroke 71 = .ok (.ireturn, 1) := by decide +kernel
theorem dX13_stroke_72 : decode cX13_stroke 72 = .ok (.aload_n 0, 1) := by decide +kernel
theorem dX13_stroke_73 : decode cX13_stroke 73 = .ok (.iload_n 1, 1) := by decide +kernel
theorem dX13_stroke_74 : decode cX13_stroke 74 = .ok (.invokevirtual 274, 3) := by decide +kernel
theorem dX13_stroke_77 : decode cX13_stroke 77 = .ok (.ireturn, 1) := by decide +kernel
theorem dX13_stroke_78 : decode cX13_stroke 78 = .ok (.iconst (-1), 1) := by decide +kernel
theorem dX13_stroke_79 : decode cX13_stroke 79 = .ok (.ireturn, 1) := by decide +kernel
theorem dX13_isRinger_0 : decode cX13_isRinger 0 = .ok (.iload_n 1, 1) := by decide +kernel
theorem dX13_isRinger_1 : decode cX13_isRinger 1 = .ok (.i2l, 1) := by decide +kernel
theorem dX13_isRinger_2 : decode cX13_isRinger 2 = .ok (.lconst 0, 1) := by decide +kernel
theorem dX13_isRinger_3 : decode cX13_isRinger 3 = .ok (.aload_n 0, 1) := by decide +kernel
theorem dX13_isRinger_4 : decode cX13_isRinger 4 = .ok (.getfield 147, 3) := by decide +kernel
theorem dX13_isRinger_7 : decode cX13_isRinger 7 = .ok (.i2l, 1) := by decide +kernel
theorem dX13_isRinger_8 : decode cX13_isRinger 8 = .ok (.lconst 1, 1) := by decide +kernel
theorem dX13_isRinger_9 : decode cX13_isRinger 9 = .ok (.lsub, 1) := by decide +kernel
theorem dX13_isRinger_10 : decode cX13_isRinger 10 = .ok (.invokestatic 5, 3) := by decide +kernel
theorem dX13_isRinger_13 : decode cX13_isRinger 13 = .ok (.ireturn, 1) := by decide +kernel
theorem dX13_ringers_0 : decode cX13_ringers 0 = .ok (.iload_n 1, 1) := by decide +kernel
theorem dX13_ringers_1 : decode cX13_ringers 1 = .ok (.i2l, 1) := by decide +kernel
theorem dX13_ringers_2 : decode cX13_ringers 2 = .ok (.lconst 1, 1) := by decide +kernel
theorem dX13_ringers_3 : decode cX13_ringers 3 = .ok (.ldc2_w 277, 3) := by decide +kernel
theorem dX13_ringers_6 : decode cX13_ringers 6 = .ok (.invokestatic 5, 3) := by decide +kernel
theorem dX13_ringers_9 : decode cX13_ringers 9 = .ok (.ifCond .ne 6, 3) := by decide +kernel
theorem dX13_ringers_12 : decode cX13_ringers 12 = .ok (.bipush (-2), 2) := by decide +kernel
theorem dX13_ringers_14 : decode cX13_ringers 14 = .ok (.ireturn, 1) := by decide +kernel
theorem dX13_ringers_15 : decode cX13_ringers 15 = .ok (.aload_n 0, 1) := by decide +kernel
theorem dX13_ringers_16 : decode cX13_ringers 16 = .ok (.getfield 147, 3) := by decide +kernel
theorem dX13_ringers_19 : decode cX13_ringers 19 = .ok (.istore_n 2, 1) := by decide +kernel
theorem dX13_ringers_20 : decode cX13_ringers 20 = .ok (.aload_n 0, 1) := by decide +kernel
theorem dX13_ringers_21 : decode cX13_ringers 21 = .ok (.iload_n 1, 1) := by decide +kernel
theorem dX13_ringers_22 : decode cX13_ringers 22 = .ok (.putfield 147, 3) := by decide +kernel
theorem dX13_ringers_25 : decode cX13_ringers 25 = .ok (.aload_n 0, 1) := by decide +kernel
theorem dX13_ringers_26 : decode cX13_ringers 26 = .ok (.iconst 0, 1) := by decide +kernel
theorem dX13_ringers_27 : decode cX13_ringers 27 = .ok (.putfield 236, 3) := by decide +kernel
theorem dX13_ringers_30 : decode cX13_ringers 30 = .ok (.iconst 0, 1) := by decide +kernel
theorem dX13_ringers_31 : decode cX13_ringers 31 = .ok (.istore_n 3, 1) := by decide +kernel
theorem dX13_ringers_32 : decode cX13_ringers 32 = .ok (.iload_n 3, 1) := by decide +kernel
theorem dX13_ringers_33 : decode cX13_ringers 33 = .ok (.bipush 12, 2) := by decide +kernel
theorem dX13_ringers_35 : decode cX13_ringers 35 = .ok (.if_icmp .ge 16, 3) := by decide +kernel
theorem dX13_ringers_38 : decode cX13_ringers 38 = .ok (.aload_n 0, 1) := by decide +kernel
theorem dX13_ringers_39 : decode cX13_ringers 39 = .ok (.getfield 150, 3) := by decide +kernel
theorem dX13_ringers_42 : decode cX13_ringers 42 = .ok (.iload_n 3, 1) := by decide +kernel
theorem dX13_ringers_43 : decode cX13_ringers 43 = .ok (.iconst 0, 1) := by decide +kernel
theorem dX13_ringers_44 : decode cX13_ringers 44 = .ok (.bastore, 1) := by decide +kernel
theorem dX13_ringers_45 : decode cX13_ringers 45 = .ok (.iinc 3 1, 3) := by decide +kernel
theorem dX13_ringers_48 : decode cX13_ringers 48 = .ok (.goto (-16), 3) := by decide +kernel
theorem dX13_ringers_51 : decode cX13_ringers 51 = .ok (.iload_n 2, 1) := by decide +kernel
theorem dX13_ringers_52 : decode cX13_ringers 52 = .ok (.ireturn, 1) := by decide +kernel
theorem dX13_absent_0 : decode cX13_absent 0 = .ok (.aload_n 0, 1) := by decide +kernel
theorem dX13_absent_1 : decode cX13_absent 1 = .ok (.iload_n 1, 1) := by decide +kernel
theorem dX13_absent_2 : decode cX13_absent 2 = .ok (.invokevirtual 279, 3) := by decide +kernel
theorem dX13_absent_5 : decode cX13_absent 5 = .ok (.ifCond .ne 6, 3) := by decide +kernel
theorem dX13_absent_8 : decode cX13_absent 8 = .ok (.bipush (-2), 2) := by decide +kernel
theorem dX13_absent_10 : decode cX13_absent 10 = .ok (.ireturn, 1) := by decide +kernel
theorem dX13_absent_11 : decode cX13_absent 11 = .ok (.aload_n 0, 1) := by decide +kernel
theorem dX13_absent_12 : decode cX13_absent 12 = .ok (.getfield 150, 3) := by decide +kernel
theorem dX13_absent_15 : decode cX13_absent 15 = .ok (.iload_n 1, 1) := by decide +kernel
theorem dX13_absent_16 : decode cX13_absent 16 = .ok (.baload, 1) := by decide +kernel
theorem dX13_absent_17 : decode cX13_absent 17 = .ok (.istore_n 3, 1) := by decide +kernel
theorem dX13_absent_18 : decode cX13_absent 18 = .ok (.aload_n 0, 1) := by decide +kernel
theorem dX13_absent_19 : decode cX13_absent 19 = .ok (.getfield 150, 3) := by decide +kernel
theorem dX13_absent_22 : decode cX13_absent 22 = .ok (.iload_n 1, 1) := by decide +kernel
theorem dX13_absent_23 : decode cX13_absent 23 = .ok (.iload_n 2, 1) := by decide +kernel
theorem dX13_absent_24 : decode cX13_absent 24 = .ok (.bastore, 1) := by decide +kernel
theorem dX13_absent_25 : decode cX13_absent 25 = .ok (.iload_n 3, 1) := by decide +kernel
theorem dX13_absent_26 : decode cX13_absent 26 = .ok (.iload_n 2, 1) := by decide +kernel
theorem dX13_absent_27 : decode cX13_absent 27 = .ok (.if_icmp .ne 7, 3) := by decide +kernel
theorem dX13_absent_30 : decode cX13_absent 30 = .ok (.iconst 0, 1) := by decide +kernel
theorem dX13_absent_31 : decode cX13_absent 31 = .ok (.goto 4, 3) := by decide +kernel
theorem dX13_absent_34 : decode cX13_absent 34 = .ok (.iconst 1, 1) := by decide +kernel
theorem dX13_absent_35 : decode cX13_absent 35 = .ok (.ireturn, 1) := by decide +kernel
theorem dX13_isUsed_0 : decode cX13_isUsed 0 = .ok (.iconst 0, 1) := by decide +kernel
theorem dX13_isUsed_1 : decode cX13_isUsed 1 = .ok (.istore_n 2, 1) := by decide +kernel
theorem dX13_isUsed_2 : decode cX13_isUsed 2 = .ok (.iload_n 2, 1) := by decide +kernel
theorem dX13_isUsed_3 : decode cX13_isUsed 3 = .ok (.aload_n 0, 1) := by decide +kernel
theorem dX13_isUsed_4 : decode cX13_isUsed 4 = .ok (.getfield 233, 3) := by decide +kernel
theorem dX13_isUsed_7 : decode cX13_isUsed 7 = .ok (.if_icmp .ge 21, 3) := by decide +kernel
theorem dX13_isUsed_10 : decode cX13_isUsed 10 = .ok (.aload_n 0, 1) := by decide +kernel
theorem dX13_isUsed_11 : decode cX13_isUsed 11 = .ok (.getfield 128, 3) := by decide +kernel
theorem dX13_isUsed_14 : decode cX13_isUsed 14 = .ok (.iload_n 2, 1) := by decide +kernel
theorem dX13_isUsed_15 : decode cX13_isUsed 15 = .ok (.iaload, 1) := by decide +kernel
theorem dX13_isUsed_16 : decode cX13_isUsed 16 = .ok (.iload_n 1, 1) := by decide +kernel
theorem dX13_isUsed_17 : decode cX13_isUsed 17 = .ok (.if_icmp .ne 5, 3) := by decide +kernel
theorem dX13_isUsed_20 : decode cX13_isUsed 20 = .ok (.iconst 1, 1) := by decide +kernel
theorem dX13_isUsed_21 : decode cX13_isUsed 21 = .ok (.ireturn, 1) := by decide +kernel
theorem dX13_isUsed_22 : decode cX13_isUsed 22 = .ok (.iinc 2 1, 3) := by decide +kernel
theorem dX13_isUsed_25 : decode cX13_isUsed 25 = .ok (.goto (-23), 3) := by decide +kernel
theorem dX13_isUsed_28 : decode cX13_isUsed 28 = .ok (.iconst 0, 1) := by decide +kernel
theorem dX13_isUsed_29 : decode cX13_isUsed 29 = .ok (.ireturn, 1) := by decide +kernel
abbrev mX13_in : MI := (yX13_in, cX13_in, 6, some .boolean, 1, 21, [])
abbrev mX13_isDay : MI := (yX13_isDay, cX13_isDay, 1, some .boolean, 2, 46, [])
abbrev mX13_byteAt : MI := (yX13_byteAt, cX13_byteAt, 2, some .int, 1, 21, [])
abbrev mX13_isSmall : MI := (yX13_isSmall, cX13_isSmall, 1, some .boolean, 1, 21, [])
abbrev mX13_isDigit : MI := (yX13_isDigit, cX13_isDigit, 1, some .boolean, 1, 21, [])
abbrev mX13_scan : MI := (yX13_scan, cX13_scan, 2, none, 2, 42, [])
abbrev mX13_is : MI := (yX13_is, cX13_is, 4, some .boolean, 5, 106, [])
abbrev mX13_begin : MI := (yX13_begin, cX13_begin, 1, none, 3, 63, [])
abbrev mX13_lay : MI := (yX13_lay, cX13_lay, 3, none, 1, 21, [])
abbrev mX13_feed : MI := (yX13_feed, cX13_feed, 6, some .int, 2, 43, [])
abbrev mX13_end : MI := (yX13_end, cX13_end, 2, some .int, 2, 46, [])
abbrev mX13_ruleAtHand : MI := (yX13_ruleAtHand, cX13_ruleAtHand, 1, some .int, 6, 129, [])
abbrev mX13_fault : MI := (yX13_fault, cX13_fault, 2, some .int, 1, 21, [])
abbrev mX13_rule : MI := (yX13_rule, cX13_rule, 2, some .int, 2, 46, [])
abbrev mX13_isStroke : MI := (yX13_isStroke, cX13_isStroke, 2, some .boolean, 2, 46, [])
abbrev mX13_endOf : MI := (yX13_endOf, cX13_endOf, 4, some .int, 1, 21, [])
abbrev mX13_stroke : MI := (yX13_stroke, cX13_stroke, 3, some .int, 3, 67, [])
abbrev mX13_isRinger : MI := (yX13_isRinger, cX13_isRinger, 2, some .boolean, 2, 46, [])
abbrev mX13_ringers : MI := (yX13_ringers, cX13_ringers, 4, some .int, 2, 46, [])
abbrev mX13_absent : MI := (yX13_absent, cX13_absent, 4, some .int, 3, 67, [])
abbrev mX13_isUsed : MI := (yX13_isUsed, cX13_isUsed, 3, some .boolean, 1, 21, [])
theorem kS_255 : (Int16.ofInt 255).toInt32 = 255 := by decide
theorem co_X13_3 : Cond.constantLong RX13 3 999 ∈ lw_w := lw_in (i := 1647) (by decide +kernel) (by decide +kernel)
theorem co_X13_264 : Cond.constantLong RX13 264 3 ∈ lw_w := lw_in (i := 1435) (by decide +kernel) (by decide +kernel)
theorem co_X13_277 : Cond.constantLong RX13 277 12 ∈ lw_w := lw_in (i := 1453) (by decide +kernel) (by decide +kernel)
theorem fk_X13_9 : Fk RX13 9 13 8 := ⟨RX13, TX13, 66, tyX13, rfl, inX13, by decide, lw_in (i := 1165) (by decide +kernel) (by decide +kernel), tyX13_ok, nmX13⟩
theorem fk_X13_13 : Fk RX13 13 13 4 := ⟨RX13, TX13, 66, tyX13, rfl, inX13, by decide, lw_in (i := 1161) (by decide +kernel) (by decide +kernel), tyX13_ok, nmX13⟩
theorem fk_X13_16 : Fk RX13 16 13 9 := ⟨RX13, TX13, 66, tyX13, rfl, inX13, by decide, lw_in (i := 1166) (by decide +kernel) (by decide +kernel), tyX13_ok, nmX13⟩
theorem fk_X13_23 : Fk RX13 23 13 3 := ⟨RX13, TX13, 66, tyX13, rfl, inX13, by decide, lw_in (i := 1160) (by decide +kernel) (by decide +kernel), tyX13_ok, nmX13⟩
theorem fk_X13_26 : Fk RX13 26 13 1 := ⟨RX13, TX13, 66, tyX13, rfl, inX13, by decide, lw_in (i := 1158) (by decide +kernel) (by decide +kernel), tyX13_ok, nmX13⟩
theorem fk_X13_30 : Fk RX13 30 13 5 := ⟨RX13, TX13, 66, tyX13, rfl, inX13, by decide, lw_in (i := 1162) (by decide +kernel) (by decide +kernel), tyX13_ok, nmX13⟩
theorem fk_X13_37 : Fk RX13 37 13 6 := ⟨RX13, TX13, 66, tyX13, rfl, inX13, by decide, lw_in (i := 1163) (by decide +kernel) (by decide +kernel), tyX13_ok, nmX13⟩
theorem fk_X13_47 : Fk RX13 47 13 7 := ⟨RX13, TX13, 66, tyX13, rfl, inX13, by decide, lw_in (i := 1164) (by decide +kernel) (by decide +kernel), tyX13_ok, nmX13⟩
theorem fk_X13_75 : Fk RX13 75 13 2 := ⟨RX13, TX13, 66, tyX13, rfl, inX13, by decide, lw_in (i := 1159) (by decide +kernel) (by decide +kernel), tyX13_ok, nmX13⟩
theorem fk_X13_125 : Fk RX13 125 13 12 := ⟨RX13, TX13, 66, tyX13, rfl, inX13, by decide, lw_in (i := 1169) (by decide +kernel) (by decide +kernel), tyX13_ok, nmX13⟩
theorem fk_X13_128 : Fk RX13 128 13 13 := ⟨RX13, TX13, 66, tyX13, rfl, inX13, by decide, lw_in (i := 1170) (by decide +kernel) (by decide +kernel), tyX13_ok, nmX13⟩
theorem fk_X13_131 : Fk RX13 131 13 14 := ⟨RX13, TX13, 66, tyX13, rfl, inX13, by decide, lw_in (i := 1171) (by decide +kernel) (by decide +kernel), tyX13_ok, nmX13⟩
theorem fk_X13_134 : Fk RX13 134 13 15 := ⟨RX13, TX13, 66, tyX13, rfl, inX13, by decide, lw_in (i := 1172) (by decide +kernel) (by decide +kernel), tyX13_ok, nmX13⟩
theorem fk_X13_140 : Fk RX13 140 13 21 := ⟨RX13, TX13, 66, tyX13, rfl, inX13, by decide, lw_in (i := 1178) (by decide +kernel) (by decide +kernel), tyX13_ok, nmX13⟩
theorem fk_X13_147 : Fk RX13 147 13 23 := ⟨RX13, TX13, 66, tyX13, rfl, inX13, by decide, lw_in (i := 1180) (by decide +kernel) (by decide +kernel), tyX13_ok, nmX13⟩
theorem fk_X13_150 : Fk RX13 150 13 24 := ⟨RX13, TX13, 66, tyX13, rfl, inX13, by decide, lw_in (i := 1181) (by decide +kernel) (by decide +kernel), tyX13_ok, nmX13⟩
theorem fk_X13_233 : Fk RX13 233 13 10 := ⟨RX13, TX13, 66, tyX13, rfl, inX13, by decide, lw_in (i := 1167) (by decide +kernel) (by decide +kernel), tyX13_ok, nmX13⟩
theorem fk_X13_236 : Fk RX13 236 13 26 := ⟨RX13, TX13, 66, tyX13, rfl, inX13, by decide, lw_in (i := 1183) (by decide +kernel) (by decide +kernel), tyX13_ok, nmX13⟩
theorem fp_X13_2 : Fp 13 2 .int := ⟨RX13, TX13, 66, rfl, rfl, by decide +kernel⟩
theorem fp_X13_3 : Fp 13 3 .int := ⟨RX13, TX13, 66, rfl, rfl, by decide +kernel⟩
theorem fp_X13_4 : Fp 13 4 .int := ⟨RX13, TX13, 66, rfl, rfl, by decide +kernel⟩
theorem fp_X13_5 : Fp 13 5 .int := ⟨RX13, TX13, 66, rfl, rfl, by decide +kernel⟩
theorem fp_X13_6 : Fp 13 6 .int := ⟨RX13, TX13, 66, rfl, rfl, by decide +kernel⟩
theorem fp_X13_7 : Fp 13 7 .int := ⟨RX13, TX13, 66, rfl, rfl, by decide +kernel⟩
theorem fp_X13_8 : Fp 13 8 .int := ⟨RX13, TX13, 66, rfl, rfl, by decide +kernel⟩
theorem fp_X13_9 : Fp 13 9 .int := ⟨RX13, TX13, 66, rfl, rfl, by decide +kernel⟩
theorem fp_X13_23 : Fp 13 23 .int := ⟨RX13, TX13, 66, rfl, rfl, by decide +kernel⟩
theorem fp_X13_26 : Fp 13 26 .boolean := ⟨RX13, TX13, 66, rfl, rfl, by decide +kernel⟩
theorem ms_X13_in : Cond.static mX13_in.y ∈ lw_w := lw_in (i := 1090) (by decide +kernel) (by decide +kernel)
theorem ms_X13_isDigit : Cond.static mX13_isDigit.y ∈ lw_w := lw_in (i := 1376) (by decide +kernel) (by decide +kernel)
theorem ms_X13_isSmall : Cond.static mX13_isSmall.y ∈ lw_w := lw_in (i := 1373) (by decide +kernel) (by decide +kernel)
theorem mv_X13_byteAt : MkV mX13_byteAt := ⟨lw_in (i := 1370) (by decide +kernel) (by decide +kernel), lw_se (i := 52) (by decide +kernel) (by decide +kernel)⟩
theorem mv_X13_endOf : MkV mX13_endOf := ⟨lw_in (i := 1446) (by decide +kernel) (by decide +kernel), lw_se (i := 63) (by decide +kernel) (by decide +kernel)⟩
theorem mv_X13_is : MkV mX13_is := ⟨lw_in (i := 1385) (by decide +kernel) (by decide +kernel), lw_se (i := 54) (by decide +kernel) (by decide +kernel)⟩
theorem mv_X13_isRinger : MkV mX13_isRinger := ⟨lw_in (i := 1460) (by decide +kernel) (by decide +kernel), lw_se (i := 64) (by decide +kernel) (by decide +kernel)⟩
theorem mv_X13_isStroke : MkV mX13_isStroke := ⟨lw_in (i := 1442) (by decide +kernel) (by decide +kernel), lw_se (i := 62) (by decide +kernel) (by decide +kernel)⟩
theorem mv_X13_lay : MkV mX13_lay := ⟨lw_in (i := 1082) (by decide +kernel) (by decide +kernel), lw_se (i := 48) (by decide +kernel) (by decide +kernel)⟩
theorem mv_X13_scan : MkV mX13_scan := ⟨lw_in (i := 1366) (by decide +kernel) (by decide +kernel), lw_se (i := 51) (by decide +kernel) (by decide +kernel)⟩
theorem mk_X13_5 : Mk RX13 5 mX13_in 3 := ⟨lw_in (i := 1089) (by decide +kernel) (by decide +kernel), lw_in (i := 14) (by decide +kernel) (by decide +kernel), lw_in (i := 1091) (by decide +kernel) (by decide +kernel), by decide +kernel⟩
theorem mk_X13_33 : Mk RX13 33 mX13_byteAt 1 := ⟨lw_in (i := 1368) (by decide +kernel) (by decide +kernel), lw_in (i := 14) (by decide +kernel) (by decide +kernel), lw_in (i := 1371) (by decide +kernel) (by decide +kernel), by decide +kernel⟩
theorem mk_X13_40 : Mk RX13 40 mX13_isSmall 1 := ⟨lw_in (i := 1372) (by decide +kernel) (by decide +kernel), lw_in (i := 14) (by decide +kernel) (by decide +kernel), lw_in (i := 1374) (by decide +kernel) (by decide +kernel), by decide +kernel⟩
theorem mk_X13_44 : Mk RX13 44 mX13_isDigit 1 := ⟨lw_in (i := 1375) (by decide +kernel) (by decide +kernel), lw_in (i := 14) (by decide +kernel) (by decide +kernel), lw_in (i := 1377) (by decide +kernel) (by decide +kernel), by decide +kernel⟩
theorem mk_X13_50 : Mk RX13 50 mJ0_length_8abf5 0 := ⟨lw_in (i := 1387) (by decide +kernel) (by decide +kernel), lw_in (i := 18) (by decide +kernel) (by decide +kernel), lw_in (i := 525) (by decide +kernel) (by decide +kernel), by decide +kernel⟩
theorem mk_X13_55 : Mk RX13 55 mJ0_charAt_5068e 1 := ⟨lw_in (i := 1388) (by decide +kernel) (by decide +kernel), lw_in (i := 18) (by decide +kernel) (by decide +kernel), lw_in (i := 535) (by decide +kernel) (by decide +kernel), by decide +kernel⟩
theorem mk_X13_71 : Mk RX13 71 mX13_scan 0 := ⟨lw_in (i := 1364) (by decide +kernel) (by decide +kernel), lw_in (i := 14) (by decide +kernel) (by decide +kernel), lw_in (i := 1367) (by decide +kernel) (by decide +kernel), by decide +kernel⟩
theorem mk_X13_83 : Mk RX13 83 mX13_is 1 := ⟨lw_in (i := 1383) (by decide +kernel) (by decide +kernel), lw_in (i := 14) (by decide +kernel) (by decide +kernel), lw_in (i := 1386) (by decide +kernel) (by decide +kernel), by decide +kernel⟩
theorem mk_X13_113 : Mk RX13 113 mX13_lay 1 := ⟨lw_in (i := 1080) (by decide +kernel) (by decide +kernel), lw_in (i := 14) (by decide +kernel) (by decide +kernel), lw_in (i := 1084) (by decide +kernel) (by decide +kernel), by decide +kernel⟩
theorem mk_X13_266 : Cond.methodLink RX13 266 Lib.Math.min.name ∈ lw_w := lw_in (i := 1448) (by decide +kernel) (by decide +kernel)
theorem mk_X13_271 : Mk RX13 271 mX13_isStroke 1 := ⟨lw_in (i := 1440) (by decide +kernel) (by decide +kernel), lw_in (i := 14) (by decide +kernel) (by decide +kernel), lw_in (i := 1443) (by decide +kernel) (by decide +kernel), by decide +kernel⟩
theorem mk_X13_274 : Mk RX13 274 mX13_endOf 1 := ⟨lw_in (i := 1444) (by decide +kernel) (by decide +kernel), lw_in (i := 14) (by decide +kernel) (by decide +kernel), lw_in (i := 1447) (by decide +kernel) (by decide +kernel), by decide +kernel⟩
theorem mk_X13_279 : Mk RX13 279 mX13_isRinger 1 := ⟨lw_in (i := 1458) (by decide +kernel) (by decide +kernel), lw_in (i := 14) (by decide +kernel) (by decide +kernel), lw_in (i := 1461) (by decide +kernel) (by decide +kernel), by decide +kernel⟩
theorem rm_X13_absent_X13_isRinger : Rm mX13_absent mX13_isRinger := ⟨by decide, by decide⟩
theorem rm_X13_begin_X13_scan : Rm mX13_begin mX13_scan := ⟨by decide, by decide⟩
theorem rm_X13_end_X13_in : Rm mX13_end mX13_in := ⟨by decide, by decide⟩
theorem rm_X13_feed_X13_lay : Rm mX13_feed mX13_lay := ⟨by decide, by decide⟩
theorem rm_X13_is_J0_charAt_5068e : Rm mX13_is mJ0_charAt_5068e := ⟨by decide, by decide⟩
theorem rm_X13_is_J0_length_8abf5 : Rm mX13_is mJ0_length_8abf5 := ⟨by decide, by decide⟩
theorem rm_X13_isDay_X13_in : Rm mX13_isDay mX13_in := ⟨by decide, by decide⟩
theorem rm_X13_isRinger_X13_in : Rm mX13_isRinger mX13_in := ⟨by decide, by decide⟩
theorem rm_X13_isStroke_X13_in : Rm mX13_isStroke mX13_in := ⟨by decide, by decide⟩
theorem rm_X13_ringers_X13_in : Rm mX13_ringers mX13_in := ⟨by decide, by decide⟩
theorem rm_X13_rule_X13_in : Rm mX13_rule mX13_in := ⟨by decide, by decide⟩
theorem rm_X13_ruleAtHand_X13_is : Rm mX13_ruleAtHand mX13_is := ⟨by decide, by decide⟩
theorem rm_X13_scan_X13_byteAt : Rm mX13_scan mX13_byteAt := ⟨by decide, by decide⟩
theorem rm_X13_scan_X13_isDigit : Rm mX13_scan mX13_isDigit := ⟨by decide, by decide⟩
theorem rm_X13_scan_X13_isSmall : Rm mX13_scan mX13_isSmall := ⟨by decide, by decide⟩
theorem rm_X13_stroke_X13_endOf : Rm mX13_stroke mX13_endOf := ⟨by decide, by decide⟩
theorem rm_X13_stroke_X13_isStroke : Rm mX13_stroke mX13_isStroke := ⟨by decide, by decide⟩
section W_model1
variable {l : Launch} {D : va_G} {ad : Nat → Nat} {kA : Nat → ClassId} {M : Mem} {Q : Outcome → Mem → Prop}
def v_X13_in (z0 : Int64) (z2 : Int64) (z4 : Int64) : Int32 := if (lg_cmp z0 z2) < 0 then 0 else if 0 < (lg_cmp z0 z4) then 0 else 1
theorem ct_X13_in {z0 : Int64} {z2 : Int64} {z4 : Int64}  (h : Q (.returned (some (.int (v_X13_in z0 z2 z4)))) M) : Cal l D ad kA mX13_in [.long z0, .long z2, .long z4] M Q := by
  refine Cal.of (lo := [some (.long z0), none, some (.long z2), none, some (.long z4), none]) (by decide) rfl rfl (Nat.le_of_ble_eq_true rfl) ?_
  refine r_lload_n dX13_in_0 rfl ?_
  refine r_lload_n dX13_in_1 rfl ?_
  refine r_lcmp dX13_in_2 ?_
  suffices hJ1 : Fw l D ad kA mX13_in 18 [none, none, none, none, none, none] [.int (if (lg_cmp z0 z2) < 0 then 0 else if 0 < (lg_cmp z0 z4) then 0 else 1)] M Q by
    refine r_if_lt (tgt := 17) dX13_in_3 (by decide) (fun c1 => ?_) (fun c1 => ?_)
    · skip
      refine r_iconst (v := 0) dX13_in_17 kI_0 ?_
      exact q_weak (lo' := [none, none, none, none, none, none]) trivial (by have h9 := hJ1; simp only [if_pos c1] at h9; first | exact h9 | (simp only [if_pos c1]; exact h9))
    · skip
      refine r_lload_n dX13_in_6 rfl ?_
      refine r_lload dX13_in_7 rfl ?_
      refine r_lcmp dX13_in_9 ?_
      refine r_if_gt (tgt := 17) dX13_in_10 (by decide) (fun c2 => ?_) (fun c2 => ?_)
      · skip
        refine r_iconst (v := 0) dX13_in_17 kI_0 ?_
        exact q_weak (lo' := [none, none, none, none, none, none]) trivial (by have h9 := hJ1; simp only [if_neg c1, if_pos c2] at h9; first | exact h9 | (simp only [if_neg c1, if_pos c2]; exact h9))
      · skip
        refine r_iconst (v := 1) dX13_in_13 kI_1 ?_
        refine r_goto (tgt := 18) dX13_in_14 (by decide) ?_
        exact q_weak (lo' := [none, none, none, none, none, none]) trivial (by have h9 := hJ1; simp only [if_neg c1, if_neg c2] at h9; first | exact h9 | (simp only [if_neg c1, if_neg c2]; exact h9))
  exact r_zret dX13_in_18 rfl (nar_z (ite01 (Or.inl rfl) (ite01 (Or.inl rfl) (Or.inr rfl)))).1 h
theorem z_X13_in {z0 : Int64} {z2 : Int64} {z4 : Int64} : v_X13_in z0 z2 z4 = 0 ∨ v_X13_in z0 z2 z4 = 1 := (ite01 (Or.inl rfl) (ite01 (Or.inl rfl) (Or.inr rfl)))
def v_X13_isDay (x0 : Int32) : Int32 := v_X13_in x0.toInt64 0 999
theorem ct_X13_isDay {x0 : Int32}  (h : Q (.returned (some (.int (v_X13_isDay x0)))) M) : Cal l D ad kA mX13_isDay [.int x0] M Q := by
  refine Cal.of (lo := [some (.int x0)]) (by decide) rfl rfl (Nat.le_of_ble_eq_true rfl) ?_
  refine r_iload_n dX13_isDay_0 rfl ?_
  refine r_i2l dX13_isDay_1 ?_
  refine r_lconst (v := 0) dX13_isDay_2 kL_0 ?_
  refine r_ldc2 (v := 999) dX13_isDay_3 co_X13_3 ?_
  refine r_callS (As := [.long x0.toInt64, .long 0, .long 999]) (rest := []) dX13_isDay_6 mk_X13_5 ms_X13_in rm_X13_isDay_X13_in rfl rfl (Nat.le_of_ble_eq_true rfl) (ct_X13_in (⟨_, rfl, ?_⟩))
  exact r_zret dX13_isDay_9 rfl (nar_z (z_X13_in)).1 h
theorem z_X13_isDay {x0 : Int32} : v_X13_isDay x0 = 0 ∨ v_X13_isDay x0 = 1 := (z_X13_in)
def v_X13_byteAt (M : Mem) (x1 : Int32) : Int32 := if (gI M 54 3) ≤ x1 then 0 else (gI M 55 x1.toNatClampNeg) &&& 255
def g_X13_byteAt (M : Mem) (x1 : Int32) : Prop := ((¬ ((gI M 54 3) ≤ x1)) → vp_in x1 1200)
theorem ct_X13_byteAt {x1 : Int32}  (g : g_X13_byteAt M x1) (h : Q (.returned (some (.int (v_X13_byteAt M x1)))) M) : Cal l D ad kA mX13_byteAt [.ref (ad 54), .int x1] M Q := by
  refine Cal.of (lo := [some (.ref (ad 54)), some (.int x1)]) (by decide) rfl rfl (Nat.le_of_ble_eq_true rfl) ?_
  have g1 := g
  refine r_iload_n dX13_byteAt_0 rfl ?_
  refine r_aload_n dX13_byteAt_1 rfl ?_
  refine r_getI dX13_byteAt_2 fs_54_3 fk_X13_23 ?_
  suffices hJ1 : Fw l D ad kA mX13_byteAt 22 [none, none] [.int (if (gI M 54 3) ≤ x1 then 0 else (gI M 55 x1.toNatClampNeg) &&& 255)] M Q by
    refine r_icmp_ge (tgt := 21) dX13_byteAt_5 (by decide) (fun c1 => ?_) (fun c1 => ?_)
    · skip
      refine r_iconst (v := 0) dX13_byteAt_21 kI_0 ?_
      exact q_weak (lo' := [none, none]) trivial (by have h9 := hJ1; simp only [if_pos c1] at h9; first | exact h9 | (simp only [if_pos c1]; exact h9))
    · skip
      refine r_aload_n dX13_byteAt_8 rfl ?_
      refine r_getR dX13_byteAt_9 fs_54_1 fk_X13_26 ?_
      refine r_iload_n dX13_byteAt_12 rfl ?_
      refine r_bald dX13_byteAt_13 as_55 (g1 c1) ?_
      refine r_sipush (v := 255) dX13_byteAt_14 kS_255 ?_
      refine r_iand dX13_byteAt_17 ?_
      refine r_goto (tgt := 22) dX13_byteAt_18 (by decide) ?_
      exact q_weak (lo' := [none, none]) trivial (by have h9 := hJ1; simp only [if_neg c1] at h9; first | exact h9 | (simp only [if_neg c1]; exact h9))
  exact r_iret dX13_byteAt_22 rfl h
def v_X13_isSmall (x0 : Int32) : Int32 := if x0 < 97 then 0 else if 122 < x0 then 0 else 1
theorem ct_X13_isSmall {x0 : Int32}  (h : Q (.returned (some (.int (v_X13_isSmall x0)))) M) : Cal l D ad kA mX13_isSmall [.int x0] M Q := by
  refine Cal.of (lo := [some (.int x0)]) (by decide) rfl rfl (Nat.le_of_ble_eq_true rfl) ?_
  refine r_iload_n dX13_isSmall_0 rfl ?_
  refine r_bipush (v := 97) dX13_isSmall_1 kB_97 ?_
  suffices hJ1 : Fw l D ad kA mX13_isSmall 17 [none] [.int (if x0 < 97 then 0 else if 122 < x0 then 0 else 1)] M Q by
    refine r_icmp_lt (tgt := 16) dX13_isSmall_3 (by decide) (fun c1 => ?_) (fun c1 => ?_)
    · skip
      refine r_iconst (v := 0) dX13_isSmall_16 kI_0 ?_
      exact q_weak (lo' := [none]) trivial (by have h9 := hJ1; simp only [if_pos c1] at h9; first | exact h9 | (simp only [if_pos c1]; exact h9))
    · skip
      refine r_iload_n dX13_isSmall_6 rfl ?_
      refine r_bipush (v := 122) dX13_isSmall_7 kB_122 ?_
      refine r_icmp_gt (tgt := 16) dX13_isSmall_9 (by decide) (fun c2 => ?_) (fun c2 => ?_)
      · skip
        refine r_iconst (v := 0) dX13_isSmall_16 kI_0 ?_
        exact q_weak (lo' := [none]) trivial (by have h9 := hJ1; simp only [if_neg c1, if_pos c2] at h9; first | exact h9 | (simp only [if_neg c1, if_pos c2]; exact h9))
      · skip
        refine r_iconst (v := 1) dX13_isSmall_12 kI_1 ?_
        refine r_goto (tgt := 17) dX13_isSmall_13 (by decide) ?_
        exact q_weak (lo' := [none]) trivial (by have h9 := hJ1; simp only [if_neg c1, if_neg c2] at h9; first | exact h9 | (simp only [if_neg c1, if_neg c2]; exact h9))
  exact r_zret dX13_isSmall_17 rfl (nar_z (ite01 (Or.inl rfl) (ite01 (Or.inl rfl) (Or.inr rfl)))).1 h
theorem z_X13_isSmall {x0 : Int32} : v_X13_isSmall x0 = 0 ∨ v_X13_isSmall x0 = 1 := (ite01 (Or.inl rfl) (ite01 (Or.inl rfl) (Or.inr rfl)))
def v_X13_isDigit (x0 : Int32) : Int32 := if x0 < 48 then 0 else if 57 < x0 then 0 else 1
theorem ct_X13_isDigit {x0 : Int32}  (h : Q (.returned (some (.int (v_X13_isDigit x0)))) M) : Cal l D ad kA mX13_isDigit [.int x0] M Q := by
  refine Cal.of (lo := [some (.int x0)]) (by decide) rfl rfl (Nat.le_of_ble_eq_true rfl) ?_
  refine r_iload_n dX13_isDigit_0 rfl ?_
  refine r_bipush (v := 48) dX13_isDigit_1 kB_48 ?_
  suffices hJ1 : Fw l D ad kA mX13_isDigit 17 [none] [.int (if x0 < 48 then 0 else if 57 < x0 then 0 else 1)] M Q by
    refine r_icmp_lt (tgt := 16) dX13_isDigit_3 (by decide) (fun c1 => ?_) (fun c1 => ?_)
    · skip
      refine r_iconst (v := 0) dX13_isDigit_16 kI_0 ?_
      exact q_weak (lo' := [none]) trivial (by have h9 := hJ1; simp only [if_pos c1] at h9; first | exact h9 | (simp only [if_pos c1]; exact h9))
    · skip
      refine r_iload_n dX13_isDigit_6 rfl ?_
      refine r_bipush (v := 57) dX13_isDigit_7 kB_57 ?_
      refine r_icmp_gt (tgt := 16) dX13_isDigit_9 (by decide) (fun c2 => ?_) (fun c2 => ?_)
      · skip
        refine r_iconst (v := 0) dX13_isDigit_16 kI_0 ?_
        exact q_weak (lo' := [none]) trivial (by have h9 := hJ1; simp only [if_neg c1, if_pos c2] at h9; first | exact h9 | (simp only [if_neg c1, if_pos c2]; exact h9))
      · skip
        refine r_iconst (v := 1) dX13_isDigit_12 kI_1 ?_
        refine r_goto (tgt := 17) dX13_isDigit_13 (by decide) ?_
        exact q_weak (lo' := [none]) trivial (by have h9 := hJ1; simp only [if_neg c1, if_neg c2] at h9; first | exact h9 | (simp only [if_neg c1, if_neg c2]; exact h9))
  exact r_zret dX13_isDigit_17 rfl (nar_z (ite01 (Or.inl rfl) (ite01 (Or.inl rfl) (Or.inr rfl)))).1 h
theorem z_X13_isDigit {x0 : Int32} : v_X13_isDigit x0 = 0 ∨ v_X13_isDigit x0 = 1 := (ite01 (Or.inl rfl) (ite01 (Or.inl rfl) (Or.inr rfl)))
theorem t_X13_scan_0  
    (g1 : ((gI M 54 3) ≤ (gI M 54 5)) → g_X13_byteAt (sI M 54 4 (gI M 54 5)) (gI M 54 5))
    (g2 : (¬ ((gI M 54 3) ≤ (gI M 54 5))) → vp_in (gI M 54 5) 1200)
    (g3 : (¬ ((gI M 54 3) ≤ (gI M 54 5))) → (¬ ((gI M 55 (gI M 54 5).toNatClampNeg) = 32)) → (¬ ((gI M 55 (gI M 54 5).toNatClampNeg) = 10)) → g_X13_byteAt (sI M 54 4 (gI M 54 5)) (gI M 54 5))
    (K1 : ((gI M 54 3) ≤ (gI M 54 5)) → (¬ ((gI M 54 5) = (gI M 54 3))) → ((v_X13_isSmall (v_X13_byteAt (sI M 54 4 (gI M 54 5)) (gI M 54 5))) = 0) → ((v_X13_isDigit (v_X13_byteAt (sI M 54 4 (gI M 54 5)) (gI M 54 5))) = 0) → Q (.returned none) (sI (sI (sI M 54 4 (gI M 54 5)) 54 6 (if (v_X13_byteAt (sI M 54 4 (gI M 54 5)) (gI M 54 5)) = 59 then 3 else 4)) 54 5 ((gI M 54 5) + 1)))
    (K2 : ((gI M 54 3) ≤ (gI M 54 5)) → (¬ ((gI M 54 5) = (gI M 54 3))) → ((v_X13_isSmall (v_X13_byteAt (sI M 54 4 (gI M 54 5)) (gI M 54 5))) = 0) → (¬ ((v_X13_isDigit (v_X13_byteAt (sI M 54 4 (gI M 54 5)) (gI M 54 5))) = 0)) → Fw l D ad kA mX13_scan 160 [some (.ref (ad 54)), none] [] (sI (sI M 54 4 (gI M 54 5)) 54 7 0) Q)
    (K3 : ((gI M 54 3) ≤ (gI M 54 5)) → (¬ ((gI M 54 5) = (gI M 54 3))) → (¬ ((v_X13_isSmall (v_X13_byteAt (sI M 54 4 (gI M 54 5)) (gI M 54 5))) = 0)) → Fw l D ad kA mX13_scan 95 [some (.ref (ad 54)), none] [] (sI M 54 4 (gI M 54 5)) Q)
    (K4 : ((gI M 54 3) ≤ (gI M 54 5)) → ((gI M 54 5) = (gI M 54 3)) → Q (.returned none) (sI (sI M 54 4 (gI M 54 5)) 54 6 0))
    (K5 : (¬ ((gI M 54 3) ≤ (gI M 54 5))) → ((gI M 55 (gI M 54 5).toNatClampNeg) = 32) → Fw l D ad kA mX13_scan 0 [some (.ref (ad 54)), none] [] (sI M 54 5 ((gI M 54 5) + 1)) Q)
    (K6 : (¬ ((gI M 54 3) ≤ (gI M 54 5))) → (¬ ((gI M 55 (gI M 54 5).toNatClampNeg) = 32)) → (¬ ((gI M 55 (gI M 54 5).toNatClampNeg) = 10)) → (¬ ((gI M 54 5) = (gI M 54 3))) → ((v_X13_isSmall (v_X13_byteAt (sI M 54 4 (gI M 54 5)) (gI M 54 5))) = 0) → ((v_X13_isDigit (v_X13_byteAt (sI M 54 4 (gI M 54 5)) (gI M 54 5))) = 0) → Q (.returned none) (sI (sI (sI M 54 4 (gI M 54 5)) 54 6 (if (v_X13_byteAt (sI M 54 4 (gI M 54 5)) (gI M 54 5)) = 59 then 3 else 4)) 54 5 ((gI M 54 5) + 1)))
    (K7 : (¬ ((gI M 54 3) ≤ (gI M 54 5))) → (¬ ((gI M 55 (gI M 54 5).toNatClampNeg) = 32)) → (¬ ((gI M 55 (gI M 54 5).toNatClampNeg) = 10)) → (¬ ((gI M 54 5) = (gI M 54 3))) → ((v_X13_isSmall (v_X13_byteAt (sI M 54 4 (gI M 54 5)) (gI M 54 5))) = 0) → (¬ ((v_X13_isDigit (v_X13_byteAt (sI M 54 4 (gI M 54 5)) (gI M 54 5))) = 0)) → Fw l D ad kA mX13_scan 160 [some (.ref (ad 54)), none] [] (sI (sI M 54 4 (gI M 54 5)) 54 7 0) Q)
    (K8 : (¬ ((gI M 54 3) ≤ (gI M 54 5))) → (¬ ((gI M 55 (gI M 54 5).toNatClampNeg) = 32)) → (¬ ((gI M 55 (gI M 54 5).toNatClampNeg) = 10)) → (¬ ((gI M 54 5) = (gI M 54 3))) → (¬ ((v_X13_isSmall (v_X13_byteAt (sI M 54 4 (gI M 54 5)) (gI M 54 5))) = 0)) → Fw l D ad kA mX13_scan 95 [some (.ref (ad 54)), none] [] (sI M 54 4 (gI M 54 5)) Q)
    (K9 : (¬ ((gI M 54 3) ≤ (gI M 54 5))) → (¬ ((gI M 55 (gI M 54 5).toNatClampNeg) = 32)) → (¬ ((gI M 55 (gI M 54 5).toNatClampNeg) = 10)) → ((gI M 54 5) = (gI M 54 3)) → Q (.returned none) (sI (sI M 54 4 (gI M 54 5)) 54 6 0))
    (K10 : (¬ ((gI M 54 3) ≤ (gI M 54 5))) → (¬ ((gI M 55 (gI M 54 5).toNatClampNeg) = 32)) → ((gI M 55 (gI M 54 5).toNatClampNeg) = 10) → Fw l D ad kA mX13_scan 0 [some (.ref (ad 54)), none] [] (sI M 54 5 ((gI M 54 5) + 1)) Q) : Fw l D ad kA mX13_scan 0 [some (.ref (ad 54)), none] [] M Q := by
  refine r_aload_n dX13_scan_0 rfl ?_
  refine r_getI dX13_scan_1 fs_54_5 fk_X13_30 ?_
  refine r_aload_n dX13_scan_4 rfl ?_
  refine r_getI dX13_scan_5 fs_54_3 fk_X13_23 ?_
  refine r_icmp_ge (tgt := 52) dX13_scan_8 (by decide) (fun c1 => ?_) (fun c1 => ?_)
  · skip
    refine r_aload_n dX13_scan_52 rfl ?_
    refine r_aload_n dX13_scan_53 rfl ?_
    refine r_getI dX13_scan_54 fs_54_5 fk_X13_30 ?_
    refine r_putI dX13_scan_57 fs_54_4 fk_X13_13 fp_X13_4 ?_
    refine r_aload_n dX13_scan_60 rfl ?_
    refine r_aload_n dX13_scan_61 rfl ?_
    refine q_getI (v := gI M 54 5) dX13_scan_62 fs_54_4 fk_X13_13 rfl ?_
    refine r_callV (x := 54) (As := [.int (gI M 54 5)]) (rest := []) dX13_scan_65 mk_X13_33 mv_X13_byteAt rm_X13_scan_X13_byteAt rfl rfl (by decide +kernel) (Nat.le_of_ble_eq_true rfl) (ct_X13_byteAt (g1 c1) (⟨_, rfl, ?_⟩))
    refine q_istore_n (lo' := [some (.ref (ad 54)), some (.int (v_X13_byteAt (sI M 54 4 (gI M 54 5)) (gI M 54 5)))]) dX13_scan_68 (by decide) rfl ?_
    refine r_aload_n dX13_scan_69 rfl ?_
    refine q_getI (v := gI M 54 5) dX13_scan_70 fs_54_4 fk_X13_13 rfl ?_
    refine r_aload_n dX13_scan_73 rfl ?_
    refine q_getI (v := gI M 54 3) dX13_scan_74 fs_54_3 fk_X13_23 rfl ?_
    refine r_icmp_ne (tgt := 88) dX13_scan_77 (by decide) (fun c2 => ?_) (fun c2 => ?_)
    · skip
      refine r_iload_n dX13_scan_88 rfl ?_
      refine r_callS (As := [.int (v_X13_byteAt (sI M 54 4 (gI M 54 5)) (gI M 54 5))]) (rest := []) dX13_scan_89 mk_X13_40 ms_X13_isSmall rm_X13_scan_X13_isSmall rfl rfl (Nat.le_of_ble_eq_true rfl) (ct_X13_isSmall (⟨_, rfl, ?_⟩))
      refine r_if_eq (tgt := 148) dX13_scan_92 (by decide) (fun c3 => ?_) (fun c3 => ?_)
      · skip
        refine r_iload_n dX13_scan_148 rfl ?_
        refine r_callS (As := [.int (v_X13_byteAt (sI M 54 4 (gI M 54 5)) (gI M 54 5))]) (rest := []) dX13_scan_149 mk_X13_44 ms_X13_isDigit rm_X13_scan_X13_isDigit rfl rfl (Nat.le_of_ble_eq_true rfl) (ct_X13_isDigit (⟨_, rfl, ?_⟩))
        refine r_if_eq (tgt := 248) dX13_scan_152 (by decide) (fun c4 => ?_) (fun c4 => ?_)
        · skip
          refine r_aload_n dX13_scan_248 rfl ?_
          refine r_iload_n dX13_scan_249 rfl ?_
          refine r_bipush (v := 59) dX13_scan_250 kB_59 ?_
          suffices hJ1 : Fw l D ad kA mX13_scan 260 [some (.ref (ad 54)), none] [.int (if (v_X13_byteAt (sI M 54 4 (gI M 54 5)) (gI M 54 5)) = 59 then 3 else 4), .ref (ad 54)] (sI M 54 4 (gI M 54 5)) Q by
            refine r_icmp_ne (tgt := 259) dX13_scan_252 (by decide) (fun c5 => ?_) (fun c5 => ?_)
            · skip
              refine r_iconst (v := 4) dX13_scan_259 kI_4 ?_
              exact q_weak (lo' := [some (.ref (ad 54)), none]) ⟨rfl, trivial⟩ (by have h9 := hJ1; simp only [if_neg c5] at h9; first | exact h9 | (simp only [if_neg c5]; exact h9))
            · skip
              refine r_iconst (v := 3) dX13_scan_255 kI_3 ?_
              refine r_goto (tgt := 260) dX13_scan_256 (by decide) ?_
              exact q_weak (lo' := [some (.ref (ad 54)), none]) ⟨rfl, trivial⟩ (by have h9 := hJ1; simp only [if_pos c5] at h9; first | exact h9 | (simp only [if_pos c5]; exact h9))
          refine r_putI dX13_scan_260 fs_54_6 fk_X13_37 fp_X13_6 ?_
          refine r_aload_n dX13_scan_263 rfl ?_
          refine r_dup dX13_scan_264 rfl ?_
          refine q_getI (v := gI M 54 5) dX13_scan_265 fs_54_5 fk_X13_30 rfl ?_
          refine r_iconst (v := 1) dX13_scan_268 kI_1 ?_
          refine r_iadd dX13_scan_269 ?_
          refine r_putI dX13_scan_270 fs_54_5 fk_X13_30 fp_X13_5 ?_
          exact r_vret dX13_scan_273 rfl (K1 c1 c2 c3 c4)
        · skip
          refine r_aload_n dX13_scan_155 rfl ?_
          refine r_iconst (v := 0) dX13_scan_156 kI_0 ?_
          refine r_putI dX13_scan_157 fs_54_7 fk_X13_47 fp_X13_7 ?_
          exact q_weak (lo' := [some (.ref (ad 54)), none]) ⟨rfl, trivial⟩ (K2 c1 c2 c3 c4)
      · skip
        exact q_weak (lo' := [some (.ref (ad 54)), none]) ⟨rfl, trivial⟩ (K3 c1 c2 c3)
    · skip
      refine r_aload_n dX13_scan_80 rfl ?_
      refine r_iconst (v := 0) dX13_scan_81 kI_0 ?_
      refine r_putI dX13_scan_82 fs_54_6 fk_X13_37 fp_X13_6 ?_
      refine r_goto (tgt := 273) dX13_scan_85 (by decide) ?_
      exact r_vret dX13_scan_273 rfl (K4 c1 c2)
  · skip
    refine r_aload_n dX13_scan_11 rfl ?_
    refine r_getR dX13_scan_12 fs_54_1 fk_X13_26 ?_
    refine r_aload_n dX13_scan_15 rfl ?_
    refine r_getI dX13_scan_16 fs_54_5 fk_X13_30 ?_
    refine r_bald dX13_scan_19 as_55 (g2 c1) ?_
    refine r_bipush (v := 32) dX13_scan_20 kB_32 ?_
    refine r_icmp_eq (tgt := 39) dX13_scan_22 (by decide) (fun c6 => ?_) (fun c6 => ?_)
    · skip
      refine r_aload_n dX13_scan_39 rfl ?_
      refine r_dup dX13_scan_40 rfl ?_
      refine r_getI dX13_scan_41 fs_54_5 fk_X13_30 ?_
      refine r_iconst (v := 1) dX13_scan_44 kI_1 ?_
      refine r_iadd dX13_scan_45 ?_
      refine r_putI dX13_scan_46 fs_54_5 fk_X13_30 fp_X13_5 ?_
      refine r_goto (tgt := 0) dX13_scan_49 (by decide) ?_
      exact (K5 c1 c6)
    · skip
      refine r_aload_n dX13_scan_25 rfl ?_
      refine r_getR dX13_scan_26 fs_54_1 fk_X13_26 ?_
      refine r_aload_n dX13_scan_29 rfl ?_
      refine r_getI dX13_scan_30 fs_54_5 fk_X13_30 ?_
      refine r_bald dX13_scan_33 as_55 (g2 c1) ?_
      refine r_bipush (v := 10) dX13_scan_34 kB_10 ?_
      refine r_icmp_ne (tgt := 52) dX13_scan_36 (by decide) (fun c7 => ?_) (fun c7 => ?_)
      · skip
        refine r_aload_n dX13_scan_52 rfl ?_
        refine r_aload_n dX13_scan_53 rfl ?_
        refine r_getI dX13_scan_54 fs_54_5 fk_X13_30 ?_
        refine r_putI dX13_scan_57 fs_54_4 fk_X13_13 fp_X13_4 ?_
        refine r_aload_n dX13_scan_60 rfl ?_
        refine r_aload_n dX13_scan_61 rfl ?_
        refine q_getI (v := gI M 54 5) dX13_scan_62 fs_54_4 fk_X13_13 rfl ?_
        refine r_callV (x := 54) (As := [.int (gI M 54 5)]) (rest := []) dX13_scan_65 mk_X13_33 mv_X13_byteAt rm_X13_scan_X13_byteAt rfl rfl (by decide +kernel) (Nat.le_of_ble_eq_true rfl) (ct_X13_byteAt (g3 c1 c6 c7) (⟨_, rfl, ?_⟩))
        refine q_istore_n (lo' := [some (.ref (ad 54)), some (.int (v_X13_byteAt (sI M 54 4 (gI M 54 5)) (gI M 54 5)))]) dX13_scan_68 (by decide) rfl ?_
        refine r_aload_n dX13_scan_69 rfl ?_
        refine q_getI (v := gI M 54 5) dX13_scan_70 fs_54_4 fk_X13_13 rfl ?_
        refine r_aload_n dX13_scan_73 rfl ?_
        refine q_getI (v := gI M 54 3) dX13_scan_74 fs_54_3 fk_X13_23 rfl ?_
        refine r_icmp_ne (tgt := 88) dX13_scan_77 (by decide) (fun c8 => ?_) (fun c8 => ?_)
        · skip
          refine r_iload_n dX13_scan_88 rfl ?_
          refine r_callS (As := [.int (v_X13_byteAt (sI M 54 4 (gI M 54 5)) (gI M 54 5))]) (rest := []) dX13_scan_89 mk_X13_40 ms_X13_isSmall rm_X13_scan_X13_isSmall rfl rfl (Nat.le_of_ble_eq_true rfl) (ct_X13_isSmall (⟨_, rfl, ?_⟩))
          refine r_if_eq (tgt := 148) dX13_scan_92 (by decide) (fun c9 => ?_) (fun c9 => ?_)
          · skip
            refine r_iload_n dX13_scan_148 rfl ?_
            refine r_callS (As := [.int (v_X13_byteAt (sI M 54 4 (gI M 54 5)) (gI M 54 5))]) (rest := []) dX13_scan_149 mk_X13_44 ms_X13_isDigit rm_X13_scan_X13_isDigit rfl rfl (Nat.le_of_ble_eq_true rfl) (ct_X13_isDigit (⟨_, rfl, ?_⟩))
            refine r_if_eq (tgt := 248) dX13_scan_152 (by decide) (fun c10 => ?_) (fun c10 => ?_)
            · skip
              refine r_aload_n dX13_scan_248 rfl ?_
              refine r_iload_n dX13_scan_249 rfl ?_
              refine r_bipush (v := 59) dX13_scan_250 kB_59 ?_
              suffices hJ2 : Fw l D ad kA mX13_scan 260 [some (.ref (ad 54)), none] [.int (if (v_X13_byteAt (sI M 54 4 (gI M 54 5)) (gI M 54 5)) = 59 then 3 else 4), .ref (ad 54)] (sI M 54 4 (gI M 54 5)) Q by
                refine r_icmp_ne (tgt := 259) dX13_scan_252 (by decide) (fun c11 => ?_) (fun c11 => ?_)
                · skip
                  refine r_iconst (v := 4) dX13_scan_259 kI_4 ?_
                  exact q_weak (lo' := [some (.ref (ad 54)), none]) ⟨rfl, trivial⟩ (by have h9 := hJ2; simp only [if_neg c11] at h9; first | exact h9 | (simp only [if_neg c11]; exact h9))
                · skip
                  refine r_iconst (v := 3) dX13_scan_255 kI_3 ?_
                  refine r_goto (tgt := 260) dX13_scan_256 (by decide) ?_
                  exact q_weak (lo' := [some (.ref (ad 54)), none]) ⟨rfl, trivial⟩ (by have h9 := hJ2; simp only [if_pos c11] at h9; first | exact h9 | (simp only [if_pos c11]; exact h9))
              refine r_putI dX13_scan_260 fs_54_6 fk_X13_37 fp_X13_6 ?_
              refine r_aload_n dX13_scan_263 rfl ?_
              refine r_dup dX13_scan_264 rfl ?_
              refine q_getI (v := gI M 54 5) dX13_scan_265 fs_54_5 fk_X13_30 rfl ?_
              refine r_iconst (v := 1) dX13_scan_268 kI_1 ?_
              refine r_iadd dX13_scan_269 ?_
              refine r_putI dX13_scan_270 fs_54_5 fk_X13_30 fp_X13_5 ?_
              exact r_vret dX13_scan_273 rfl (K6 c1 c6 c7 c8 c9 c10)
            · skip
              refine r_aload_n dX13_scan_155 rfl ?_
              refine r_iconst (v := 0) dX13_scan_156 kI_0 ?_
              refine r_putI dX13_scan_157 fs_54_7 fk_X13_47 fp_X13_7 ?_
              exact q_weak (lo' := [some (.ref (ad 54)), none]) ⟨rfl, trivial⟩ (K7 c1 c6 c7 c8 c9 c10)
          · skip
            exact q_weak (lo' := [some (.ref (ad 54)), none]) ⟨rfl, trivial⟩ (K8 c1 c6 c7 c8 c9)
        · skip
          refine r_aload_n dX13_scan_80 rfl ?_
          refine r_iconst (v := 0) dX13_scan_81 kI_0 ?_
          refine r_putI dX13_scan_82 fs_54_6 fk_X13_37 fp_X13_6 ?_
          refine r_goto (tgt := 273) dX13_scan_85 (by decide) ?_
          exact r_vret dX13_scan_273 rfl (K9 c1 c6 c7 c8)
      · skip
        refine r_aload_n dX13_scan_39 rfl ?_
        refine r_dup dX13_scan_40 rfl ?_
        refine r_getI dX13_scan_41 fs_54_5 fk_X13_30 ?_
        refine r_iconst (v := 1) dX13_scan_44 kI_1 ?_
        refine r_iadd dX13_scan_45 ?_
        refine r_putI dX13_scan_46 fs_54_5 fk_X13_30 fp_X13_5 ?_
        refine r_goto (tgt := 0) dX13_scan_49 (by decide) ?_
        exact (K10 c1 c6 c7)
theorem t_X13_scan_160  
    (g1 : g_X13_byteAt M (gI M 54 5))
    (K1 : ((v_X13_isDigit (v_X13_byteAt M (gI M 54 5))) = 0) → Q (.returned none) (sI M 54 6 (if ((gI M 54 5) - (gI M 54 4)) ≤ 3 then 2 else 4)))
    (K2 : (¬ ((v_X13_isDigit (v_X13_byteAt M (gI M 54 5))) = 0)) → (3 ≤ ((gI M 54 5) - (gI M 54 4))) → Fw l D ad kA mX13_scan 160 [some (.ref (ad 54)), none] [] (sI M 54 5 ((gI M 54 5) + 1)) Q)
    (K3 : (¬ ((v_X13_isDigit (v_X13_byteAt M (gI M 54 5))) = 0)) → (¬ (3 ≤ ((gI M 54 5) - (gI M 54 4)))) → Fw l D ad kA mX13_scan 160 [some (.ref (ad 54)), none] [] (sI (sI M 54 7 (((10 * (gI M 54 7)) + (v_X13_byteAt M (gI M 54 5))) - 48)) 54 5 ((gI M 54 5) + 1)) Q) : Fw l D ad kA mX13_scan 160 [some (.ref (ad 54)), none] [] M Q := by
  refine r_aload_n dX13_scan_160 rfl ?_
  refine r_aload_n dX13_scan_161 rfl ?_
  refine r_getI dX13_scan_162 fs_54_5 fk_X13_30 ?_
  refine r_callV (x := 54) (As := [.int (gI M 54 5)]) (rest := []) dX13_scan_165 mk_X13_33 mv_X13_byteAt rm_X13_scan_X13_byteAt rfl rfl (by decide +kernel) (Nat.le_of_ble_eq_true rfl) (ct_X13_byteAt g1 (⟨_, rfl, ?_⟩))
  refine r_callS (As := [.int (v_X13_byteAt M (gI M 54 5))]) (rest := []) dX13_scan_168 mk_X13_44 ms_X13_isDigit rm_X13_scan_X13_isDigit rfl rfl (Nat.le_of_ble_eq_true rfl) (ct_X13_isDigit (⟨_, rfl, ?_⟩))
  refine r_if_eq (tgt := 223) dX13_scan_171 (by decide) (fun c1 => ?_) (fun c1 => ?_)
  · skip
    refine r_aload_n dX13_scan_223 rfl ?_
    refine r_aload_n dX13_scan_224 rfl ?_
    refine r_getI dX13_scan_225 fs_54_5 fk_X13_30 ?_
    refine r_aload_n dX13_scan_228 rfl ?_
    refine r_getI dX13_scan_229 fs_54_4 fk_X13_13 ?_
    refine r_isub dX13_scan_232 ?_
    refine r_iconst (v := 3) dX13_scan_233 kI_3 ?_
    suffices hJ1 : Fw l D ad kA mX13_scan 242 [none, none] [.int (if ((gI M 54 5) - (gI M 54 4)) ≤ 3 then 2 else 4), .ref (ad 54)] M Q by
      refine r_icmp_le (tgt := 241) dX13_scan_234 (by decide) (fun c2 => ?_) (fun c2 => ?_)
      · skip
        refine r_iconst (v := 2) dX13_scan_241 kI_2 ?_
        exact q_weak (lo' := [none, none]) trivial (by have h9 := hJ1; simp only [if_pos c2] at h9; first | exact h9 | (simp only [if_pos c2]; exact h9))
      · skip
        refine r_iconst (v := 4) dX13_scan_237 kI_4 ?_
        refine r_goto (tgt := 242) dX13_scan_238 (by decide) ?_
        exact q_weak (lo' := [none, none]) trivial (by have h9 := hJ1; simp only [if_neg c2] at h9; first | exact h9 | (simp only [if_neg c2]; exact h9))
    refine r_putI dX13_scan_242 fs_54_6 fk_X13_37 fp_X13_6 ?_
    refine r_goto (tgt := 273) dX13_scan_245 (by decide) ?_
    exact r_vret dX13_scan_273 rfl (K1 c1)
  · skip
    refine r_aload_n dX13_scan_174 rfl ?_
    refine r_getI dX13_scan_175 fs_54_5 fk_X13_30 ?_
    refine r_aload_n dX13_scan_178 rfl ?_
    refine r_getI dX13_scan_179 fs_54_4 fk_X13_13 ?_
    refine r_isub dX13_scan_182 ?_
    refine r_iconst (v := 3) dX13_scan_183 kI_3 ?_
    refine r_icmp_ge (tgt := 210) dX13_scan_184 (by decide) (fun c3 => ?_) (fun c3 => ?_)
    · skip
      refine r_aload_n dX13_scan_210 rfl ?_
      refine r_dup dX13_scan_211 rfl ?_
      refine r_getI dX13_scan_212 fs_54_5 fk_X13_30 ?_
      refine r_iconst (v := 1) dX13_scan_215 kI_1 ?_
      refine r_iadd dX13_scan_216 ?_
      refine r_putI dX13_scan_217 fs_54_5 fk_X13_30 fp_X13_5 ?_
      refine r_goto (tgt := 160) dX13_scan_220 (by decide) ?_
      exact (K2 c1 c3)
    · skip
      refine r_aload_n dX13_scan_187 rfl ?_
      refine r_bipush (v := 10) dX13_scan_188 kB_10 ?_
      refine r_aload_n dX13_scan_190 rfl ?_
      refine r_getI dX13_scan_191 fs_54_7 fk_X13_47 ?_
      refine r_imul dX13_scan_194 ?_
      refine r_aload_n dX13_scan_195 rfl ?_
      refine r_aload_n dX13_scan_196 rfl ?_
      refine r_getI dX13_scan_197 fs_54_5 fk_X13_30 ?_
      refine r_callV (x := 54) (As := [.int (gI M 54 5)]) (rest := [.int (10 * (gI M 54 7)), .ref (ad 54)]) dX13_scan_200 mk_X13_33 mv_X13_byteAt rm_X13_scan_X13_byteAt rfl rfl (by decide +kernel) (Nat.le_of_ble_eq_true rfl) (ct_X13_byteAt g1 (⟨_, rfl, ?_⟩))
      refine r_iadd dX13_scan_203 ?_
      refine r_bipush (v := 48) dX13_scan_204 kB_48 ?_
      refine r_isub dX13_scan_206 ?_
      refine r_putI dX13_scan_207 fs_54_7 fk_X13_47 fp_X13_7 ?_
      refine r_aload_n dX13_scan_210 rfl ?_
      refine r_dup dX13_scan_211 rfl ?_
      refine q_getI (v := gI M 54 5) dX13_scan_212 fs_54_5 fk_X13_30 rfl ?_
      refine r_iconst (v := 1) dX13_scan_215 kI_1 ?_
      refine r_iadd dX13_scan_216 ?_
      refine r_putI dX13_scan_217 fs_54_5 fk_X13_30 fp_X13_5 ?_
      refine r_goto (tgt := 160) dX13_scan_220 (by decide) ?_
      exact (K3 c1 c3)
theorem t_X13_scan_95  
    (g1 : g_X13_byteAt M (gI M 54 5))
    (K1 : ((v_X13_isSmall (v_X13_byteAt M (gI M 54 5))) = 0) → Q (.returned none) (sI M 54 6 (if ((gI M 54 5) - (gI M 54 4)) ≤ 8 then 1 else 4)))
    (K2 : (¬ ((v_X13_isSmall (v_X13_byteAt M (gI M 54 5))) = 0)) → Fw l D ad kA mX13_scan 95 [some (.ref (ad 54)), none] [] (sI M 54 5 ((gI M 54 5) + 1)) Q) : Fw l D ad kA mX13_scan 95 [some (.ref (ad 54)), none] [] M Q := by
  refine r_aload_n dX13_scan_95 rfl ?_
  refine r_aload_n dX13_scan_96 rfl ?_
  refine r_getI dX13_scan_97 fs_54_5 fk_X13_30 ?_
  refine r_callV (x := 54) (As := [.int (gI M 54 5)]) (rest := []) dX13_scan_100 mk_X13_33 mv_X13_byteAt rm_X13_scan_X13_byteAt rfl rfl (by decide +kernel) (Nat.le_of_ble_eq_true rfl) (ct_X13_byteAt g1 (⟨_, rfl, ?_⟩))
  refine r_callS (As := [.int (v_X13_byteAt M (gI M 54 5))]) (rest := []) dX13_scan_103 mk_X13_40 ms_X13_isSmall rm_X13_scan_X13_isSmall rfl rfl (Nat.le_of_ble_eq_true rfl) (ct_X13_isSmall (⟨_, rfl, ?_⟩))
  refine r_if_eq (tgt := 122) dX13_scan_106 (by decide) (fun c1 => ?_) (fun c1 => ?_)
  · skip
    refine r_aload_n dX13_scan_122 rfl ?_
    refine r_aload_n dX13_scan_123 rfl ?_
    refine r_getI dX13_scan_124 fs_54_5 fk_X13_30 ?_
    refine r_aload_n dX13_scan_127 rfl ?_
    refine r_getI dX13_scan_128 fs_54_4 fk_X13_13 ?_
    refine r_isub dX13_scan_131 ?_
    refine r_bipush (v := 8) dX13_scan_132 kB_8 ?_
    suffices hJ1 : Fw l D ad kA mX13_scan 142 [none, none] [.int (if ((gI M 54 5) - (gI M 54 4)) ≤ 8 then 1 else 4), .ref (ad 54)] M Q by
      refine r_icmp_le (tgt := 141) dX13_scan_134 (by decide) (fun c2 => ?_) (fun c2 => ?_)
      · skip
        refine r_iconst (v := 1) dX13_scan_141 kI_1 ?_
        exact q_weak (lo' := [none, none]) trivial (by have h9 := hJ1; simp only [if_pos c2] at h9; first | exact h9 | (simp only [if_pos c2]; exact h9))
      · skip
        refine r_iconst (v := 4) dX13_scan_137 kI_4 ?_
        refine r_goto (tgt := 142) dX13_scan_138 (by decide) ?_
        exact q_weak (lo' := [none, none]) trivial (by have h9 := hJ1; simp only [if_neg c2] at h9; first | exact h9 | (simp only [if_neg c2]; exact h9))
    refine r_putI dX13_scan_142 fs_54_6 fk_X13_37 fp_X13_6 ?_
    refine r_goto (tgt := 273) dX13_scan_145 (by decide) ?_
    exact r_vret dX13_scan_273 rfl (K1 c1)
  · skip
    refine r_aload_n dX13_scan_109 rfl ?_
    refine r_dup dX13_scan_110 rfl ?_
    refine r_getI dX13_scan_111 fs_54_5 fk_X13_30 ?_
    refine r_iconst (v := 1) dX13_scan_114 kI_1 ?_
    refine r_iadd dX13_scan_115 ?_
    refine r_putI dX13_scan_116 fs_54_5 fk_X13_30 fp_X13_5 ?_
    refine r_goto (tgt := 95) dX13_scan_119 (by decide) ?_
    exact (K2 c1)
theorem en_X13_scan  (K : Fw l D ad kA mX13_scan 0 [some (.ref (ad 54)), none] [] M Q) : Cal l D ad kA mX13_scan [.ref (ad 54)] M Q := Cal.of (by decide) rfl rfl (Nat.le_of_ble_eq_true rfl) K
theorem t_X13_is_0 {w : Nat} (hw : w < 15)
    (K1 : Fw l D ad kA mX13_is 32 [some (.ref (ad 54)), some (.ref (ad (210 + w))), some (.int (if (gI M 54 6) = 1 then if ((gI M 54 5) - (gI M 54 4)) = (v_J0_length_8abf5 w) then 1 else 0 else 0)), some (.int 0)] [] M Q) : Fw l D ad kA mX13_is 0 [some (.ref (ad 54)), some (.ref (ad (210 + w))), none, none] [] M Q := by
  refine r_aload_n dX13_is_0 rfl ?_
  refine r_getI dX13_is_1 fs_54_6 fk_X13_37 ?_
  refine r_iconst (v := 1) dX13_is_4 kI_1 ?_
  suffices hJ1 : Fw l D ad kA mX13_is 29 [some (.ref (ad 54)), some (.ref (ad (210 + w))), none, none] [.int (if (gI M 54 6) = 1 then if ((gI M 54 5) - (gI M 54 4)) = (v_J0_length_8abf5 w) then 1 else 0 else 0)] M Q by
    refine r_icmp_ne (tgt := 28) dX13_is_5 (by decide) (fun c1 => ?_) (fun c1 => ?_)
    · skip
      refine r_iconst (v := 0) dX13_is_28 kI_0 ?_
      exact q_weak (lo' := [some (.ref (ad 54)), some (.ref (ad (210 + w))), none, none]) ⟨rfl, rfl, trivial⟩ (by have h9 := hJ1; simp only [if_neg c1] at h9; first | exact h9 | (simp only [if_neg c1]; exact h9))
    · skip
      refine r_aload_n dX13_is_8 rfl ?_
      refine r_getI dX13_is_9 fs_54_5 fk_X13_30 ?_
      refine r_aload_n dX13_is_12 rfl ?_
      refine r_getI dX13_is_13 fs_54_4 fk_X13_13 ?_
      refine r_isub dX13_is_16 ?_
      refine r_aload_n dX13_is_17 rfl ?_
      refine r_callT (i := w) (As := []) (rest := [.int ((gI M 54 5) - (gI M 54 4))]) dX13_is_18 mk_X13_50 mv_J0_length_8abf5 rm_X13_is_J0_length_8abf5 rfl rfl hw rfl (Nat.le_of_ble_eq_true rfl) (ct_J0_length_8abf5 hw (⟨_, rfl, ?_⟩))
      refine r_icmp_ne (tgt := 28) dX13_is_21 (by decide) (fun c2 => ?_) (fun c2 => ?_)
      · skip
        refine r_iconst (v := 0) dX13_is_28 kI_0 ?_
        exact q_weak (lo' := [some (.ref (ad 54)), some (.ref (ad (210 + w))), none, none]) ⟨rfl, rfl, trivial⟩ (by have h9 := hJ1; simp only [if_pos c1, if_neg c2] at h9; first | exact h9 | (simp only [if_pos c1, if_neg c2]; exact h9))
      · skip
        refine r_iconst (v := 1) dX13_is_24 kI_1 ?_
        refine r_goto (tgt := 29) dX13_is_25 (by decide) ?_
        exact q_weak (lo' := [some (.ref (ad 54)), some (.ref (ad (210 + w))), none, none]) ⟨rfl, rfl, trivial⟩ (by have h9 := hJ1; simp only [if_pos c1, if_pos c2] at h9; first | exact h9 | (simp only [if_pos c1, if_pos c2]; exact h9))
  refine q_istore_n (lo' := [some (.ref (ad 54)), some (.ref (ad (210 + w))), some (.int (if (gI M 54 6) = 1 then if ((gI M 54 5) - (gI M 54 4)) = (v_J0_length_8abf5 w) then 1 else 0 else 0)), none]) dX13_is_29 (by decide) rfl ?_
  refine r_iconst (v := 0) dX13_is_30 kI_0 ?_
  refine q_istore_n (lo' := [some (.ref (ad 54)), some (.ref (ad (210 + w))), some (.int (if (gI M 54 6) = 1 then if ((gI M 54 5) - (gI M 54 4)) = (v_J0_length_8abf5 w) then 1 else 0 else 0)), some (.int 0)]) dX13_is_31 (by decide) rfl ?_
  exact K1
theorem t_X13_is_32 {w : Nat} {x2 : Int32} {x3 : Int32} (hw : w < 15)
    (g1 : ((v_J0_length_8abf5 w) ≤ x3) → x2 = 0 ∨ x2 = 1)
    (g2 : (¬ ((v_J0_length_8abf5 w) ≤ x3)) → (x2 = 0) → x2 = 0 ∨ x2 = 1)
    (g3 : (¬ ((v_J0_length_8abf5 w) ≤ x3)) → (¬ (x2 = 0)) → vp_in ((gI M 54 4) + x3) 1200)
    (g4 : (¬ ((v_J0_length_8abf5 w) ≤ x3)) → (¬ (x2 = 0)) → g_J0_charAt_5068e M w x3)
    (K1 : ((v_J0_length_8abf5 w) ≤ x3) → Q (.returned (some (.int x2))) M)
    (K2 : (¬ ((v_J0_length_8abf5 w) ≤ x3)) → (x2 = 0) → Q (.returned (some (.int x2))) M)
    (K3 : (¬ ((v_J0_length_8abf5 w) ≤ x3)) → (¬ (x2 = 0)) → Fw l D ad kA mX13_is 32 [some (.ref (ad 54)), some (.ref (ad (210 + w))), some (.int (if (gI M 55 ((gI M 54 4) + x3).toNatClampNeg) = (v_J0_charAt_5068e w x3) then 1 else 0)), some (.int (x3 + 1))] [] M Q) : Fw l D ad kA mX13_is 32 [some (.ref (ad 54)), some (.ref (ad (210 + w))), some (.int x2), some (.int x3)] [] M Q := by
  refine r_iload_n dX13_is_32 rfl ?_
  refine r_aload_n dX13_is_33 rfl ?_
  refine r_callT (i := w) (As := []) (rest := [.int x3]) dX13_is_34 mk_X13_50 mv_J0_length_8abf5 rm_X13_is_J0_length_8abf5 rfl rfl hw rfl (Nat.le_of_ble_eq_true rfl) (ct_J0_length_8abf5 hw (⟨_, rfl, ?_⟩))
  refine r_icmp_ge (tgt := 75) dX13_is_37 (by decide) (fun c1 => ?_) (fun c1 => ?_)
  · skip
    refine r_iload_n dX13_is_75 rfl ?_
    exact r_zret dX13_is_76 rfl (nar_z (g1 c1)).1 (K1 c1)
  · skip
    refine r_iload_n dX13_is_40 rfl ?_
    refine r_if_eq (tgt := 75) dX13_is_41 (by decide) (fun c2 => ?_) (fun c2 => ?_)
    · skip
      refine r_iload_n dX13_is_75 rfl ?_
      exact r_zret dX13_is_76 rfl (nar_z (g2 c1 c2)).1 (K2 c1 c2)
    · skip
      refine r_aload_n dX13_is_44 rfl ?_
      refine r_getR dX13_is_45 fs_54_1 fk_X13_26 ?_
      refine r_aload_n dX13_is_48 rfl ?_
      refine r_getI dX13_is_49 fs_54_4 fk_X13_13 ?_
      refine r_iload_n dX13_is_52 rfl ?_
      refine r_iadd dX13_is_53 ?_
      refine r_bald dX13_is_54 as_55 (g3 c1 c2) ?_
      refine r_aload_n dX13_is_55 rfl ?_
      refine r_iload_n dX13_is_56 rfl ?_
      refine r_callT (i := w) (As := [.int x3]) (rest := [.int (gI M 55 ((gI M 54 4) + x3).toNatClampNeg)]) dX13_is_57 mk_X13_55 mv_J0_charAt_5068e rm_X13_is_J0_charAt_5068e rfl rfl hw rfl (Nat.le_of_ble_eq_true rfl) (ct_J0_charAt_5068e hw (g4 c1 c2) (⟨_, rfl, ?_⟩))
      suffices hJ1 : Fw l D ad kA mX13_is 68 [some (.ref (ad 54)), some (.ref (ad (210 + w))), none, some (.int x3)] [.int (if (gI M 55 ((gI M 54 4) + x3).toNatClampNeg) = (v_J0_charAt_5068e w x3) then 1 else 0)] M Q by
        refine r_icmp_ne (tgt := 67) dX13_is_60 (by decide) (fun c3 => ?_) (fun c3 => ?_)
        · skip
          refine r_iconst (v := 0) dX13_is_67 kI_0 ?_
          exact q_weak (lo' := [some (.ref (ad 54)), some (.ref (ad (210 + w))), none, some (.int x3)]) ⟨rfl, rfl, rfl, trivial⟩ (by have h9 := hJ1; simp only [if_neg c3] at h9; first | exact h9 | (simp only [if_neg c3]; exact h9))
        · skip
          refine r_iconst (v := 1) dX13_is_63 kI_1 ?_
          refine r_goto (tgt := 68) dX13_is_64 (by decide) ?_
          exact q_weak (lo' := [some (.ref (ad 54)), some (.ref (ad (210 + w))), none, some (.int x3)]) ⟨rfl, rfl, rfl, trivial⟩ (by have h9 := hJ1; simp only [if_pos c3] at h9; first | exact h9 | (simp only [if_pos c3]; exact h9))
      refine q_istore_n (lo' := [some (.ref (ad 54)), some (.ref (ad (210 + w))), some (.int (if (gI M 55 ((gI M 54 4) + x3).toNatClampNeg) = (v_J0_charAt_5068e w x3) then 1 else 0)), some (.int x3)]) dX13_is_68 (by decide) rfl ?_
      refine q_iinc (v := x3 + 1) (lo' := [some (.ref (ad 54)), some (.ref (ad (210 + w))), some (.int (if (gI M 55 ((gI M 54 4) + x3).toNatClampNeg) = (v_J0_charAt_5068e w x3) then 1 else 0)), some (.int (x3 + 1))]) dX13_is_69 rfl (congrArg (fun q => x3 + q) kI_1) (by decide) rfl ?_
      refine r_goto (tgt := 32) dX13_is_72 (by decide) ?_
      exact (K3 c1 c2)
theorem en_X13_is {w : Nat} (K : Fw l D ad kA mX13_is 0 [some (.ref (ad 54)), some (.ref (ad (210 + w))), none, none] [] M Q) : Cal l D ad kA mX13_is [.ref (ad 54), .ref (ad (210 + w))] M Q := Cal.of (by decide) rfl rfl (Nat.le_of_ble_eq_true rfl) K
theorem t_X13_begin_0  
    (K1 : Cal l D ad kA mX13_scan [.ref (ad 54)] (sI (sI (sI (sI (sI M 54 3 (gI M 54 2)) 54 2 0) 54 5 0) 54 8 0) 54 9 (-1)) (fun oc M2 => oc = .returned none ∧ Fw l D ad kA mX13_begin 32 [none] [] M2 Q)) : Fw l D ad kA mX13_begin 0 [some (.ref (ad 54))] [] M Q := by
  refine r_aload_n dX13_begin_0 rfl ?_
  refine r_aload_n dX13_begin_1 rfl ?_
  refine r_getI dX13_begin_2 fs_54_2 fk_X13_75 ?_
  refine r_putI dX13_begin_5 fs_54_3 fk_X13_23 fp_X13_3 ?_
  refine r_aload_n dX13_begin_8 rfl ?_
  refine r_iconst (v := 0) dX13_begin_9 kI_0 ?_
  refine r_putI dX13_begin_10 fs_54_2 fk_X13_75 fp_X13_2 ?_
  refine r_aload_n dX13_begin_13 rfl ?_
  refine r_iconst (v := 0) dX13_begin_14 kI_0 ?_
  refine r_putI dX13_begin_15 fs_54_5 fk_X13_30 fp_X13_5 ?_
  refine r_aload_n dX13_begin_18 rfl ?_
  refine r_iconst (v := 0) dX13_begin_19 kI_0 ?_
  refine r_putI dX13_begin_20 fs_54_8 fk_X13_9 fp_X13_8 ?_
  refine r_aload_n dX13_begin_23 rfl ?_
  refine r_iconst (v := (-1)) dX13_begin_24 kI_m1 ?_
  refine r_putI dX13_begin_25 fs_54_9 fk_X13_16 fp_X13_9 ?_
  refine r_aload_n dX13_begin_28 rfl ?_
  exact r_callV (x := 54) (As := []) (rest := []) dX13_begin_29 mk_X13_71 mv_X13_scan rm_X13_begin_X13_scan rfl rfl (by decide +kernel) (Nat.le_of_ble_eq_true rfl) (cal_v (lo' := [none]) trivial K1)
theorem t_X13_begin_32  
    (K1 : Q (.returned none) M) : Fw l D ad kA mX13_begin 32 [none] [] M Q := by
  exact r_vret dX13_begin_32 rfl K1
theorem en_X13_begin  (K : Fw l D ad kA mX13_begin 0 [some (.ref (ad 54))] [] M Q) : Cal l D ad kA mX13_begin [.ref (ad 54)] M Q := Cal.of (by decide) rfl rfl (Nat.le_of_ble_eq_true rfl) K
theorem t_X13_lay_0 {x1 : Int32} 
    (K1 : Fw l D ad kA mX13_lay 3 [some (.ref (ad 54)), some (.int x1), some (.int 24)] [] M Q) : Fw l D ad kA mX13_lay 0 [some (.ref (ad 54)), some (.int x1), none] [] M Q := by
  refine r_bipush (v := 24) dX13_lay_0 kB_24 ?_
  refine q_istore_n (lo' := [some (.ref (ad 54)), some (.int x1), some (.int 24)]) dX13_lay_2 (by decide) rfl ?_
  exact K1
theorem t_X13_lay_3 {x1 : Int32} {x2 : Int32} 
    (g1 : (¬ (x2 < 0)) → vp_in (gI M 54 2) 1200)
    (K1 : (x2 < 0) → Q (.returned none) M)
    (K2 : (¬ (x2 < 0)) → Fw l D ad kA mX13_lay 3 [some (.ref (ad 54)), some (.int x1), some (.int (x2 + (-8)))] [] (sI (sI M 55 (gI M 54 2).toNatClampNeg (vp_nar .byte ((x1 >>> (x2 &&& 31)).toInt8.toInt32))) 54 2 ((gI M 54 2) + 1)) Q) : Fw l D ad kA mX13_lay 3 [some (.ref (ad 54)), some (.int x1), some (.int x2)] [] M Q := by
  refine r_iload_n dX13_lay_3 rfl ?_
  refine r_if_lt (tgt := 36) dX13_lay_4 (by decide) (fun c1 => ?_) (fun c1 => ?_)
  · skip
    exact r_vret dX13_lay_36 rfl (K1 c1)
  · skip
    refine r_aload_n dX13_lay_7 rfl ?_
    refine r_getR dX13_lay_8 fs_54_1 fk_X13_26 ?_
    refine r_aload_n dX13_lay_11 rfl ?_
    refine r_getI dX13_lay_12 fs_54_2 fk_X13_75 ?_
    refine r_iload_n dX13_lay_15 rfl ?_
    refine r_iload_n dX13_lay_16 rfl ?_
    refine r_ishr dX13_lay_17 ?_
    refine r_i2b dX13_lay_18 ?_
    refine r_bast dX13_lay_19 as_55 (g1 c1) ?_
    refine r_aload_n dX13_lay_20 rfl ?_
    refine r_dup dX13_lay_21 rfl ?_
    refine q_getI (v := gI M 54 2) dX13_lay_22 fs_54_2 fk_X13_75 rfl ?_
    refine r_iconst (v := 1) dX13_lay_25 kI_1 ?_
    refine r_iadd dX13_lay_26 ?_
    refine r_putI dX13_lay_27 fs_54_2 fk_X13_75 fp_X13_2 ?_
    refine q_iinc (v := x2 + (-8)) (lo' := [some (.ref (ad 54)), some (.int x1), some (.int (x2 + (-8)))]) dX13_lay_30 rfl (congrArg (fun q => x2 + q) kI_m8) (by decide) rfl ?_
    refine r_goto (tgt := 3) dX13_lay_33 (by decide) ?_
    exact (K2 c1)
theorem en_X13_lay {x1 : Int32} (K : Fw l D ad kA mX13_lay 0 [some (.ref (ad 54)), some (.int x1), none] [] M Q) : Cal l D ad kA mX13_lay [.ref (ad 54), .int x1] M Q := Cal.of (by decide) rfl rfl (Nat.le_of_ble_eq_true rfl) K
theorem t_X13_feed_0 {x1 : Int32} {x2 : Int32} {x3 : Int32} {x4 : Int32} {x5 : Int32} 
    (K1 : (((gI M 54 2) + 20) ≤ 1200) → Cal l D ad kA mX13_lay [.ref (ad 54), .int x1] M (fun oc M2 => oc = .returned none ∧ Fw l D ad kA mX13_feed 21 [some (.ref (ad 54)), none, some (.int x2), some (.int x3), some (.int x4), some (.int x5)] [] M2 Q))
    (K2 : (¬ (((gI M 54 2) + 20) ≤ 1200)) → Q (.returned (some (.int (-3)))) M) : Fw l D ad kA mX13_feed 0 [some (.ref (ad 54)), some (.int x1), some (.int x2), some (.int x3), some (.int x4), some (.int x5)] [] M Q := by
  refine r_aload_n dX13_feed_0 rfl ?_
  refine r_getI dX13_feed_1 fs_54_2 fk_X13_75 ?_
  refine r_bipush (v := 20) dX13_feed_4 kB_20 ?_
  refine r_iadd dX13_feed_6 ?_
  refine r_sipush (v := 1200) dX13_feed_7 kS_1200 ?_
  refine r_icmp_le (tgt := 16) dX13_feed_10 (by decide) (fun c1 => ?_) (fun c1 => ?_)
  · skip
    refine r_aload_n dX13_feed_16 rfl ?_
    refine r_iload_n dX13_feed_17 rfl ?_
    exact r_callV (x := 54) (As := [.int x1]) (rest := []) dX13_feed_18 mk_X13_113 mv_X13_lay rm_X13_feed_X13_lay rfl rfl (by decide +kernel) (Nat.le_of_ble_eq_true rfl) (cal_v (lo' := [some (.ref (ad 54)), none, some (.int x2), some (.int x3), some (.int x4), some (.int x5)]) ⟨rfl, rfl, rfl, rfl, rfl, trivial⟩ (K1 c1))
  · skip
    refine r_bipush (v := (-3)) dX13_feed_13 kB_m3 ?_
    exact r_iret dX13_feed_15 rfl (K2 c1)
theorem t_X13_feed_21 {x2 : Int32} {x3 : Int32} {x4 : Int32} {x5 : Int32} 
    (K1 : Cal l D ad kA mX13_lay [.ref (ad 54), .int x2] M (fun oc M2 => oc = .returned none ∧ Fw l D ad kA mX13_feed 26 [some (.ref (ad 54)), none, none, some (.int x3), some (.int x4), some (.int x5)] [] M2 Q)) : Fw l D ad kA mX13_feed 21 [some (.ref (ad 54)), none, some (.int x2), some (.int x3), some (.int x4), some (.int x5)] [] M Q := by
  refine r_aload_n dX13_feed_21 rfl ?_
  refine r_iload_n dX13_feed_22 rfl ?_
  exact r_callV (x := 54) (As := [.int x2]) (rest := []) dX13_feed_23 mk_X13_113 mv_X13_lay rm_X13_feed_X13_lay rfl rfl (by decide +kernel) (Nat.le_of_ble_eq_true rfl) (cal_v (lo' := [some (.ref (ad 54)), none, none, some (.int x3), some (.int x4), some (.int x5)]) ⟨rfl, rfl, rfl, rfl, trivial⟩ K1)
theorem t_X13_feed_26 {x3 : Int32} {x4 : Int32} {x5 : Int32} 
    (K1 : Cal l D ad kA mX13_lay [.ref (ad 54), .int x3] M (fun oc M2 => oc = .returned none ∧ Fw l D ad kA mX13_feed 31 [some (.ref (ad 54)), none, none, none, some (.int x4), some (.int x5)] [] M2 Q)) : Fw l D ad kA mX13_feed 26 [some (.ref (ad 54)), none, none, some (.int x3), some (.int x4), some (.int x5)] [] M Q := by
  refine r_aload_n dX13_feed_26 rfl ?_
  refine r_iload_n dX13_feed_27 rfl ?_
  exact r_callV (x := 54) (As := [.int x3]) (rest := []) dX13_feed_28 mk_X13_113 mv_X13_lay rm_X13_feed_X13_lay rfl rfl (by decide +kernel) (Nat.le_of_ble_eq_true rfl) (cal_v (lo' := [some (.ref (ad 54)), none, none, none, some (.int x4), some (.int x5)]) ⟨rfl, rfl, rfl, trivial⟩ K1)
theorem t_X13_feed_31 {x4 : Int32} {x5 : Int32} 
    (K1 : Cal l D ad kA mX13_lay [.ref (ad 54), .int x4] M (fun oc M2 => oc = .returned none ∧ Fw l D ad kA mX13_feed 37 [some (.ref (ad 54)), none, none, none, none, some (.int x5)] [] M2 Q)) : Fw l D ad kA mX13_feed 31 [some (.ref (ad 54)), none, none, none, some (.int x4), some (.int x5)] [] M Q := by
  refine r_aload_n dX13_feed_31 rfl ?_
  refine r_iload dX13_feed_32 rfl ?_
  exact r_callV (x := 54) (As := [.int x4]) (rest := []) dX13_feed_34 mk_X13_113 mv_X13_lay rm_X13_feed_X13_lay rfl rfl (by decide +kernel) (Nat.le_of_ble_eq_true rfl) (cal_v (lo' := [some (.ref (ad 54)), none, none, none, none, some (.int x5)]) ⟨rfl, rfl, trivial⟩ K1)
theorem t_X13_feed_37 {x5 : Int32} 
    (K1 : Cal l D ad kA mX13_lay [.ref (ad 54), .int x5] M (fun oc M2 => oc = .returned none ∧ Fw l D ad kA mX13_feed 43 [some (.ref (ad 54)), none, none, none, none, none] [] M2 Q)) : Fw l D ad kA mX13_feed 37 [some (.ref (ad 54)), none, none, none, none, some (.int x5)] [] M Q := by
  refine r_aload_n dX13_feed_37 rfl ?_
  refine r_iload dX13_feed_38 rfl ?_
  exact r_callV (x := 54) (As := [.int x5]) (rest := []) dX13_feed_40 mk_X13_113 mv_X13_lay rm_X13_feed_X13_lay rfl rfl (by decide +kernel) (Nat.le_of_ble_eq_true rfl) (cal_v (lo' := [some (.ref (ad 54)), none, none, none, none, none]) ⟨rfl, trivial⟩ K1)
theorem t_X13_feed_43  
    (K1 : Q (.returned (some (.int (gI M 54 2)))) M) : Fw l D ad kA mX13_feed 43 [some (.ref (ad 54)), none, none, none, none, none] [] M Q := by
  refine r_aload_n dX13_feed_43 rfl ?_
  refine r_getI dX13_feed_44 fs_54_2 fk_X13_75 ?_
  exact r_iret dX13_feed_47 rfl K1
theorem en_X13_feed {x1 : Int32} {x2 : Int32} {x3 : Int32} {x4 : Int32} {x5 : Int32} (K : Fw l D ad kA mX13_feed 0 [some (.ref (ad 54)), some (.int x1), some (.int x2), some (.int x3), some (.int x4), some (.int x5)] [] M Q) : Cal l D ad kA mX13_feed [.ref (ad 54), .int x1, .int x2, .int x3, .int x4, .int x5] M Q := Cal.of (by decide) rfl rfl (Nat.le_of_ble_eq_true rfl) K
theorem t_X13_end_0 {x1 : Int32} 
    (K1 : (¬ ((v_X13_in x1.toInt64 0 ((gI M 54 2).toInt64)) = 0)) → Q (.returned (some (.int x1))) (sI M 54 2 x1))
    (K2 : ((v_X13_in x1.toInt64 0 ((gI M 54 2).toInt64)) = 0) → Q (.returned (some (.int (-1)))) M) : Fw l D ad kA mX13_end 0 [some (.ref (ad 54)), some (.int x1)] [] M Q := by
  refine r_iload_n dX13_end_0 rfl ?_
  refine r_i2l dX13_end_1 ?_
  refine r_lconst (v := 0) dX13_end_2 kL_0 ?_
  refine r_aload_n dX13_end_3 rfl ?_
  refine r_getI dX13_end_4 fs_54_2 fk_X13_75 ?_
  refine r_i2l dX13_end_7 ?_
  refine r_callS (As := [.long x1.toInt64, .long 0, .long ((gI M 54 2).toInt64)]) (rest := []) dX13_end_8 mk_X13_5 ms_X13_in rm_X13_end_X13_in rfl rfl (Nat.le_of_ble_eq_true rfl) (ct_X13_in (⟨_, rfl, ?_⟩))
  refine r_if_ne (tgt := 16) dX13_end_11 (by decide) (fun c1 => ?_) (fun c1 => ?_)
  · skip
    refine r_aload_n dX13_end_16 rfl ?_
    refine r_iload_n dX13_end_17 rfl ?_
    refine r_putI dX13_end_18 fs_54_2 fk_X13_75 fp_X13_2 ?_
    refine r_iload_n dX13_end_21 rfl ?_
    exact r_iret dX13_end_22 rfl (K1 c1)
  · skip
    refine r_iconst (v := (-1)) dX13_end_14 kI_m1 ?_
    exact r_iret dX13_end_15 rfl (K2 c1)
theorem en_X13_end {x1 : Int32} (K : Fw l D ad kA mX13_end 0 [some (.ref (ad 54)), some (.int x1)] [] M Q) : Cal l D ad kA mX13_end [.ref (ad 54), .int x1] M Q := Cal.of (by decide) rfl rfl (Nat.le_of_ble_eq_true rfl) K
theorem t_X13_ruleAtHand_0  
    (K1 : Cal l D ad kA mX13_is [.ref (ad 54), .ref (ad (210 + 12))] M (fun oc M2 => ∃ r : Int32, oc = .returned (some (.int r)) ∧ Fw l D ad kA mX13_ruleAtHand 6 [some (.ref (ad 54))] [.int r] M2 Q)) : Fw l D ad kA mX13_ruleAtHand 0 [some (.ref (ad 54))] [] M Q := by
  refine r_aload_n dX13_ruleAtHand_0 rfl ?_
  refine r_ldcS (i := 12) dX13_ruleAtHand_1 (by decide) rfl ?_
  exact r_callV (x := 54) (As := [.ref (ad (210 + 12))]) (rest := []) dX13_ruleAtHand_3 mk_X13_83 mv_X13_is rm_X13_ruleAtHand_X13_is rfl rfl (by decide +kernel) (Nat.le_of_ble_eq_true rfl) (cal_i (lo' := [some (.ref (ad 54))]) ⟨rfl, trivial⟩ K1)
theorem t_X13_ruleAtHand_6 {s1 : Int32} 
    (K1 : (s1 = 0) → Cal l D ad kA mX13_is [.ref (ad 54), .ref (ad (210 + 13))] M (fun oc M2 => ∃ r : Int32, oc = .returned (some (.int r)) ∧ Fw l D ad kA mX13_ruleAtHand 17 [some (.ref (ad 54))] [.int r] M2 Q))
    (K2 : (¬ (s1 = 0)) → Q (.returned (some (.int 0))) M) : Fw l D ad kA mX13_ruleAtHand 6 [some (.ref (ad 54))] [.int s1] M Q := by
  refine r_if_eq (tgt := 11) dX13_ruleAtHand_6 (by decide) (fun c1 => ?_) (fun c1 => ?_)
  · skip
    refine r_aload_n dX13_ruleAtHand_11 rfl ?_
    refine r_ldcS (i := 13) dX13_ruleAtHand_12 (by decide) rfl ?_
    exact r_callV (x := 54) (As := [.ref (ad (210 + 13))]) (rest := []) dX13_ruleAtHand_14 mk_X13_83 mv_X13_is rm_X13_ruleAtHand_X13_is rfl rfl (by decide +kernel) (Nat.le_of_ble_eq_true rfl) (cal_i (lo' := [some (.ref (ad 54))]) ⟨rfl, trivial⟩ (K1 c1))
  · skip
    refine r_iconst (v := 0) dX13_ruleAtHand_9 kI_0 ?_
    exact r_iret dX13_ruleAtHand_10 rfl (K2 c1)
theorem t_X13_ruleAtHand_17 {s1 : Int32} 
    (K1 : (s1 = 0) → Cal l D ad kA mX13_is [.ref (ad 54), .ref (ad (210 + 14))] M (fun oc M2 => ∃ r : Int32, oc = .returned (some (.int r)) ∧ Fw l D ad kA mX13_ruleAtHand 29 [some (.ref (ad 54))] [.int r] M2 Q))
    (K2 : (¬ (s1 = 0)) → Q (.returned (some (.int 1))) M) : Fw l D ad kA mX13_ruleAtHand 17 [some (.ref (ad 54))] [.int s1] M Q := by
  refine r_if_eq (tgt := 22) dX13_ruleAtHand_17 (by decide) (fun c1 => ?_) (fun c1 => ?_)
  · skip
    refine r_aload_n dX13_ruleAtHand_22 rfl ?_
    refine r_ldcwS (i := 14) dX13_ruleAtHand_23 (by decide) rfl ?_
    exact r_callV (x := 54) (As := [.ref (ad (210 + 14))]) (rest := []) dX13_ruleAtHand_26 mk_X13_83 mv_X13_is rm_X13_ruleAtHand_X13_is rfl rfl (by decide +kernel) (Nat.le_of_ble_eq_true rfl) (cal_i (lo' := [some (.ref (ad 54))]) ⟨rfl, trivial⟩ (K1 c1))
  · skip
    refine r_iconst (v := 1) dX13_ruleAtHand_20 kI_1 ?_
    exact r_iret dX13_ruleAtHand_21 rfl (K2 c1)
theorem t_X13_ruleAtHand_29 {s1 : Int32} 
    (K1 : (s1 = 0) → Cal l D ad kA mX13_is [.ref (ad 54), .ref (ad (210 + 10))] M (fun oc M2 => ∃ r : Int32, oc = .returned (some (.int r)) ∧ Fw l D ad kA mX13_ruleAtHand 40 [none] [.int r] M2 Q))
    (K2 : (¬ (s1 = 0)) → Q (.returned (some (.int 2))) M) : Fw l D ad kA mX13_ruleAtHand 29 [some (.ref (ad 54))] [.int s1] M Q := by
  refine r_if_eq (tgt := 34) dX13_ruleAtHand_29 (by decide) (fun c1 => ?_) (fun c1 => ?_)
  · skip
    refine r_aload_n dX13_ruleAtHand_34 rfl ?_
    refine r_ldcS (i := 10) dX13_ruleAtHand_35 (by decide) rfl ?_
    exact r_callV (x := 54) (As := [.ref (ad (210 + 10))]) (rest := []) dX13_ruleAtHand_37 mk_X13_83 mv_X13_is rm_X13_ruleAtHand_X13_is rfl rfl (by decide +kernel) (Nat.le_of_ble_eq_true rfl) (cal_i (lo' := [none]) trivial (K1 c1))
  · skip
    refine r_iconst (v := 2) dX13_ruleAtHand_32 kI_2 ?_
    exact r_iret dX13_ruleAtHand_33 rfl (K2 c1)
theorem t_X13_ruleAtHand_40 {s1 : Int32} 
    (K1 : Q (.returned (some (.int (if s1 = 0 then (-1) else 3)))) M) : Fw l D ad kA mX13_ruleAtHand 40 [none] [.int s1] M Q := by
  suffices hJ1 : Fw l D ad kA mX13_ruleAtHand 48 [none] [.int (if s1 = 0 then (-1) else 3)] M Q by
    refine r_if_eq (tgt := 47) dX13_ruleAtHand_40 (by decide) (fun c1 => ?_) (fun c1 => ?_)
    · skip
      refine r_iconst (v := (-1)) dX13_ruleAtHand_47 kI_m1 ?_
      exact q_weak (lo' := [none]) trivial (by have h9 := hJ1; simp only [if_pos c1] at h9; first | exact h9 | (simp only [if_pos c1]; exact h9))
    · skip
      refine r_iconst (v := 3) dX13_ruleAtHand_43 kI_3 ?_
      refine r_goto (tgt := 48) dX13_ruleAtHand_44 (by decide) ?_
      exact q_weak (lo' := [none]) trivial (by have h9 := hJ1; simp only [if_neg c1] at h9; first | exact h9 | (simp only [if_neg c1]; exact h9))
  exact r_iret dX13_ruleAtHand_48 rfl K1
theorem en_X13_ruleAtHand  (K : Fw l D ad kA mX13_ruleAtHand 0 [some (.ref (ad 54))] [] M Q) : Cal l D ad kA mX13_ruleAtHand [.ref (ad 54)] M Q := Cal.of (by decide) rfl rfl (Nat.le_of_ble_eq_true rfl) K
def v_X13_fault (M : Mem) (x1 : Int32) : Int32 := if x1 = 0 then gI M 54 8 else if x1 = 1 then gI M 54 9 else (-1)
theorem ct_X13_fault {x1 : Int32}  (h : Q (.returned (some (.int (v_X13_fault M x1)))) M) : Cal l D ad kA mX13_fault [.ref (ad 54), .int x1] M Q := by
  refine Cal.of (lo := [some (.ref (ad 54)), some (.int x1)]) (by decide) rfl rfl (Nat.le_of_ble_eq_true rfl) ?_
  refine r_iload_n dX13_fault_0 rfl ?_
  suffices hJ1 : Fw l D ad kA mX13_fault 24 [none, none] [.int (if x1 = 0 then gI M 54 8 else if x1 = 1 then gI M 54 9 else (-1))] M Q by
    refine r_if_ne (tgt := 11) dX13_fault_1 (by decide) (fun c1 => ?_) (fun c1 => ?_)
    · skip
      refine r_iload_n dX13_fault_11 rfl ?_
      refine r_iconst (v := 1) dX13_fault_12 kI_1 ?_
      refine r_icmp_ne (tgt := 23) dX13_fault_13 (by decide) (fun c2 => ?_) (fun c2 => ?_)
      · skip
        refine r_iconst (v := (-1)) dX13_fault_23 kI_m1 ?_
        exact q_weak (lo' := [none, none]) trivial (by have h9 := hJ1; simp only [if_neg c1, if_neg c2] at h9; first | exact h9 | (simp only [if_neg c1, if_neg c2]; exact h9))
      · skip
        refine r_aload_n dX13_fault_16 rfl ?_
        refine r_getI dX13_fault_17 fs_54_9 fk_X13_16 ?_
        refine r_goto (tgt := 24) dX13_fault_20 (by decide) ?_
        exact q_weak (lo' := [none, none]) trivial (by have h9 := hJ1; simp only [if_neg c1, if_pos c2] at h9; first | exact h9 | (simp only [if_neg c1, if_pos c2]; exact h9))
    · skip
      refine r_aload_n dX13_fault_4 rfl ?_
      refine r_getI dX13_fault_5 fs_54_8 fk_X13_9 ?_
      refine r_goto (tgt := 24) dX13_fault_8 (by decide) ?_
      exact q_weak (lo' := [none, none]) trivial (by have h9 := hJ1; simp only [if_pos c1] at h9; first | exact h9 | (simp only [if_pos c1]; exact h9))
  exact r_iret dX13_fault_24 rfl h
def v_X13_rule (M : Mem) (x1 : Int32) : Int32 := if (v_X13_in x1.toInt64 0 3) = 0 then (-1) else gI M 65 x1.toNatClampNeg
def g_X13_rule (M : Mem) (x1 : Int32) : Prop := ((¬ ((v_X13_in x1.toInt64 0 3) = 0)) → vp_in x1 4)
theorem ct_X13_rule {x1 : Int32}  (g : g_X13_rule M x1) (h : Q (.returned (some (.int (v_X13_rule M x1)))) M) : Cal l D ad kA mX13_rule [.ref (ad 54), .int x1] M Q := by
  refine Cal.of (lo := [some (.ref (ad 54)), some (.int x1)]) (by decide) rfl rfl (Nat.le_of_ble_eq_true rfl) ?_
  have g1 := g
  refine r_iload_n dX13_rule_0 rfl ?_
  refine r_i2l dX13_rule_1 ?_
  refine r_lconst (v := 0) dX13_rule_2 kL_0 ?_
  refine r_ldc2 (v := 3) dX13_rule_3 co_X13_264 ?_
  refine r_callS (As := [.long x1.toInt64, .long 0, .long 3]) (rest := []) dX13_rule_6 mk_X13_5 ms_X13_in rm_X13_rule_X13_in rfl rfl (Nat.le_of_ble_eq_true rfl) (ct_X13_in (⟨_, rfl, ?_⟩))
  suffices hJ1 : Fw l D ad kA mX13_rule 22 [none, none] [.int (if (v_X13_in x1.toInt64 0 3) = 0 then (-1) else gI M 65 x1.toNatClampNeg)] M Q by
    refine r_if_eq (tgt := 21) dX13_rule_9 (by decide) (fun c1 => ?_) (fun c1 => ?_)
    · skip
      refine r_iconst (v := (-1)) dX13_rule_21 kI_m1 ?_
      exact q_weak (lo' := [none, none]) trivial (by have h9 := hJ1; simp only [if_pos c1] at h9; first | exact h9 | (simp only [if_pos c1]; exact h9))
    · skip
      refine r_aload_n dX13_rule_12 rfl ?_
      refine r_getR dX13_rule_13 fs_54_21 fk_X13_140 ?_
      refine r_iload_n dX13_rule_16 rfl ?_
      refine r_iald dX13_rule_17 as_65 (g1 c1) ?_
      refine r_goto (tgt := 22) dX13_rule_18 (by decide) ?_
      exact q_weak (lo' := [none, none]) trivial (by have h9 := hJ1; simp only [if_neg c1] at h9; first | exact h9 | (simp only [if_neg c1]; exact h9))
  exact r_iret dX13_rule_22 rfl h
def v_X13_isStroke (M : Mem) (x1 : Int32) : Int32 := v_X13_in x1.toInt64 0 (((gI M 54 10).toInt64) - 1)
theorem ct_X13_isStroke {x1 : Int32}  (h : Q (.returned (some (.int (v_X13_isStroke M x1)))) M) : Cal l D ad kA mX13_isStroke [.ref (ad 54), .int x1] M Q := by
  refine Cal.of (lo := [some (.ref (ad 54)), some (.int x1)]) (by decide) rfl rfl (Nat.le_of_ble_eq_true rfl) ?_
  refine r_iload_n dX13_isStroke_0 rfl ?_
  refine r_i2l dX13_isStroke_1 ?_
  refine r_lconst (v := 0) dX13_isStroke_2 kL_0 ?_
  refine r_aload_n dX13_isStroke_3 rfl ?_
  refine r_getI dX13_isStroke_4 fs_54_10 fk_X13_233 ?_
  refine r_i2l dX13_isStroke_7 ?_
  refine r_lconst (v := 1) dX13_isStroke_8 kL_1 ?_
  refine r_lsub dX13_isStroke_9 ?_
  refine r_callS (As := [.long x1.toInt64, .long 0, .long (((gI M 54 10).toInt64) - 1)]) (rest := []) dX13_isStroke_10 mk_X13_5 ms_X13_in rm_X13_isStroke_X13_in rfl rfl (Nat.le_of_ble_eq_true rfl) (ct_X13_in (⟨_, rfl, ?_⟩))
  exact r_zret dX13_isStroke_13 rfl (nar_z (z_X13_in)).1 h
theorem z_X13_isStroke {M : Mem} {x1 : Int32} : v_X13_isStroke M x1 = 0 ∨ v_X13_isStroke M x1 = 1 := (z_X13_in)
theorem t_X13_endOf_0 {x1 : Int32} 
    (g1 : vp_in x1 160)
    (K1 : Fw l D ad kA mX13_endOf 18 [some (.ref (ad 54)), some (.int x1), some (.int ((gI M 56 x1.toNatClampNeg) + (gI M 58 x1.toNatClampNeg))), some (.int (x1 + 1))] [] M Q) : Fw l D ad kA mX13_endOf 0 [some (.ref (ad 54)), some (.int x1), none, none] [] M Q := by
  refine r_aload_n dX13_endOf_0 rfl ?_
  refine r_getR dX13_endOf_1 fs_54_12 fk_X13_125 ?_
  refine r_iload_n dX13_endOf_4 rfl ?_
  refine r_iald dX13_endOf_5 as_56 g1 ?_
  refine r_aload_n dX13_endOf_6 rfl ?_
  refine r_getR dX13_endOf_7 fs_54_14 fk_X13_131 ?_
  refine r_iload_n dX13_endOf_10 rfl ?_
  refine r_iald dX13_endOf_11 as_58 g1 ?_
  refine r_iadd dX13_endOf_12 ?_
  refine q_istore_n (lo' := [some (.ref (ad 54)), some (.int x1), some (.int ((gI M 56 x1.toNatClampNeg) + (gI M 58 x1.toNatClampNeg))), none]) dX13_endOf_13 (by decide) rfl ?_
  refine r_iload_n dX13_endOf_14 rfl ?_
  refine r_iconst (v := 1) dX13_endOf_15 kI_1 ?_
  refine r_iadd dX13_endOf_16 ?_
  refine q_istore_n (lo' := [some (.ref (ad 54)), some (.int x1), some (.int ((gI M 56 x1.toNatClampNeg) + (gI M 58 x1.toNatClampNeg))), some (.int (x1 + 1))]) dX13_endOf_17 (by decide) rfl ?_
  exact K1
theorem t_X13_endOf_18 {x1 : Int32} {x2 : Int32} {x3 : Int32} 
    (g1 : (¬ ((gI M 54 10) ≤ x3)) → vp_in x3 160)
    (g2 : (¬ ((gI M 54 10) ≤ x3)) → vp_in x1 160)
    (K1 : ((gI M 54 10) ≤ x3) → Q (.returned (some (.int x2))) M)
    (K2 : (¬ ((gI M 54 10) ≤ x3)) → (¬ ((gI M 57 x3.toNatClampNeg) = (gI M 57 x1.toNatClampNeg))) → Fw l D ad kA mX13_endOf 18 [some (.ref (ad 54)), some (.int x1), some (.int x2), some (.int (x3 + 1))] [] M Q)
    (K3 : (¬ ((gI M 54 10) ≤ x3)) → ((gI M 57 x3.toNatClampNeg) = (gI M 57 x1.toNatClampNeg)) → Q (.returned (some (.int (imin x2 (gI M 56 x3.toNatClampNeg))))) M) : Fw l D ad kA mX13_endOf 18 [some (.ref (ad 54)), some (.int x1), some (.int x2), some (.int x3)] [] M Q := by
  refine r_iload_n dX13_endOf_18 rfl ?_
  refine r_aload_n dX13_endOf_19 rfl ?_
  refine r_getI dX13_endOf_20 fs_54_10 fk_X13_233 ?_
  refine r_icmp_ge (tgt := 58) dX13_endOf_23 (by decide) (fun c1 => ?_) (fun c1 => ?_)
  · skip
    refine r_iload_n dX13_endOf_58 rfl ?_
    exact r_iret dX13_endOf_59 rfl (K1 c1)
  · skip
    refine r_aload_n dX13_endOf_26 rfl ?_
    refine r_getR dX13_endOf_27 fs_54_13 fk_X13_128 ?_
    refine r_iload_n dX13_endOf_30 rfl ?_
    refine r_iald dX13_endOf_31 as_57 (g1 c1) ?_
    refine r_aload_n dX13_endOf_32 rfl ?_
    refine r_getR dX13_endOf_33 fs_54_13 fk_X13_128 ?_
    refine r_iload_n dX13_endOf_36 rfl ?_
    refine r_iald dX13_endOf_37 as_57 (g2 c1) ?_
    refine r_icmp_ne (tgt := 52) dX13_endOf_38 (by decide) (fun c2 => ?_) (fun c2 => ?_)
    · skip
      refine q_iinc (v := x3 + 1) (lo' := [some (.ref (ad 54)), some (.int x1), some (.int x2), some (.int (x3 + 1))]) dX13_endOf_52 rfl (congrArg (fun q => x3 + q) kI_1) (by decide) rfl ?_
      refine r_goto (tgt := 18) dX13_endOf_55 (by decide) ?_
      exact (K2 c1 c2)
    · skip
      refine r_iload_n dX13_endOf_41 rfl ?_
      refine r_aload_n dX13_endOf_42 rfl ?_
      refine r_getR dX13_endOf_43 fs_54_12 fk_X13_125 ?_
      refine r_iload_n dX13_endOf_46 rfl ?_
      refine r_iald dX13_endOf_47 as_56 (g1 c1) ?_
      refine q_mmin dX13_endOf_48 mk_X13_266 (by decide) (Nat.le_of_ble_eq_true rfl) ?_
      exact r_iret dX13_endOf_51 rfl (K3 c1 c2)
theorem en_X13_endOf {x1 : Int32} (K : Fw l D ad kA mX13_endOf 0 [some (.ref (ad 54)), some (.int x1), none, none] [] M Q) : Cal l D ad kA mX13_endOf [.ref (ad 54), .int x1] M Q := Cal.of (by decide) rfl rfl (Nat.le_of_ble_eq_true rfl) K
theorem t_X13_stroke_0 {x1 : Int32} {x2 : Int32} 
    (g1 : (¬ ((v_X13_isStroke M x1) = 0)) → (x2 = 0) → vp_in x1 160)
    (g2 : (¬ ((v_X13_isStroke M x1) = 0)) → (¬ (x2 = 0)) → (x2 = 1) → vp_in x1 160)
    (g3 : (¬ ((v_X13_isStroke M x1) = 0)) → (¬ (x2 = 0)) → (¬ (x2 = 1)) → (x2 = 2) → vp_in x1 160)
    (g4 : (¬ ((v_X13_isStroke M x1) = 0)) → (¬ (x2 = 0)) → (¬ (x2 = 1)) → (¬ (x2 = 2)) → (x2 = 3) → vp_in x1 160)
    (K1 : (¬ ((v_X13_isStroke M x1) = 0)) → (x2 = 0) → Q (.returned (some (.int (gI M 56 x1.toNatClampNeg)))) M)
    (K2 : (¬ ((v_X13_isStroke M x1) = 0)) → (¬ (x2 = 0)) → (x2 = 1) → Q (.returned (some (.int (gI M 57 x1.toNatClampNeg)))) M)
    (K3 : (¬ ((v_X13_isStroke M x1) = 0)) → (¬ (x2 = 0)) → (¬ (x2 = 1)) → (x2 = 2) → Q (.returned (some (.int (gI M 58 x1.toNatClampNeg)))) M)
    (K4 : (¬ ((v_X13_isStroke M x1) = 0)) → (¬ (x2 = 0)) → (¬ (x2 = 1)) → (¬ (x2 = 2)) → (x2 = 3) → Q (.returned (some (.int (gI M 59 x1.toNatClampNeg)))) M)
    (K5 : (¬ ((v_X13_isStroke M x1) = 0)) → (¬ (x2 = 0)) → (¬ (x2 = 1)) → (¬ (x2 = 2)) → (¬ (x2 = 3)) → (x2 = 4) → Cal l D ad kA mX13_endOf [.ref (ad 54), .int x1] M (fun oc M2 => ∃ r : Int32, oc = .returned (some (.int r)) ∧ Fw l D ad kA mX13_stroke 77 [none, none, none] [.int r] M2 Q))
    (K6 : (¬ ((v_X13_isStroke M x1) = 0)) → (¬ (x2 = 0)) → (¬ (x2 = 1)) → (¬ (x2 = 2)) → (¬ (x2 = 3)) → (¬ (x2 = 4)) → Q (.returned (some (.int (-1)))) M)
    (K7 : ((v_X13_isStroke M x1) = 0) → Q (.returned (some (.int (-1)))) M) : Fw l D ad kA mX13_stroke 0 [some (.ref (ad 54)), some (.int x1), some (.int x2)] [] M Q := by
  refine r_aload_n dX13_stroke_0 rfl ?_
  refine r_iload_n dX13_stroke_1 rfl ?_
  refine r_callV (x := 54) (As := [.int x1]) (rest := []) dX13_stroke_2 mk_X13_271 mv_X13_isStroke rm_X13_stroke_X13_isStroke rfl rfl (by decide +kernel) (Nat.le_of_ble_eq_true rfl) (ct_X13_isStroke (⟨_, rfl, ?_⟩))
  refine r_if_ne (tgt := 10) dX13_stroke_5 (by decide) (fun c1 => ?_) (fun c1 => ?_)
  · skip
    refine r_iload_n dX13_stroke_10 rfl ?_
    by_cases c2 : x2 = 0
    · refine r_tableIn (off := 33) (tgt := 44) dX13_stroke_11 (by rw [c2]; decide) (by rw [c2]; decide) (by rw [c2]; decide) (by decide) ?_
      refine r_aload_n dX13_stroke_44 rfl ?_
      refine r_getR dX13_stroke_45 fs_54_12 fk_X13_125 ?_
      refine r_iload_n dX13_stroke_48 rfl ?_
      refine r_iald dX13_stroke_49 as_56 (g1 c1 c2) ?_
      exact r_iret dX13_stroke_50 rfl (K1 c1 c2)
    by_cases c3 : x2 = 1
    · refine r_tableIn (off := 40) (tgt := 51) dX13_stroke_11 (by rw [c3]; decide) (by rw [c3]; decide) (by rw [c3]; decide) (by decide) ?_
      refine r_aload_n dX13_stroke_51 rfl ?_
      refine r_getR dX13_stroke_52 fs_54_13 fk_X13_128 ?_
      refine r_iload_n dX13_stroke_55 rfl ?_
      refine r_iald dX13_stroke_56 as_57 (g2 c1 c2 c3) ?_
      exact r_iret dX13_stroke_57 rfl (K2 c1 c2 c3)
    by_cases c4 : x2 = 2
    · refine r_tableIn (off := 47) (tgt := 58) dX13_stroke_11 (by rw [c4]; decide) (by rw [c4]; decide) (by rw [c4]; decide) (by decide) ?_
      refine r_aload_n dX13_stroke_58 rfl ?_
      refine r_getR dX13_stroke_59 fs_54_14 fk_X13_131 ?_
      refine r_iload_n dX13_stroke_62 rfl ?_
      refine r_iald dX13_stroke_63 as_58 (g3 c1 c2 c3 c4) ?_
      exact r_iret dX13_stroke_64 rfl (K3 c1 c2 c3 c4)
    by_cases c5 : x2 = 3
    · refine r_tableIn (off := 54) (tgt := 65) dX13_stroke_11 (by rw [c5]; decide) (by rw [c5]; decide) (by rw [c5]; decide) (by decide) ?_
      refine r_aload_n dX13_stroke_65 rfl ?_
      refine r_getR dX13_stroke_66 fs_54_15 fk_X13_134 ?_
      refine r_iload_n dX13_stroke_69 rfl ?_
      refine r_iald dX13_stroke_70 as_59 (g4 c1 c2 c3 c4 c5) ?_
      exact r_iret dX13_stroke_71 rfl (K4 c1 c2 c3 c4 c5)
    by_cases c6 : x2 = 4
    · refine r_tableIn (off := 61) (tgt := 72) dX13_stroke_11 (by rw [c6]; decide) (by rw [c6]; decide) (by rw [c6]; decide) (by decide) ?_
      refine r_aload_n dX13_stroke_72 rfl ?_
      refine r_iload_n dX13_stroke_73 rfl ?_
      exact r_callV (x := 54) (As := [.int x1]) (rest := []) dX13_stroke_74 mk_X13_274 mv_X13_endOf rm_X13_stroke_X13_endOf rfl rfl (by decide +kernel) (Nat.le_of_ble_eq_true rfl) (cal_i (lo' := [none, none, none]) trivial (K5 c1 c2 c3 c4 c5 c6))
    refine r_tableOut (tgt := 78) dX13_stroke_11 (sw_out 5 (fun q hq => (by match q, hq with
      | 0, _ => exact c2
      | 1, _ => exact c3
      | 2, _ => exact c4
      | 3, _ => exact c5
      | 4, _ => exact c6))) (by decide) ?_
    refine r_iconst (v := (-1)) dX13_stroke_78 kI_m1 ?_
    exact r_iret dX13_stroke_79 rfl (K6 c1 c2 c3 c4 c5 c6)
  · skip
    refine r_iconst (v := (-1)) dX13_stroke_8 kI_m1 ?_
    exact r_iret dX13_stroke_9 rfl (K7 c1)
theorem t_X13_stroke_77 {s1 : Int32} 
    (K1 : Q (.returned (some (.int s1))) M) : Fw l D ad kA mX13_stroke 77 [none, none, none] [.int s1] M Q := by
  exact r_iret dX13_stroke_77 rfl K1
theorem en_X13_stroke {x1 : Int32} {x2 : Int32} (K : Fw l D ad kA mX13_stroke 0 [some (.ref (ad 54)), some (.int x1), some (.int x2)] [] M Q) : Cal l D ad kA mX13_stroke [.ref (ad 54), .int x1, .int x2] M Q := Cal.of (by decide) rfl rfl (Nat.le_of_ble_eq_true rfl) K
def v_X13_isRinger (M : Mem) (x1 : Int32) : Int32 := v_X13_in x1.toInt64 0 (((gI M 54 23).toInt64) - 1)
theorem ct_X13_isRinger {x1 : Int32}  (h : Q (.returned (some (.int (v_X13_isRinger M x1)))) M) : Cal l D ad kA mX13_isRinger [.ref (ad 54), .int x1] M Q := by
  refine Cal.of (lo := [some (.ref (ad 54)), some (.int x1)]) (by decide) rfl rfl (Nat.le_of_ble_eq_true rfl) ?_
  refine r_iload_n dX13_isRinger_0 rfl ?_
  refine r_i2l dX13_isRinger_1 ?_
  refine r_lconst (v := 0) dX13_isRinger_2 kL_0 ?_
  refine r_aload_n dX13_isRinger_3 rfl ?_
  refine r_getI dX13_isRinger_4 fs_54_23 fk_X13_147 ?_
  refine r_i2l dX13_isRinger_7 ?_
  refine r_lconst (v := 1) dX13_isRinger_8 kL_1 ?_
  refine r_lsub dX13_isRinger_9 ?_
  refine r_callS (As := [.long x1.toInt64, .long 0, .long (((gI M 54 23).toInt64) - 1)]) (rest := []) dX13_isRinger_10 mk_X13_5 ms_X13_in rm_X13_isRinger_X13_in rfl rfl (Nat.le_of_ble_eq_true rfl) (ct_X13_in (⟨_, rfl, ?_⟩))
  exact r_zret dX13_isRinger_13 rfl (nar_z (z_X13_in)).1 h
theorem z_X13_isRinger {M : Mem} {x1 : Int32} : v_X13_isRinger M x1 = 0 ∨ v_X13_isRinger M x1 = 1 := (z_X13_in)
theorem t_X13_ringers_0 {x1 : Int32} 
    (K1 : (¬ ((v_X13_in x1.toInt64 1 12) = 0)) → Fw l D ad kA mX13_ringers 32 [some (.ref (ad 54)), none, some (.int (gI M 54 23)), some (.int 0)] [] (sI (sI M 54 23 x1) 54 26 0) Q)
    (K2 : ((v_X13_in x1.toInt64 1 12) = 0) → Q (.returned (some (.int (-2)))) M) : Fw l D ad kA mX13_ringers 0 [some (.ref (ad 54)), some (.int x1), none, none] [] M Q := by
  refine r_iload_n dX13_ringers_0 rfl ?_
  refine r_i2l dX13_ringers_1 ?_
  refine r_lconst (v := 1) dX13_ringers_2 kL_1 ?_
  refine r_ldc2 (v := 12) dX13_ringers_3 co_X13_277 ?_
  refine r_callS (As := [.long x1.toInt64, .long 1, .long 12]) (rest := []) dX13_ringers_6 mk_X13_5 ms_X13_in rm_X13_ringers_X13_in rfl rfl (Nat.le_of_ble_eq_true rfl) (ct_X13_in (⟨_, rfl, ?_⟩))
  refine r_if_ne (tgt := 15) dX13_ringers_9 (by decide) (fun c1 => ?_) (fun c1 => ?_)
  · skip
    refine r_aload_n dX13_ringers_15 rfl ?_
    refine r_getI dX13_ringers_16 fs_54_23 fk_X13_147 ?_
    refine q_istore_n (lo' := [some (.ref (ad 54)), some (.int x1), some (.int (gI M 54 23)), none]) dX13_ringers_19 (by decide) rfl ?_
    refine r_aload_n dX13_ringers_20 rfl ?_
    refine r_iload_n dX13_ringers_21 rfl ?_
    refine r_putI dX13_ringers_22 fs_54_23 fk_X13_147 fp_X13_23 ?_
    refine r_aload_n dX13_ringers_25 rfl ?_
    refine r_iconst (v := 0) dX13_ringers_26 kI_0 ?_
    refine r_putZ dX13_ringers_27 fs_54_26 fk_X13_236 fp_X13_26 (Or.inl rfl) ?_
    refine r_iconst (v := 0) dX13_ringers_30 kI_0 ?_
    refine q_istore_n (lo' := [some (.ref (ad 54)), some (.int x1), some (.int (gI M 54 23)), some (.int 0)]) dX13_ringers_31 (by decide) rfl ?_
    exact q_weak (lo' := [some (.ref (ad 54)), none, some (.int (gI M 54 23)), some (.int 0)]) ⟨rfl, rfl, rfl, trivial⟩ (K1 c1)
  · skip
    refine r_bipush (v := (-2)) dX13_ringers_12 kB_m2 ?_
    exact r_iret dX13_ringers_14 rfl (K2 c1)
theorem t_X13_ringers_32 {x2 : Int32} {x3 : Int32} 
    (g1 : (¬ (12 ≤ x3)) → vp_in x3 12)
    (K1 : (12 ≤ x3) → Q (.returned (some (.int x2))) M)
    (K2 : (¬ (12 ≤ x3)) → Fw l D ad kA mX13_ringers 32 [some (.ref (ad 54)), none, some (.int x2), some (.int (x3 + 1))] [] (sI M 67 x3.toNatClampNeg 0) Q) : Fw l D ad kA mX13_ringers 32 [some (.ref (ad 54)), none, some (.int x2), some (.int x3)] [] M Q := by
  refine r_iload_n dX13_ringers_32 rfl ?_
  refine r_bipush (v := 12) dX13_ringers_33 kB_12 ?_
  refine r_icmp_ge (tgt := 51) dX13_ringers_35 (by decide) (fun c1 => ?_) (fun c1 => ?_)
  · skip
    refine r_iload_n dX13_ringers_51 rfl ?_
    exact r_iret dX13_ringers_52 rfl (K1 c1)
  · skip
    refine r_aload_n dX13_ringers_38 rfl ?_
    refine r_getR dX13_ringers_39 fs_54_24 fk_X13_150 ?_
    refine r_iload_n dX13_ringers_42 rfl ?_
    refine r_iconst (v := 0) dX13_ringers_43 kI_0 ?_
    refine q_zast dX13_ringers_44 as_67 (g1 c1) (Or.inl rfl) ?_
    refine q_iinc (v := x3 + 1) (lo' := [some (.ref (ad 54)), none, some (.int x2), some (.int (x3 + 1))]) dX13_ringers_45 rfl (congrArg (fun q => x3 + q) kI_1) (by decide) rfl ?_
    refine r_goto (tgt := 32) dX13_ringers_48 (by decide) ?_
    exact (K2 c1)
theorem en_X13_ringers {x1 : Int32} (K : Fw l D ad kA mX13_ringers 0 [some (.ref (ad 54)), some (.int x1), none, none] [] M Q) : Cal l D ad kA mX13_ringers [.ref (ad 54), .int x1] M Q := Cal.of (by decide) rfl rfl (Nat.le_of_ble_eq_true rfl) K
theorem t_X13_absent_0 {x1 : Int32} {x2 : Int32} 
    (g1 : (¬ ((v_X13_isRinger M x1) = 0)) → vp_in x1 12)
    (g2 : (¬ ((v_X13_isRinger M x1) = 0)) → x2 = 0 ∨ x2 = 1)
    (K1 : (¬ ((v_X13_isRinger M x1) = 0)) → Q (.returned (some (.int (if (gI M 67 x1.toNatClampNeg) = x2 then 0 else 1)))) (sI M 67 x1.toNatClampNeg x2))
    (K2 : ((v_X13_isRinger M x1) = 0) → Q (.returned (some (.int (-2)))) M) : Fw l D ad kA mX13_absent 0 [some (.ref (ad 54)), some (.int x1), some (.int x2), none] [] M Q := by
  refine r_aload_n dX13_absent_0 rfl ?_
  refine r_iload_n dX13_absent_1 rfl ?_
  refine r_callV (x := 54) (As := [.int x1]) (rest := []) dX13_absent_2 mk_X13_279 mv_X13_isRinger rm_X13_absent_X13_isRinger rfl rfl (by decide +kernel) (Nat.le_of_ble_eq_true rfl) (ct_X13_isRinger (⟨_, rfl, ?_⟩))
  refine r_if_ne (tgt := 11) dX13_absent_5 (by decide) (fun c1 => ?_) (fun c1 => ?_)
  · skip
    refine r_aload_n dX13_absent_11 rfl ?_
    refine r_getR dX13_absent_12 fs_54_24 fk_X13_150 ?_
    refine r_iload_n dX13_absent_15 rfl ?_
    refine r_zald dX13_absent_16 as_67 (g1 c1) ?_
    refine q_istore_n (lo' := [some (.ref (ad 54)), some (.int x1), some (.int x2), some (.int (gI M 67 x1.toNatClampNeg))]) dX13_absent_17 (by decide) rfl ?_
    refine r_aload_n dX13_absent_18 rfl ?_
    refine r_getR dX13_absent_19 fs_54_24 fk_X13_150 ?_
    refine r_iload_n dX13_absent_22 rfl ?_
    refine r_iload_n dX13_absent_23 rfl ?_
    refine q_zast dX13_absent_24 as_67 (g1 c1) (g2 c1) ?_
    refine r_iload_n dX13_absent_25 rfl ?_
    refine r_iload_n dX13_absent_26 rfl ?_
    suffices hJ1 : Fw l D ad kA mX13_absent 35 [none, none, none, none] [.int (if (gI M 67 x1.toNatClampNeg) = x2 then 0 else 1)] (sI M 67 x1.toNatClampNeg x2) Q by
      refine r_icmp_ne (tgt := 34) dX13_absent_27 (by decide) (fun c2 => ?_) (fun c2 => ?_)
      · skip
        refine r_iconst (v := 1) dX13_absent_34 kI_1 ?_
        exact q_weak (lo' := [none, none, none, none]) trivial (by have h9 := hJ1; simp only [if_neg c2] at h9; first | exact h9 | (simp only [if_neg c2]; exact h9))
      · skip
        refine r_iconst (v := 0) dX13_absent_30 kI_0 ?_
        refine r_goto (tgt := 35) dX13_absent_31 (by decide) ?_
        exact q_weak (lo' := [none, none, none, none]) trivial (by have h9 := hJ1; simp only [if_pos c2] at h9; first | exact h9 | (simp only [if_pos c2]; exact h9))
    exact r_iret dX13_absent_35 rfl (K1 c1)
  · skip
    refine r_bipush (v := (-2)) dX13_absent_8 kB_m2 ?_
    exact r_iret dX13_absent_10 rfl (K2 c1)
theorem en_X13_absent {x1 : Int32} {x2 : Int32} (K : Fw l D ad kA mX13_absent 0 [some (.ref (ad 54)), some (.int x1), some (.int x2), none] [] M Q) : Cal l D ad kA mX13_absent [.ref (ad 54), .int x1, .int x2] M Q := Cal.of (by decide) rfl rfl (Nat.le_of_ble_eq_true rfl) K
theorem t_X13_isUsed_0 {x1 : Int32} 
    (K1 : Fw l D ad kA mX13_isUsed 2 [some (.ref (ad 54)), some (.int x1), some (.int 0)] [] M Q) : Fw l D ad kA mX13_isUsed 0 [some (.ref (ad 54)), some (.int x1), none] [] M Q := by
  refine r_iconst (v := 0) dX13_isUsed_0 kI_0 ?_
  refine q_istore_n (lo' := [some (.ref (ad 54)), some (.int x1), some (.int 0)]) dX13_isUsed_1 (by decide) rfl ?_
  exact K1
theorem t_X13_isUsed_2 {x1 : Int32} {x2 : Int32} 
    (g1 : (¬ ((gI M 54 10) ≤ x2)) → vp_in x2 160)
    (K1 : ((gI M 54 10) ≤ x2) → Q (.returned (some (.int 0))) M)
    (K2 : (¬ ((gI M 54 10) ≤ x2)) → (¬ ((gI M 57 x2.toNatClampNeg) = x1)) → Fw l D ad kA mX13_isUsed 2 [some (.ref (ad 54)), some (.int x1), some (.int (x2 + 1))] [] M Q)
    (K3 : (¬ ((gI M 54 10) ≤ x2)) → ((gI M 57 x2.toNatClampNeg) = x1) → Q (.returned (some (.int 1))) M) : Fw l D ad kA mX13_isUsed 2 [some (.ref (ad 54)), some (.int x1), some (.int x2)] [] M Q := by
  refine r_iload_n dX13_isUsed_2 rfl ?_
  refine r_aload_n dX13_isUsed_3 rfl ?_
  refine r_getI dX13_isUsed_4 fs_54_10 fk_X13_233 ?_
  refine r_icmp_ge (tgt := 28) dX13_isUsed_7 (by decide) (fun c1 => ?_) (fun c1 => ?_)
  · skip
    refine r_iconst (v := 0) dX13_isUsed_28 kI_0 ?_
    exact r_zret dX13_isUsed_29 rfl (by decide) (K1 c1)
  · skip
    refine r_aload_n dX13_isUsed_10 rfl ?_
    refine r_getR dX13_isUsed_11 fs_54_13 fk_X13_128 ?_
    refine r_iload_n dX13_isUsed_14 rfl ?_
    refine r_iald dX13_isUsed_15 as_57 (g1 c1) ?_
    refine r_iload_n dX13_isUsed_16 rfl ?_
    refine r_icmp_ne (tgt := 22) dX13_isUsed_17 (by decide) (fun c2 => ?_) (fun c2 => ?_)
    · skip
      refine q_iinc (v := x2 + 1) (lo' := [some (.ref (ad 54)), some (.int x1), some (.int (x2 + 1))]) dX13_isUsed_22 rfl (congrArg (fun q => x2 + q) kI_1) (by decide) rfl ?_
      refine r_goto (tgt := 2) dX13_isUsed_25 (by decide) ?_
      exact (K2 c1 c2)
    · skip
      refine r_iconst (v := 1) dX13_isUsed_20 kI_1 ?_
      exact r_zret dX13_isUsed_21 rfl (by decide) (K3 c1 c2)
theorem en_X13_isUsed {x1 : Int32} (K : Fw l D ad kA mX13_isUsed 0 [some (.ref (ad 54)), some (.int x1), none] [] M Q) : Cal l D ad kA mX13_isUsed [.ref (ad 54), .int x1] M Q := Cal.of (by decide) rfl rfl (Nat.le_of_ble_eq_true rfl) K
end W_model1
