/-! the model: what throws: decode rows, links, walks from cut to cut (printed by wip/gen) -/
theorem dX13_wrong_0 : decode cX13_wrong 0 = .ok (.aload_n 0, 1) := by decide +kernel
theorem dX13_wrong_1 : decode cX13_wrong 1 = .ok (.iload_n 1, 1) := by decide +kernel
theorem dX13_wrong_2 : decode cX13_wrong 2 = .ok (.putfield 9, 3) := by decide +kernel
theorem dX13_wrong_5 : decode cX13_wrong 5 = .ok (.aload_n 0, 1) := by decide +kernel
theorem dX13_wrong_6 : decode cX13_wrong 6 = .ok (.aload_n 0, 1) := by decide +kernel
theorem dX13_wrong_7 : decode cX13_wrong 7 = .ok (.getfield 13, 3) := by decide +kernel
theorem dX13_wrong_10 : decode cX13_wrong 10 = .ok (.putfield 16, 3) := by decide +kernel
theorem dX13_wrong_13 : decode cX13_wrong 13 = .ok (.aload_n 0, 1) := by decide +kernel
theorem dX13_wrong_14 : decode cX13_wrong 14 = .ok (.getfield 19, 3) := by decide +kernel
theorem dX13_wrong_17 : decode cX13_wrong 17 = .ok (.areturn, 1) := by decide +kernel
theorem dX13_need_0 : decode cX13_need 0 = .ok (.iload_n 1, 1) := by decide +kernel
theorem dX13_need_1 : decode cX13_need 1 = .ok (.ifCond .ne 9, 3) := by decide +kernel
theorem dX13_need_4 : decode cX13_need 4 = .ok (.aload_n 0, 1) := by decide +kernel
theorem dX13_need_5 : decode cX13_need 5 = .ok (.iload_n 2, 1) := by decide +kernel
theorem dX13_need_6 : decode cX13_need 6 = .ok (.invokevirtual 59, 3) := by decide +kernel
theorem dX13_need_9 : decode cX13_need 9 = .ok (.athrow, 1) := by decide +kernel
theorem dX13_need_10 : decode cX13_need 10 = .ok (.return_, 1) := by decide +kernel
theorem dX13_look_0 : decode cX13_look 0 = .ok (.aload_n 0, 1) := by decide +kernel
theorem dX13_look_1 : decode cX13_look 1 = .ok (.aload_n 0, 1) := by decide +kernel
theorem dX13_look_2 : decode cX13_look 2 = .ok (.getfield 37, 3) := by decide +kernel
theorem dX13_look_5 : decode cX13_look 5 = .ok (.iconst 2, 1) := by decide +kernel
theorem dX13_look_6 : decode cX13_look 6 = .ok (.if_icmp .ne 7, 3) := by decide +kernel
theorem dX13_look_9 : decode cX13_look 9 = .ok (.iconst 1, 1) := by decide +kernel
theorem dX13_look_10 : decode cX13_look 10 = .ok (.goto 4, 3) := by decide +kernel
theorem dX13_look_13 : decode cX13_look 13 = .ok (.iconst 0, 1) := by decide +kernel
theorem dX13_look_14 : decode cX13_look 14 = .ok (.iconst 1, 1) := by decide +kernel
theorem dX13_look_15 : decode cX13_look 15 = .ok (.invokevirtual 63, 3) := by decide +kernel
theorem dX13_look_18 : decode cX13_look 18 = .ok (.aload_n 0, 1) := by decide +kernel
theorem dX13_look_19 : decode cX13_look 19 = .ok (.aload_n 0, 1) := by decide +kernel
theorem dX13_look_20 : decode cX13_look 20 = .ok (.getfield 47, 3) := by decide +kernel
theorem dX13_look_23 : decode cX13_look 23 = .ok (.i2l, 1) := by decide +kernel
theorem dX13_look_24 : decode cX13_look 24 = .ok (.iload_n 1, 1) := by decide +kernel
theorem dX13_look_25 : decode cX13_look 25 = .ok (.i2l, 1) := by decide +kernel
theorem dX13_look_26 : decode cX13_look 26 = .ok (.iload_n 2, 1) := by decide +kernel
theorem dX13_look_27 : decode cX13_look 27 = .ok (.i2l, 1) := by decide +kernel
theorem dX13_look_28 : decode cX13_look 28 = .ok (.invokestatic 5, 3) := by decide +kernel
theorem dX13_look_31 : decode cX13_look 31 = .ok (.iconst 2, 1) := by decide +kernel
theorem dX13_look_32 : decode cX13_look 32 = .ok (.invokevirtual 63, 3) := by decide +kernel
theorem dX13_look_35 : decode cX13_look 35 = .ok (.aload_n 0, 1) := by decide +kernel
theorem dX13_look_36 : decode cX13_look 36 = .ok (.getfield 47, 3) := by decide +kernel
theorem dX13_look_39 : decode cX13_look 39 = .ok (.ireturn, 1) := by decide +kernel
theorem dX13_number_0 : decode cX13_number 0 = .ok (.aload_n 0, 1) := by decide +kernel
theorem dX13_number_1 : decode cX13_number 1 = .ok (.iload_n 1, 1) := by decide +kernel
theorem dX13_number_2 : decode cX13_number 2 = .ok (.iload_n 2, 1) := by decide +kernel
theorem dX13_number_3 : decode cX13_number 3 = .ok (.invokevirtual 67, 3) := by decide +kernel
theorem dX13_number_6 : decode cX13_number 6 = .ok (.istore_n 3, 1) := by decide +kernel
theorem dX13_number_7 : decode cX13_number 7 = .ok (.aload_n 0, 1) := by decide +kernel
theorem dX13_number_8 : decode cX13_number 8 = .ok (.invokevirtual 71, 3) := by decide +kernel
theorem dX13_number_11 : decode cX13_number 11 = .ok (.iload_n 3, 1) := by decide +kernel
theorem dX13_number_12 : decode cX13_number 12 = .ok (.ireturn, 1) := by decide +kernel
theorem dX13_readStroke_0 : decode cX13_readStroke 0 = .ok (.aload_n 0, 1) := by decide +kernel
theorem dX13_readStroke_1 : decode cX13_readStroke 1 = .ok (.iconst 0, 1) := by decide +kernel
theorem dX13_readStroke_2 : decode cX13_readStroke 2 = .ok (.bipush 47, 2) := by decide +kernel
theorem dX13_readStroke_4 : decode cX13_readStroke 4 = .ok (.invokevirtual 67, 3) := by decide +kernel
theorem dX13_readStroke_7 : decode cX13_readStroke 7 = .ok (.istore_n 3, 1) := by decide +kernel
theorem dX13_readStroke_8 : decode cX13_readStroke 8 = .ok (.iconst 0, 1) := by decide +kernel
theorem dX13_readStroke_9 : decode cX13_readStroke 9 = .ok (.istore 4, 2) := by decide +kernel
theorem dX13_readStroke_11 : decode cX13_readStroke 11 = .ok (.iload 4, 2) := by decide +kernel
theorem dX13_readStroke_13 : decode cX13_readStroke 13 = .ok (.aload_n 0, 1) := by decide +kernel
theorem dX13_readStroke_14 : decode cX13_readStroke 14 = .ok (.getfield 78, 3) := by decide +kernel
theorem dX13_readStroke_17 : decode cX13_readStroke 17 = .ok (.if_icmp .ge 41, 3) := by decide +kernel
theorem dX13_readStroke_20 : decode cX13_readStroke 20 = .ok (.aload_n 0, 1) := by decide +kernel
theorem dX13_readStroke_21 : decode cX13_readStroke 21 = .ok (.aload_n 0, 1) := by decide +kernel
theorem dX13_readStroke_22 : decode cX13_readStroke 22 = .ok (.getfield 94, 3) := by decide +kernel
theorem dX13_readStroke_25 : decode cX13_readStroke 25 = .ok (.iload 4, 2) := by decide +kernel
theorem dX13_readStroke_27 : decode cX13_readStroke 27 = .ok (.iaload, 1) := by decide +kernel
theorem dX13_readStroke_28 : decode cX13_readStroke 28 = .ok (.iload_n 1, 1) := by decide +kernel
theorem dX13_readStroke_29 : decode cX13_readStroke 29 = .ok (.if_icmp .ne 14, 3) := by decide +kernel
theorem dX13_readStroke_32 : decode cX13_readStroke 32 = .ok (.aload_n 0, 1) := by decide +kernel
theorem dX13_readStroke_33 : decode cX13_readStroke 33 = .ok (.getfield 98, 3) := by decide +kernel
theorem dX13_readStroke_36 : decode cX13_readStroke 36 = .ok (.iload 4, 2) := by decide +kernel
theorem dX13_readStroke_38 : decode cX13_readStroke 38 = .ok (.iaload, 1) := by decide +kernel
theorem dX13_readStroke_39 : decode cX13_readStroke 39 = .ok (.iload_n 3, 1) := by decide +kernel
theorem dX13_readStroke_40 : decode cX13_readStroke 40 = .ok (.if_icmp .eq 7, 3) := by decide +kernel
theorem dX13_readStroke_43 : decode cX13_readStroke 43 = .ok (.iconst 1, 1) := by decide +kernel
theorem dX13_readStroke_44 : decode cX13_readStroke 44 = .ok (.goto 4, 3) := by decide +kernel
theorem dX13_readStroke_47 : decode cX13_readStroke 47 = .ok (.iconst 0, 1) := by decide +kernel
theorem dX13_readStroke_48 : decode cX13_readStroke 48 = .ok (.iconst 3, 1) := by decide +kernel
theorem dX13_readStroke_49 : decode cX13_readStroke 49 = .ok (.invokevirtual 63, 3) := by decide +kernel
theorem dX13_readStroke_52 : decode cX13_readStroke 52 = .ok (.iinc 4 1, 3) := by decide +kernel
theorem dX13_readStroke_55 : decode cX13_readStroke 55 = .ok (.goto (-44), 3) := by decide +kernel
theorem dX13_readStroke_58 : decode cX13_readStroke 58 = .ok (.aload_n 0, 1) := by decide +kernel
theorem dX13_readStroke_59 : decode cX13_readStroke 59 = .ok (.aload_n 0, 1) := by decide +kernel
theorem dX13_readStroke_60 : decode cX13_readStroke 60 = .ok (.getfield 78, 3) := by decide +kernel
theorem dX13_readStroke_63 : decode cX13_readStroke 63 = .ok (.sipush 160, 3) := by decide +kernel
theorem dX13_readStroke_66 : decode cX13_readStroke 66 = .ok (.if_icmp .ge 7, 3) := by decide +kernel
theorem dX13_readStroke_69 : decode cX13_readStroke 69 = .ok (.iconst 1, 1) := by decide +kernel
theorem dX13_readStroke_70 : decode cX13_readStroke 70 = .ok (.goto 4, 3) := by decide +kernel
theorem dX13_readStroke_73 : decode cX13_readStroke 73 = .ok (.iconst 0, 1) := by decide +kernel
theorem dX13_readStroke_74 : decode cX13_readStroke 74 = .ok (.iconst 4, 1) := by decide +kernel
theorem dX13_readStroke_75 : decode cX13_readStroke 75 = .ok (.invokevirtual 63, 3) := by decide +kernel
theorem dX13_readStroke_78 : decode cX13_readStroke 78 = .ok (.aload_n 0, 1) := by decide +kernel
theorem dX13_readStroke_79 : decode cX13_readStroke 79 = .ok (.invokevirtual 71, 3) := by decide +kernel
theorem dX13_readStroke_82 : decode cX13_readStroke 82 = .ok (.iconst 1, 1) := by decide +kernel
theorem dX13_readStroke_83 : decode cX13_readStroke 83 = .ok (.istore 4, 2) := by decide +kernel
theorem dX13_readStroke_85 : decode cX13_readStroke 85 = .ok (.iload_n 2, 1) := by decide +kernel
theorem dX13_readStroke_86 : decode cX13_readStroke 86 = .ok (.ifCond .eq 25, 3) := by decide +kernel
theorem dX13_readStroke_89 : decode cX13_readStroke 89 = .ok (.aload_n 0, 1) := by decide +kernel
theorem dX13_readStroke_90 : decode cX13_readStroke 90 = .ok (.ldc 101, 2) := by decide +kernel
theorem dX13_readStroke_92 : decode cX13_readStroke 92 = .ok (.invokevirtual 83, 3) := by decide +kernel
theorem dX13_readStroke_95 : decode cX13_readStroke 95 = .ok (.ifCond .eq 16, 3) := by decide +kernel
theorem dX13_readStroke_98 : decode cX13_readStroke 98 = .ok (.aload_n 0, 1) := by decide +kernel
theorem dX13_readStroke_99 : decode cX13_readStroke 99 = .ok (.invokevirtual 71, 3) := by decide +kernel
theorem dX13_readStroke_102 : decode cX13_readStroke 102 = .ok (.aload_n 0, 1) := by decide +kernel
theorem dX13_readStroke_103 : decode cX13_readStroke 103 = .ok (.iconst 1, 1) := by decide +kernel
theorem dX13_readStroke_104 : decode cX13_readStroke 104 = .ok (.bipush 16, 2) := by decide +kernel
theorem dX13_readStroke_106 : decode cX13_readStroke 106 = .ok (.invokevirtual 87, 3) := by decide +kernel
theorem dX13_readStroke_109 : decode cX13_readStroke 109 = .ok (.istore 4, 2) := by decide +kernel
theorem dX13_readStroke_111 : decode cX13_readStroke 111 = .ok (.iload_n 2, 1) := by decide +kernel
theorem dX13_readStroke_112 : decode cX13_readStroke 112 = .ok (.ifCond .eq 16, 3) := by decide +kernel
theorem dX13_readStroke_115 : decode cX13_readStroke 115 = .ok (.aload_n 0, 1) := by decide +kernel
theorem dX13_readStroke_116 : decode cX13_readStroke 116 = .ok (.ldc 103, 2) := by decide +kernel
theorem dX13_readStroke_118 : decode cX13_readStroke 118 = .ok (.invokevirtual 83, 3) := by decide +kernel
theorem dX13_readStroke_121 : decode cX13_readStroke 121 = .ok (.ifCond .eq 7, 3) := by decide +kernel
theorem dX13_readStroke_124 : decode cX13_readStroke 124 = .ok (.iconst 1, 1) := by decide +kernel
theorem dX13_readStroke_125 : decode cX13_readStroke 125 = .ok (.goto 21, 3) := by decide +kernel
theorem dX13_readStroke_128 : decode cX13_readStroke 128 = .ok (.iload_n 2, 1) := by decide +kernel
theorem dX13_readStroke_129 : decode cX13_readStroke 129 = .ok (.ifCond .eq 16, 3) := by decide +kernel
theorem dX13_readStroke_132 : decode cX13_readStroke 132 = .ok (.aload_n 0, 1) := by decide +kernel
theorem dX13_readStroke_133 : decode cX13_readStroke 133 = .ok (.ldc 105, 2) := by decide +kernel
theorem dX13_readStroke_135 : decode cX13_readStroke 135 = .ok (.invokevirtual 83, 3) := by decide +kernel
theorem dX13_readStroke_138 : decode cX13_readStroke 138 = .ok (.ifCond .eq 7, 3) := by decide +kernel
theorem dX13_readStroke_141 : decode cX13_readStroke 141 = .ok (.iconst 2, 1) := by decide +kernel
theorem dX13_readStroke_142 : decode cX13_readStroke 142 = .ok (.goto 4, 3) := by decide +kernel
theorem dX13_readStroke_145 : decode cX13_readStroke 145 = .ok (.iconst 0, 1) := by decide +kernel
theorem dX13_readStroke_146 : decode cX13_readStroke 146 = .ok (.istore 5, 2) := by decide +kernel
theorem dX13_readStroke_148 : decode cX13_readStroke 148 = .ok (.iload 5, 2) := by decide +kernel
theorem dX13_readStroke_150 : decode cX13_readStroke 150 = .ok (.ifCond .eq 7, 3) := by decide +kernel
theorem dX13_readStroke_153 : decode cX13_readStroke 153 = .ok (.aload_n 0, 1) := by decide +kernel
theorem dX13_readStroke_154 : decode cX13_readStroke 154 = .ok (.invokevirtual 71, 3) := by decide +kernel
theorem dX13_readStroke_157 : decode cX13_readStroke 157 = .ok (.aload_n 0, 1) := by decide +kernel
theorem dX13_readStroke_158 : decode cX13_readStroke 158 = .ok (.getfield 78, 3) := by decide +kernel
theorem dX13_readStroke_161 : decode cX13_readStroke 161 = .ok (.istore 6, 2) := by decide +kernel
theorem dX13_readStroke_163 : decode cX13_readStroke 163 = .ok (.iload 6, 2) := by decide +kernel
theorem dX13_readStroke_165 : decode cX13_readStroke 165 = .ok (.ifCond .le 99, 3) := by decide +kernel
theorem dX13_readStroke_168 : decode cX13_readStroke 168 = .ok (.aload_n 0, 1) := by decide +kernel
theorem dX13_readStroke_169 : decode cX13_readStroke 169 = .ok (.getfield 94, 3) := by decide +kernel
theorem dX13_readStroke_172 : decode cX13_readStroke 172 = .ok (.iload 6, 2) := by decide +kernel
theorem dX13_readStroke_174 : decode cX13_readStroke 174 = .ok (.iconst 1, 1) := by decide +kernel
theorem dX13_readStroke_175 : decode cX13_readStroke 175 = .ok (.isub, 1) := by decide +kernel
theorem dX13_readStroke_176 : decode cX13_readStroke 176 = .ok (.iaload, 1) := by decide +kernel
theorem dX13_readStroke_177 : decode cX13_readStroke 177 = .ok (.iload_n 1, 1) := by decide +kernel
theorem dX13_readStroke_178 : decode cX13_readStroke 178 = .ok (.if_icmp .ne 86, 3) := by decide +kernel
theorem dX13_readStroke_181 : decode cX13_readStroke 181 = .ok (.aload_n 0, 1) := by decide +kernel
theorem dX13_readStroke_182 : decode cX13_readStroke 182 = .ok (.getfield 98, 3) := by decide +kernel
theorem dX13_readStroke_185 : decode cX13_readStroke 185 = .ok (.iload 6, 2) := by decide +kernel
theorem dX13_readStroke_187 : decode cX13_readStroke 187 = .ok (.iconst 1, 1) := by decide +kernel
theorem dX13_readStroke_188 : decode cX13_readStroke 188 = .ok (.isub, 1) := by decide +kernel
theorem dX13_readStroke_189 : decode cX13_readStroke 189 = .ok (.iaload, 1) := by decide +kernel
theorem dX13_readStroke_190 : decode cX13_readStroke 190 = .ok (.iload_n 3, 1) := by decide +kernel
theorem dX13_readStroke_191 : decode cX13_readStroke 191 = .ok (.if_icmp .le 73, 3) := by decide +kernel
theorem dX13_readStroke_194 : decode cX13_readStroke 194 = .ok (.aload_n 0, 1) := by decide +kernel
theorem dX13_readStroke_195 : decode cX13_readStroke 195 = .ok (.getfield 94, 3) := by decide +kernel
theorem dX13_readStroke_198 : decode cX13_readStroke 198 = .ok (.iload 6, 2) := by decide +kernel
theorem dX13_readStroke_200 : decode cX13_readStroke 200 = .ok (.aload_n 0, 1) := by decide +kernel
theorem dX13_readStroke_201 : decode cX13_readStroke 201 = .ok (.getfield 94, 3) := by decide +kernel
theorem dX13_readStroke_204 : decode cX13_readStroke 204 = .ok (.iload 6, 2) := by decide +kernel
theorem dX13_readStroke_206 : decode cX13_readStroke 206 = .ok (.iconst 1, 1) := by decide +kernel
theorem dX13_readStroke_207 : decode cX13_readStroke 207 = .ok (.isub, 1) := by decide +kernel
theorem dX13_readStroke_208 : decode cX13_readStroke 208 = .ok (.iaload, 1) := by decide +kernel
theorem dX13_readStroke_209 : decode cX13_readStroke 209 = .ok (.iastore, 1) := by decide +kernel
theorem dX13_readStroke_210 : decode cX13_readStroke 210 = .ok (.aload_n 0, 1) := by decide +kernel
theorem dX13_readStroke_211 : decode cX13_readStroke 211 = .ok (.getfield 98, 3) := by decide +kernel
theorem dX13_readStroke_214 : decode cX13_readStroke 214 = .ok (.iload 6, 2) := by decide +kernel
theorem dX13_readStroke_216 : decode cX13_readStroke 216 = .ok (.aload_n 0, 1) := by decide +kernel
theorem dX13_readStroke_217 : decode cX13_readStroke 217 = .ok (.getfield 98, 3) := by decide +kernel
theorem dX13_readStroke_220 : decode cX13_readStroke 220 = .ok (.iload 6, 2) := by decide +kernel
theorem dX13_readStroke_222 : decode cX13_readStroke 222 = .ok (.iconst 1, 1) := by decide +kernel
theorem dX13_readStroke_223 : decode cX13_readStroke 223 = .ok (.isub, 1) := by decide +kernel
theorem dX13_readStroke_224 : decode cX13_readStroke 224 = .ok (.iaload, 1) := by decide +kernel
theorem dX13_readStroke_225 : decode cX13_readStroke 225 = .ok (.iastore, 1) := by decide +kernel
theorem dX13_readStroke_226 : decode cX13_readStroke 226 = .ok (.aload_n 0, 1) := by decide +kernel
theorem dX13_readStroke_227 : decode cX13_readStroke 227 = .ok (.getfield 107, 3) := by decide +kernel
theorem dX13_readStroke_230 : decode cX13_readStroke 230 = .ok (.iload 6, 2) := by decide +kernel
theorem dX13_readStroke_232 : decode cX13_readStroke 232 = .ok (.aload_n 0, 1) := by decide +kernel
theorem dX13_readStroke_233 : decode cX13_readStroke 233 = .ok (.getfield 107, 3) := by decide +kernel
theorem dX13_readStroke_236 : decode cX13_readStroke 236 = .ok (.iload 6, 2) := by decide +kernel
theorem dX13_readStroke_238 : decode cX13_readStroke 238 = .ok (.iconst 1, 1) := by decide +kernel
theorem dX13_readStroke_239 : decode cX13_readStroke 239 = .ok (.isub, 1) := by decide +kernel
theorem dX13_readStroke_240 : decode cX13_readStroke 240 = .ok (.iaload, 1) := by decide +kernel
theorem dX13_readStroke_241 : decode cX13_readStroke 241 = .ok (.iastore, 1) := by decide +kernel
theorem dX13_readStroke_242 : decode cX13_readStroke 242 = .ok (.aload_n 0, 1) := by decide +kernel
theorem dX13_readStroke_243 : decode cX13_readStroke 243 = .ok (.getfield 110, 3) := by decide +kernel
theorem dX13_readStroke_246 : decode cX13_readStroke 246 = .ok (.iload 6, 2) := by decide +kernel
theorem dX13_readStroke_248 : decode cX13_readStroke 248 = .ok (.aload_n 0, 1) := by decide +kernel
theorem dX13_readStroke_249 : decode cX13_readStroke 249 = .ok (.getfield 110, 3) := by decide +kernel
theorem dX13_readStroke_252 : decode cX13_readStroke 252 = .ok (.iload 6, 2) := by decide +kernel
theorem dX13_readStroke_254 : decode cX13_readStroke 254 = .ok (.iconst 1, 1) := by decide +kernel
theorem dX13_readStroke_255 : decode cX13_readStroke 255 = .ok (.isub, 1) := by decide +kernel
theorem dX13_readStroke_256 : decode cX13_readStroke 256 = .ok (.iaload, 1) := by decide +kernel
theorem dX13_readStroke_257 : decode cX13_readStroke 257 = .ok (.iastore, 1) := by decide +kernel
theorem dX13_readStroke_258 : decode cX13_readStroke 258 = .ok (.iinc 6 (-1), 3) := by decide +kernel
theorem dX13_readStroke_261 : decode cX13_readStroke 261 = .ok (.goto (-98), 3) := by decide +kernel
theorem dX13_readStroke_264 : decode cX13_readStroke 264 = .ok (.aload_n 0, 1) := by decide +kernel
theorem dX13_readStroke_265 : decode cX13_readStroke 265 = .ok (.getfield 94, 3) := by decide +kernel
theorem dX13_readStroke_268 : decode cX13_readStroke 268 = .ok (.iload 6, 2) := by decide +kernel
theorem dX13_readStroke_270 : decode cX13_readStroke 270 = .ok (.iload_n 1, 1) := by decide +kernel
theorem dX13_readStroke_271 : decode cX13_readStroke 271 = .ok (.iastore, 1) := by decide +kernel
theorem dX13_readStroke_272 : decode cX13_readStroke 272 = .ok (.aload_n 0, 1) := by decide +kernel
theorem dX13_readStroke_273 : decode cX13_readStroke 273 = .ok (.getfield 98, 3) := by decide +kernel
theorem dX13_readStroke_276 : decode cX13_readStroke 276 = .ok (.iload 6, 2) := by decide +kernel
theorem dX13_readStroke_278 : decode cX13_readStroke 278 = .ok (.iload_n 3, 1) := by decide +kernel
theorem dX13_readStroke_279 : decode cX13_readStroke 279 = .ok (.iastore, 1) := by decide +kernel
theorem dX13_readStroke_280 : decode cX13_readStroke 280 = .ok (.aload_n 0, 1) := by decide +kernel
theorem dX13_readStroke_281 : decode cX13_readStroke 281 = .ok (.getfield 107, 3) := by decide +kernel
theorem dX13_readStroke_284 : decode cX13_readStroke 284 = .ok (.iload 6, 2) := by decide +kernel
theorem dX13_readStroke_286 : decode cX13_readStroke 286 = .ok (.iload 4, 2) := by decide +kernel
theorem dX13_readStroke_288 : decode cX13_readStroke 288 = .ok (.iastore, 1) := by decide +kernel
theorem dX13_readStroke_289 : decode cX13_readStroke 289 = .ok (.aload_n 0, 1) := by decide +kernel
theorem dX13_readStroke_290 : decode cX13_readStroke 290 = .ok (.getfield 110, 3) := by decide +kernel
theorem dX13_readStroke_293 : decode cX13_readStroke 293 = .ok (.iload 6, 2) := by decide +kernel
theorem dX13_readStroke_295 : decode cX13_readStroke 295 = .ok (.iload 5, 2) := by decide +kernel
theorem dX13_readStroke_297 : decode cX13_readStroke 297 = .ok (.iastore, 1) := by decide +kernel
theorem dX13_readStroke_298 : decode cX13_readStroke 298 = .ok (.aload_n 0, 1) := by decide +kernel
theorem dX13_readStroke_299 : decode cX13_readStroke 299 = .ok (.dup, 1) := by decide +kernel
theorem dX13_readStroke_300 : decode cX13_readStroke 300 = .ok (.getfield 78, 3) := by decide +kernel
theorem dX13_readStroke_303 : decode cX13_readStroke 303 = .ok (.iconst 1, 1) := by decide +kernel
theorem dX13_readStroke_304 : decode cX13_readStroke 304 = .ok (.iadd, 1) := by decide +kernel
theorem dX13_readStroke_305 : decode cX13_readStroke 305 = .ok (.putfield 78, 3) := by decide +kernel
theorem dX13_readStroke_308 : decode cX13_readStroke 308 = .ok (.return_, 1) := by decide +kernel
theorem dX13_readBeats_0 : decode cX13_readBeats 0 = .ok (.aload_n 0, 1) := by decide +kernel
theorem dX13_readBeats_1 : decode cX13_readBeats 1 = .ok (.iconst 0, 1) := by decide +kernel
theorem dX13_readBeats_2 : decode cX13_readBeats 2 = .ok (.putfield 78, 3) := by decide +kernel
theorem dX13_readBeats_5 : decode cX13_readBeats 5 = .ok (.iconst 0, 1) := by decide +kernel
theorem dX13_readBeats_6 : decode cX13_readBeats 6 = .ok (.istore_n 2, 1) := by decide +kernel
theorem dX13_readBeats_7 : decode cX13_readBeats 7 = .ok (.aload_n 0, 1) := by decide +kernel
theorem dX13_readBeats_8 : decode cX13_readBeats 8 = .ok (.getfield 37, 3) := by decide +kernel
theorem dX13_readBeats_11 : decode cX13_readBeats 11 = .ok (.ifCond .eq 66, 3) := by decide +kernel
theorem dX13_readBeats_14 : decode cX13_readBeats 14 = .ok (.aload_n 0, 1) := by decide +kernel
theorem dX13_readBeats_15 : decode cX13_readBeats 15 = .ok (.aload_n 0, 1) := by decide +kernel
theorem dX13_readBeats_16 : decode cX13_readBeats 16 = .ok (.ldc 81, 2) := by decide +kernel
theorem dX13_readBeats_18 : decode cX13_readBeats 18 = .ok (.invokevirtual 83, 3) := by decide +kernel
theorem dX13_readBeats_21 : decode cX13_readBeats 21 = .ok (.iconst 1, 1) := by decide +kernel
theorem dX13_readBeats_22 : decode cX13_readBeats 22 = .ok (.invokevirtual 63, 3) := by decide +kernel
theorem dX13_readBeats_25 : decode cX13_readBeats 25 = .ok (.aload_n 0, 1) := by decide +kernel
theorem dX13_readBeats_26 : decode cX13_readBeats 26 = .ok (.invokevirtual 71, 3) := by decide +kernel
theorem dX13_readBeats_29 : decode cX13_readBeats 29 = .ok (.aload_n 0, 1) := by decide +kernel
theorem dX13_readBeats_30 : decode cX13_readBeats 30 = .ok (.iload_n 2, 1) := by decide +kernel
theorem dX13_readBeats_31 : decode cX13_readBeats 31 = .ok (.sipush 999, 3) := by decide +kernel
theorem dX13_readBeats_34 : decode cX13_readBeats 34 = .ok (.invokevirtual 87, 3) := by decide +kernel
theorem dX13_readBeats_37 : decode cX13_readBeats 37 = .ok (.istore_n 2, 1) := by decide +kernel
theorem dX13_readBeats_38 : decode cX13_readBeats 38 = .ok (.aload_n 0, 1) := by decide +kernel
theorem dX13_readBeats_39 : decode cX13_readBeats 39 = .ok (.iload_n 2, 1) := by decide +kernel
theorem dX13_readBeats_40 : decode cX13_readBeats 40 = .ok (.iload_n 1, 1) := by decide +kernel
theorem dX13_readBeats_41 : decode cX13_readBeats 41 = .ok (.invokevirtual 90, 3) := by decide +kernel
theorem dX13_readBeats_44 : decode cX13_readBeats 44 = .ok (.aload_n 0, 1) := by decide +kernel
theorem dX13_readBeats_45 : decode cX13_readBeats 45 = .ok (.getfield 37, 3) := by decide +kernel
theorem dX13_readBeats_48 : decode cX13_readBeats 48 = .ok (.iconst 2, 1) := by decide +kernel
theorem dX13_readBeats_49 : decode cX13_readBeats 49 = .ok (.if_icmp .eq (-11), 3) := by decide +kernel
theorem dX13_readBeats_52 : decode cX13_readBeats 52 = .ok (.aload_n 0, 1) := by decide +kernel
theorem dX13_readBeats_53 : decode cX13_readBeats 53 = .ok (.aload_n 0, 1) := by decide +kernel
theorem dX13_readBeats_54 : decode cX13_readBeats 54 = .ok (.getfield 37, 3) := by decide +kernel
theorem dX13_readBeats_57 : decode cX13_readBeats 57 = .ok (.iconst 3, 1) := by decide +kernel
theorem dX13_readBeats_58 : decode cX13_readBeats 58 = .ok (.if_icmp .ne 7, 3) := by decide +kernel
theorem dX13_readBeats_61 : decode cX13_readBeats 61 = .ok (.iconst 1, 1) := by decide +kernel
theorem dX13_readBeats_62 : decode cX13_readBeats 62 = .ok (.goto 4, 3) := by decide +kernel
theorem dX13_readBeats_65 : decode cX13_readBeats 65 = .ok (.iconst 0, 1) := by decide +kernel
theorem dX13_readBeats_66 : decode cX13_readBeats 66 = .ok (.iconst 1, 1) := by decide +kernel
theorem dX13_readBeats_67 : decode cX13_readBeats 67 = .ok (.invokevirtual 63, 3) := by decide +kernel
theorem dX13_readBeats_70 : decode cX13_readBeats 70 = .ok (.aload_n 0, 1) := by decide +kernel
theorem dX13_readBeats_71 : decode cX13_readBeats 71 = .ok (.invokevirtual 71, 3) := by decide +kernel
theorem dX13_readBeats_74 : decode cX13_readBeats 74 = .ok (.goto (-67), 3) := by decide +kernel
theorem dX13_readBeats_77 : decode cX13_readBeats 77 = .ok (.return_, 1) := by decide +kernel
theorem dX13_readManners_0 : decode cX13_readManners 0 = .ok (.aload_n 0, 1) := by decide +kernel
theorem dX13_readManners_1 : decode cX13_readManners 1 = .ok (.getfield 137, 3) := by decide +kernel
theorem dX13_readManners_4 : decode cX13_readManners 4 = .ok (.iconst 0, 1) := by decide +kernel
theorem dX13_readManners_5 : decode cX13_readManners 5 = .ok (.iconst 1, 1) := by decide +kernel
theorem dX13_readManners_6 : decode cX13_readManners 6 = .ok (.iastore, 1) := by decide +kernel
theorem dX13_readManners_7 : decode cX13_readManners 7 = .ok (.aload_n 0, 1) := by decide +kernel
theorem dX13_readManners_8 : decode cX13_readManners 8 = .ok (.getfield 137, 3) := by decide +kernel
theorem dX13_readManners_11 : decode cX13_readManners 11 = .ok (.iconst 1, 1) := by decide +kernel
theorem dX13_readManners_12 : decode cX13_readManners 12 = .ok (.iconst 4, 1) := by decide +kernel
theorem dX13_readManners_13 : decode cX13_readManners 13 = .ok (.iastore, 1) := by decide +kernel
theorem dX13_readManners_14 : decode cX13_readManners 14 = .ok (.aload_n 0, 1) := by decide +kernel
theorem dX13_readManners_15 : decode cX13_readManners 15 = .ok (.getfield 137, 3) := by decide +kernel
theorem dX13_readManners_18 : decode cX13_readManners 18 = .ok (.iconst 2, 1) := by decide +kernel
theorem dX13_readManners_19 : decode cX13_readManners 19 = .ok (.bipush 12, 2) := by decide +kernel
theorem dX13_readManners_21 : decode cX13_readManners 21 = .ok (.iastore, 1) := by decide +kernel
theorem dX13_readManners_22 : decode cX13_readManners 22 = .ok (.aload_n 0, 1) := by decide +kernel
theorem dX13_readManners_23 : decode cX13_readManners 23 = .ok (.getfield 137, 3) := by decide +kernel
theorem dX13_readManners_26 : decode cX13_readManners 26 = .ok (.iconst 3, 1) := by decide +kernel
theorem dX13_readManners_27 : decode cX13_readManners 27 = .ok (.iconst 1, 1) := by decide +kernel
theorem dX13_readManners_28 : decode cX13_readManners 28 = .ok (.iastore, 1) := by decide +kernel
theorem dX13_readManners_29 : decode cX13_readManners 29 = .ok (.iconst 0, 1) := by decide +kernel
theorem dX13_readManners_30 : decode cX13_readManners 30 = .ok (.istore_n 1, 1) := by decide +kernel
theorem dX13_readManners_31 : decode cX13_readManners 31 = .ok (.iload_n 1, 1) := by decide +kernel
theorem dX13_readManners_32 : decode cX13_readManners 32 = .ok (.iconst 4, 1) := by decide +kernel
theorem dX13_readManners_33 : decode cX13_readManners 33 = .ok (.if_icmp .ge 16, 3) := by decide +kernel
theorem dX13_readManners_36 : decode cX13_readManners 36 = .ok (.aload_n 0, 1) := by decide +kernel
theorem dX13_readManners_37 : decode cX13_readManners 37 = .ok (.getfield 143, 3) := by decide +kernel
theorem dX13_readManners_40 : decode cX13_readManners 40 = .ok (.iload_n 1, 1) := by decide +kernel
theorem dX13_readManners_41 : decode cX13_readManners 41 = .ok (.iconst 0, 1) := by decide +kernel
theorem dX13_readManners_42 : decode cX13_readManners 42 = .ok (.bastore, 1) := by decide +kernel
theorem dX13_readManners_43 : decode cX13_readManners 43 = .ok (.iinc 1 1, 3) := by decide +kernel
theorem dX13_readManners_46 : decode cX13_readManners 46 = .ok (.goto (-15), 3) := by decide +kernel
theorem dX13_readManners_49 : decode cX13_readManners 49 = .ok (.iconst 0, 1) := by decide +kernel
theorem dX13_readManners_50 : decode cX13_readManners 50 = .ok (.istore_n 1, 1) := by decide +kernel
theorem dX13_readManners_51 : decode cX13_readManners 51 = .ok (.aload_n 0, 1) := by decide +kernel
theorem dX13_readManners_52 : decode cX13_readManners 52 = .ok (.getfield 37, 3) := by decide +kernel
theorem dX13_readManners_55 : decode cX13_readManners 55 = .ok (.ifCond .eq 123, 3) := by decide +kernel
theorem dX13_readManners_58 : decode cX13_readManners 58 = .ok (.aload_n 0, 1) := by decide +kernel
theorem dX13_readManners_59 : decode cX13_readManners 59 = .ok (.invokevirtual 258, 3) := by decide +kernel
theorem dX13_readManners_62 : decode cX13_readManners 62 = .ok (.istore_n 2, 1) := by decide +kernel
theorem dX13_readManners_63 : decode cX13_readManners 63 = .ok (.aload_n 0, 1) := by decide +kernel
theorem dX13_readManners_64 : decode cX13_readManners 64 = .ok (.iload_n 2, 1) := by decide +kernel
theorem dX13_readManners_65 : decode cX13_readManners 65 = .ok (.iconst (-1), 1) := by decide +kernel
theorem dX13_readManners_66 : decode cX13_readManners 66 = .ok (.if_icmp .eq 7, 3) := by decide +kernel
theorem dX13_readManners_69 : decode cX13_readManners 69 = .ok (.iconst 1, 1) := by decide +kernel
theorem dX13_readManners_70 : decode cX13_readManners 70 = .ok (.goto 4, 3) := by decide +kernel
theorem dX13_readManners_73 : decode cX13_readManners 73 = .ok (.iconst 0, 1) := by decide +kernel
theorem dX13_readManners_74 : decode cX13_readManners 74 = .ok (.iconst 1, 1) := by decide +kernel
theorem dX13_readManners_75 : decode cX13_readManners 75 = .ok (.invokevirtual 63, 3) := by decide +kernel
theorem dX13_readManners_78 : decode cX13_readManners 78 = .ok (.aload_n 0, 1) := by decide +kernel
theorem dX13_readManners_79 : decode cX13_readManners 79 = .ok (.aload_n 0, 1) := by decide +kernel
theorem dX13_readManners_80 : decode cX13_readManners 80 = .ok (.getfield 143, 3) := by decide +kernel
theorem dX13_readManners_83 : decode cX13_readManners 83 = .ok (.iload_n 2, 1) := by decide +kernel
theorem dX13_readManners_84 : decode cX13_readManners 84 = .ok (.baload, 1) := by decide +kernel
theorem dX13_readManners_85 : decode cX13_readManners 85 = .ok (.ifCond .ne 7, 3) := by decide +kernel
theorem dX13_readManners_88 : decode cX13_readManners 88 = .ok (.iconst 1, 1) := by decide +kernel
theorem dX13_readManners_89 : decode cX13_readManners 89 = .ok (.goto 4, 3) := by decide +kernel
theorem dX13_readManners_92 : decode cX13_readManners 92 = .ok (.iconst 0, 1) := by decide +kernel
theorem dX13_readManners_93 : decode cX13_readManners 93 = .ok (.iconst 3, 1) := by decide +kernel
theorem dX13_readManners_94 : decode cX13_readManners 94 = .ok (.invokevirtual 63, 3) := by decide +kernel
theorem dX13_readManners_97 : decode cX13_readManners 97 = .ok (.aload_n 0, 1) := by decide +kernel
theorem dX13_readManners_98 : decode cX13_readManners 98 = .ok (.getfield 143, 3) := by decide +kernel
theorem dX13_readManners_101 : decode cX13_readManners 101 = .ok (.iload_n 2, 1) := by decide +kernel
theorem dX13_readManners_102 : decode cX13_readManners 102 = .ok (.iconst 1, 1) := by decide +kernel
theorem dX13_readManners_103 : decode cX13_readManners 103 = .ok (.bastore, 1) := by decide +kernel
theorem dX13_readManners_104 : decode cX13_readManners 104 = .ok (.aload_n 0, 1) := by decide +kernel
theorem dX13_readManners_105 : decode cX13_readManners 105 = .ok (.invokevirtual 71, 3) := by decide +kernel
theorem dX13_readManners_108 : decode cX13_readManners 108 = .ok (.aload_n 0, 1) := by decide +kernel
theorem dX13_readManners_109 : decode cX13_readManners 109 = .ok (.getfield 137, 3) := by decide +kernel
theorem dX13_readManners_112 : decode cX13_readManners 112 = .ok (.iload_n 2, 1) := by decide +kernel
theorem dX13_readManners_113 : decode cX13_readManners 113 = .ok (.aload_n 0, 1) := by decide +kernel
theorem dX13_readManners_114 : decode cX13_readManners 114 = .ok (.iload_n 2, 1) := by decide +kernel
theorem dX13_readManners_115 : decode cX13_readManners 115 = .ok (.iconst 1, 1) := by decide +kernel
theorem dX13_readManners_116 : decode cX13_readManners 116 = .ok (.if_icmp .ne 7, 3) := by decide +kernel
theorem dX13_readManners_119 : decode cX13_readManners 119 = .ok (.iconst 1, 1) := by decide +kernel
theorem dX13_readManners_120 : decode cX13_readManners 120 = .ok (.goto 4, 3) := by decide +kernel
theorem dX13_readManners_123 : decode cX13_readManners 123 = .ok (.iconst 0, 1) := by decide +kernel
theorem dX13_readManners_124 : decode cX13_readManners 124 = .ok (.iload_n 2, 1) := by decide +kernel
theorem dX13_readManners_125 : decode cX13_readManners 125 = .ok (.iconst 1, 1) := by decide +kernel
theorem dX13_readManners_126 : decode cX13_readManners 126 = .ok (.if_icmp .ne 8, 3) := by decide +kernel
theorem dX13_readManners_129 : decode cX13_readManners 129 = .ok (.bipush 12, 2) := by decide +kernel
theorem dX13_readManners_131 : decode cX13_readManners 131 = .ok (.goto 15, 3) := by decide +kernel
theorem dX13_readManners_134 : decode cX13_readManners 134 = .ok (.iload_n 2, 1) := by decide +kernel
theorem dX13_readManners_135 : decode cX13_readManners 135 = .ok (.iconst 2, 1) := by decide +kernel
theorem dX13_readManners_136 : decode cX13_readManners 136 = .ok (.if_icmp .ne 8, 3) := by decide +kernel
theorem dX13_readManners_139 : decode cX13_readManners 139 = .ok (.bipush 47, 2) := by decide +kernel
theorem dX13_readManners_141 : decode cX13_readManners 141 = .ok (.goto 5, 3) := by decide +kernel
theorem dX13_readManners_144 : decode cX13_readManners 144 = .ok (.bipush 9, 2) := by decide +kernel
theorem dX13_readManners_146 : decode cX13_readManners 146 = .ok (.invokevirtual 87, 3) := by decide +kernel
theorem dX13_readManners_149 : decode cX13_readManners 149 = .ok (.iastore, 1) := by decide +kernel
theorem dX13_readManners_150 : decode cX13_readManners 150 = .ok (.aload_n 0, 1) := by decide +kernel
theorem dX13_readManners_151 : decode cX13_readManners 151 = .ok (.aload_n 0, 1) := by decide +kernel
theorem dX13_readManners_152 : decode cX13_readManners 152 = .ok (.getfield 37, 3) := by decide +kernel
theorem dX13_readManners_155 : decode cX13_readManners 155 = .ok (.iconst 3, 1) := by decide +kernel
theorem dX13_readManners_156 : decode cX13_readManners 156 = .ok (.if_icmp .ne 7, 3) := by decide +kernel
theorem dX13_readManners_159 : decode cX13_readManners 159 = .ok (.iconst 1, 1) := by decide +kernel
theorem dX13_readManners_160 : decode cX13_readManners 160 = .ok (.goto 4, 3) := by decide +kernel
theorem dX13_readManners_163 : decode cX13_readManners 163 = .ok (.iconst 0, 1) := by decide +kernel
theorem dX13_readManners_164 : decode cX13_readManners 164 = .ok (.iconst 1, 1) := by decide +kernel
theorem dX13_readManners_165 : decode cX13_readManners 165 = .ok (.invokevirtual 63, 3) := by decide +kernel
theorem dX13_readManners_168 : decode cX13_readManners 168 = .ok (.aload_n 0, 1) := by decide +kernel
theorem dX13_readManners_169 : decode cX13_readManners 169 = .ok (.invokevirtual 71, 3) := by decide +kernel
theorem dX13_readManners_172 : decode cX13_readManners 172 = .ok (.iinc 1 1, 3) := by decide +kernel
theorem dX13_readManners_175 : decode cX13_readManners 175 = .ok (.goto (-124), 3) := by decide +kernel
theorem dX13_readManners_178 : decode cX13_readManners 178 = .ok (.iload_n 1, 1) := by decide +kernel
theorem dX13_readManners_179 : decode cX13_readManners 179 = .ok (.ireturn, 1) := by decide +kernel
theorem dX13_score_0 : decode cX13_score 0 = .ok (.aload_n 0, 1) := by decide +kernel
theorem dX13_score_1 : decode cX13_score 1 = .ok (.invokevirtual 226, 3) := by decide +kernel
theorem dX13_score_4 : decode cX13_score 4 = .ok (.aload_n 0, 1) := by decide +kernel
theorem dX13_score_5 : decode cX13_score 5 = .ok (.iconst 1, 1) := by decide +kernel
theorem dX13_score_6 : decode cX13_score 6 = .ok (.invokevirtual 229, 3) := by decide +kernel
theorem dX13_score_9 : decode cX13_score 9 = .ok (.goto 6, 3) := by decide +kernel
theorem dX13_score_12 : decode cX13_score 12 = .ok (.astore_n 1, 1) := by decide +kernel
theorem dX13_score_13 : decode cX13_score 13 = .ok (.iconst (-1), 1) := by decide +kernel
theorem dX13_score_14 : decode cX13_score 14 = .ok (.ireturn, 1) := by decide +kernel
theorem dX13_score_15 : decode cX13_score 15 = .ok (.aload_n 0, 1) := by decide +kernel
theorem dX13_score_16 : decode cX13_score 16 = .ok (.aload_n 0, 1) := by decide +kernel
theorem dX13_score_17 : decode cX13_score 17 = .ok (.getfield 78, 3) := by decide +kernel
theorem dX13_score_20 : decode cX13_score 20 = .ok (.putfield 233, 3) := by decide +kernel
theorem dX13_score_23 : decode cX13_score 23 = .ok (.iconst 0, 1) := by decide +kernel
theorem dX13_score_24 : decode cX13_score 24 = .ok (.istore_n 1, 1) := by decide +kernel
theorem dX13_score_25 : decode cX13_score 25 = .ok (.iload_n 1, 1) := by decide +kernel
theorem dX13_score_26 : decode cX13_score 26 = .ok (.aload_n 0, 1) := by decide +kernel
theorem dX13_score_27 : decode cX13_score 27 = .ok (.getfield 233, 3) := by decide +kernel
theorem dX13_score_30 : decode cX13_score 30 = .ok (.if_icmp .ge 57, 3) := by decide +kernel
theorem dX13_score_33 : decode cX13_score 33 = .ok (.aload_n 0, 1) := by decide +kernel
theorem dX13_score_34 : decode cX13_score 34 = .ok (.getfield 125, 3) := by decide +kernel
theorem dX13_score_37 : decode cX13_score 37 = .ok (.iload_n 1, 1) := by decide +kernel
theorem dX13_score_38 : decode cX13_score 38 = .ok (.aload_n 0, 1) := by decide +kernel
theorem dX13_score_39 : decode cX13_score 39 = .ok (.getfield 94, 3) := by decide +kernel
theorem dX13_score_42 : decode cX13_score 42 = .ok (.iload_n 1, 1) := by decide +kernel
theorem dX13_score_43 : decode cX13_score 43 = .ok (.iaload, 1) := by decide +kernel
theorem dX13_score_44 : decode cX13_score 44 = .ok (.iastore, 1) := by decide +kernel
theorem dX13_score_45 : decode cX13_score 45 = .ok (.aload_n 0, 1) := by decide +kernel
theorem dX13_score_46 : decode cX13_score 46 = .ok (.getfield 128, 3) := by decide +kernel
theorem dX13_score_49 : decode cX13_score 49 = .ok (.iload_n 1, 1) := by decide +kernel
theorem dX13_score_50 : decode cX13_score 50 = .ok (.aload_n 0, 1) := by decide +kernel
theorem dX13_score_51 : decode cX13_score 51 = .ok (.getfield 98, 3) := by decide +kernel
theorem dX13_score_54 : decode cX13_score 54 = .ok (.iload_n 1, 1) := by decide +kernel
theorem dX13_score_55 : decode cX13_score 55 = .ok (.iaload, 1) := by decide +kernel
theorem dX13_score_56 : decode cX13_score 56 = .ok (.iastore, 1) := by decide +kernel
theorem dX13_score_57 : decode cX13_score 57 = .ok (.aload_n 0, 1) := by decide +kernel
theorem dX13_score_58 : decode cX13_score 58 = .ok (.getfield 131, 3) := by decide +kernel
theorem dX13_score_61 : decode cX13_score 61 = .ok (.iload_n 1, 1) := by decide +kernel
theorem dX13_score_62 : decode cX13_score 62 = .ok (.aload_n 0, 1) := by decide +kernel
theorem dX13_score_63 : decode cX13_score 63 = .ok (.getfield 107, 3) := by decide +kernel
theorem dX13_score_66 : decode cX13_score 66 = .ok (.iload_n 1, 1) := by decide +kernel
theorem dX13_score_67 : decode cX13_score 67 = .ok (.iaload, 1) := by decide +kernel
theorem dX13_score_68 : decode cX13_score 68 = .ok (.iastore, 1) := by decide +kernel
theorem dX13_score_69 : decode cX13_score 69 = .ok (.aload_n 0, 1) := by decide +kernel
theorem dX13_score_70 : decode cX13_score 70 = .ok (.getfield 134, 3) := by decide +kernel
theorem dX13_score_73 : decode cX13_score 73 = .ok (.iload_n 1, 1) := by decide +kernel
theorem dX13_score_74 : decode cX13_score 74 = .ok (.aload_n 0, 1) := by decide +kernel
theorem dX13_score_75 : decode cX13_score 75 = .ok (.getfield 110, 3) := by decide +kernel
theorem dX13_score_78 : decode cX13_score 78 = .ok (.iload_n 1, 1) := by decide +kernel
theorem dX13_score_79 : decode cX13_score 79 = .ok (.iaload, 1) := by decide +kernel
theorem dX13_score_80 : decode cX13_score 80 = .ok (.iastore, 1) := by decide +kernel
theorem dX13_score_81 : decode cX13_score 81 = .ok (.iinc 1 1, 3) := by decide +kernel
theorem dX13_score_84 : decode cX13_score 84 = .ok (.goto (-59), 3) := by decide +kernel
theorem dX13_score_87 : decode cX13_score 87 = .ok (.aload_n 0, 1) := by decide +kernel
theorem dX13_score_88 : decode cX13_score 88 = .ok (.iconst 0, 1) := by decide +kernel
theorem dX13_score_89 : decode cX13_score 89 = .ok (.putfield 236, 3) := by decide +kernel
theorem dX13_score_92 : decode cX13_score 92 = .ok (.aload_n 0, 1) := by decide +kernel
theorem dX13_score_93 : decode cX13_score 93 = .ok (.iconst 0, 1) := by decide +kernel
theorem dX13_score_94 : decode cX13_score 94 = .ok (.putfield 240, 3) := by decide +kernel
theorem dX13_score_97 : decode cX13_score 97 = .ok (.aload_n 0, 1) := by decide +kernel
theorem dX13_score_98 : decode cX13_score 98 = .ok (.iconst 0, 1) := by decide +kernel
theorem dX13_score_99 : decode cX13_score 99 = .ok (.putfield 243, 3) := by decide +kernel
theorem dX13_score_102 : decode cX13_score 102 = .ok (.aload_n 0, 1) := by decide +kernel
theorem dX13_score_103 : decode cX13_score 103 = .ok (.iconst 0, 1) := by decide +kernel
theorem dX13_score_104 : decode cX13_score 104 = .ok (.putfield 246, 3) := by decide +kernel
theorem dX13_score_107 : decode cX13_score 107 = .ok (.aload_n 0, 1) := by decide +kernel
theorem dX13_score_108 : decode cX13_score 108 = .ok (.iconst 0, 1) := by decide +kernel
theorem dX13_score_109 : decode cX13_score 109 = .ok (.putfield 249, 3) := by decide +kernel
theorem dX13_score_112 : decode cX13_score 112 = .ok (.aload_n 0, 1) := by decide +kernel
theorem dX13_score_113 : decode cX13_score 113 = .ok (.getfield 233, 3) := by decide +kernel
theorem dX13_score_116 : decode cX13_score 116 = .ok (.ireturn, 1) := by decide +kernel
theorem dX13_manners_0 : decode cX13_manners 0 = .ok (.aload_n 0, 1) := by decide +kernel
theorem dX13_manners_1 : decode cX13_manners 1 = .ok (.invokevirtual 226, 3) := by decide +kernel
theorem dX13_manners_4 : decode cX13_manners 4 = .ok (.aload_n 0, 1) := by decide +kernel
theorem dX13_manners_5 : decode cX13_manners 5 = .ok (.invokevirtual 261, 3) := by decide +kernel
theorem dX13_manners_8 : decode cX13_manners 8 = .ok (.istore_n 1, 1) := by decide +kernel
theorem dX13_manners_9 : decode cX13_manners 9 = .ok (.goto 6, 3) := by decide +kernel
theorem dX13_manners_12 : decode cX13_manners 12 = .ok (.astore_n 2, 1) := by decide +kernel
theorem dX13_manners_13 : decode cX13_manners 13 = .ok (.iconst (-1), 1) := by decide +kernel
theorem dX13_manners_14 : decode cX13_manners 14 = .ok (.ireturn, 1) := by decide +kernel
theorem dX13_manners_15 : decode cX13_manners 15 = .ok (.iconst 0, 1) := by decide +kernel
theorem dX13_manners_16 : decode cX13_manners 16 = .ok (.istore_n 2, 1) := by decide +kernel
theorem dX13_manners_17 : decode cX13_manners 17 = .ok (.iload_n 2, 1) := by decide +kernel
theorem dX13_manners_18 : decode cX13_manners 18 = .ok (.iconst 4, 1) := by decide +kernel
theorem dX13_manners_19 : decode cX13_manners 19 = .ok (.if_icmp .ge 21, 3) := by decide +kernel
theorem dX13_manners_22 : decode cX13_manners 22 = .ok (.aload_n 0, 1) := by decide +kernel
theorem dX13_manners_23 : decode cX13_manners 23 = .ok (.getfield 140, 3) := by decide +kernel
theorem dX13_manners_26 : decode cX13_manners 26 = .ok (.iload_n 2, 1) := by decide +kernel
theorem dX13_manners_27 : decode cX13_manners 27 = .ok (.aload_n 0, 1) := by decide +kernel
theorem dX13_manners_28 : decode cX13_manners 28 = .ok (.getfield 137, 3) := by decide +kernel
theorem dX13_manners_31 : decode cX13_manners 31 = .ok (.iload_n 2, 1) := by decide +kernel
theorem dX13_manners_32 : decode cX13_manners 32 = .ok (.iaload, 1) := by decide +kernel
theorem dX13_manners_33 : decode cX13_manners 33 = .ok (.iastore, 1) := by decide +kernel
theorem dX13_manners_34 : decode cX13_manners 34 = .ok (.iinc 2 1, 3) := by decide +kernel
theorem dX13_manners_37 : decode cX13_manners 37 = .ok (.goto (-20), 3) := by decide +kernel
theorem dX13_manners_40 : decode cX13_manners 40 = .ok (.aload_n 0, 1) := by decide +kernel
theorem dX13_manners_41 : decode cX13_manners 41 = .ok (.iconst 0, 1) := by decide +kernel
theorem dX13_manners_42 : decode cX13_manners 42 = .ok (.putfield 240, 3) := by decide +kernel
theorem dX13_manners_45 : decode cX13_manners 45 = .ok (.iload_n 1, 1) := by decide +kernel
theorem dX13_manners_46 : decode cX13_manners 46 = .ok (.ireturn, 1) := by decide +kernel
theorem dX13_heard_0 : decode cX13_heard 0 = .ok (.aload_n 0, 1) := by decide +kernel
theorem dX13_heard_1 : decode cX13_heard 1 = .ok (.invokevirtual 226, 3) := by decide +kernel
theorem dX13_heard_4 : decode cX13_heard 4 = .ok (.aload_n 0, 1) := by decide +kernel
theorem dX13_heard_5 : decode cX13_heard 5 = .ok (.iconst 0, 1) := by decide +kernel
theorem dX13_heard_6 : decode cX13_heard 6 = .ok (.invokevirtual 229, 3) := by decide +kernel
theorem dX13_heard_9 : decode cX13_heard 9 = .ok (.goto 6, 3) := by decide +kernel
theorem dX13_heard_12 : decode cX13_heard 12 = .ok (.astore_n 1, 1) := by decide +kernel
theorem dX13_heard_13 : decode cX13_heard 13 = .ok (.iconst (-1), 1) := by decide +kernel
theorem dX13_heard_14 : decode cX13_heard 14 = .ok (.ireturn, 1) := by decide +kernel
theorem dX13_heard_15 : decode cX13_heard 15 = .ok (.aload_n 0, 1) := by decide +kernel
theorem dX13_heard_16 : decode cX13_heard 16 = .ok (.aload_n 0, 1) := by decide +kernel
theorem dX13_heard_17 : decode cX13_heard 17 = .ok (.getfield 78, 3) := by decide +kernel
theorem dX13_heard_20 : decode cX13_heard 20 = .ok (.putfield 378, 3) := by decide +kernel
theorem dX13_heard_23 : decode cX13_heard 23 = .ok (.iconst 0, 1) := by decide +kernel
theorem dX13_heard_24 : decode cX13_heard 24 = .ok (.istore_n 1, 1) := by decide +kernel
theorem dX13_heard_25 : decode cX13_heard 25 = .ok (.iload_n 1, 1) := by decide +kernel
theorem dX13_heard_26 : decode cX13_heard 26 = .ok (.aload_n 0, 1) := by decide +kernel
theorem dX13_heard_27 : decode cX13_heard 27 = .ok (.getfield 378, 3) := by decide +kernel
theorem dX13_heard_30 : decode cX13_heard 30 = .ok (.if_icmp .ge 40, 3) := by decide +kernel
theorem dX13_heard_33 : decode cX13_heard 33 = .ok (.aload_n 0, 1) := by decide +kernel
theorem dX13_heard_34 : decode cX13_heard 34 = .ok (.getfield 190, 3) := by decide +kernel
theorem dX13_heard_37 : decode cX13_heard 37 = .ok (.iload_n 1, 1) := by decide +kernel
theorem dX13_heard_38 : decode cX13_heard 38 = .ok (.aload_n 0, 1) := by decide +kernel
theorem dX13_heard_39 : decode cX13_heard 39 = .ok (.getfield 94, 3) := by decide +kernel
theorem dX13_heard_42 : decode cX13_heard 42 = .ok (.iload_n 1, 1) := by decide +kernel
theorem dX13_heard_43 : decode cX13_heard 43 = .ok (.iaload, 1) := by decide +kernel
theorem dX13_heard_44 : decode cX13_heard 44 = .ok (.iastore, 1) := by decide +kernel
theorem dX13_heard_45 : decode cX13_heard 45 = .ok (.aload_n 0, 1) := by decide +kernel
theorem dX13_heard_46 : decode cX13_heard 46 = .ok (.getfield 193, 3) := by decide +kernel
theorem dX13_heard_49 : decode cX13_heard 49 = .ok (.iload_n 1, 1) := by decide +kernel
theorem dX13_heard_50 : decode cX13_heard 50 = .ok (.aload_n 0, 1) := by decide +kernel
theorem dX13_heard_51 : decode cX13_heard 51 = .ok (.getfield 98, 3) := by decide +kernel
theorem dX13_heard_54 : decode cX13_heard 54 = .ok (.iload_n 1, 1) := by decide +kernel
theorem dX13_heard_55 : decode cX13_heard 55 = .ok (.iaload, 1) := by decide +kernel
theorem dX13_heard_56 : decode cX13_heard 56 = .ok (.iastore, 1) := by decide +kernel
theorem dX13_heard_57 : decode cX13_heard 57 = .ok (.aload_n 0, 1) := by decide +kernel
theorem dX13_heard_58 : decode cX13_heard 58 = .ok (.getfield 202, 3) := by decide +kernel
theorem dX13_heard_61 : decode cX13_heard 61 = .ok (.iload_n 1, 1) := by decide +kernel
theorem dX13_heard_62 : decode cX13_heard 62 = .ok (.iconst 0, 1) := by decide +kernel
theorem dX13_heard_63 : decode cX13_heard 63 = .ok (.bastore, 1) := by decide +kernel
theorem dX13_heard_64 : decode cX13_heard 64 = .ok (.iinc 1 1, 3) := by decide +kernel
theorem dX13_heard_67 : decode cX13_heard 67 = .ok (.goto (-42), 3) := by decide +kernel
theorem dX13_heard_70 : decode cX13_heard 70 = .ok (.aload_n 0, 1) := by decide +kernel
theorem dX13_heard_71 : decode cX13_heard 71 = .ok (.getfield 233, 3) := by decide +kernel
theorem dX13_heard_74 : decode cX13_heard 74 = .ok (.istore_n 1, 1) := by decide +kernel
theorem dX13_heard_75 : decode cX13_heard 75 = .ok (.iload_n 1, 1) := by decide +kernel
theorem dX13_heard_76 : decode cX13_heard 76 = .ok (.ifCond .lt 71, 3) := by decide +kernel
theorem dX13_heard_79 : decode cX13_heard 79 = .ok (.aload_n 0, 1) := by decide +kernel
theorem dX13_heard_80 : decode cX13_heard 80 = .ok (.getfield 378, 3) := by decide +kernel
theorem dX13_heard_83 : decode cX13_heard 83 = .ok (.istore_n 2, 1) := by decide +kernel
theorem dX13_heard_84 : decode cX13_heard 84 = .ok (.iload_n 2, 1) := by decide +kernel
theorem dX13_heard_85 : decode cX13_heard 85 = .ok (.ifCond .lt 56, 3) := by decide +kernel
theorem dX13_heard_88 : decode cX13_heard 88 = .ok (.aload_n 0, 1) := by decide +kernel
theorem dX13_heard_89 : decode cX13_heard 89 = .ok (.iload_n 1, 1) := by decide +kernel
theorem dX13_heard_90 : decode cX13_heard 90 = .ok (.iload_n 2, 1) := by decide +kernel
theorem dX13_heard_91 : decode cX13_heard 91 = .ok (.invokevirtual 387, 3) := by decide +kernel
theorem dX13_heard_94 : decode cX13_heard 94 = .ok (.aload_n 0, 1) := by decide +kernel
theorem dX13_heard_95 : decode cX13_heard 95 = .ok (.iload_n 1, 1) := by decide +kernel
theorem dX13_heard_96 : decode cX13_heard 96 = .ok (.iload_n 2, 1) := by decide +kernel
theorem dX13_heard_97 : decode cX13_heard 97 = .ok (.invokevirtual 390, 3) := by decide +kernel
theorem dX13_heard_100 : decode cX13_heard 100 = .ok (.aload_n 0, 1) := by decide +kernel
theorem dX13_heard_101 : decode cX13_heard 101 = .ok (.iload_n 1, 1) := by decide +kernel
theorem dX13_heard_102 : decode cX13_heard 102 = .ok (.iload_n 2, 1) := by decide +kernel
theorem dX13_heard_103 : decode cX13_heard 103 = .ok (.invokevirtual 393, 3) := by decide +kernel
theorem dX13_heard_106 : decode cX13_heard 106 = .ok (.invokestatic 266, 3) := by decide +kernel
theorem dX13_heard_109 : decode cX13_heard 109 = .ok (.invokestatic 266, 3) := by decide +kernel
theorem dX13_heard_112 : decode cX13_heard 112 = .ok (.istore_n 3, 1) := by decide +kernel
theorem dX13_heard_113 : decode cX13_heard 113 = .ok (.aload_n 0, 1) := by decide +kernel
theorem dX13_heard_114 : decode cX13_heard 114 = .ok (.getfield 199, 3) := by decide +kernel
theorem dX13_heard_117 : decode cX13_heard 117 = .ok (.iload_n 1, 1) := by decide +kernel
theorem dX13_heard_118 : decode cX13_heard 118 = .ok (.iload_n 2, 1) := by decide +kernel
theorem dX13_heard_119 : decode cX13_heard 119 = .ok (.invokestatic 384, 3) := by decide +kernel
theorem dX13_heard_122 : decode cX13_heard 122 = .ok (.iload_n 3, 1) := by decide +kernel
theorem dX13_heard_123 : decode cX13_heard 123 = .ok (.ldc_w 282, 3) := by decide +kernel
theorem dX13_heard_126 : decode cX13_heard 126 = .ok (.if_icmp .lt 7, 3) := by decide +kernel
theorem dX13_heard_129 : decode cX13_heard 129 = .ok (.iconst 0, 1) := by decide +kernel
theorem dX13_heard_130 : decode cX13_heard 130 = .ok (.goto 4, 3) := by decide +kernel
theorem dX13_heard_133 : decode cX13_heard 133 = .ok (.iload_n 3, 1) := by decide +kernel
theorem dX13_heard_134 : decode cX13_heard 134 = .ok (.iastore, 1) := by decide +kernel
theorem dX13_heard_135 : decode cX13_heard 135 = .ok (.iinc 2 (-1), 3) := by decide +kernel
theorem dX13_heard_138 : decode cX13_heard 138 = .ok (.goto (-54), 3) := by decide +kernel
theorem dX13_heard_141 : decode cX13_heard 141 = .ok (.iinc 1 (-1), 3) := by decide +kernel
theorem dX13_heard_144 : decode cX13_heard 144 = .ok (.goto (-69), 3) := by decide +kernel
theorem dX13_heard_147 : decode cX13_heard 147 = .ok (.aload_n 0, 1) := by decide +kernel
theorem dX13_heard_148 : decode cX13_heard 148 = .ok (.iconst 0, 1) := by decide +kernel
theorem dX13_heard_149 : decode cX13_heard 149 = .ok (.putfield 396, 3) := by decide +kernel
theorem dX13_heard_152 : decode cX13_heard 152 = .ok (.iconst 0, 1) := by decide +kernel
theorem dX13_heard_153 : decode cX13_heard 153 = .ok (.istore_n 1, 1) := by decide +kernel
theorem dX13_heard_154 : decode cX13_heard 154 = .ok (.iconst 0, 1) := by decide +kernel
theorem dX13_heard_155 : decode cX13_heard 155 = .ok (.istore_n 2, 1) := by decide +kernel
theorem dX13_heard_156 : decode cX13_heard 156 = .ok (.iload_n 1, 1) := by decide +kernel
theorem dX13_heard_157 : decode cX13_heard 157 = .ok (.aload_n 0, 1) := by decide +kernel
theorem dX13_heard_158 : decode cX13_heard 158 = .ok (.getfield 233, 3) := by decide +kernel
theorem dX13_heard_161 : decode cX13_heard 161 = .ok (.if_icmp .lt 11, 3) := by decide +kernel
theorem dX13_heard_164 : decode cX13_heard 164 = .ok (.iload_n 2, 1) := by decide +kernel
theorem dX13_heard_165 : decode cX13_heard 165 = .ok (.aload_n 0, 1) := by decide +kernel
theorem dX13_heard_166 : decode cX13_heard 166 = .ok (.getfield 378, 3) := by decide +kernel
theorem dX13_heard_169 : decode cX13_heard 169 = .ok (.if_icmp .ge 86, 3) := by decide +kernel
theorem dX13_heard_172 : decode cX13_heard 172 = .ok (.aload_n 0, 1) := by decide +kernel
theorem dX13_heard_173 : decode cX13_heard 173 = .ok (.getfield 199, 3) := by decide +kernel
theorem dX13_heard_176 : decode cX13_heard 176 = .ok (.iload_n 1, 1) := by decide +kernel
theorem dX13_heard_177 : decode cX13_heard 177 = .ok (.iload_n 2, 1) := by decide +kernel
theorem dX13_heard_178 : decode cX13_heard 178 = .ok (.invokestatic 384, 3) := by decide +kernel
theorem dX13_heard_181 : decode cX13_heard 181 = .ok (.iaload, 1) := by decide +kernel
theorem dX13_heard_182 : decode cX13_heard 182 = .ok (.istore_n 3, 1) := by decide +kernel
theorem dX13_heard_183 : decode cX13_heard 183 = .ok (.aload_n 0, 1) := by decide +kernel
theorem dX13_heard_184 : decode cX13_heard 184 = .ok (.iload_n 1, 1) := by decide +kernel
theorem dX13_heard_185 : decode cX13_heard 185 = .ok (.iload_n 2, 1) := by decide +kernel
theorem dX13_heard_186 : decode cX13_heard 186 = .ok (.invokevirtual 387, 3) := by decide +kernel
theorem dX13_heard_189 : decode cX13_heard 189 = .ok (.iload_n 3, 1) := by decide +kernel
theorem dX13_heard_190 : decode cX13_heard 190 = .ok (.if_icmp .ne 19, 3) := by decide +kernel
theorem dX13_heard_193 : decode cX13_heard 193 = .ok (.aload_n 0, 1) := by decide +kernel
theorem dX13_heard_194 : decode cX13_heard 194 = .ok (.getfield 196, 3) := by decide +kernel
theorem dX13_heard_197 : decode cX13_heard 197 = .ok (.iload_n 1, 1) := by decide +kernel
theorem dX13_heard_198 : decode cX13_heard 198 = .ok (.iload_n 2, 1) := by decide +kernel
theorem dX13_heard_199 : decode cX13_heard 199 = .ok (.iastore, 1) := by decide +kernel
theorem dX13_heard_200 : decode cX13_heard 200 = .ok (.iinc 1 1, 3) := by decide +kernel
theorem dX13_heard_203 : decode cX13_heard 203 = .ok (.iinc 2 1, 3) := by decide +kernel
theorem dX13_heard_206 : decode cX13_heard 206 = .ok (.goto 46, 3) := by decide +kernel
theorem dX13_heard_209 : decode cX13_heard 209 = .ok (.aload_n 0, 1) := by decide +kernel
theorem dX13_heard_210 : decode cX13_heard 210 = .ok (.iload_n 1, 1) := by decide +kernel
theorem dX13_heard_211 : decode cX13_heard 211 = .ok (.iload_n 2, 1) := by decide +kernel
theorem dX13_heard_212 : decode cX13_heard 212 = .ok (.invokevirtual 390, 3) := by decide +kernel
theorem dX13_heard_215 : decode cX13_heard 215 = .ok (.iload_n 3, 1) := by decide +kernel
theorem dX13_heard_216 : decode cX13_heard 216 = .ok (.if_icmp .ne 16, 3) := by decide +kernel
theorem dX13_heard_219 : decode cX13_heard 219 = .ok (.aload_n 0, 1) := by decide +kernel
theorem dX13_heard_220 : decode cX13_heard 220 = .ok (.getfield 196, 3) := by decide +kernel
theorem dX13_heard_223 : decode cX13_heard 223 = .ok (.iload_n 1, 1) := by decide +kernel
theorem dX13_heard_224 : decode cX13_heard 224 = .ok (.iconst (-1), 1) := by decide +kernel
theorem dX13_heard_225 : decode cX13_heard 225 = .ok (.iastore, 1) := by decide +kernel
theorem dX13_heard_226 : decode cX13_heard 226 = .ok (.iinc 1 1, 3) := by decide +kernel
theorem dX13_heard_229 : decode cX13_heard 229 = .ok (.goto 23, 3) := by decide +kernel
theorem dX13_heard_232 : decode cX13_heard 232 = .ok (.aload_n 0, 1) := by decide +kernel
theorem dX13_heard_233 : decode cX13_heard 233 = .ok (.getfield 202, 3) := by decide +kernel
theorem dX13_heard_236 : decode cX13_heard 236 = .ok (.iload_n 2, 1) := by decide +kernel
theorem dX13_heard_237 : decode cX13_heard 237 = .ok (.iconst 1, 1) := by decide +kernel
theorem dX13_heard_238 : decode cX13_heard 238 = .ok (.bastore, 1) := by decide +kernel
theorem dX13_heard_239 : decode cX13_heard 239 = .ok (.aload_n 0, 1) := by decide +kernel
theorem dX13_heard_240 : decode cX13_heard 240 = .ok (.dup, 1) := by decide +kernel
theorem dX13_heard_241 : decode cX13_heard 241 = .ok (.getfield 396, 3) := by decide +kernel
theorem dX13_heard_244 : decode cX13_heard 244 = .ok (.iconst 1, 1) := by decide +kernel
theorem dX13_heard_245 : decode cX13_heard 245 = .ok (.iadd, 1) := by decide +kernel
theorem dX13_heard_246 : decode cX13_heard 246 = .ok (.putfield 396, 3) := by decide +kernel
theorem dX13_heard_249 : decode cX13_heard 249 = .ok (.iinc 2 1, 3) := by decide +kernel
theorem dX13_heard_252 : decode cX13_heard 252 = .ok (.goto (-96), 3) := by decide +kernel
theorem dX13_heard_255 : decode cX13_heard 255 = .ok (.aload_n 0, 1) := by decide +kernel
theorem dX13_heard_256 : decode cX13_heard 256 = .ok (.iconst 1, 1) := by decide +kernel
theorem dX13_heard_257 : decode cX13_heard 257 = .ok (.putfield 246, 3) := by decide +kernel
theorem dX13_heard_260 : decode cX13_heard 260 = .ok (.aload_n 0, 1) := by decide +kernel
theorem dX13_heard_261 : decode cX13_heard 261 = .ok (.getfield 199, 3) := by decide +kernel
theorem dX13_heard_264 : decode cX13_heard 264 = .ok (.iconst 0, 1) := by decide +kernel
theorem dX13_heard_265 : decode cX13_heard 265 = .ok (.iaload, 1) := by decide +kernel
theorem dX13_heard_266 : decode cX13_heard 266 = .ok (.ireturn, 1) := by decide +kernel
abbrev mX13_wrong : MI := (yX13_wrong, cX13_wrong, 2, some (.object "BellTableModel$Stop"), 1, 21, [])
abbrev mX13_need : MI := (yX13_need, cX13_need, 3, none, 2, 42, [])
abbrev mX13_look : MI := (yX13_look, cX13_look, 3, some .int, 3, 64, [])
abbrev mX13_number : MI := (yX13_number, cX13_number, 4, some .int, 4, 86, [])
abbrev mX13_readStroke : MI := (yX13_readStroke, cX13_readStroke, 7, none, 6, 129, [])
abbrev mX13_readBeats : MI := (yX13_readBeats, cX13_readBeats, 3, none, 7, 155, [])
abbrev mX13_readManners : MI := (yX13_readManners, cX13_readManners, 3, some .int, 7, 149, [])
abbrev mX13_score : MI := (yX13_score, cX13_score, 2, some .int, 8, 177, [(0, 9, 12, 122)])
abbrev mX13_manners : MI := (yX13_manners, cX13_manners, 3, some .int, 8, 171, [(0, 9, 12, 122)])
abbrev mX13_heard : MI := (yX13_heard, cX13_heard, 4, some .int, 8, 177, [(0, 9, 12, 122)])
theorem kB_9 : (Int8.ofInt 9).toInt32 = 9 := by decide
theorem kB_47 : (Int8.ofInt 47).toInt32 = 47 := by decide
theorem fk_X13_19 : Fk RX13 19 13 0 := ⟨RX13, TX13, 66, tyX13, rfl, inX13, by decide, lw_in (i := 1157) (by decide +kernel) (by decide +kernel), tyX13_ok, nmX13⟩
theorem fk_X13_78 : Fk RX13 78 13 11 := ⟨RX13, TX13, 66, tyX13, rfl, inX13, by decide, lw_in (i := 1168) (by decide +kernel) (by decide +kernel), tyX13_ok, nmX13⟩
theorem fk_X13_94 : Fk RX13 94 13 16 := ⟨RX13, TX13, 66, tyX13, rfl, inX13, by decide, lw_in (i := 1173) (by decide +kernel) (by decide +kernel), tyX13_ok, nmX13⟩
theorem fk_X13_98 : Fk RX13 98 13 17 := ⟨RX13, TX13, 66, tyX13, rfl, inX13, by decide, lw_in (i := 1174) (by decide +kernel) (by decide +kernel), tyX13_ok, nmX13⟩
theorem fk_X13_110 : Fk RX13 110 13 19 := ⟨RX13, TX13, 66, tyX13, rfl, inX13, by decide, lw_in (i := 1176) (by decide +kernel) (by decide +kernel), tyX13_ok, nmX13⟩
theorem fk_X13_137 : Fk RX13 137 13 20 := ⟨RX13, TX13, 66, tyX13, rfl, inX13, by decide, lw_in (i := 1177) (by decide +kernel) (by decide +kernel), tyX13_ok, nmX13⟩
theorem fk_X13_143 : Fk RX13 143 13 22 := ⟨RX13, TX13, 66, tyX13, rfl, inX13, by decide, lw_in (i := 1179) (by decide +kernel) (by decide +kernel), tyX13_ok, nmX13⟩
theorem fp_X13_10 : Fp 13 10 .int := ⟨RX13, TX13, 66, rfl, rfl, by decide +kernel⟩
theorem fp_X13_11 : Fp 13 11 .int := ⟨RX13, TX13, 66, rfl, rfl, by decide +kernel⟩
theorem fp_X13_45 : Fp 13 45 .int := ⟨RX13, TX13, 66, rfl, rfl, by decide +kernel⟩
theorem fp_X13_46 : Fp 13 46 .int := ⟨RX13, TX13, 66, rfl, rfl, by decide +kernel⟩
theorem fp_X13_52 : Fp 13 52 .boolean := ⟨RX13, TX13, 66, rfl, rfl, by decide +kernel⟩
theorem mv_X13_begin : MkV mX13_begin := ⟨lw_in (i := 1362) (by decide +kernel) (by decide +kernel), lw_se (i := 50) (by decide +kernel) (by decide +kernel)⟩
theorem mv_X13_look : MkV mX13_look := ⟨lw_in (i := 1403) (by decide +kernel) (by decide +kernel), lw_se (i := 58) (by decide +kernel) (by decide +kernel)⟩
theorem mv_X13_missedFrom : MkV mX13_missedFrom := ⟨lw_in (i := 1616) (by decide +kernel) (by decide +kernel), lw_se (i := 87) (by decide +kernel) (by decide +kernel)⟩
theorem mv_X13_moreFrom : MkV mX13_moreFrom := ⟨lw_in (i := 1620) (by decide +kernel) (by decide +kernel), lw_se (i := 88) (by decide +kernel) (by decide +kernel)⟩
theorem mv_X13_need : MkV mX13_need := ⟨lw_in (i := 1391) (by decide +kernel) (by decide +kernel), lw_se (i := 55) (by decide +kernel) (by decide +kernel)⟩
theorem mv_X13_number : MkV mX13_number := ⟨lw_in (i := 1399) (by decide +kernel) (by decide +kernel), lw_se (i := 57) (by decide +kernel) (by decide +kernel)⟩
theorem mv_X13_pairFrom : MkV mX13_pairFrom := ⟨lw_in (i := 1605) (by decide +kernel) (by decide +kernel), lw_se (i := 85) (by decide +kernel) (by decide +kernel)⟩
theorem mv_X13_readBeats : MkV mX13_readBeats := ⟨lw_in (i := 1380) (by decide +kernel) (by decide +kernel), lw_se (i := 53) (by decide +kernel) (by decide +kernel)⟩
theorem mv_X13_readManners : MkV mX13_readManners := ⟨lw_in (i := 1418) (by decide +kernel) (by decide +kernel), lw_se (i := 60) (by decide +kernel) (by decide +kernel)⟩
theorem mv_X13_readStroke : MkV mX13_readStroke := ⟨lw_in (i := 1407) (by decide +kernel) (by decide +kernel), lw_se (i := 59) (by decide +kernel) (by decide +kernel)⟩
theorem mv_X13_ruleAtHand : MkV mX13_ruleAtHand := ⟨lw_in (i := 1422) (by decide +kernel) (by decide +kernel), lw_se (i := 61) (by decide +kernel) (by decide +kernel)⟩
theorem mv_X13_wrong : MkV mX13_wrong := ⟨lw_in (i := 1395) (by decide +kernel) (by decide +kernel), lw_se (i := 56) (by decide +kernel) (by decide +kernel)⟩
theorem mk_X13_59 : Mk RX13 59 mX13_wrong 1 := ⟨lw_in (i := 1393) (by decide +kernel) (by decide +kernel), lw_in (i := 14) (by decide +kernel) (by decide +kernel), lw_in (i := 1396) (by decide +kernel) (by decide +kernel), by decide +kernel⟩
theorem mk_X13_63 : Mk RX13 63 mX13_need 2 := ⟨lw_in (i := 1389) (by decide +kernel) (by decide +kernel), lw_in (i := 14) (by decide +kernel) (by decide +kernel), lw_in (i := 1392) (by decide +kernel) (by decide +kernel), by decide +kernel⟩
theorem mk_X13_67 : Mk RX13 67 mX13_look 2 := ⟨lw_in (i := 1401) (by decide +kernel) (by decide +kernel), lw_in (i := 14) (by decide +kernel) (by decide +kernel), lw_in (i := 1404) (by decide +kernel) (by decide +kernel), by decide +kernel⟩
theorem mk_X13_87 : Mk RX13 87 mX13_number 2 := ⟨lw_in (i := 1397) (by decide +kernel) (by decide +kernel), lw_in (i := 14) (by decide +kernel) (by decide +kernel), lw_in (i := 1400) (by decide +kernel) (by decide +kernel), by decide +kernel⟩
theorem mk_X13_90 : Mk RX13 90 mX13_readStroke 2 := ⟨lw_in (i := 1405) (by decide +kernel) (by decide +kernel), lw_in (i := 14) (by decide +kernel) (by decide +kernel), lw_in (i := 1408) (by decide +kernel) (by decide +kernel), by decide +kernel⟩
theorem mk_X13_226 : Mk RX13 226 mX13_begin 0 := ⟨lw_in (i := 1360) (by decide +kernel) (by decide +kernel), lw_in (i := 14) (by decide +kernel) (by decide +kernel), lw_in (i := 1363) (by decide +kernel) (by decide +kernel), by decide +kernel⟩
theorem mk_X13_229 : Mk RX13 229 mX13_readBeats 1 := ⟨lw_in (i := 1378) (by decide +kernel) (by decide +kernel), lw_in (i := 14) (by decide +kernel) (by decide +kernel), lw_in (i := 1381) (by decide +kernel) (by decide +kernel), by decide +kernel⟩
theorem mk_X13_258 : Mk RX13 258 mX13_ruleAtHand 0 := ⟨lw_in (i := 1420) (by decide +kernel) (by decide +kernel), lw_in (i := 14) (by decide +kernel) (by decide +kernel), lw_in (i := 1423) (by decide +kernel) (by decide +kernel), by decide +kernel⟩
theorem mk_X13_261 : Mk RX13 261 mX13_readManners 0 := ⟨lw_in (i := 1416) (by decide +kernel) (by decide +kernel), lw_in (i := 14) (by decide +kernel) (by decide +kernel), lw_in (i := 1419) (by decide +kernel) (by decide +kernel), by decide +kernel⟩
theorem mk_X13_387 : Mk RX13 387 mX13_pairFrom 2 := ⟨lw_in (i := 1603) (by decide +kernel) (by decide +kernel), lw_in (i := 14) (by decide +kernel) (by decide +kernel), lw_in (i := 1606) (by decide +kernel) (by decide +kernel), by decide +kernel⟩
theorem mk_X13_390 : Mk RX13 390 mX13_missedFrom 2 := ⟨lw_in (i := 1614) (by decide +kernel) (by decide +kernel), lw_in (i := 14) (by decide +kernel) (by decide +kernel), lw_in (i := 1617) (by decide +kernel) (by decide +kernel), by decide +kernel⟩
theorem mk_X13_393 : Mk RX13 393 mX13_moreFrom 2 := ⟨lw_in (i := 1618) (by decide +kernel) (by decide +kernel), lw_in (i := 14) (by decide +kernel) (by decide +kernel), lw_in (i := 1621) (by decide +kernel) (by decide +kernel), by decide +kernel⟩
theorem rm_X13_heard_X13_begin : Rm mX13_heard mX13_begin := ⟨by decide, by decide⟩
theorem rm_X13_heard_X13_missedFrom : Rm mX13_heard mX13_missedFrom := ⟨by decide, by decide⟩
theorem rm_X13_heard_X13_moreFrom : Rm mX13_heard mX13_moreFrom := ⟨by decide, by decide⟩
theorem rm_X13_heard_X13_pairFrom : Rm mX13_heard mX13_pairFrom := ⟨by decide, by decide⟩
theorem rm_X13_heard_X13_place : Rm mX13_heard mX13_place := ⟨by decide, by decide⟩
theorem rm_X13_heard_X13_readBeats : Rm mX13_heard mX13_readBeats := ⟨by decide, by decide⟩
theorem rm_X13_look_X13_in : Rm mX13_look mX13_in := ⟨by decide, by decide⟩
theorem rm_X13_look_X13_need : Rm mX13_look mX13_need := ⟨by decide, by decide⟩
theorem rm_X13_manners_X13_begin : Rm mX13_manners mX13_begin := ⟨by decide, by decide⟩
theorem rm_X13_manners_X13_readManners : Rm mX13_manners mX13_readManners := ⟨by decide, by decide⟩
theorem rm_X13_need_X13_wrong : Rm mX13_need mX13_wrong := ⟨by decide, by decide⟩
theorem rm_X13_number_X13_look : Rm mX13_number mX13_look := ⟨by decide, by decide⟩
theorem rm_X13_number_X13_scan : Rm mX13_number mX13_scan := ⟨by decide, by decide⟩
theorem rm_X13_readBeats_X13_is : Rm mX13_readBeats mX13_is := ⟨by decide, by decide⟩
theorem rm_X13_readBeats_X13_need : Rm mX13_readBeats mX13_need := ⟨by decide, by decide⟩
theorem rm_X13_readBeats_X13_number : Rm mX13_readBeats mX13_number := ⟨by decide, by decide⟩
theorem rm_X13_readBeats_X13_readStroke : Rm mX13_readBeats mX13_readStroke := ⟨by decide, by decide⟩
theorem rm_X13_readBeats_X13_scan : Rm mX13_readBeats mX13_scan := ⟨by decide, by decide⟩
theorem rm_X13_readManners_X13_need : Rm mX13_readManners mX13_need := ⟨by decide, by decide⟩
theorem rm_X13_readManners_X13_number : Rm mX13_readManners mX13_number := ⟨by decide, by decide⟩
theorem rm_X13_readManners_X13_ruleAtHand : Rm mX13_readManners mX13_ruleAtHand := ⟨by decide, by decide⟩
theorem rm_X13_readManners_X13_scan : Rm mX13_readManners mX13_scan := ⟨by decide, by decide⟩
theorem rm_X13_readStroke_X13_is : Rm mX13_readStroke mX13_is := ⟨by decide, by decide⟩
theorem rm_X13_readStroke_X13_look : Rm mX13_readStroke mX13_look := ⟨by decide, by decide⟩
theorem rm_X13_readStroke_X13_need : Rm mX13_readStroke mX13_need := ⟨by decide, by decide⟩
theorem rm_X13_readStroke_X13_number : Rm mX13_readStroke mX13_number := ⟨by decide, by decide⟩
theorem rm_X13_readStroke_X13_scan : Rm mX13_readStroke mX13_scan := ⟨by decide, by decide⟩
theorem rm_X13_score_X13_begin : Rm mX13_score mX13_begin := ⟨by decide, by decide⟩
theorem rm_X13_score_X13_readBeats : Rm mX13_score mX13_readBeats := ⟨by decide, by decide⟩
section W_model7
variable {l : Launch} {D : va_G} {ad : Nat → Nat} {kA : Nat → ClassId} {M : Mem} {Q : Outcome → Mem → Prop}
theorem t_X13_wrong_0 {x1 : Int32} 
    (K1 : Q (.returned (some (.ref (ad 53)))) (sI (sI M 54 8 x1) 54 9 (gI M 54 4))) : Fw l D ad kA mX13_wrong 0 [some (.ref (ad 54)), some (.int x1)] [] M Q := by
  refine r_aload_n dX13_wrong_0 rfl ?_
  refine r_iload_n dX13_wrong_1 rfl ?_
  refine r_putI dX13_wrong_2 fs_54_8 fk_X13_9 fp_X13_8 ?_
  refine r_aload_n dX13_wrong_5 rfl ?_
  refine r_aload_n dX13_wrong_6 rfl ?_
  refine q_getI (v := gI M 54 4) dX13_wrong_7 fs_54_4 fk_X13_13 rfl ?_
  refine r_putI dX13_wrong_10 fs_54_9 fk_X13_16 fp_X13_9 ?_
  refine r_aload_n dX13_wrong_13 rfl ?_
  refine r_getR dX13_wrong_14 fs_54_0 fk_X13_19 ?_
  exact r_aret dX13_wrong_17 rfl K1
theorem en_X13_wrong {x1 : Int32} (K : Fw l D ad kA mX13_wrong 0 [some (.ref (ad 54)), some (.int x1)] [] M Q) : Cal l D ad kA mX13_wrong [.ref (ad 54), .int x1] M Q := Cal.of (by decide) rfl rfl (Nat.le_of_ble_eq_true rfl) K
theorem t_X13_need_0 {x1 : Int32} {x2 : Int32} 
    (K1 : (¬ (x1 = 0)) → Q (.returned none) M)
    (K2 : (x1 = 0) → Cal l D ad kA mX13_wrong [.ref (ad 54), .int x2] M (fun oc M2 => oc = .returned (some (.ref (ad 53))) ∧ Fw l D ad kA mX13_need 9 [none, none, none] [.ref (ad 53)] M2 Q)) : Fw l D ad kA mX13_need 0 [some (.ref (ad 54)), some (.int x1), some (.int x2)] [] M Q := by
  refine r_iload_n dX13_need_0 rfl ?_
  refine r_if_ne (tgt := 10) dX13_need_1 (by decide) (fun c1 => ?_) (fun c1 => ?_)
  · skip
    exact r_vret dX13_need_10 rfl (K1 c1)
  · skip
    refine r_aload_n dX13_need_4 rfl ?_
    refine r_iload_n dX13_need_5 rfl ?_
    exact r_callV (x := 54) (As := [.int x2]) (rest := []) dX13_need_6 mk_X13_59 mv_X13_wrong rm_X13_need_X13_wrong rfl rfl (by decide +kernel) (Nat.le_of_ble_eq_true rfl) (cal_r (lo' := [none, none, none]) trivial (K2 c1))
theorem t_X13_need_9  
    (K1 : Q (.threw (ad 53)) M) : Fw l D ad kA mX13_need 9 [none, none, none] [.ref (ad 53)] M Q := by
  exact r_athrow dX13_need_9 (r_throwOut rfl K1)
theorem en_X13_need {x1 : Int32} {x2 : Int32} (K : Fw l D ad kA mX13_need 0 [some (.ref (ad 54)), some (.int x1), some (.int x2)] [] M Q) : Cal l D ad kA mX13_need [.ref (ad 54), .int x1, .int x2] M Q := Cal.of (by decide) rfl rfl (Nat.le_of_ble_eq_true rfl) K
theorem t_X13_look_0 {x1 : Int32} {x2 : Int32} 
    (K1 : Cal l D ad kA mX13_need [.ref (ad 54), .int (if (gI M 54 6) = 2 then 1 else 0), .int 1] M (fun oc M2 => (oc = .returned none ∧ Fw l D ad kA mX13_look 18 [some (.ref (ad 54)), some (.int x1), some (.int x2)] [] M2 Q) ∨ (oc = .threw (ad 53) ∧ Q (.threw (ad 53)) M2))) : Fw l D ad kA mX13_look 0 [some (.ref (ad 54)), some (.int x1), some (.int x2)] [] M Q := by
  refine r_aload_n dX13_look_0 rfl ?_
  refine r_aload_n dX13_look_1 rfl ?_
  refine r_getI dX13_look_2 fs_54_6 fk_X13_37 ?_
  refine r_iconst (v := 2) dX13_look_5 kI_2 ?_
  suffices hJ1 : Fw l D ad kA mX13_look 14 [some (.ref (ad 54)), some (.int x1), some (.int x2)] [.int (if (gI M 54 6) = 2 then 1 else 0), .ref (ad 54)] M Q by
    refine r_icmp_ne (tgt := 13) dX13_look_6 (by decide) (fun c1 => ?_) (fun c1 => ?_)
    · skip
      refine r_iconst (v := 0) dX13_look_13 kI_0 ?_
      exact q_weak (lo' := [some (.ref (ad 54)), some (.int x1), some (.int x2)]) ⟨rfl, rfl, rfl, trivial⟩ (by have h9 := hJ1; simp only [if_neg c1] at h9; first | exact h9 | (simp only [if_neg c1]; exact h9))
    · skip
      refine r_iconst (v := 1) dX13_look_9 kI_1 ?_
      refine r_goto (tgt := 14) dX13_look_10 (by decide) ?_
      exact q_weak (lo' := [some (.ref (ad 54)), some (.int x1), some (.int x2)]) ⟨rfl, rfl, rfl, trivial⟩ (by have h9 := hJ1; simp only [if_pos c1] at h9; first | exact h9 | (simp only [if_pos c1]; exact h9))
  refine r_iconst (v := 1) dX13_look_14 kI_1 ?_
  exact r_callX (x := 54) (As := [.int (if (gI M 54 6) = 2 then 1 else 0), .int 1]) (rest := []) dX13_look_15 mk_X13_63 mv_X13_need rm_X13_look_X13_need rfl rfl (by decide +kernel) (Nat.le_of_ble_eq_true rfl) (cal_xv rfl (lo' := [some (.ref (ad 54)), some (.int x1), some (.int x2)]) ⟨rfl, rfl, rfl, trivial⟩ K1)
theorem t_X13_look_18 {x1 : Int32} {x2 : Int32} 
    (K1 : Cal l D ad kA mX13_need [.ref (ad 54), .int (v_X13_in ((gI M 54 7).toInt64) x1.toInt64 x2.toInt64), .int 2] M (fun oc M2 => (oc = .returned none ∧ Fw l D ad kA mX13_look 35 [some (.ref (ad 54)), none, none] [] M2 Q) ∨ (oc = .threw (ad 53) ∧ Q (.threw (ad 53)) M2))) : Fw l D ad kA mX13_look 18 [some (.ref (ad 54)), some (.int x1), some (.int x2)] [] M Q := by
  refine r_aload_n dX13_look_18 rfl ?_
  refine r_aload_n dX13_look_19 rfl ?_
  refine r_getI dX13_look_20 fs_54_7 fk_X13_47 ?_
  refine r_i2l dX13_look_23 ?_
  refine r_iload_n dX13_look_24 rfl ?_
  refine r_i2l dX13_look_25 ?_
  refine r_iload_n dX13_look_26 rfl ?_
  refine r_i2l dX13_look_27 ?_
  refine r_callS (As := [.long ((gI M 54 7).toInt64), .long x1.toInt64, .long x2.toInt64]) (rest := [.ref (ad 54)]) dX13_look_28 mk_X13_5 ms_X13_in rm_X13_look_X13_in rfl rfl (Nat.le_of_ble_eq_true rfl) (ct_X13_in (⟨_, rfl, ?_⟩))
  refine r_iconst (v := 2) dX13_look_31 kI_2 ?_
  exact r_callX (x := 54) (As := [.int (v_X13_in ((gI M 54 7).toInt64) x1.toInt64 x2.toInt64), .int 2]) (rest := []) dX13_look_32 mk_X13_63 mv_X13_need rm_X13_look_X13_need rfl rfl (by decide +kernel) (Nat.le_of_ble_eq_true rfl) (cal_xv rfl (lo' := [some (.ref (ad 54)), none, none]) ⟨rfl, trivial⟩ K1)
theorem t_X13_look_35  
    (K1 : Q (.returned (some (.int (gI M 54 7)))) M) : Fw l D ad kA mX13_look 35 [some (.ref (ad 54)), none, none] [] M Q := by
  refine r_aload_n dX13_look_35 rfl ?_
  refine r_getI dX13_look_36 fs_54_7 fk_X13_47 ?_
  exact r_iret dX13_look_39 rfl K1
theorem en_X13_look {x1 : Int32} {x2 : Int32} (K : Fw l D ad kA mX13_look 0 [some (.ref (ad 54)), some (.int x1), some (.int x2)] [] M Q) : Cal l D ad kA mX13_look [.ref (ad 54), .int x1, .int x2] M Q := Cal.of (by decide) rfl rfl (Nat.le_of_ble_eq_true rfl) K
theorem t_X13_number_0 {x1 : Int32} {x2 : Int32} 
    (K1 : Cal l D ad kA mX13_look [.ref (ad 54), .int x1, .int x2] M (fun oc M2 => (∃ r : Int32, oc = .returned (some (.int r)) ∧ Fw l D ad kA mX13_number 6 [some (.ref (ad 54)), none, none, none] [.int r] M2 Q) ∨ (oc = .threw (ad 53) ∧ Q (.threw (ad 53)) M2))) : Fw l D ad kA mX13_number 0 [some (.ref (ad 54)), some (.int x1), some (.int x2), none] [] M Q := by
  refine r_aload_n dX13_number_0 rfl ?_
  refine r_iload_n dX13_number_1 rfl ?_
  refine r_iload_n dX13_number_2 rfl ?_
  exact r_callX (x := 54) (As := [.int x1, .int x2]) (rest := []) dX13_number_3 mk_X13_67 mv_X13_look rm_X13_number_X13_look rfl rfl (by decide +kernel) (Nat.le_of_ble_eq_true rfl) (cal_xi rfl (lo' := [some (.ref (ad 54)), none, none, none]) ⟨rfl, trivial⟩ K1)
theorem t_X13_number_6 {s1 : Int32} 
    (K1 : Cal l D ad kA mX13_scan [.ref (ad 54)] M (fun oc M2 => oc = .returned none ∧ Fw l D ad kA mX13_number 11 [none, none, none, some (.int s1)] [] M2 Q)) : Fw l D ad kA mX13_number 6 [some (.ref (ad 54)), none, none, none] [.int s1] M Q := by
  refine q_istore_n (lo' := [some (.ref (ad 54)), none, none, some (.int s1)]) dX13_number_6 (by decide) rfl ?_
  refine r_aload_n dX13_number_7 rfl ?_
  exact r_callV (x := 54) (As := []) (rest := []) dX13_number_8 mk_X13_71 mv_X13_scan rm_X13_number_X13_scan rfl rfl (by decide +kernel) (Nat.le_of_ble_eq_true rfl) (cal_v (lo' := [none, none, none, some (.int s1)]) ⟨rfl, trivial⟩ K1)
theorem t_X13_number_11 {x3 : Int32} 
    (K1 : Q (.returned (some (.int x3))) M) : Fw l D ad kA mX13_number 11 [none, none, none, some (.int x3)] [] M Q := by
  refine r_iload_n dX13_number_11 rfl ?_
  exact r_iret dX13_number_12 rfl K1
theorem en_X13_number {x1 : Int32} {x2 : Int32} (K : Fw l D ad kA mX13_number 0 [some (.ref (ad 54)), some (.int x1), some (.int x2), none] [] M Q) : Cal l D ad kA mX13_number [.ref (ad 54), .int x1, .int x2] M Q := Cal.of (by decide) rfl rfl (Nat.le_of_ble_eq_true rfl) K
theorem t_X13_readStroke_0 {x1 : Int32} {x2 : Int32} 
    (K1 : Cal l D ad kA mX13_look [.ref (ad 54), .int 0, .int 47] M (fun oc M2 => (∃ r : Int32, oc = .returned (some (.int r)) ∧ Fw l D ad kA mX13_readStroke 7 [some (.ref (ad 54)), some (.int x1), some (.int x2), none, none, none, none] [.int r] M2 Q) ∨ (oc = .threw (ad 53) ∧ Q (.threw (ad 53)) M2))) : Fw l D ad kA mX13_readStroke 0 [some (.ref (ad 54)), some (.int x1), some (.int x2), none, none, none, none] [] M Q := by
  refine r_aload_n dX13_readStroke_0 rfl ?_
  refine r_iconst (v := 0) dX13_readStroke_1 kI_0 ?_
  refine r_bipush (v := 47) dX13_readStroke_2 kB_47 ?_
  exact r_callX (x := 54) (As := [.int 0, .int 47]) (rest := []) dX13_readStroke_4 mk_X13_67 mv_X13_look rm_X13_readStroke_X13_look rfl rfl (by decide +kernel) (Nat.le_of_ble_eq_true rfl) (cal_xi rfl (lo' := [some (.ref (ad 54)), some (.int x1), some (.int x2), none, none, none, none]) ⟨rfl, rfl, rfl, trivial⟩ K1)
theorem t_X13_readStroke_7 {x1 : Int32} {x2 : Int32} {s1 : Int32} 
    (K1 : Fw l D ad kA mX13_readStroke 11 [some (.ref (ad 54)), some (.int x1), some (.int x2), some (.int s1), some (.int 0), none, none] [] M Q) : Fw l D ad kA mX13_readStroke 7 [some (.ref (ad 54)), some (.int x1), some (.int x2), none, none, none, none] [.int s1] M Q := by
  refine q_istore_n (lo' := [some (.ref (ad 54)), some (.int x1), some (.int x2), some (.int s1), none, none, none]) dX13_readStroke_7 (by decide) rfl ?_
  refine r_iconst (v := 0) dX13_readStroke_8 kI_0 ?_
  refine q_istore (lo' := [some (.ref (ad 54)), some (.int x1), some (.int x2), some (.int s1), some (.int 0), none, none]) dX13_readStroke_9 (by decide) rfl ?_
  exact K1
theorem t_X13_readStroke_11 {x1 : Int32} {x2 : Int32} {x3 : Int32} {x4 : Int32} 
    (g1 : (¬ ((gI M 54 11) ≤ x4)) → vp_in x4 160)
    (K1 : ((gI M 54 11) ≤ x4) → Cal l D ad kA mX13_need [.ref (ad 54), .int (if 160 ≤ (gI M 54 11) then 0 else 1), .int 4] M (fun oc M2 => (oc = .returned none ∧ Fw l D ad kA mX13_readStroke 78 [some (.ref (ad 54)), some (.int x1), some (.int x2), some (.int x3), none, none, none] [] M2 Q) ∨ (oc = .threw (ad 53) ∧ Q (.threw (ad 53)) M2)))
    (K2 : (¬ ((gI M 54 11) ≤ x4)) → Cal l D ad kA mX13_need [.ref (ad 54), .int (if (gI M 60 x4.toNatClampNeg) = x1 then if (gI M 61 x4.toNatClampNeg) = x3 then 0 else 1 else 1), .int 3] M (fun oc M2 => (oc = .returned none ∧ Fw l D ad kA mX13_readStroke 52 [some (.ref (ad 54)), some (.int x1), some (.int x2), some (.int x3), some (.int x4), none, none] [] M2 Q) ∨ (oc = .threw (ad 53) ∧ Q (.threw (ad 53)) M2))) : Fw l D ad kA mX13_readStroke 11 [some (.ref (ad 54)), some (.int x1), some (.int x2), some (.int x3), some (.int x4), none, none] [] M Q := by
  refine r_iload dX13_readStroke_11 rfl ?_
  refine r_aload_n dX13_readStroke_13 rfl ?_
  refine r_getI dX13_readStroke_14 fs_54_11 fk_X13_78 ?_
  refine r_icmp_ge (tgt := 58) dX13_readStroke_17 (by decide) (fun c1 => ?_) (fun c1 => ?_)
  · skip
    refine r_aload_n dX13_readStroke_58 rfl ?_
    refine r_aload_n dX13_readStroke_59 rfl ?_
    refine r_getI dX13_readStroke_60 fs_54_11 fk_X13_78 ?_
    refine r_sipush (v := 160) dX13_readStroke_63 kS_160 ?_
    suffices hJ1 : Fw l D ad kA mX13_readStroke 74 [some (.ref (ad 54)), some (.int x1), some (.int x2), some (.int x3), none, none, none] [.int (if 160 ≤ (gI M 54 11) then 0 else 1), .ref (ad 54)] M Q by
      refine r_icmp_ge (tgt := 73) dX13_readStroke_66 (by decide) (fun c2 => ?_) (fun c2 => ?_)
      · skip
        refine r_iconst (v := 0) dX13_readStroke_73 kI_0 ?_
        exact q_weak (lo' := [some (.ref (ad 54)), some (.int x1), some (.int x2), some (.int x3), none, none, none]) ⟨rfl, rfl, rfl, rfl, trivial⟩ (by have h9 := hJ1; simp only [if_pos c2] at h9; first | exact h9 | (simp only [if_pos c2]; exact h9))
      · skip
        refine r_iconst (v := 1) dX13_readStroke_69 kI_1 ?_
        refine r_goto (tgt := 74) dX13_readStroke_70 (by decide) ?_
        exact q_weak (lo' := [some (.ref (ad 54)), some (.int x1), some (.int x2), some (.int x3), none, none, none]) ⟨rfl, rfl, rfl, rfl, trivial⟩ (by have h9 := hJ1; simp only [if_neg c2] at h9; first | exact h9 | (simp only [if_neg c2]; exact h9))
    refine r_iconst (v := 4) dX13_readStroke_74 kI_4 ?_
    exact r_callX (x := 54) (As := [.int (if 160 ≤ (gI M 54 11) then 0 else 1), .int 4]) (rest := []) dX13_readStroke_75 mk_X13_63 mv_X13_need rm_X13_readStroke_X13_need rfl rfl (by decide +kernel) (Nat.le_of_ble_eq_true rfl) (cal_xv rfl (lo' := [some (.ref (ad 54)), some (.int x1), some (.int x2), some (.int x3), none, none, none]) ⟨rfl, rfl, rfl, rfl, trivial⟩ (K1 c1))
  · skip
    refine r_aload_n dX13_readStroke_20 rfl ?_
    refine r_aload_n dX13_readStroke_21 rfl ?_
    refine r_getR dX13_readStroke_22 fs_54_16 fk_X13_94 ?_
    refine r_iload dX13_readStroke_25 rfl ?_
    refine r_iald dX13_readStroke_27 as_60 (g1 c1) ?_
    refine r_iload_n dX13_readStroke_28 rfl ?_
    suffices hJ2 : Fw l D ad kA mX13_readStroke 48 [some (.ref (ad 54)), some (.int x1), some (.int x2), some (.int x3), some (.int x4), none, none] [.int (if (gI M 60 x4.toNatClampNeg) = x1 then if (gI M 61 x4.toNatClampNeg) = x3 then 0 else 1 else 1), .ref (ad 54)] M Q by
      refine r_icmp_ne (tgt := 43) dX13_readStroke_29 (by decide) (fun c3 => ?_) (fun c3 => ?_)
      · skip
        refine r_iconst (v := 1) dX13_readStroke_43 kI_1 ?_
        refine r_goto (tgt := 48) dX13_readStroke_44 (by decide) ?_
        exact q_weak (lo' := [some (.ref (ad 54)), some (.int x1), some (.int x2), some (.int x3), some (.int x4), none, none]) ⟨rfl, rfl, rfl, rfl, rfl, trivial⟩ (by have h9 := hJ2; simp only [if_neg c3] at h9; first | exact h9 | (simp only [if_neg c3]; exact h9))
      · skip
        refine r_aload_n dX13_readStroke_32 rfl ?_
        refine r_getR dX13_readStroke_33 fs_54_17 fk_X13_98 ?_
        refine r_iload dX13_readStroke_36 rfl ?_
        refine r_iald dX13_readStroke_38 as_61 (g1 c1) ?_
        refine r_iload_n dX13_readStroke_39 rfl ?_
        refine r_icmp_eq (tgt := 47) dX13_readStroke_40 (by decide) (fun c4 => ?_) (fun c4 => ?_)
        · skip
          refine r_iconst (v := 0) dX13_readStroke_47 kI_0 ?_
          exact q_weak (lo' := [some (.ref (ad 54)), some (.int x1), some (.int x2), some (.int x3), some (.int x4), none, none]) ⟨rfl, rfl, rfl, rfl, rfl, trivial⟩ (by have h9 := hJ2; simp only [if_pos c3, if_pos c4] at h9; first | exact h9 | (simp only [if_pos c3, if_pos c4]; exact h9))
        · skip
          refine r_iconst (v := 1) dX13_readStroke_43 kI_1 ?_
          refine r_goto (tgt := 48) dX13_readStroke_44 (by decide) ?_
          exact q_weak (lo' := [some (.ref (ad 54)), some (.int x1), some (.int x2), some (.int x3), some (.int x4), none, none]) ⟨rfl, rfl, rfl, rfl, rfl, trivial⟩ (by have h9 := hJ2; simp only [if_pos c3, if_neg c4] at h9; first | exact h9 | (simp only [if_pos c3, if_neg c4]; exact h9))
    refine r_iconst (v := 3) dX13_readStroke_48 kI_3 ?_
    exact r_callX (x := 54) (As := [.int (if (gI M 60 x4.toNatClampNeg) = x1 then if (gI M 61 x4.toNatClampNeg) = x3 then 0 else 1 else 1), .int 3]) (rest := []) dX13_readStroke_49 mk_X13_63 mv_X13_need rm_X13_readStroke_X13_need rfl rfl (by decide +kernel) (Nat.le_of_ble_eq_true rfl) (cal_xv rfl (lo' := [some (.ref (ad 54)), some (.int x1), some (.int x2), some (.int x3), some (.int x4), none, none]) ⟨rfl, rfl, rfl, rfl, rfl, trivial⟩ (K2 c1))
theorem t_X13_readStroke_78 {x1 : Int32} {x2 : Int32} {x3 : Int32} 
    (K1 : Cal l D ad kA mX13_scan [.ref (ad 54)] M (fun oc M2 => oc = .returned none ∧ Fw l D ad kA mX13_readStroke 82 [some (.ref (ad 54)), some (.int x1), some (.int x2), some (.int x3), none, none, none] [] M2 Q)) : Fw l D ad kA mX13_readStroke 78 [some (.ref (ad 54)), some (.int x1), some (.int x2), some (.int x3), none, none, none] [] M Q := by
  refine r_aload_n dX13_readStroke_78 rfl ?_
  exact r_callV (x := 54) (As := []) (rest := []) dX13_readStroke_79 mk_X13_71 mv_X13_scan rm_X13_readStroke_X13_scan rfl rfl (by decide +kernel) (Nat.le_of_ble_eq_true rfl) (cal_v (lo' := [some (.ref (ad 54)), some (.int x1), some (.int x2), some (.int x3), none, none, none]) ⟨rfl, rfl, rfl, rfl, trivial⟩ K1)
theorem t_X13_readStroke_52 {x1 : Int32} {x2 : Int32} {x3 : Int32} {x4 : Int32} 
    (K1 : Fw l D ad kA mX13_readStroke 11 [some (.ref (ad 54)), some (.int x1), some (.int x2), some (.int x3), some (.int (x4 + 1)), none, none] [] M Q) : Fw l D ad kA mX13_readStroke 52 [some (.ref (ad 54)), some (.int x1), some (.int x2), some (.int x3), some (.int x4), none, none] [] M Q := by
  refine q_iinc (v := x4 + 1) (lo' := [some (.ref (ad 54)), some (.int x1), some (.int x2), some (.int x3), some (.int (x4 + 1)), none, none]) dX13_readStroke_52 rfl (congrArg (fun q => x4 + q) kI_1) (by decide) rfl ?_
  refine r_goto (tgt := 11) dX13_readStroke_55 (by decide) ?_
  exact K1
theorem t_X13_readStroke_82 {x1 : Int32} {x2 : Int32} {x3 : Int32} 
    (K1 : (x2 = 0) → Fw l D ad kA mX13_readStroke 163 [some (.ref (ad 54)), some (.int x1), none, some (.int x3), some (.int 1), some (.int 0), some (.int (gI M 54 11))] [] M Q)
    (K2 : (¬ (x2 = 0)) → Cal l D ad kA mX13_is [.ref (ad 54), .ref (ad (210 + 9))] M (fun oc M2 => ∃ r : Int32, oc = .returned (some (.int r)) ∧ Fw l D ad kA mX13_readStroke 95 [some (.ref (ad 54)), some (.int x1), some (.int x2), some (.int x3), some (.int 1), none, none] [.int r] M2 Q)) : Fw l D ad kA mX13_readStroke 82 [some (.ref (ad 54)), some (.int x1), some (.int x2), some (.int x3), none, none, none] [] M Q := by
  refine r_iconst (v := 1) dX13_readStroke_82 kI_1 ?_
  refine q_istore (lo' := [some (.ref (ad 54)), some (.int x1), some (.int x2), some (.int x3), some (.int 1), none, none]) dX13_readStroke_83 (by decide) rfl ?_
  refine r_iload_n dX13_readStroke_85 rfl ?_
  refine r_if_eq (tgt := 111) dX13_readStroke_86 (by decide) (fun c1 => ?_) (fun c1 => ?_)
  · skip
    refine r_iload_n dX13_readStroke_111 rfl ?_
    refine r_if_eq (tgt := 128) dX13_readStroke_112 (by decide) (fun _ => ?_) (fun q => absurd c1 q)
    refine r_iload_n dX13_readStroke_128 rfl ?_
    refine r_if_eq (tgt := 145) dX13_readStroke_129 (by decide) (fun _ => ?_) (fun q => absurd c1 q)
    refine r_iconst (v := 0) dX13_readStroke_145 kI_0 ?_
    refine q_istore (lo' := [some (.ref (ad 54)), some (.int x1), some (.int x2), some (.int x3), some (.int 1), some (.int 0), none]) dX13_readStroke_146 (by decide) rfl ?_
    refine r_iload dX13_readStroke_148 rfl ?_
    refine r_if_eq (tgt := 157) dX13_readStroke_150 (by decide) (fun _ => ?_) (fun q => absurd q (by decide))
    refine r_aload_n dX13_readStroke_157 rfl ?_
    refine r_getI dX13_readStroke_158 fs_54_11 fk_X13_78 ?_
    refine q_istore (lo' := [some (.ref (ad 54)), some (.int x1), some (.int x2), some (.int x3), some (.int 1), some (.int 0), some (.int (gI M 54 11))]) dX13_readStroke_161 (by decide) rfl ?_
    exact q_weak (lo' := [some (.ref (ad 54)), some (.int x1), none, some (.int x3), some (.int 1), some (.int 0), some (.int (gI M 54 11))]) ⟨rfl, rfl, rfl, rfl, rfl, rfl, trivial⟩ (K1 c1)
  · skip
    refine r_aload_n dX13_readStroke_89 rfl ?_
    refine r_ldcS (i := 9) dX13_readStroke_90 (by decide) rfl ?_
    exact r_callV (x := 54) (As := [.ref (ad (210 + 9))]) (rest := []) dX13_readStroke_92 mk_X13_83 mv_X13_is rm_X13_readStroke_X13_is rfl rfl (by decide +kernel) (Nat.le_of_ble_eq_true rfl) (cal_i (lo' := [some (.ref (ad 54)), some (.int x1), some (.int x2), some (.int x3), some (.int 1), none, none]) ⟨rfl, rfl, rfl, rfl, rfl, trivial⟩ (K2 c1))
theorem t_X13_readStroke_163 {x1 : Int32} {x3 : Int32} {x4 : Int32} {x5 : Int32} {x6 : Int32} 
    (g1 : (x6 ≤ 0) → vp_in x6 160)
    (g2 : (¬ (x6 ≤ 0)) → vp_in (x6 - 1) 160)
    (g3 : (¬ (x6 ≤ 0)) → (¬ ((gI M 60 (x6 - 1).toNatClampNeg) = x1)) → vp_in x6 160)
    (g4 : (¬ (x6 ≤ 0)) → ((gI M 60 (x6 - 1).toNatClampNeg) = x1) → ((gI M 61 (x6 - 1).toNatClampNeg) ≤ x3) → vp_in x6 160)
    (g5 : (¬ (x6 ≤ 0)) → ((gI M 60 (x6 - 1).toNatClampNeg) = x1) → (¬ ((gI M 61 (x6 - 1).toNatClampNeg) ≤ x3)) → vp_in x6 160)
    (K1 : (x6 ≤ 0) → Q (.returned none) (sI (sI (sI (sI (sI M 60 x6.toNatClampNeg x1) 61 x6.toNatClampNeg x3) 62 x6.toNatClampNeg x4) 63 x6.toNatClampNeg x5) 54 11 ((gI M 54 11) + 1)))
    (K2 : (¬ (x6 ≤ 0)) → (¬ ((gI M 60 (x6 - 1).toNatClampNeg) = x1)) → Q (.returned none) (sI (sI (sI (sI (sI M 60 x6.toNatClampNeg x1) 61 x6.toNatClampNeg x3) 62 x6.toNatClampNeg x4) 63 x6.toNatClampNeg x5) 54 11 ((gI M 54 11) + 1)))
    (K3 : (¬ (x6 ≤ 0)) → ((gI M 60 (x6 - 1).toNatClampNeg) = x1) → ((gI M 61 (x6 - 1).toNatClampNeg) ≤ x3) → Q (.returned none) (sI (sI (sI (sI (sI M 60 x6.toNatClampNeg x1) 61 x6.toNatClampNeg x3) 62 x6.toNatClampNeg x4) 63 x6.toNatClampNeg x5) 54 11 ((gI M 54 11) + 1)))
    (K4 : (¬ (x6 ≤ 0)) → ((gI M 60 (x6 - 1).toNatClampNeg) = x1) → (¬ ((gI M 61 (x6 - 1).toNatClampNeg) ≤ x3)) → Fw l D ad kA mX13_readStroke 163 [some (.ref (ad 54)), some (.int x1), none, some (.int x3), some (.int x4), some (.int x5), some (.int (x6 + (-1)))] [] (sI (sI (sI (sI M 60 x6.toNatClampNeg (gI M 60 (x6 - 1).toNatClampNeg)) 61 x6.toNatClampNeg (gI M 61 (x6 - 1).toNatClampNeg)) 62 x6.toNatClampNeg (gI M 62 (x6 - 1).toNatClampNeg)) 63 x6.toNatClampNeg (gI M 63 (x6 - 1).toNatClampNeg)) Q) : Fw l D ad kA mX13_readStroke 163 [some (.ref (ad 54)), some (.int x1), none, some (.int x3), some (.int x4), some (.int x5), some (.int x6)] [] M Q := by
  refine r_iload dX13_readStroke_163 rfl ?_
  refine r_if_le (tgt := 264) dX13_readStroke_165 (by decide) (fun c1 => ?_) (fun c1 => ?_)
  · skip
    refine r_aload_n dX13_readStroke_264 rfl ?_
    refine r_getR dX13_readStroke_265 fs_54_16 fk_X13_94 ?_
    refine r_iload dX13_readStroke_268 rfl ?_
    refine r_iload_n dX13_readStroke_270 rfl ?_
    refine r_iast dX13_readStroke_271 as_60 (g1 c1) ?_
    refine r_aload_n dX13_readStroke_272 rfl ?_
    refine r_getR dX13_readStroke_273 fs_54_17 fk_X13_98 ?_
    refine r_iload dX13_readStroke_276 rfl ?_
    refine r_iload_n dX13_readStroke_278 rfl ?_
    refine r_iast dX13_readStroke_279 as_61 (g1 c1) ?_
    refine r_aload_n dX13_readStroke_280 rfl ?_
    refine r_getR dX13_readStroke_281 fs_54_18 fk_X13_107 ?_
    refine r_iload dX13_readStroke_284 rfl ?_
    refine r_iload dX13_readStroke_286 rfl ?_
    refine r_iast dX13_readStroke_288 as_62 (g1 c1) ?_
    refine r_aload_n dX13_readStroke_289 rfl ?_
    refine r_getR dX13_readStroke_290 fs_54_19 fk_X13_110 ?_
    refine r_iload dX13_readStroke_293 rfl ?_
    refine r_iload dX13_readStroke_295 rfl ?_
    refine r_iast dX13_readStroke_297 as_63 (g1 c1) ?_
    refine r_aload_n dX13_readStroke_298 rfl ?_
    refine r_dup dX13_readStroke_299 rfl ?_
    refine q_getI (v := gI M 54 11) dX13_readStroke_300 fs_54_11 fk_X13_78 rfl ?_
    refine r_iconst (v := 1) dX13_readStroke_303 kI_1 ?_
    refine r_iadd dX13_readStroke_304 ?_
    refine r_putI dX13_readStroke_305 fs_54_11 fk_X13_78 fp_X13_11 ?_
    exact r_vret dX13_readStroke_308 rfl (K1 c1)
  · skip
    refine r_aload_n dX13_readStroke_168 rfl ?_
    refine r_getR dX13_readStroke_169 fs_54_16 fk_X13_94 ?_
    refine r_iload dX13_readStroke_172 rfl ?_
    refine r_iconst (v := 1) dX13_readStroke_174 kI_1 ?_
    refine r_isub dX13_readStroke_175 ?_
    refine r_iald dX13_readStroke_176 as_60 (g2 c1) ?_
    refine r_iload_n dX13_readStroke_177 rfl ?_
    refine r_icmp_ne (tgt := 264) dX13_readStroke_178 (by decide) (fun c2 => ?_) (fun c2 => ?_)
    · skip
      refine r_aload_n dX13_readStroke_264 rfl ?_
      refine r_getR dX13_readStroke_265 fs_54_16 fk_X13_94 ?_
      refine r_iload dX13_readStroke_268 rfl ?_
      refine r_iload_n dX13_readStroke_270 rfl ?_
      refine r_iast dX13_readStroke_271 as_60 (g3 c1 c2) ?_
      refine r_aload_n dX13_readStroke_272 rfl ?_
      refine r_getR dX13_readStroke_273 fs_54_17 fk_X13_98 ?_
      refine r_iload dX13_readStroke_276 rfl ?_
      refine r_iload_n dX13_readStroke_278 rfl ?_
      refine r_iast dX13_readStroke_279 as_61 (g3 c1 c2) ?_
      refine r_aload_n dX13_readStroke_280 rfl ?_
      refine r_getR dX13_readStroke_281 fs_54_18 fk_X13_107 ?_
      refine r_iload dX13_readStroke_284 rfl ?_
      refine r_iload dX13_readStroke_286 rfl ?_
      refine r_iast dX13_readStroke_288 as_62 (g3 c1 c2) ?_
      refine r_aload_n dX13_readStroke_289 rfl ?_
      refine r_getR dX13_readStroke_290 fs_54_19 fk_X13_110 ?_
      refine r_iload dX13_readStroke_293 rfl ?_
      refine r_iload dX13_readStroke_295 rfl ?_
      refine r_iast dX13_readStroke_297 as_63 (g3 c1 c2) ?_
      refine r_aload_n dX13_readStroke_298 rfl ?_
      refine r_dup dX13_readStroke_299 rfl ?_
      refine q_getI (v := gI M 54 11) dX13_readStroke_300 fs_54_11 fk_X13_78 rfl ?_
      refine r_iconst (v := 1) dX13_readStroke_303 kI_1 ?_
      refine r_iadd dX13_readStroke_304 ?_
      refine r_putI dX13_readStroke_305 fs_54_11 fk_X13_78 fp_X13_11 ?_
      exact r_vret dX13_readStroke_308 rfl (K2 c1 c2)
    · skip
      refine r_aload_n dX13_readStroke_181 rfl ?_
      refine r_getR dX13_readStroke_182 fs_54_17 fk_X13_98 ?_
      refine r_iload dX13_readStroke_185 rfl ?_
      refine r_iconst (v := 1) dX13_readStroke_187 kI_1 ?_
      refine r_isub dX13_readStroke_188 ?_
      refine r_iald dX13_readStroke_189 as_61 (g2 c1) ?_
      refine r_iload_n dX13_readStroke_190 rfl ?_
      refine r_icmp_le (tgt := 264) dX13_readStroke_191 (by decide) (fun c3 => ?_) (fun c3 => ?_)
      · skip
        refine r_aload_n dX13_readStroke_264 rfl ?_
        refine r_getR dX13_readStroke_265 fs_54_16 fk_X13_94 ?_
        refine r_iload dX13_readStroke_268 rfl ?_
        refine r_iload_n dX13_readStroke_270 rfl ?_
        refine r_iast dX13_readStroke_271 as_60 (g4 c1 c2 c3) ?_
        refine r_aload_n dX13_readStroke_272 rfl ?_
        refine r_getR dX13_readStroke_273 fs_54_17 fk_X13_98 ?_
        refine r_iload dX13_readStroke_276 rfl ?_
        refine r_iload_n dX13_readStroke_278 rfl ?_
        refine r_iast dX13_readStroke_279 as_61 (g4 c1 c2 c3) ?_
        refine r_aload_n dX13_readStroke_280 rfl ?_
        refine r_getR dX13_readStroke_281 fs_54_18 fk_X13_107 ?_
        refine r_iload dX13_readStroke_284 rfl ?_
        refine r_iload dX13_readStroke_286 rfl ?_
        refine r_iast dX13_readStroke_288 as_62 (g4 c1 c2 c3) ?_
        refine r_aload_n dX13_readStroke_289 rfl ?_
        refine r_getR dX13_readStroke_290 fs_54_19 fk_X13_110 ?_
        refine r_iload dX13_readStroke_293 rfl ?_
        refine r_iload dX13_readStroke_295 rfl ?_
        refine r_iast dX13_readStroke_297 as_63 (g4 c1 c2 c3) ?_
        refine r_aload_n dX13_readStroke_298 rfl ?_
        refine r_dup dX13_readStroke_299 rfl ?_
        refine q_getI (v := gI M 54 11) dX13_readStroke_300 fs_54_11 fk_X13_78 rfl ?_
        refine r_iconst (v := 1) dX13_readStroke_303 kI_1 ?_
        refine r_iadd dX13_readStroke_304 ?_
        refine r_putI dX13_readStroke_305 fs_54_11 fk_X13_78 fp_X13_11 ?_
        exact r_vret dX13_readStroke_308 rfl (K3 c1 c2 c3)
      · skip
        refine r_aload_n dX13_readStroke_194 rfl ?_
        refine r_getR dX13_readStroke_195 fs_54_16 fk_X13_94 ?_
        refine r_iload dX13_readStroke_198 rfl ?_
        refine r_aload_n dX13_readStroke_200 rfl ?_
        refine r_getR dX13_readStroke_201 fs_54_16 fk_X13_94 ?_
        refine r_iload dX13_readStroke_204 rfl ?_
        refine r_iconst (v := 1) dX13_readStroke_206 kI_1 ?_
        refine r_isub dX13_readStroke_207 ?_
        refine r_iald dX13_readStroke_208 as_60 (g2 c1) ?_
        refine r_iast dX13_readStroke_209 as_60 (g5 c1 c2 c3) ?_
        refine r_aload_n dX13_readStroke_210 rfl ?_
        refine r_getR dX13_readStroke_211 fs_54_17 fk_X13_98 ?_
        refine r_iload dX13_readStroke_214 rfl ?_
        refine r_aload_n dX13_readStroke_216 rfl ?_
        refine r_getR dX13_readStroke_217 fs_54_17 fk_X13_98 ?_
        refine r_iload dX13_readStroke_220 rfl ?_
        refine r_iconst (v := 1) dX13_readStroke_222 kI_1 ?_
        refine r_isub dX13_readStroke_223 ?_
        refine q_iald (v := gI M 61 (x6 - 1).toNatClampNeg) dX13_readStroke_224 as_61 (g2 c1) rfl ?_
        refine r_iast dX13_readStroke_225 as_61 (g5 c1 c2 c3) ?_
        refine r_aload_n dX13_readStroke_226 rfl ?_
        refine r_getR dX13_readStroke_227 fs_54_18 fk_X13_107 ?_
        refine r_iload dX13_readStroke_230 rfl ?_
        refine r_aload_n dX13_readStroke_232 rfl ?_
        refine r_getR dX13_readStroke_233 fs_54_18 fk_X13_107 ?_
        refine r_iload dX13_readStroke_236 rfl ?_
        refine r_iconst (v := 1) dX13_readStroke_238 kI_1 ?_
        refine r_isub dX13_readStroke_239 ?_
        refine q_iald (v := gI M 62 (x6 - 1).toNatClampNeg) dX13_readStroke_240 as_62 (g2 c1) rfl ?_
        refine r_iast dX13_readStroke_241 as_62 (g5 c1 c2 c3) ?_
        refine r_aload_n dX13_readStroke_242 rfl ?_
        refine r_getR dX13_readStroke_243 fs_54_19 fk_X13_110 ?_
        refine r_iload dX13_readStroke_246 rfl ?_
        refine r_aload_n dX13_readStroke_248 rfl ?_
        refine r_getR dX13_readStroke_249 fs_54_19 fk_X13_110 ?_
        refine r_iload dX13_readStroke_252 rfl ?_
        refine r_iconst (v := 1) dX13_readStroke_254 kI_1 ?_
        refine r_isub dX13_readStroke_255 ?_
        refine q_iald (v := gI M 63 (x6 - 1).toNatClampNeg) dX13_readStroke_256 as_63 (g2 c1) rfl ?_
        refine r_iast dX13_readStroke_257 as_63 (g5 c1 c2 c3) ?_
        refine q_iinc (v := x6 + (-1)) (lo' := [some (.ref (ad 54)), some (.int x1), none, some (.int x3), some (.int x4), some (.int x5), some (.int (x6 + (-1)))]) dX13_readStroke_258 rfl (congrArg (fun q => x6 + q) kI_m1) (by decide) rfl ?_
        refine r_goto (tgt := 163) dX13_readStroke_261 (by decide) ?_
        exact (K4 c1 c2 c3)
theorem t_X13_readStroke_95 {x1 : Int32} {x2 : Int32} {x3 : Int32} {x4 : Int32} {s1 : Int32} 
    (K1 : (s1 = 0) → (x2 = 0) → Fw l D ad kA mX13_readStroke 163 [some (.ref (ad 54)), some (.int x1), none, some (.int x3), some (.int x4), some (.int 0), some (.int (gI M 54 11))] [] M Q)
    (K2 : (s1 = 0) → (¬ (x2 = 0)) → Cal l D ad kA mX13_is [.ref (ad 54), .ref (ad (210 + 10))] M (fun oc M2 => ∃ r : Int32, oc = .returned (some (.int r)) ∧ Fw l D ad kA mX13_readStroke 121 [some (.ref (ad 54)), some (.int x1), some (.int x2), some (.int x3), some (.int x4), none, none] [.int r] M2 Q))
    (K3 : (¬ (s1 = 0)) → Cal l D ad kA mX13_scan [.ref (ad 54)] M (fun oc M2 => oc = .returned none ∧ Fw l D ad kA mX13_readStroke 102 [some (.ref (ad 54)), some (.int x1), some (.int x2), some (.int x3), none, none, none] [] M2 Q)) : Fw l D ad kA mX13_readStroke 95 [some (.ref (ad 54)), some (.int x1), some (.int x2), some (.int x3), some (.int x4), none, none] [.int s1] M Q := by
  refine r_if_eq (tgt := 111) dX13_readStroke_95 (by decide) (fun c1 => ?_) (fun c1 => ?_)
  · skip
    refine r_iload_n dX13_readStroke_111 rfl ?_
    refine r_if_eq (tgt := 128) dX13_readStroke_112 (by decide) (fun c2 => ?_) (fun c2 => ?_)
    · skip
      refine r_iload_n dX13_readStroke_128 rfl ?_
      refine r_if_eq (tgt := 145) dX13_readStroke_129 (by decide) (fun _ => ?_) (fun q => absurd c2 q)
      refine r_iconst (v := 0) dX13_readStroke_145 kI_0 ?_
      refine q_istore (lo' := [some (.ref (ad 54)), some (.int x1), some (.int x2), some (.int x3), some (.int x4), some (.int 0), none]) dX13_readStroke_146 (by decide) rfl ?_
      refine r_iload dX13_readStroke_148 rfl ?_
      refine r_if_eq (tgt := 157) dX13_readStroke_150 (by decide) (fun _ => ?_) (fun q => absurd q (by decide))
      refine r_aload_n dX13_readStroke_157 rfl ?_
      refine r_getI dX13_readStroke_158 fs_54_11 fk_X13_78 ?_
      refine q_istore (lo' := [some (.ref (ad 54)), some (.int x1), some (.int x2), some (.int x3), some (.int x4), some (.int 0), some (.int (gI M 54 11))]) dX13_readStroke_161 (by decide) rfl ?_
      exact q_weak (lo' := [some (.ref (ad 54)), some (.int x1), none, some (.int x3), some (.int x4), some (.int 0), some (.int (gI M 54 11))]) ⟨rfl, rfl, rfl, rfl, rfl, rfl, trivial⟩ (K1 c1 c2)
    · skip
      refine r_aload_n dX13_readStroke_115 rfl ?_
      refine r_ldcS (i := 10) dX13_readStroke_116 (by decide) rfl ?_
      exact r_callV (x := 54) (As := [.ref (ad (210 + 10))]) (rest := []) dX13_readStroke_118 mk_X13_83 mv_X13_is rm_X13_readStroke_X13_is rfl rfl (by decide +kernel) (Nat.le_of_ble_eq_true rfl) (cal_i (lo' := [some (.ref (ad 54)), some (.int x1), some (.int x2), some (.int x3), some (.int x4), none, none]) ⟨rfl, rfl, rfl, rfl, rfl, trivial⟩ (K2 c1 c2))
  · skip
    refine r_aload_n dX13_readStroke_98 rfl ?_
    exact r_callV (x := 54) (As := []) (rest := []) dX13_readStroke_99 mk_X13_71 mv_X13_scan rm_X13_readStroke_X13_scan rfl rfl (by decide +kernel) (Nat.le_of_ble_eq_true rfl) (cal_v (lo' := [some (.ref (ad 54)), some (.int x1), some (.int x2), some (.int x3), none, none, none]) ⟨rfl, rfl, rfl, rfl, trivial⟩ (K3 c1))
theorem t_X13_readStroke_121 {x1 : Int32} {x2 : Int32} {x3 : Int32} {x4 : Int32} {s1 : Int32} 
    (K1 : (s1 = 0) → (x2 = 0) → Fw l D ad kA mX13_readStroke 163 [some (.ref (ad 54)), some (.int x1), none, some (.int x3), some (.int x4), some (.int 0), some (.int (gI M 54 11))] [] M Q)
    (K2 : (s1 = 0) → (¬ (x2 = 0)) → Cal l D ad kA mX13_is [.ref (ad 54), .ref (ad (210 + 11))] M (fun oc M2 => ∃ r : Int32, oc = .returned (some (.int r)) ∧ Fw l D ad kA mX13_readStroke 138 [some (.ref (ad 54)), some (.int x1), none, some (.int x3), some (.int x4), none, none] [.int r] M2 Q))
    (K3 : (¬ (s1 = 0)) → Cal l D ad kA mX13_scan [.ref (ad 54)] M (fun oc M2 => oc = .returned none ∧ Fw l D ad kA mX13_readStroke 157 [some (.ref (ad 54)), some (.int x1), none, some (.int x3), some (.int x4), some (.int 1), none] [] M2 Q)) : Fw l D ad kA mX13_readStroke 121 [some (.ref (ad 54)), some (.int x1), some (.int x2), some (.int x3), some (.int x4), none, none] [.int s1] M Q := by
  refine r_if_eq (tgt := 128) dX13_readStroke_121 (by decide) (fun c1 => ?_) (fun c1 => ?_)
  · skip
    refine r_iload_n dX13_readStroke_128 rfl ?_
    refine r_if_eq (tgt := 145) dX13_readStroke_129 (by decide) (fun c2 => ?_) (fun c2 => ?_)
    · skip
      refine r_iconst (v := 0) dX13_readStroke_145 kI_0 ?_
      refine q_istore (lo' := [some (.ref (ad 54)), some (.int x1), some (.int x2), some (.int x3), some (.int x4), some (.int 0), none]) dX13_readStroke_146 (by decide) rfl ?_
      refine r_iload dX13_readStroke_148 rfl ?_
      refine r_if_eq (tgt := 157) dX13_readStroke_150 (by decide) (fun _ => ?_) (fun q => absurd q (by decide))
      refine r_aload_n dX13_readStroke_157 rfl ?_
      refine r_getI dX13_readStroke_158 fs_54_11 fk_X13_78 ?_
      refine q_istore (lo' := [some (.ref (ad 54)), some (.int x1), some (.int x2), some (.int x3), some (.int x4), some (.int 0), some (.int (gI M 54 11))]) dX13_readStroke_161 (by decide) rfl ?_
      exact q_weak (lo' := [some (.ref (ad 54)), some (.int x1), none, some (.int x3), some (.int x4), some (.int 0), some (.int (gI M 54 11))]) ⟨rfl, rfl, rfl, rfl, rfl, rfl, trivial⟩ (K1 c1 c2)
    · skip
      refine r_aload_n dX13_readStroke_132 rfl ?_
      refine r_ldcS (i := 11) dX13_readStroke_133 (by decide) rfl ?_
      exact r_callV (x := 54) (As := [.ref (ad (210 + 11))]) (rest := []) dX13_readStroke_135 mk_X13_83 mv_X13_is rm_X13_readStroke_X13_is rfl rfl (by decide +kernel) (Nat.le_of_ble_eq_true rfl) (cal_i (lo' := [some (.ref (ad 54)), some (.int x1), none, some (.int x3), some (.int x4), none, none]) ⟨rfl, rfl, rfl, rfl, trivial⟩ (K2 c1 c2))
  · skip
    refine r_iconst (v := 1) dX13_readStroke_124 kI_1 ?_
    refine r_goto (tgt := 146) dX13_readStroke_125 (by decide) ?_
    refine q_istore (lo' := [some (.ref (ad 54)), some (.int x1), some (.int x2), some (.int x3), some (.int x4), some (.int 1), none]) dX13_readStroke_146 (by decide) rfl ?_
    refine r_iload dX13_readStroke_148 rfl ?_
    refine r_if_eq (tgt := 157) dX13_readStroke_150 (by decide) (fun q => absurd q (by decide)) (fun _ => ?_)
    refine r_aload_n dX13_readStroke_153 rfl ?_
    exact r_callV (x := 54) (As := []) (rest := []) dX13_readStroke_154 mk_X13_71 mv_X13_scan rm_X13_readStroke_X13_scan rfl rfl (by decide +kernel) (Nat.le_of_ble_eq_true rfl) (cal_v (lo' := [some (.ref (ad 54)), some (.int x1), none, some (.int x3), some (.int x4), some (.int 1), none]) ⟨rfl, rfl, rfl, rfl, rfl, trivial⟩ (K3 c1))
theorem t_X13_readStroke_102 {x1 : Int32} {x2 : Int32} {x3 : Int32} 
    (K1 : Cal l D ad kA mX13_number [.ref (ad 54), .int 1, .int 16] M (fun oc M2 => (∃ r : Int32, oc = .returned (some (.int r)) ∧ Fw l D ad kA mX13_readStroke 109 [some (.ref (ad 54)), some (.int x1), some (.int x2), some (.int x3), none, none, none] [.int r] M2 Q) ∨ (oc = .threw (ad 53) ∧ Q (.threw (ad 53)) M2))) : Fw l D ad kA mX13_readStroke 102 [some (.ref (ad 54)), some (.int x1), some (.int x2), some (.int x3), none, none, none] [] M Q := by
  refine r_aload_n dX13_readStroke_102 rfl ?_
  refine r_iconst (v := 1) dX13_readStroke_103 kI_1 ?_
  refine r_bipush (v := 16) dX13_readStroke_104 kB_16 ?_
  exact r_callX (x := 54) (As := [.int 1, .int 16]) (rest := []) dX13_readStroke_106 mk_X13_87 mv_X13_number rm_X13_readStroke_X13_number rfl rfl (by decide +kernel) (Nat.le_of_ble_eq_true rfl) (cal_xi rfl (lo' := [some (.ref (ad 54)), some (.int x1), some (.int x2), some (.int x3), none, none, none]) ⟨rfl, rfl, rfl, rfl, trivial⟩ K1)
theorem t_X13_readStroke_138 {x1 : Int32} {x3 : Int32} {x4 : Int32} {s1 : Int32} 
    (K1 : ((if s1 = 0 then 0 else 2 : Int32) = 0) → Fw l D ad kA mX13_readStroke 163 [some (.ref (ad 54)), some (.int x1), none, some (.int x3), some (.int x4), some (.int (if s1 = 0 then 0 else 2)), some (.int (gI M 54 11))] [] M Q)
    (K2 : (¬ ((if s1 = 0 then 0 else 2 : Int32) = 0)) → Cal l D ad kA mX13_scan [.ref (ad 54)] M (fun oc M2 => oc = .returned none ∧ Fw l D ad kA mX13_readStroke 157 [some (.ref (ad 54)), some (.int x1), none, some (.int x3), some (.int x4), some (.int (if s1 = 0 then 0 else 2)), none] [] M2 Q)) : Fw l D ad kA mX13_readStroke 138 [some (.ref (ad 54)), some (.int x1), none, some (.int x3), some (.int x4), none, none] [.int s1] M Q := by
  suffices hJ1 : Fw l D ad kA mX13_readStroke 146 [some (.ref (ad 54)), some (.int x1), none, some (.int x3), some (.int x4), none, none] [.int (if s1 = 0 then 0 else 2)] M Q by
    refine r_if_eq (tgt := 145) dX13_readStroke_138 (by decide) (fun c1 => ?_) (fun c1 => ?_)
    · skip
      refine r_iconst (v := 0) dX13_readStroke_145 kI_0 ?_
      exact q_weak (lo' := [some (.ref (ad 54)), some (.int x1), none, some (.int x3), some (.int x4), none, none]) ⟨rfl, rfl, rfl, rfl, trivial⟩ (by have h9 := hJ1; simp only [if_pos c1] at h9; first | exact h9 | (simp only [if_pos c1]; exact h9))
    · skip
      refine r_iconst (v := 2) dX13_readStroke_141 kI_2 ?_
      refine r_goto (tgt := 146) dX13_readStroke_142 (by decide) ?_
      exact q_weak (lo' := [some (.ref (ad 54)), some (.int x1), none, some (.int x3), some (.int x4), none, none]) ⟨rfl, rfl, rfl, rfl, trivial⟩ (by have h9 := hJ1; simp only [if_neg c1] at h9; first | exact h9 | (simp only [if_neg c1]; exact h9))
  refine q_istore (lo' := [some (.ref (ad 54)), some (.int x1), none, some (.int x3), some (.int x4), some (.int (if s1 = 0 then 0 else 2)), none]) dX13_readStroke_146 (by decide) rfl ?_
  refine r_iload dX13_readStroke_148 rfl ?_
  refine r_if_eq (tgt := 157) dX13_readStroke_150 (by decide) (fun c2 => ?_) (fun c2 => ?_)
  · skip
    refine r_aload_n dX13_readStroke_157 rfl ?_
    refine r_getI dX13_readStroke_158 fs_54_11 fk_X13_78 ?_
    refine q_istore (lo' := [some (.ref (ad 54)), some (.int x1), none, some (.int x3), some (.int x4), some (.int (if s1 = 0 then 0 else 2)), some (.int (gI M 54 11))]) dX13_readStroke_161 (by decide) rfl ?_
    exact (K1 c2)
  · skip
    refine r_aload_n dX13_readStroke_153 rfl ?_
    exact r_callV (x := 54) (As := []) (rest := []) dX13_readStroke_154 mk_X13_71 mv_X13_scan rm_X13_readStroke_X13_scan rfl rfl (by decide +kernel) (Nat.le_of_ble_eq_true rfl) (cal_v (lo' := [some (.ref (ad 54)), some (.int x1), none, some (.int x3), some (.int x4), some (.int (if s1 = 0 then 0 else 2)), none]) ⟨rfl, rfl, rfl, rfl, rfl, trivial⟩ (K2 c2))
theorem t_X13_readStroke_157 {x1 : Int32} {x3 : Int32} {x4 : Int32} {x5 : Int32} 
    (K1 : Fw l D ad kA mX13_readStroke 163 [some (.ref (ad 54)), some (.int x1), none, some (.int x3), some (.int x4), some (.int x5), some (.int (gI M 54 11))] [] M Q) : Fw l D ad kA mX13_readStroke 157 [some (.ref (ad 54)), some (.int x1), none, some (.int x3), some (.int x4), some (.int x5), none] [] M Q := by
  refine r_aload_n dX13_readStroke_157 rfl ?_
  refine r_getI dX13_readStroke_158 fs_54_11 fk_X13_78 ?_
  refine q_istore (lo' := [some (.ref (ad 54)), some (.int x1), none, some (.int x3), some (.int x4), some (.int x5), some (.int (gI M 54 11))]) dX13_readStroke_161 (by decide) rfl ?_
  exact K1
theorem t_X13_readStroke_109 {x1 : Int32} {x2 : Int32} {x3 : Int32} {s1 : Int32} 
    (K1 : (x2 = 0) → Fw l D ad kA mX13_readStroke 163 [some (.ref (ad 54)), some (.int x1), none, some (.int x3), some (.int s1), some (.int 0), some (.int (gI M 54 11))] [] M Q)
    (K2 : (¬ (x2 = 0)) → Cal l D ad kA mX13_is [.ref (ad 54), .ref (ad (210 + 10))] M (fun oc M2 => ∃ r : Int32, oc = .returned (some (.int r)) ∧ Fw l D ad kA mX13_readStroke 121 [some (.ref (ad 54)), some (.int x1), some (.int x2), some (.int x3), some (.int s1), none, none] [.int r] M2 Q)) : Fw l D ad kA mX13_readStroke 109 [some (.ref (ad 54)), some (.int x1), some (.int x2), some (.int x3), none, none, none] [.int s1] M Q := by
  refine q_istore (lo' := [some (.ref (ad 54)), some (.int x1), some (.int x2), some (.int x3), some (.int s1), none, none]) dX13_readStroke_109 (by decide) rfl ?_
  refine r_iload_n dX13_readStroke_111 rfl ?_
  refine r_if_eq (tgt := 128) dX13_readStroke_112 (by decide) (fun c1 => ?_) (fun c1 => ?_)
  · skip
    refine r_iload_n dX13_readStroke_128 rfl ?_
    refine r_if_eq (tgt := 145) dX13_readStroke_129 (by decide) (fun _ => ?_) (fun q => absurd c1 q)
    refine r_iconst (v := 0) dX13_readStroke_145 kI_0 ?_
    refine q_istore (lo' := [some (.ref (ad 54)), some (.int x1), some (.int x2), some (.int x3), some (.int s1), some (.int 0), none]) dX13_readStroke_146 (by decide) rfl ?_
    refine r_iload dX13_readStroke_148 rfl ?_
    refine r_if_eq (tgt := 157) dX13_readStroke_150 (by decide) (fun _ => ?_) (fun q => absurd q (by decide))
    refine r_aload_n dX13_readStroke_157 rfl ?_
    refine r_getI dX13_readStroke_158 fs_54_11 fk_X13_78 ?_
    refine q_istore (lo' := [some (.ref (ad 54)), some (.int x1), some (.int x2), some (.int x3), some (.int s1), some (.int 0), some (.int (gI M 54 11))]) dX13_readStroke_161 (by decide) rfl ?_
    exact q_weak (lo' := [some (.ref (ad 54)), some (.int x1), none, some (.int x3), some (.int s1), some (.int 0), some (.int (gI M 54 11))]) ⟨rfl, rfl, rfl, rfl, rfl, rfl, trivial⟩ (K1 c1)
  · skip
    refine r_aload_n dX13_readStroke_115 rfl ?_
    refine r_ldcS (i := 10) dX13_readStroke_116 (by decide) rfl ?_
    exact r_callV (x := 54) (As := [.ref (ad (210 + 10))]) (rest := []) dX13_readStroke_118 mk_X13_83 mv_X13_is rm_X13_readStroke_X13_is rfl rfl (by decide +kernel) (Nat.le_of_ble_eq_true rfl) (cal_i (lo' := [some (.ref (ad 54)), some (.int x1), some (.int x2), some (.int x3), some (.int s1), none, none]) ⟨rfl, rfl, rfl, rfl, rfl, trivial⟩ (K2 c1))
theorem en_X13_readStroke {x1 : Int32} {x2 : Int32} (K : Fw l D ad kA mX13_readStroke 0 [some (.ref (ad 54)), some (.int x1), some (.int x2), none, none, none, none] [] M Q) : Cal l D ad kA mX13_readStroke [.ref (ad 54), .int x1, .int x2] M Q := Cal.of (by decide) rfl rfl (Nat.le_of_ble_eq_true rfl) K
theorem t_X13_readBeats_0 {x1 : Int32} 
    (K1 : Fw l D ad kA mX13_readBeats 7 [some (.ref (ad 54)), some (.int x1), some (.int 0)] [] (sI M 54 11 0) Q) : Fw l D ad kA mX13_readBeats 0 [some (.ref (ad 54)), some (.int x1), none] [] M Q := by
  refine r_aload_n dX13_readBeats_0 rfl ?_
  refine r_iconst (v := 0) dX13_readBeats_1 kI_0 ?_
  refine r_putI dX13_readBeats_2 fs_54_11 fk_X13_78 fp_X13_11 ?_
  refine r_iconst (v := 0) dX13_readBeats_5 kI_0 ?_
  refine q_istore_n (lo' := [some (.ref (ad 54)), some (.int x1), some (.int 0)]) dX13_readBeats_6 (by decide) rfl ?_
  exact K1
theorem t_X13_readBeats_7 {x1 : Int32} {x2 : Int32} 
    (K1 : ((gI M 54 6) = 0) → Q (.returned none) M)
    (K2 : (¬ ((gI M 54 6) = 0)) → Cal l D ad kA mX13_is [.ref (ad 54), .ref (ad (210 + 8))] M (fun oc M2 => ∃ r : Int32, oc = .returned (some (.int r)) ∧ Fw l D ad kA mX13_readBeats 21 [some (.ref (ad 54)), some (.int x1), some (.int x2)] [.int r, .ref (ad 54)] M2 Q)) : Fw l D ad kA mX13_readBeats 7 [some (.ref (ad 54)), some (.int x1), some (.int x2)] [] M Q := by
  refine r_aload_n dX13_readBeats_7 rfl ?_
  refine r_getI dX13_readBeats_8 fs_54_6 fk_X13_37 ?_
  refine r_if_eq (tgt := 77) dX13_readBeats_11 (by decide) (fun c1 => ?_) (fun c1 => ?_)
  · skip
    exact r_vret dX13_readBeats_77 rfl (K1 c1)
  · skip
    refine r_aload_n dX13_readBeats_14 rfl ?_
    refine r_aload_n dX13_readBeats_15 rfl ?_
    refine r_ldcS (i := 8) dX13_readBeats_16 (by decide) rfl ?_
    exact r_callV (x := 54) (As := [.ref (ad (210 + 8))]) (rest := [.ref (ad 54)]) dX13_readBeats_18 mk_X13_83 mv_X13_is rm_X13_readBeats_X13_is rfl rfl (by decide +kernel) (Nat.le_of_ble_eq_true rfl) (cal_i (lo' := [some (.ref (ad 54)), some (.int x1), some (.int x2)]) ⟨rfl, rfl, rfl, trivial⟩ (K2 c1))
theorem t_X13_readBeats_21 {x1 : Int32} {x2 : Int32} {s2 : Int32} 
    (K1 : Cal l D ad kA mX13_need [.ref (ad 54), .int s2, .int 1] M (fun oc M2 => (oc = .returned none ∧ Fw l D ad kA mX13_readBeats 25 [some (.ref (ad 54)), some (.int x1), some (.int x2)] [] M2 Q) ∨ (oc = .threw (ad 53) ∧ Q (.threw (ad 53)) M2))) : Fw l D ad kA mX13_readBeats 21 [some (.ref (ad 54)), some (.int x1), some (.int x2)] [.int s2, .ref (ad 54)] M Q := by
  refine r_iconst (v := 1) dX13_readBeats_21 kI_1 ?_
  exact r_callX (x := 54) (As := [.int s2, .int 1]) (rest := []) dX13_readBeats_22 mk_X13_63 mv_X13_need rm_X13_readBeats_X13_need rfl rfl (by decide +kernel) (Nat.le_of_ble_eq_true rfl) (cal_xv rfl (lo' := [some (.ref (ad 54)), some (.int x1), some (.int x2)]) ⟨rfl, rfl, rfl, trivial⟩ K1)
theorem t_X13_readBeats_25 {x1 : Int32} {x2 : Int32} 
    (K1 : Cal l D ad kA mX13_scan [.ref (ad 54)] M (fun oc M2 => oc = .returned none ∧ Fw l D ad kA mX13_readBeats 29 [some (.ref (ad 54)), some (.int x1), some (.int x2)] [] M2 Q)) : Fw l D ad kA mX13_readBeats 25 [some (.ref (ad 54)), some (.int x1), some (.int x2)] [] M Q := by
  refine r_aload_n dX13_readBeats_25 rfl ?_
  exact r_callV (x := 54) (As := []) (rest := []) dX13_readBeats_26 mk_X13_71 mv_X13_scan rm_X13_readBeats_X13_scan rfl rfl (by decide +kernel) (Nat.le_of_ble_eq_true rfl) (cal_v (lo' := [some (.ref (ad 54)), some (.int x1), some (.int x2)]) ⟨rfl, rfl, rfl, trivial⟩ K1)
theorem t_X13_readBeats_29 {x1 : Int32} {x2 : Int32} 
    (K1 : Cal l D ad kA mX13_number [.ref (ad 54), .int x2, .int 999] M (fun oc M2 => (∃ r : Int32, oc = .returned (some (.int r)) ∧ Fw l D ad kA mX13_readBeats 37 [some (.ref (ad 54)), some (.int x1), none] [.int r] M2 Q) ∨ (oc = .threw (ad 53) ∧ Q (.threw (ad 53)) M2))) : Fw l D ad kA mX13_readBeats 29 [some (.ref (ad 54)), some (.int x1), some (.int x2)] [] M Q := by
  refine r_aload_n dX13_readBeats_29 rfl ?_
  refine r_iload_n dX13_readBeats_30 rfl ?_
  refine r_sipush (v := 999) dX13_readBeats_31 kS_999 ?_
  exact r_callX (x := 54) (As := [.int x2, .int 999]) (rest := []) dX13_readBeats_34 mk_X13_87 mv_X13_number rm_X13_readBeats_X13_number rfl rfl (by decide +kernel) (Nat.le_of_ble_eq_true rfl) (cal_xi rfl (lo' := [some (.ref (ad 54)), some (.int x1), none]) ⟨rfl, rfl, trivial⟩ K1)
theorem t_X13_readBeats_37 {x1 : Int32} {s1 : Int32} 
    (K1 : Fw l D ad kA mX13_readBeats 38 [some (.ref (ad 54)), some (.int x1), some (.int s1)] [] M Q) : Fw l D ad kA mX13_readBeats 37 [some (.ref (ad 54)), some (.int x1), none] [.int s1] M Q := by
  refine q_istore_n (lo' := [some (.ref (ad 54)), some (.int x1), some (.int s1)]) dX13_readBeats_37 (by decide) rfl ?_
  exact K1
theorem t_X13_readBeats_38 {x1 : Int32} {x2 : Int32} 
    (K1 : Cal l D ad kA mX13_readStroke [.ref (ad 54), .int x2, .int x1] M (fun oc M2 => (oc = .returned none ∧ Fw l D ad kA mX13_readBeats 44 [some (.ref (ad 54)), some (.int x1), some (.int x2)] [] M2 Q) ∨ (oc = .threw (ad 53) ∧ Q (.threw (ad 53)) M2))) : Fw l D ad kA mX13_readBeats 38 [some (.ref (ad 54)), some (.int x1), some (.int x2)] [] M Q := by
  refine r_aload_n dX13_readBeats_38 rfl ?_
  refine r_iload_n dX13_readBeats_39 rfl ?_
  refine r_iload_n dX13_readBeats_40 rfl ?_
  exact r_callX (x := 54) (As := [.int x2, .int x1]) (rest := []) dX13_readBeats_41 mk_X13_90 mv_X13_readStroke rm_X13_readBeats_X13_readStroke rfl rfl (by decide +kernel) (Nat.le_of_ble_eq_true rfl) (cal_xv rfl (lo' := [some (.ref (ad 54)), some (.int x1), some (.int x2)]) ⟨rfl, rfl, rfl, trivial⟩ K1)
theorem t_X13_readBeats_44 {x1 : Int32} {x2 : Int32} 
    (K1 : ((gI M 54 6) = 2) → Fw l D ad kA mX13_readBeats 38 [some (.ref (ad 54)), some (.int x1), some (.int x2)] [] M Q)
    (K2 : (¬ ((gI M 54 6) = 2)) → Cal l D ad kA mX13_need [.ref (ad 54), .int (if (gI M 54 6) = 3 then 1 else 0), .int 1] M (fun oc M2 => (oc = .returned none ∧ Fw l D ad kA mX13_readBeats 70 [some (.ref (ad 54)), some (.int x1), some (.int x2)] [] M2 Q) ∨ (oc = .threw (ad 53) ∧ Q (.threw (ad 53)) M2))) : Fw l D ad kA mX13_readBeats 44 [some (.ref (ad 54)), some (.int x1), some (.int x2)] [] M Q := by
  refine r_aload_n dX13_readBeats_44 rfl ?_
  refine r_getI dX13_readBeats_45 fs_54_6 fk_X13_37 ?_
  refine r_iconst (v := 2) dX13_readBeats_48 kI_2 ?_
  refine r_icmp_eq (tgt := 38) dX13_readBeats_49 (by decide) (fun c1 => ?_) (fun c1 => ?_)
  · skip
    exact (K1 c1)
  · skip
    refine r_aload_n dX13_readBeats_52 rfl ?_
    refine r_aload_n dX13_readBeats_53 rfl ?_
    refine r_getI dX13_readBeats_54 fs_54_6 fk_X13_37 ?_
    refine r_iconst (v := 3) dX13_readBeats_57 kI_3 ?_
    suffices hJ1 : Fw l D ad kA mX13_readBeats 66 [some (.ref (ad 54)), some (.int x1), some (.int x2)] [.int (if (gI M 54 6) = 3 then 1 else 0), .ref (ad 54)] M Q by
      refine r_icmp_ne (tgt := 65) dX13_readBeats_58 (by decide) (fun c2 => ?_) (fun c2 => ?_)
      · skip
        refine r_iconst (v := 0) dX13_readBeats_65 kI_0 ?_
        exact q_weak (lo' := [some (.ref (ad 54)), some (.int x1), some (.int x2)]) ⟨rfl, rfl, rfl, trivial⟩ (by have h9 := hJ1; simp only [if_neg c2] at h9; first | exact h9 | (simp only [if_neg c2]; exact h9))
      · skip
        refine r_iconst (v := 1) dX13_readBeats_61 kI_1 ?_
        refine r_goto (tgt := 66) dX13_readBeats_62 (by decide) ?_
        exact q_weak (lo' := [some (.ref (ad 54)), some (.int x1), some (.int x2)]) ⟨rfl, rfl, rfl, trivial⟩ (by have h9 := hJ1; simp only [if_pos c2] at h9; first | exact h9 | (simp only [if_pos c2]; exact h9))
    refine r_iconst (v := 1) dX13_readBeats_66 kI_1 ?_
    exact r_callX (x := 54) (As := [.int (if (gI M 54 6) = 3 then 1 else 0), .int 1]) (rest := []) dX13_readBeats_67 mk_X13_63 mv_X13_need rm_X13_readBeats_X13_need rfl rfl (by decide +kernel) (Nat.le_of_ble_eq_true rfl) (cal_xv rfl (lo' := [some (.ref (ad 54)), some (.int x1), some (.int x2)]) ⟨rfl, rfl, rfl, trivial⟩ (K2 c1))
theorem t_X13_readBeats_70 {x1 : Int32} {x2 : Int32} 
    (K1 : Cal l D ad kA mX13_scan [.ref (ad 54)] M (fun oc M2 => oc = .returned none ∧ Fw l D ad kA mX13_readBeats 74 [some (.ref (ad 54)), some (.int x1), some (.int x2)] [] M2 Q)) : Fw l D ad kA mX13_readBeats 70 [some (.ref (ad 54)), some (.int x1), some (.int x2)] [] M Q := by
  refine r_aload_n dX13_readBeats_70 rfl ?_
  exact r_callV (x := 54) (As := []) (rest := []) dX13_readBeats_71 mk_X13_71 mv_X13_scan rm_X13_readBeats_X13_scan rfl rfl (by decide +kernel) (Nat.le_of_ble_eq_true rfl) (cal_v (lo' := [some (.ref (ad 54)), some (.int x1), some (.int x2)]) ⟨rfl, rfl, rfl, trivial⟩ K1)
theorem t_X13_readBeats_74 {x1 : Int32} {x2 : Int32} 
    (K1 : Fw l D ad kA mX13_readBeats 7 [some (.ref (ad 54)), some (.int x1), some (.int x2)] [] M Q) : Fw l D ad kA mX13_readBeats 74 [some (.ref (ad 54)), some (.int x1), some (.int x2)] [] M Q := by
  refine r_goto (tgt := 7) dX13_readBeats_74 (by decide) ?_
  exact K1
theorem en_X13_readBeats {x1 : Int32} (K : Fw l D ad kA mX13_readBeats 0 [some (.ref (ad 54)), some (.int x1), none] [] M Q) : Cal l D ad kA mX13_readBeats [.ref (ad 54), .int x1] M Q := Cal.of (by decide) rfl rfl (Nat.le_of_ble_eq_true rfl) K
theorem t_X13_readManners_0  
    (K1 : Fw l D ad kA mX13_readManners 31 [some (.ref (ad 54)), some (.int 0), none] [] (sI (sI (sI (sI M 64 (0 : Int32).toNatClampNeg 1) 64 (1 : Int32).toNatClampNeg 4) 64 (2 : Int32).toNatClampNeg 12) 64 (3 : Int32).toNatClampNeg 1) Q) : Fw l D ad kA mX13_readManners 0 [some (.ref (ad 54)), none, none] [] M Q := by
  refine r_aload_n dX13_readManners_0 rfl ?_
  refine r_getR dX13_readManners_1 fs_54_20 fk_X13_137 ?_
  refine r_iconst (v := 0) dX13_readManners_4 kI_0 ?_
  refine r_iconst (v := 1) dX13_readManners_5 kI_1 ?_
  refine r_iast dX13_readManners_6 as_64 (by unfold vp_in; decide) ?_
  refine r_aload_n dX13_readManners_7 rfl ?_
  refine r_getR dX13_readManners_8 fs_54_20 fk_X13_137 ?_
  refine r_iconst (v := 1) dX13_readManners_11 kI_1 ?_
  refine r_iconst (v := 4) dX13_readManners_12 kI_4 ?_
  refine r_iast dX13_readManners_13 as_64 (by unfold vp_in; decide) ?_
  refine r_aload_n dX13_readManners_14 rfl ?_
  refine r_getR dX13_readManners_15 fs_54_20 fk_X13_137 ?_
  refine r_iconst (v := 2) dX13_readManners_18 kI_2 ?_
  refine r_bipush (v := 12) dX13_readManners_19 kB_12 ?_
  refine r_iast dX13_readManners_21 as_64 (by unfold vp_in; decide) ?_
  refine r_aload_n dX13_readManners_22 rfl ?_
  refine r_getR dX13_readManners_23 fs_54_20 fk_X13_137 ?_
  refine r_iconst (v := 3) dX13_readManners_26 kI_3 ?_
  refine r_iconst (v := 1) dX13_readManners_27 kI_1 ?_
  refine r_iast dX13_readManners_28 as_64 (by unfold vp_in; decide) ?_
  refine r_iconst (v := 0) dX13_readManners_29 kI_0 ?_
  refine q_istore_n (lo' := [some (.ref (ad 54)), some (.int 0), none]) dX13_readManners_30 (by decide) rfl ?_
  exact K1
theorem t_X13_readManners_31 {x1 : Int32} 
    (g1 : (¬ (4 ≤ x1)) → vp_in x1 4)
    (K1 : (4 ≤ x1) → Fw l D ad kA mX13_readManners 51 [some (.ref (ad 54)), some (.int 0), none] [] M Q)
    (K2 : (¬ (4 ≤ x1)) → Fw l D ad kA mX13_readManners 31 [some (.ref (ad 54)), some (.int (x1 + 1)), none] [] (sI M 66 x1.toNatClampNeg 0) Q) : Fw l D ad kA mX13_readManners 31 [some (.ref (ad 54)), some (.int x1), none] [] M Q := by
  refine r_iload_n dX13_readManners_31 rfl ?_
  refine r_iconst (v := 4) dX13_readManners_32 kI_4 ?_
  refine r_icmp_ge (tgt := 49) dX13_readManners_33 (by decide) (fun c1 => ?_) (fun c1 => ?_)
  · skip
    refine r_iconst (v := 0) dX13_readManners_49 kI_0 ?_
    refine q_istore_n (lo' := [some (.ref (ad 54)), some (.int 0), none]) dX13_readManners_50 (by decide) rfl ?_
    exact (K1 c1)
  · skip
    refine r_aload_n dX13_readManners_36 rfl ?_
    refine r_getR dX13_readManners_37 fs_54_22 fk_X13_143 ?_
    refine r_iload_n dX13_readManners_40 rfl ?_
    refine r_iconst (v := 0) dX13_readManners_41 kI_0 ?_
    refine q_zast dX13_readManners_42 as_66 (g1 c1) (Or.inl rfl) ?_
    refine q_iinc (v := x1 + 1) (lo' := [some (.ref (ad 54)), some (.int (x1 + 1)), none]) dX13_readManners_43 rfl (congrArg (fun q => x1 + q) kI_1) (by decide) rfl ?_
    refine r_goto (tgt := 31) dX13_readManners_46 (by decide) ?_
    exact (K2 c1)
theorem t_X13_readManners_51 {x1 : Int32} 
    (K1 : ((gI M 54 6) = 0) → Q (.returned (some (.int x1))) M)
    (K2 : (¬ ((gI M 54 6) = 0)) → Cal l D ad kA mX13_ruleAtHand [.ref (ad 54)] M (fun oc M2 => ∃ r : Int32, oc = .returned (some (.int r)) ∧ Fw l D ad kA mX13_readManners 62 [some (.ref (ad 54)), some (.int x1), none] [.int r] M2 Q)) : Fw l D ad kA mX13_readManners 51 [some (.ref (ad 54)), some (.int x1), none] [] M Q := by
  refine r_aload_n dX13_readManners_51 rfl ?_
  refine r_getI dX13_readManners_52 fs_54_6 fk_X13_37 ?_
  refine r_if_eq (tgt := 178) dX13_readManners_55 (by decide) (fun c1 => ?_) (fun c1 => ?_)
  · skip
    refine r_iload_n dX13_readManners_178 rfl ?_
    exact r_iret dX13_readManners_179 rfl (K1 c1)
  · skip
    refine r_aload_n dX13_readManners_58 rfl ?_
    exact r_callV (x := 54) (As := []) (rest := []) dX13_readManners_59 mk_X13_258 mv_X13_ruleAtHand rm_X13_readManners_X13_ruleAtHand rfl rfl (by decide +kernel) (Nat.le_of_ble_eq_true rfl) (cal_i (lo' := [some (.ref (ad 54)), some (.int x1), none]) ⟨rfl, rfl, trivial⟩ (K2 c1))
theorem t_X13_readManners_62 {x1 : Int32} {s1 : Int32} 
    (K1 : Cal l D ad kA mX13_need [.ref (ad 54), .int (if s1 = (-1) then 0 else 1), .int 1] M (fun oc M2 => (oc = .returned none ∧ Fw l D ad kA mX13_readManners 78 [some (.ref (ad 54)), some (.int x1), some (.int s1)] [] M2 Q) ∨ (oc = .threw (ad 53) ∧ Q (.threw (ad 53)) M2))) : Fw l D ad kA mX13_readManners 62 [some (.ref (ad 54)), some (.int x1), none] [.int s1] M Q := by
  refine q_istore_n (lo' := [some (.ref (ad 54)), some (.int x1), some (.int s1)]) dX13_readManners_62 (by decide) rfl ?_
  refine r_aload_n dX13_readManners_63 rfl ?_
  refine r_iload_n dX13_readManners_64 rfl ?_
  refine r_iconst (v := (-1)) dX13_readManners_65 kI_m1 ?_
  suffices hJ1 : Fw l D ad kA mX13_readManners 74 [some (.ref (ad 54)), some (.int x1), some (.int s1)] [.int (if s1 = (-1) then 0 else 1), .ref (ad 54)] M Q by
    refine r_icmp_eq (tgt := 73) dX13_readManners_66 (by decide) (fun c1 => ?_) (fun c1 => ?_)
    · skip
      refine r_iconst (v := 0) dX13_readManners_73 kI_0 ?_
      exact q_weak (lo' := [some (.ref (ad 54)), some (.int x1), some (.int s1)]) ⟨rfl, rfl, rfl, trivial⟩ (by have h9 := hJ1; simp only [if_pos c1] at h9; first | exact h9 | (simp only [if_pos c1]; exact h9))
    · skip
      refine r_iconst (v := 1) dX13_readManners_69 kI_1 ?_
      refine r_goto (tgt := 74) dX13_readManners_70 (by decide) ?_
      exact q_weak (lo' := [some (.ref (ad 54)), some (.int x1), some (.int s1)]) ⟨rfl, rfl, rfl, trivial⟩ (by have h9 := hJ1; simp only [if_neg c1] at h9; first | exact h9 | (simp only [if_neg c1]; exact h9))
  refine r_iconst (v := 1) dX13_readManners_74 kI_1 ?_
  exact r_callX (x := 54) (As := [.int (if s1 = (-1) then 0 else 1), .int 1]) (rest := []) dX13_readManners_75 mk_X13_63 mv_X13_need rm_X13_readManners_X13_need rfl rfl (by decide +kernel) (Nat.le_of_ble_eq_true rfl) (cal_xv rfl (lo' := [some (.ref (ad 54)), some (.int x1), some (.int s1)]) ⟨rfl, rfl, rfl, trivial⟩ K1)
theorem t_X13_readManners_78 {x1 : Int32} {x2 : Int32} 
    (g1 : vp_in x2 4)
    (K1 : Cal l D ad kA mX13_need [.ref (ad 54), .int (if (gI M 66 x2.toNatClampNeg) = 0 then 1 else 0), .int 3] M (fun oc M2 => (oc = .returned none ∧ Fw l D ad kA mX13_readManners 97 [some (.ref (ad 54)), some (.int x1), some (.int x2)] [] M2 Q) ∨ (oc = .threw (ad 53) ∧ Q (.threw (ad 53)) M2))) : Fw l D ad kA mX13_readManners 78 [some (.ref (ad 54)), some (.int x1), some (.int x2)] [] M Q := by
  refine r_aload_n dX13_readManners_78 rfl ?_
  refine r_aload_n dX13_readManners_79 rfl ?_
  refine r_getR dX13_readManners_80 fs_54_22 fk_X13_143 ?_
  refine r_iload_n dX13_readManners_83 rfl ?_
  refine r_zald dX13_readManners_84 as_66 g1 ?_
  suffices hJ1 : Fw l D ad kA mX13_readManners 93 [some (.ref (ad 54)), some (.int x1), some (.int x2)] [.int (if (gI M 66 x2.toNatClampNeg) = 0 then 1 else 0), .ref (ad 54)] M Q by
    refine r_if_ne (tgt := 92) dX13_readManners_85 (by decide) (fun c1 => ?_) (fun c1 => ?_)
    · skip
      refine r_iconst (v := 0) dX13_readManners_92 kI_0 ?_
      exact q_weak (lo' := [some (.ref (ad 54)), some (.int x1), some (.int x2)]) ⟨rfl, rfl, rfl, trivial⟩ (by have h9 := hJ1; simp only [if_neg c1] at h9; first | exact h9 | (simp only [if_neg c1]; exact h9))
    · skip
      refine r_iconst (v := 1) dX13_readManners_88 kI_1 ?_
      refine r_goto (tgt := 93) dX13_readManners_89 (by decide) ?_
      exact q_weak (lo' := [some (.ref (ad 54)), some (.int x1), some (.int x2)]) ⟨rfl, rfl, rfl, trivial⟩ (by have h9 := hJ1; simp only [if_pos c1] at h9; first | exact h9 | (simp only [if_pos c1]; exact h9))
  refine r_iconst (v := 3) dX13_readManners_93 kI_3 ?_
  exact r_callX (x := 54) (As := [.int (if (gI M 66 x2.toNatClampNeg) = 0 then 1 else 0), .int 3]) (rest := []) dX13_readManners_94 mk_X13_63 mv_X13_need rm_X13_readManners_X13_need rfl rfl (by decide +kernel) (Nat.le_of_ble_eq_true rfl) (cal_xv rfl (lo' := [some (.ref (ad 54)), some (.int x1), some (.int x2)]) ⟨rfl, rfl, rfl, trivial⟩ K1)
theorem t_X13_readManners_97 {x1 : Int32} {x2 : Int32} 
    (g1 : vp_in x2 4)
    (K1 : Cal l D ad kA mX13_scan [.ref (ad 54)] (sI M 66 x2.toNatClampNeg 1) (fun oc M2 => oc = .returned none ∧ Fw l D ad kA mX13_readManners 108 [some (.ref (ad 54)), some (.int x1), some (.int x2)] [] M2 Q)) : Fw l D ad kA mX13_readManners 97 [some (.ref (ad 54)), some (.int x1), some (.int x2)] [] M Q := by
  refine r_aload_n dX13_readManners_97 rfl ?_
  refine r_getR dX13_readManners_98 fs_54_22 fk_X13_143 ?_
  refine r_iload_n dX13_readManners_101 rfl ?_
  refine r_iconst (v := 1) dX13_readManners_102 kI_1 ?_
  refine q_zast dX13_readManners_103 as_66 g1 (Or.inr rfl) ?_
  refine r_aload_n dX13_readManners_104 rfl ?_
  exact r_callV (x := 54) (As := []) (rest := []) dX13_readManners_105 mk_X13_71 mv_X13_scan rm_X13_readManners_X13_scan rfl rfl (by decide +kernel) (Nat.le_of_ble_eq_true rfl) (cal_v (lo' := [some (.ref (ad 54)), some (.int x1), some (.int x2)]) ⟨rfl, rfl, rfl, trivial⟩ K1)
theorem t_X13_readManners_108 {x1 : Int32} {x2 : Int32} 
    (K1 : Cal l D ad kA mX13_number [.ref (ad 54), .int (if x2 = 1 then 1 else 0), .int (if x2 = 1 then 12 else if x2 = 2 then 47 else 9)] M (fun oc M2 => (∃ r : Int32, oc = .returned (some (.int r)) ∧ Fw l D ad kA mX13_readManners 149 [some (.ref (ad 54)), some (.int x1), none] [.int r, .int x2, .ref (ad 64)] M2 Q) ∨ (oc = .threw (ad 53) ∧ Q (.threw (ad 53)) M2))) : Fw l D ad kA mX13_readManners 108 [some (.ref (ad 54)), some (.int x1), some (.int x2)] [] M Q := by
  refine r_aload_n dX13_readManners_108 rfl ?_
  refine r_getR dX13_readManners_109 fs_54_20 fk_X13_137 ?_
  refine r_iload_n dX13_readManners_112 rfl ?_
  refine r_aload_n dX13_readManners_113 rfl ?_
  refine r_iload_n dX13_readManners_114 rfl ?_
  refine r_iconst (v := 1) dX13_readManners_115 kI_1 ?_
  suffices hJ1 : Fw l D ad kA mX13_readManners 124 [some (.ref (ad 54)), some (.int x1), some (.int x2)] [.int (if x2 = 1 then 1 else 0), .ref (ad 54), .int x2, .ref (ad 64)] M Q by
    refine r_icmp_ne (tgt := 123) dX13_readManners_116 (by decide) (fun c1 => ?_) (fun c1 => ?_)
    · skip
      refine r_iconst (v := 0) dX13_readManners_123 kI_0 ?_
      exact q_weak (lo' := [some (.ref (ad 54)), some (.int x1), some (.int x2)]) ⟨rfl, rfl, rfl, trivial⟩ (by have h9 := hJ1; simp only [if_neg c1] at h9; first | exact h9 | (simp only [if_neg c1]; exact h9))
    · skip
      refine r_iconst (v := 1) dX13_readManners_119 kI_1 ?_
      refine r_goto (tgt := 124) dX13_readManners_120 (by decide) ?_
      exact q_weak (lo' := [some (.ref (ad 54)), some (.int x1), some (.int x2)]) ⟨rfl, rfl, rfl, trivial⟩ (by have h9 := hJ1; simp only [if_pos c1] at h9; first | exact h9 | (simp only [if_pos c1]; exact h9))
  refine r_iload_n dX13_readManners_124 rfl ?_
  refine r_iconst (v := 1) dX13_readManners_125 kI_1 ?_
  suffices hJ2 : Fw l D ad kA mX13_readManners 146 [some (.ref (ad 54)), some (.int x1), none] [.int (if x2 = 1 then 12 else if x2 = 2 then 47 else 9), .int (if x2 = 1 then 1 else 0), .ref (ad 54), .int x2, .ref (ad 64)] M Q by
    refine r_icmp_ne (tgt := 134) dX13_readManners_126 (by decide) (fun c2 => ?_) (fun c2 => ?_)
    · skip
      refine r_iload_n dX13_readManners_134 rfl ?_
      refine r_iconst (v := 2) dX13_readManners_135 kI_2 ?_
      refine r_icmp_ne (tgt := 144) dX13_readManners_136 (by decide) (fun c3 => ?_) (fun c3 => ?_)
      · skip
        refine r_bipush (v := 9) dX13_readManners_144 kB_9 ?_
        exact q_weak (lo' := [some (.ref (ad 54)), some (.int x1), none]) ⟨rfl, rfl, trivial⟩ (by have h9 := hJ2; simp only [if_neg c2, if_neg c3] at h9; first | exact h9 | (simp only [if_neg c2, if_neg c3]; exact h9))
      · skip
        refine r_bipush (v := 47) dX13_readManners_139 kB_47 ?_
        refine r_goto (tgt := 146) dX13_readManners_141 (by decide) ?_
        exact q_weak (lo' := [some (.ref (ad 54)), some (.int x1), none]) ⟨rfl, rfl, trivial⟩ (by have h9 := hJ2; simp only [if_neg c2, if_pos c3] at h9; first | exact h9 | (simp only [if_neg c2, if_pos c3]; exact h9))
    · skip
      refine r_bipush (v := 12) dX13_readManners_129 kB_12 ?_
      refine r_goto (tgt := 146) dX13_readManners_131 (by decide) ?_
      exact q_weak (lo' := [some (.ref (ad 54)), some (.int x1), none]) ⟨rfl, rfl, trivial⟩ (by have h9 := hJ2; simp only [if_pos c2] at h9; first | exact h9 | (simp only [if_pos c2]; exact h9))
  exact r_callX (x := 54) (As := [.int (if x2 = 1 then 1 else 0), .int (if x2 = 1 then 12 else if x2 = 2 then 47 else 9)]) (rest := [.int x2, .ref (ad 64)]) dX13_readManners_146 mk_X13_87 mv_X13_number rm_X13_readManners_X13_number rfl rfl (by decide +kernel) (Nat.le_of_ble_eq_true rfl) (cal_xi rfl (lo' := [some (.ref (ad 54)), some (.int x1), none]) ⟨rfl, rfl, trivial⟩ K1)
theorem t_X13_readManners_149 {x1 : Int32} {s3 : Int32} {s2 : Int32} 
    (g1 : vp_in s2 4)
    (K1 : Cal l D ad kA mX13_need [.ref (ad 54), .int (if (gI M 54 6) = 3 then 1 else 0), .int 1] (sI M 64 s2.toNatClampNeg s3) (fun oc M2 => (oc = .returned none ∧ Fw l D ad kA mX13_readManners 168 [some (.ref (ad 54)), some (.int x1), none] [] M2 Q) ∨ (oc = .threw (ad 53) ∧ Q (.threw (ad 53)) M2))) : Fw l D ad kA mX13_readManners 149 [some (.ref (ad 54)), some (.int x1), none] [.int s3, .int s2, .ref (ad 64)] M Q := by
  refine r_iast dX13_readManners_149 as_64 g1 ?_
  refine r_aload_n dX13_readManners_150 rfl ?_
  refine r_aload_n dX13_readManners_151 rfl ?_
  refine q_getI (v := gI M 54 6) dX13_readManners_152 fs_54_6 fk_X13_37 rfl ?_
  refine r_iconst (v := 3) dX13_readManners_155 kI_3 ?_
  suffices hJ1 : Fw l D ad kA mX13_readManners 164 [some (.ref (ad 54)), some (.int x1), none] [.int (if (gI M 54 6) = 3 then 1 else 0), .ref (ad 54)] (sI M 64 s2.toNatClampNeg s3) Q by
    refine r_icmp_ne (tgt := 163) dX13_readManners_156 (by decide) (fun c1 => ?_) (fun c1 => ?_)
    · skip
      refine r_iconst (v := 0) dX13_readManners_163 kI_0 ?_
      exact q_weak (lo' := [some (.ref (ad 54)), some (.int x1), none]) ⟨rfl, rfl, trivial⟩ (by have h9 := hJ1; simp only [if_neg c1] at h9; first | exact h9 | (simp only [if_neg c1]; exact h9))
    · skip
      refine r_iconst (v := 1) dX13_readManners_159 kI_1 ?_
      refine r_goto (tgt := 164) dX13_readManners_160 (by decide) ?_
      exact q_weak (lo' := [some (.ref (ad 54)), some (.int x1), none]) ⟨rfl, rfl, trivial⟩ (by have h9 := hJ1; simp only [if_pos c1] at h9; first | exact h9 | (simp only [if_pos c1]; exact h9))
  refine r_iconst (v := 1) dX13_readManners_164 kI_1 ?_
  exact r_callX (x := 54) (As := [.int (if (gI M 54 6) = 3 then 1 else 0), .int 1]) (rest := []) dX13_readManners_165 mk_X13_63 mv_X13_need rm_X13_readManners_X13_need rfl rfl (by decide +kernel) (Nat.le_of_ble_eq_true rfl) (cal_xv rfl (lo' := [some (.ref (ad 54)), some (.int x1), none]) ⟨rfl, rfl, trivial⟩ K1)
theorem t_X13_readManners_168 {x1 : Int32} 
    (K1 : Cal l D ad kA mX13_scan [.ref (ad 54)] M (fun oc M2 => oc = .returned none ∧ Fw l D ad kA mX13_readManners 172 [some (.ref (ad 54)), some (.int x1), none] [] M2 Q)) : Fw l D ad kA mX13_readManners 168 [some (.ref (ad 54)), some (.int x1), none] [] M Q := by
  refine r_aload_n dX13_readManners_168 rfl ?_
  exact r_callV (x := 54) (As := []) (rest := []) dX13_readManners_169 mk_X13_71 mv_X13_scan rm_X13_readManners_X13_scan rfl rfl (by decide +kernel) (Nat.le_of_ble_eq_true rfl) (cal_v (lo' := [some (.ref (ad 54)), some (.int x1), none]) ⟨rfl, rfl, trivial⟩ K1)
theorem t_X13_readManners_172 {x1 : Int32} 
    (K1 : Fw l D ad kA mX13_readManners 51 [some (.ref (ad 54)), some (.int (x1 + 1)), none] [] M Q) : Fw l D ad kA mX13_readManners 172 [some (.ref (ad 54)), some (.int x1), none] [] M Q := by
  refine q_iinc (v := x1 + 1) (lo' := [some (.ref (ad 54)), some (.int (x1 + 1)), none]) dX13_readManners_172 rfl (congrArg (fun q => x1 + q) kI_1) (by decide) rfl ?_
  refine r_goto (tgt := 51) dX13_readManners_175 (by decide) ?_
  exact K1
theorem en_X13_readManners  (K : Fw l D ad kA mX13_readManners 0 [some (.ref (ad 54)), none, none] [] M Q) : Cal l D ad kA mX13_readManners [.ref (ad 54)] M Q := Cal.of (by decide) rfl rfl (Nat.le_of_ble_eq_true rfl) K
theorem t_X13_score_0  
    (K1 : Cal l D ad kA mX13_begin [.ref (ad 54)] M (fun oc M2 => oc = .returned none ∧ Fw l D ad kA mX13_score 4 [some (.ref (ad 54)), none] [] M2 Q)) : Fw l D ad kA mX13_score 0 [some (.ref (ad 54)), none] [] M Q := by
  refine r_aload_n dX13_score_0 rfl ?_
  exact r_callV (x := 54) (As := []) (rest := []) dX13_score_1 mk_X13_226 mv_X13_begin rm_X13_score_X13_begin rfl rfl (by decide +kernel) (Nat.le_of_ble_eq_true rfl) (cal_v (lo' := [some (.ref (ad 54)), none]) ⟨rfl, trivial⟩ K1)
theorem t_X13_score_4  
    (K1 : Cal l D ad kA mX13_readBeats [.ref (ad 54), .int 1] M (fun oc M2 => (oc = .returned none ∧ Fw l D ad kA mX13_score 9 [some (.ref (ad 54)), none] [] M2 Q) ∨ (oc = .threw (ad 53) ∧ Fw l D ad kA mX13_score 12 [none, none] [.ref (ad 53)] M2 Q))) : Fw l D ad kA mX13_score 4 [some (.ref (ad 54)), none] [] M Q := by
  refine r_aload_n dX13_score_4 rfl ?_
  refine r_iconst (v := 1) dX13_score_5 kI_1 ?_
  exact r_callX (x := 54) (As := [.int 1]) (rest := []) dX13_score_6 mk_X13_229 mv_X13_readBeats rm_X13_score_X13_readBeats rfl rfl (by decide +kernel) (Nat.le_of_ble_eq_true rfl) (cal_hv (lo2 := [none, none]) rfl rfl (by decide) (lo' := [some (.ref (ad 54)), none]) ⟨rfl, trivial⟩ trivial K1)
theorem t_X13_score_12  
    (K1 : Q (.returned (some (.int (-1)))) M) : Fw l D ad kA mX13_score 12 [none, none] [.ref (ad 53)] M Q := by
  refine q_astore_n (lo' := [none, some (.ref (ad 53))]) dX13_score_12 (by decide) rfl ?_
  refine r_iconst (v := (-1)) dX13_score_13 kI_m1 ?_
  exact r_iret dX13_score_14 rfl K1
theorem t_X13_score_9  
    (K1 : Fw l D ad kA mX13_score 25 [some (.ref (ad 54)), some (.int 0)] [] (sI M 54 10 (gI M 54 11)) Q) : Fw l D ad kA mX13_score 9 [some (.ref (ad 54)), none] [] M Q := by
  refine r_goto (tgt := 15) dX13_score_9 (by decide) ?_
  refine r_aload_n dX13_score_15 rfl ?_
  refine r_aload_n dX13_score_16 rfl ?_
  refine r_getI dX13_score_17 fs_54_11 fk_X13_78 ?_
  refine r_putI dX13_score_20 fs_54_10 fk_X13_233 fp_X13_10 ?_
  refine r_iconst (v := 0) dX13_score_23 kI_0 ?_
  refine q_istore_n (lo' := [some (.ref (ad 54)), some (.int 0)]) dX13_score_24 (by decide) rfl ?_
  exact K1
theorem t_X13_score_25 {x1 : Int32} 
    (g1 : (¬ ((gI M 54 10) ≤ x1)) → vp_in x1 160)
    (K1 : ((gI M 54 10) ≤ x1) → Q (.returned (some (.int (gI M 54 10)))) (sI (sI (sI (sI (sI M 54 26 0) 54 32 0) 54 44 0) 54 52 0) 54 65 0))
    (K2 : (¬ ((gI M 54 10) ≤ x1)) → Fw l D ad kA mX13_score 25 [some (.ref (ad 54)), some (.int (x1 + 1))] [] (sI (sI (sI (sI M 56 x1.toNatClampNeg (gI M 60 x1.toNatClampNeg)) 57 x1.toNatClampNeg (gI M 61 x1.toNatClampNeg)) 58 x1.toNatClampNeg (gI M 62 x1.toNatClampNeg)) 59 x1.toNatClampNeg (gI M 63 x1.toNatClampNeg)) Q) : Fw l D ad kA mX13_score 25 [some (.ref (ad 54)), some (.int x1)] [] M Q := by
  refine r_iload_n dX13_score_25 rfl ?_
  refine r_aload_n dX13_score_26 rfl ?_
  refine r_getI dX13_score_27 fs_54_10 fk_X13_233 ?_
  refine r_icmp_ge (tgt := 87) dX13_score_30 (by decide) (fun c1 => ?_) (fun c1 => ?_)
  · skip
    refine r_aload_n dX13_score_87 rfl ?_
    refine r_iconst (v := 0) dX13_score_88 kI_0 ?_
    refine r_putZ dX13_score_89 fs_54_26 fk_X13_236 fp_X13_26 (Or.inl rfl) ?_
    refine r_aload_n dX13_score_92 rfl ?_
    refine r_iconst (v := 0) dX13_score_93 kI_0 ?_
    refine r_putZ dX13_score_94 fs_54_32 fk_X13_240 fp_X13_32 (Or.inl rfl) ?_
    refine r_aload_n dX13_score_97 rfl ?_
    refine r_iconst (v := 0) dX13_score_98 kI_0 ?_
    refine r_putZ dX13_score_99 fs_54_44 fk_X13_243 fp_X13_44 (Or.inl rfl) ?_
    refine r_aload_n dX13_score_102 rfl ?_
    refine r_iconst (v := 0) dX13_score_103 kI_0 ?_
    refine r_putZ dX13_score_104 fs_54_52 fk_X13_246 fp_X13_52 (Or.inl rfl) ?_
    refine r_aload_n dX13_score_107 rfl ?_
    refine r_iconst (v := 0) dX13_score_108 kI_0 ?_
    refine r_putZ dX13_score_109 fs_54_65 fk_X13_249 fp_X13_65 (Or.inl rfl) ?_
    refine r_aload_n dX13_score_112 rfl ?_
    refine q_getI (v := gI M 54 10) dX13_score_113 fs_54_10 fk_X13_233 rfl ?_
    exact r_iret dX13_score_116 rfl (K1 c1)
  · skip
    refine r_aload_n dX13_score_33 rfl ?_
    refine r_getR dX13_score_34 fs_54_12 fk_X13_125 ?_
    refine r_iload_n dX13_score_37 rfl ?_
    refine r_aload_n dX13_score_38 rfl ?_
    refine r_getR dX13_score_39 fs_54_16 fk_X13_94 ?_
    refine r_iload_n dX13_score_42 rfl ?_
    refine r_iald dX13_score_43 as_60 (g1 c1) ?_
    refine r_iast dX13_score_44 as_56 (g1 c1) ?_
    refine r_aload_n dX13_score_45 rfl ?_
    refine r_getR dX13_score_46 fs_54_13 fk_X13_128 ?_
    refine r_iload_n dX13_score_49 rfl ?_
    refine r_aload_n dX13_score_50 rfl ?_
    refine r_getR dX13_score_51 fs_54_17 fk_X13_98 ?_
    refine r_iload_n dX13_score_54 rfl ?_
    refine q_iald (v := gI M 61 x1.toNatClampNeg) dX13_score_55 as_61 (g1 c1) rfl ?_
    refine r_iast dX13_score_56 as_57 (g1 c1) ?_
    refine r_aload_n dX13_score_57 rfl ?_
    refine r_getR dX13_score_58 fs_54_14 fk_X13_131 ?_
    refine r_iload_n dX13_score_61 rfl ?_
    refine r_aload_n dX13_score_62 rfl ?_
    refine r_getR dX13_score_63 fs_54_18 fk_X13_107 ?_
    refine r_iload_n dX13_score_66 rfl ?_
    refine q_iald (v := gI M 62 x1.toNatClampNeg) dX13_score_67 as_62 (g1 c1) rfl ?_
    refine r_iast dX13_score_68 as_58 (g1 c1) ?_
    refine r_aload_n dX13_score_69 rfl ?_
    refine r_getR dX13_score_70 fs_54_15 fk_X13_134 ?_
    refine r_iload_n dX13_score_73 rfl ?_
    refine r_aload_n dX13_score_74 rfl ?_
    refine r_getR dX13_score_75 fs_54_19 fk_X13_110 ?_
    refine r_iload_n dX13_score_78 rfl ?_
    refine q_iald (v := gI M 63 x1.toNatClampNeg) dX13_score_79 as_63 (g1 c1) rfl ?_
    refine r_iast dX13_score_80 as_59 (g1 c1) ?_
    refine q_iinc (v := x1 + 1) (lo' := [some (.ref (ad 54)), some (.int (x1 + 1))]) dX13_score_81 rfl (congrArg (fun q => x1 + q) kI_1) (by decide) rfl ?_
    refine r_goto (tgt := 25) dX13_score_84 (by decide) ?_
    exact (K2 c1)
theorem en_X13_score  (K : Fw l D ad kA mX13_score 0 [some (.ref (ad 54)), none] [] M Q) : CalH l D ad kA mX13_score [.ref (ad 54)] M Q := CalH.of (by decide) rfl (Nat.le_of_ble_eq_true rfl) K
theorem t_X13_manners_0  
    (K1 : Cal l D ad kA mX13_begin [.ref (ad 54)] M (fun oc M2 => oc = .returned none ∧ Fw l D ad kA mX13_manners 4 [some (.ref (ad 54)), none, none] [] M2 Q)) : Fw l D ad kA mX13_manners 0 [some (.ref (ad 54)), none, none] [] M Q := by
  refine r_aload_n dX13_manners_0 rfl ?_
  exact r_callV (x := 54) (As := []) (rest := []) dX13_manners_1 mk_X13_226 mv_X13_begin rm_X13_manners_X13_begin rfl rfl (by decide +kernel) (Nat.le_of_ble_eq_true rfl) (cal_v (lo' := [some (.ref (ad 54)), none, none]) ⟨rfl, trivial⟩ K1)
theorem t_X13_manners_4  
    (K1 : Cal l D ad kA mX13_readManners [.ref (ad 54)] M (fun oc M2 => (∃ r : Int32, oc = .returned (some (.int r)) ∧ Fw l D ad kA mX13_manners 8 [some (.ref (ad 54)), none, none] [.int r] M2 Q) ∨ (oc = .threw (ad 53) ∧ Fw l D ad kA mX13_manners 12 [none, none, none] [.ref (ad 53)] M2 Q))) : Fw l D ad kA mX13_manners 4 [some (.ref (ad 54)), none, none] [] M Q := by
  refine r_aload_n dX13_manners_4 rfl ?_
  exact r_callX (x := 54) (As := []) (rest := []) dX13_manners_5 mk_X13_261 mv_X13_readManners rm_X13_manners_X13_readManners rfl rfl (by decide +kernel) (Nat.le_of_ble_eq_true rfl) (cal_hi (lo2 := [none, none, none]) rfl rfl (by decide) (lo' := [some (.ref (ad 54)), none, none]) ⟨rfl, trivial⟩ trivial K1)
theorem t_X13_manners_12  
    (K1 : Q (.returned (some (.int (-1)))) M) : Fw l D ad kA mX13_manners 12 [none, none, none] [.ref (ad 53)] M Q := by
  refine q_astore_n (lo' := [none, none, some (.ref (ad 53))]) dX13_manners_12 (by decide) rfl ?_
  refine r_iconst (v := (-1)) dX13_manners_13 kI_m1 ?_
  exact r_iret dX13_manners_14 rfl K1
theorem t_X13_manners_8 {s1 : Int32} 
    (K1 : Fw l D ad kA mX13_manners 17 [some (.ref (ad 54)), some (.int s1), some (.int 0)] [] M Q) : Fw l D ad kA mX13_manners 8 [some (.ref (ad 54)), none, none] [.int s1] M Q := by
  refine q_istore_n (lo' := [some (.ref (ad 54)), some (.int s1), none]) dX13_manners_8 (by decide) rfl ?_
  refine r_goto (tgt := 15) dX13_manners_9 (by decide) ?_
  refine r_iconst (v := 0) dX13_manners_15 kI_0 ?_
  refine q_istore_n (lo' := [some (.ref (ad 54)), some (.int s1), some (.int 0)]) dX13_manners_16 (by decide) rfl ?_
  exact K1
theorem t_X13_manners_17 {x1 : Int32} {x2 : Int32} 
    (g1 : (¬ (4 ≤ x2)) → vp_in x2 4)
    (K1 : (4 ≤ x2) → Q (.returned (some (.int x1))) (sI M 54 32 0))
    (K2 : (¬ (4 ≤ x2)) → Fw l D ad kA mX13_manners 17 [some (.ref (ad 54)), some (.int x1), some (.int (x2 + 1))] [] (sI M 65 x2.toNatClampNeg (gI M 64 x2.toNatClampNeg)) Q) : Fw l D ad kA mX13_manners 17 [some (.ref (ad 54)), some (.int x1), some (.int x2)] [] M Q := by
  refine r_iload_n dX13_manners_17 rfl ?_
  refine r_iconst (v := 4) dX13_manners_18 kI_4 ?_
  refine r_icmp_ge (tgt := 40) dX13_manners_19 (by decide) (fun c1 => ?_) (fun c1 => ?_)
  · skip
    refine r_aload_n dX13_manners_40 rfl ?_
    refine r_iconst (v := 0) dX13_manners_41 kI_0 ?_
    refine r_putZ dX13_manners_42 fs_54_32 fk_X13_240 fp_X13_32 (Or.inl rfl) ?_
    refine r_iload_n dX13_manners_45 rfl ?_
    exact r_iret dX13_manners_46 rfl (K1 c1)
  · skip
    refine r_aload_n dX13_manners_22 rfl ?_
    refine r_getR dX13_manners_23 fs_54_21 fk_X13_140 ?_
    refine r_iload_n dX13_manners_26 rfl ?_
    refine r_aload_n dX13_manners_27 rfl ?_
    refine r_getR dX13_manners_28 fs_54_20 fk_X13_137 ?_
    refine r_iload_n dX13_manners_31 rfl ?_
    refine r_iald dX13_manners_32 as_64 (g1 c1) ?_
    refine r_iast dX13_manners_33 as_65 (g1 c1) ?_
    refine q_iinc (v := x2 + 1) (lo' := [some (.ref (ad 54)), some (.int x1), some (.int (x2 + 1))]) dX13_manners_34 rfl (congrArg (fun q => x2 + q) kI_1) (by decide) rfl ?_
    refine r_goto (tgt := 17) dX13_manners_37 (by decide) ?_
    exact (K2 c1)
theorem en_X13_manners  (K : Fw l D ad kA mX13_manners 0 [some (.ref (ad 54)), none, none] [] M Q) : CalH l D ad kA mX13_manners [.ref (ad 54)] M Q := CalH.of (by decide) rfl (Nat.le_of_ble_eq_true rfl) K
theorem t_X13_heard_0  
    (K1 : Cal l D ad kA mX13_begin [.ref (ad 54)] M (fun oc M2 => oc = .returned none ∧ Fw l D ad kA mX13_heard 4 [some (.ref (ad 54)), none, none, none] [] M2 Q)) : Fw l D ad kA mX13_heard 0 [some (.ref (ad 54)), none, none, none] [] M Q := by
  refine r_aload_n dX13_heard_0 rfl ?_
  exact r_callV (x := 54) (As := []) (rest := []) dX13_heard_1 mk_X13_226 mv_X13_begin rm_X13_heard_X13_begin rfl rfl (by decide +kernel) (Nat.le_of_ble_eq_true rfl) (cal_v (lo' := [some (.ref (ad 54)), none, none, none]) ⟨rfl, trivial⟩ K1)
theorem t_X13_heard_4  
    (K1 : Cal l D ad kA mX13_readBeats [.ref (ad 54), .int 0] M (fun oc M2 => (oc = .returned none ∧ Fw l D ad kA mX13_heard 9 [some (.ref (ad 54)), none, none, none] [] M2 Q) ∨ (oc = .threw (ad 53) ∧ Fw l D ad kA mX13_heard 12 [none, none, none, none] [.ref (ad 53)] M2 Q))) : Fw l D ad kA mX13_heard 4 [some (.ref (ad 54)), none, none, none] [] M Q := by
  refine r_aload_n dX13_heard_4 rfl ?_
  refine r_iconst (v := 0) dX13_heard_5 kI_0 ?_
  exact r_callX (x := 54) (As := [.int 0]) (rest := []) dX13_heard_6 mk_X13_229 mv_X13_readBeats rm_X13_heard_X13_readBeats rfl rfl (by decide +kernel) (Nat.le_of_ble_eq_true rfl) (cal_hv (lo2 := [none, none, none, none]) rfl rfl (by decide) (lo' := [some (.ref (ad 54)), none, none, none]) ⟨rfl, trivial⟩ trivial K1)
theorem t_X13_heard_12  
    (K1 : Q (.returned (some (.int (-1)))) M) : Fw l D ad kA mX13_heard 12 [none, none, none, none] [.ref (ad 53)] M Q := by
  refine q_astore_n (lo' := [none, some (.ref (ad 53)), none, none]) dX13_heard_12 (by decide) rfl ?_
  refine r_iconst (v := (-1)) dX13_heard_13 kI_m1 ?_
  exact r_iret dX13_heard_14 rfl K1
theorem t_X13_heard_9  
    (K1 : Fw l D ad kA mX13_heard 25 [some (.ref (ad 54)), some (.int 0), none, none] [] (sI M 54 45 (gI M 54 11)) Q) : Fw l D ad kA mX13_heard 9 [some (.ref (ad 54)), none, none, none] [] M Q := by
  refine r_goto (tgt := 15) dX13_heard_9 (by decide) ?_
  refine r_aload_n dX13_heard_15 rfl ?_
  refine r_aload_n dX13_heard_16 rfl ?_
  refine r_getI dX13_heard_17 fs_54_11 fk_X13_78 ?_
  refine r_putI dX13_heard_20 fs_54_45 fk_X13_378 fp_X13_45 ?_
  refine r_iconst (v := 0) dX13_heard_23 kI_0 ?_
  refine q_istore_n (lo' := [some (.ref (ad 54)), some (.int 0), none, none]) dX13_heard_24 (by decide) rfl ?_
  exact K1
theorem t_X13_heard_25 {x1 : Int32} 
    (g1 : (¬ ((gI M 54 45) ≤ x1)) → vp_in x1 160)
    (K1 : ((gI M 54 45) ≤ x1) → Fw l D ad kA mX13_heard 75 [some (.ref (ad 54)), some (.int (gI M 54 10)), none, none] [] M Q)
    (K2 : (¬ ((gI M 54 45) ≤ x1)) → Fw l D ad kA mX13_heard 25 [some (.ref (ad 54)), some (.int (x1 + 1)), none, none] [] (sI (sI (sI M 80 x1.toNatClampNeg (gI M 60 x1.toNatClampNeg)) 81 x1.toNatClampNeg (gI M 61 x1.toNatClampNeg)) 84 x1.toNatClampNeg 0) Q) : Fw l D ad kA mX13_heard 25 [some (.ref (ad 54)), some (.int x1), none, none] [] M Q := by
  refine r_iload_n dX13_heard_25 rfl ?_
  refine r_aload_n dX13_heard_26 rfl ?_
  refine r_getI dX13_heard_27 fs_54_45 fk_X13_378 ?_
  refine r_icmp_ge (tgt := 70) dX13_heard_30 (by decide) (fun c1 => ?_) (fun c1 => ?_)
  · skip
    refine r_aload_n dX13_heard_70 rfl ?_
    refine r_getI dX13_heard_71 fs_54_10 fk_X13_233 ?_
    refine q_istore_n (lo' := [some (.ref (ad 54)), some (.int (gI M 54 10)), none, none]) dX13_heard_74 (by decide) rfl ?_
    exact (K1 c1)
  · skip
    refine r_aload_n dX13_heard_33 rfl ?_
    refine r_getR dX13_heard_34 fs_54_47 fk_X13_190 ?_
    refine r_iload_n dX13_heard_37 rfl ?_
    refine r_aload_n dX13_heard_38 rfl ?_
    refine r_getR dX13_heard_39 fs_54_16 fk_X13_94 ?_
    refine r_iload_n dX13_heard_42 rfl ?_
    refine r_iald dX13_heard_43 as_60 (g1 c1) ?_
    refine r_iast dX13_heard_44 as_80 (g1 c1) ?_
    refine r_aload_n dX13_heard_45 rfl ?_
    refine r_getR dX13_heard_46 fs_54_48 fk_X13_193 ?_
    refine r_iload_n dX13_heard_49 rfl ?_
    refine r_aload_n dX13_heard_50 rfl ?_
    refine r_getR dX13_heard_51 fs_54_17 fk_X13_98 ?_
    refine r_iload_n dX13_heard_54 rfl ?_
    refine q_iald (v := gI M 61 x1.toNatClampNeg) dX13_heard_55 as_61 (g1 c1) rfl ?_
    refine r_iast dX13_heard_56 as_81 (g1 c1) ?_
    refine r_aload_n dX13_heard_57 rfl ?_
    refine r_getR dX13_heard_58 fs_54_51 fk_X13_202 ?_
    refine r_iload_n dX13_heard_61 rfl ?_
    refine r_iconst (v := 0) dX13_heard_62 kI_0 ?_
    refine q_zast dX13_heard_63 as_84 (g1 c1) (Or.inl rfl) ?_
    refine q_iinc (v := x1 + 1) (lo' := [some (.ref (ad 54)), some (.int (x1 + 1)), none, none]) dX13_heard_64 rfl (congrArg (fun q => x1 + q) kI_1) (by decide) rfl ?_
    refine r_goto (tgt := 25) dX13_heard_67 (by decide) ?_
    exact (K2 c1)
theorem t_X13_heard_75 {x1 : Int32} 
    (K1 : (x1 < 0) → Fw l D ad kA mX13_heard 156 [some (.ref (ad 54)), some (.int 0), some (.int 0), none] [] (sI M 54 46 0) Q)
    (K2 : (¬ (x1 < 0)) → Fw l D ad kA mX13_heard 84 [some (.ref (ad 54)), some (.int x1), some (.int (gI M 54 45)), none] [] M Q) : Fw l D ad kA mX13_heard 75 [some (.ref (ad 54)), some (.int x1), none, none] [] M Q := by
  refine r_iload_n dX13_heard_75 rfl ?_
  refine r_if_lt (tgt := 147) dX13_heard_76 (by decide) (fun c1 => ?_) (fun c1 => ?_)
  · skip
    refine r_aload_n dX13_heard_147 rfl ?_
    refine r_iconst (v := 0) dX13_heard_148 kI_0 ?_
    refine r_putI dX13_heard_149 fs_54_46 fk_X13_396 fp_X13_46 ?_
    refine r_iconst (v := 0) dX13_heard_152 kI_0 ?_
    refine q_istore_n (lo' := [some (.ref (ad 54)), some (.int 0), none, none]) dX13_heard_153 (by decide) rfl ?_
    refine r_iconst (v := 0) dX13_heard_154 kI_0 ?_
    refine q_istore_n (lo' := [some (.ref (ad 54)), some (.int 0), some (.int 0), none]) dX13_heard_155 (by decide) rfl ?_
    exact (K1 c1)
  · skip
    refine r_aload_n dX13_heard_79 rfl ?_
    refine r_getI dX13_heard_80 fs_54_45 fk_X13_378 ?_
    refine q_istore_n (lo' := [some (.ref (ad 54)), some (.int x1), some (.int (gI M 54 45)), none]) dX13_heard_83 (by decide) rfl ?_
    exact (K2 c1)
theorem t_X13_heard_156 {x1 : Int32} {x2 : Int32} 
    (g1 : (x1 < (gI M 54 10)) → vp_in (v_X13_place x1 x2) 25921)
    (g2 : (x1 < (gI M 54 10)) → g_X13_pairFrom M x1 x2)
    (g3 : (x1 < (gI M 54 10)) → (¬ ((v_X13_pairFrom M x1 x2) = (gI M 83 (v_X13_place x1 x2).toNatClampNeg))) → g_X13_missedFrom M x1 x2)
    (g4 : (x1 < (gI M 54 10)) → (¬ ((v_X13_pairFrom M x1 x2) = (gI M 83 (v_X13_place x1 x2).toNatClampNeg))) → (¬ ((v_X13_missedFrom M x1 x2) = (gI M 83 (v_X13_place x1 x2).toNatClampNeg))) → vp_in x2 160)
    (g5 : (x1 < (gI M 54 10)) → (¬ ((v_X13_pairFrom M x1 x2) = (gI M 83 (v_X13_place x1 x2).toNatClampNeg))) → ((v_X13_missedFrom M x1 x2) = (gI M 83 (v_X13_place x1 x2).toNatClampNeg)) → vp_in x1 160)
    (g6 : (x1 < (gI M 54 10)) → ((v_X13_pairFrom M x1 x2) = (gI M 83 (v_X13_place x1 x2).toNatClampNeg)) → vp_in x1 160)
    (g7 : (¬ (x1 < (gI M 54 10))) → (¬ ((gI M 54 45) ≤ x2)) → vp_in (v_X13_place x1 x2) 25921)
    (g8 : (¬ (x1 < (gI M 54 10))) → (¬ ((gI M 54 45) ≤ x2)) → g_X13_pairFrom M x1 x2)
    (g9 : (¬ (x1 < (gI M 54 10))) → (¬ ((gI M 54 45) ≤ x2)) → (¬ ((v_X13_pairFrom M x1 x2) = (gI M 83 (v_X13_place x1 x2).toNatClampNeg))) → g_X13_missedFrom M x1 x2)
    (g10 : (¬ (x1 < (gI M 54 10))) → (¬ ((gI M 54 45) ≤ x2)) → (¬ ((v_X13_pairFrom M x1 x2) = (gI M 83 (v_X13_place x1 x2).toNatClampNeg))) → (¬ ((v_X13_missedFrom M x1 x2) = (gI M 83 (v_X13_place x1 x2).toNatClampNeg))) → vp_in x2 160)
    (g11 : (¬ (x1 < (gI M 54 10))) → (¬ ((gI M 54 45) ≤ x2)) → (¬ ((v_X13_pairFrom M x1 x2) = (gI M 83 (v_X13_place x1 x2).toNatClampNeg))) → ((v_X13_missedFrom M x1 x2) = (gI M 83 (v_X13_place x1 x2).toNatClampNeg)) → vp_in x1 160)
    (g12 : (¬ (x1 < (gI M 54 10))) → (¬ ((gI M 54 45) ≤ x2)) → ((v_X13_pairFrom M x1 x2) = (gI M 83 (v_X13_place x1 x2).toNatClampNeg)) → vp_in x1 160)
    (K1 : (x1 < (gI M 54 10)) → (¬ ((v_X13_pairFrom M x1 x2) = (gI M 83 (v_X13_place x1 x2).toNatClampNeg))) → (¬ ((v_X13_missedFrom M x1 x2) = (gI M 83 (v_X13_place x1 x2).toNatClampNeg))) → Fw l D ad kA mX13_heard 156 [some (.ref (ad 54)), some (.int x1), some (.int (x2 + 1)), none] [] (sI (sI M 84 x2.toNatClampNeg 1) 54 46 ((gI M 54 46) + 1)) Q)
    (K2 : (x1 < (gI M 54 10)) → (¬ ((v_X13_pairFrom M x1 x2) = (gI M 83 (v_X13_place x1 x2).toNatClampNeg))) → ((v_X13_missedFrom M x1 x2) = (gI M 83 (v_X13_place x1 x2).toNatClampNeg)) → Fw l D ad kA mX13_heard 156 [some (.ref (ad 54)), some (.int (x1 + 1)), some (.int x2), none] [] (sI M 82 x1.toNatClampNeg (-1)) Q)
    (K3 : (x1 < (gI M 54 10)) → ((v_X13_pairFrom M x1 x2) = (gI M 83 (v_X13_place x1 x2).toNatClampNeg)) → Fw l D ad kA mX13_heard 156 [some (.ref (ad 54)), some (.int (x1 + 1)), some (.int (x2 + 1)), none] [] (sI M 82 x1.toNatClampNeg x2) Q)
    (K4 : (¬ (x1 < (gI M 54 10))) → ((gI M 54 45) ≤ x2) → Q (.returned (some (.int (gI M 83 (0 : Int32).toNatClampNeg)))) (sI M 54 52 1))
    (K5 : (¬ (x1 < (gI M 54 10))) → (¬ ((gI M 54 45) ≤ x2)) → (¬ ((v_X13_pairFrom M x1 x2) = (gI M 83 (v_X13_place x1 x2).toNatClampNeg))) → (¬ ((v_X13_missedFrom M x1 x2) = (gI M 83 (v_X13_place x1 x2).toNatClampNeg))) → Fw l D ad kA mX13_heard 156 [some (.ref (ad 54)), some (.int x1), some (.int (x2 + 1)), none] [] (sI (sI M 84 x2.toNatClampNeg 1) 54 46 ((gI M 54 46) + 1)) Q)
    (K6 : (¬ (x1 < (gI M 54 10))) → (¬ ((gI M 54 45) ≤ x2)) → (¬ ((v_X13_pairFrom M x1 x2) = (gI M 83 (v_X13_place x1 x2).toNatClampNeg))) → ((v_X13_missedFrom M x1 x2) = (gI M 83 (v_X13_place x1 x2).toNatClampNeg)) → Fw l D ad kA mX13_heard 156 [some (.ref (ad 54)), some (.int (x1 + 1)), some (.int x2), none] [] (sI M 82 x1.toNatClampNeg (-1)) Q)
    (K7 : (¬ (x1 < (gI M 54 10))) → (¬ ((gI M 54 45) ≤ x2)) → ((v_X13_pairFrom M x1 x2) = (gI M 83 (v_X13_place x1 x2).toNatClampNeg)) → Fw l D ad kA mX13_heard 156 [some (.ref (ad 54)), some (.int (x1 + 1)), some (.int (x2 + 1)), none] [] (sI M 82 x1.toNatClampNeg x2) Q) : Fw l D ad kA mX13_heard 156 [some (.ref (ad 54)), some (.int x1), some (.int x2), none] [] M Q := by
  refine r_iload_n dX13_heard_156 rfl ?_
  refine r_aload_n dX13_heard_157 rfl ?_
  refine r_getI dX13_heard_158 fs_54_10 fk_X13_233 ?_
  refine r_icmp_lt (tgt := 172) dX13_heard_161 (by decide) (fun c1 => ?_) (fun c1 => ?_)
  · skip
    refine r_aload_n dX13_heard_172 rfl ?_
    refine r_getR dX13_heard_173 fs_54_50 fk_X13_199 ?_
    refine r_iload_n dX13_heard_176 rfl ?_
    refine r_iload_n dX13_heard_177 rfl ?_
    refine r_callS (As := [.int x1, .int x2]) (rest := [.ref (ad 83)]) dX13_heard_178 mk_X13_384 ms_X13_place rm_X13_heard_X13_place rfl rfl (Nat.le_of_ble_eq_true rfl) (ct_X13_place (⟨_, rfl, ?_⟩))
    refine r_iald dX13_heard_181 as_83 (g1 c1) ?_
    refine q_istore_n (lo' := [some (.ref (ad 54)), some (.int x1), some (.int x2), some (.int (gI M 83 (v_X13_place x1 x2).toNatClampNeg))]) dX13_heard_182 (by decide) rfl ?_
    refine r_aload_n dX13_heard_183 rfl ?_
    refine r_iload_n dX13_heard_184 rfl ?_
    refine r_iload_n dX13_heard_185 rfl ?_
    refine r_callV (x := 54) (As := [.int x1, .int x2]) (rest := []) dX13_heard_186 mk_X13_387 mv_X13_pairFrom rm_X13_heard_X13_pairFrom rfl rfl (by decide +kernel) (Nat.le_of_ble_eq_true rfl) (ct_X13_pairFrom (g2 c1) (⟨_, rfl, ?_⟩))
    refine r_iload_n dX13_heard_189 rfl ?_
    refine r_icmp_ne (tgt := 209) dX13_heard_190 (by decide) (fun c2 => ?_) (fun c2 => ?_)
    · skip
      refine r_aload_n dX13_heard_209 rfl ?_
      refine r_iload_n dX13_heard_210 rfl ?_
      refine r_iload_n dX13_heard_211 rfl ?_
      refine r_callV (x := 54) (As := [.int x1, .int x2]) (rest := []) dX13_heard_212 mk_X13_390 mv_X13_missedFrom rm_X13_heard_X13_missedFrom rfl rfl (by decide +kernel) (Nat.le_of_ble_eq_true rfl) (ct_X13_missedFrom (g3 c1 c2) (⟨_, rfl, ?_⟩))
      refine r_iload_n dX13_heard_215 rfl ?_
      refine r_icmp_ne (tgt := 232) dX13_heard_216 (by decide) (fun c3 => ?_) (fun c3 => ?_)
      · skip
        refine r_aload_n dX13_heard_232 rfl ?_
        refine r_getR dX13_heard_233 fs_54_51 fk_X13_202 ?_
        refine r_iload_n dX13_heard_236 rfl ?_
        refine r_iconst (v := 1) dX13_heard_237 kI_1 ?_
        refine q_zast dX13_heard_238 as_84 (g4 c1 c2 c3) (Or.inr rfl) ?_
        refine r_aload_n dX13_heard_239 rfl ?_
        refine r_dup dX13_heard_240 rfl ?_
        refine q_getI (v := gI M 54 46) dX13_heard_241 fs_54_46 fk_X13_396 rfl ?_
        refine r_iconst (v := 1) dX13_heard_244 kI_1 ?_
        refine r_iadd dX13_heard_245 ?_
        refine r_putI dX13_heard_246 fs_54_46 fk_X13_396 fp_X13_46 ?_
        refine q_iinc (v := x2 + 1) (lo' := [some (.ref (ad 54)), some (.int x1), some (.int (x2 + 1)), some (.int (gI M 83 (v_X13_place x1 x2).toNatClampNeg))]) dX13_heard_249 rfl (congrArg (fun q => x2 + q) kI_1) (by decide) rfl ?_
        refine r_goto (tgt := 156) dX13_heard_252 (by decide) ?_
        exact q_weak (lo' := [some (.ref (ad 54)), some (.int x1), some (.int (x2 + 1)), none]) ⟨rfl, rfl, rfl, trivial⟩ (K1 c1 c2 c3)
      · skip
        refine r_aload_n dX13_heard_219 rfl ?_
        refine r_getR dX13_heard_220 fs_54_49 fk_X13_196 ?_
        refine r_iload_n dX13_heard_223 rfl ?_
        refine r_iconst (v := (-1)) dX13_heard_224 kI_m1 ?_
        refine r_iast dX13_heard_225 as_82 (g5 c1 c2 c3) ?_
        refine q_iinc (v := x1 + 1) (lo' := [some (.ref (ad 54)), some (.int (x1 + 1)), some (.int x2), some (.int (gI M 83 (v_X13_place x1 x2).toNatClampNeg))]) dX13_heard_226 rfl (congrArg (fun q => x1 + q) kI_1) (by decide) rfl ?_
        refine r_goto (tgt := 252) dX13_heard_229 (by decide) ?_
        refine r_goto (tgt := 156) dX13_heard_252 (by decide) ?_
        exact q_weak (lo' := [some (.ref (ad 54)), some (.int (x1 + 1)), some (.int x2), none]) ⟨rfl, rfl, rfl, trivial⟩ (K2 c1 c2 c3)
    · skip
      refine r_aload_n dX13_heard_193 rfl ?_
      refine r_getR dX13_heard_194 fs_54_49 fk_X13_196 ?_
      refine r_iload_n dX13_heard_197 rfl ?_
      refine r_iload_n dX13_heard_198 rfl ?_
      refine r_iast dX13_heard_199 as_82 (g6 c1 c2) ?_
      refine q_iinc (v := x1 + 1) (lo' := [some (.ref (ad 54)), some (.int (x1 + 1)), some (.int x2), some (.int (gI M 83 (v_X13_place x1 x2).toNatClampNeg))]) dX13_heard_200 rfl (congrArg (fun q => x1 + q) kI_1) (by decide) rfl ?_
      refine q_iinc (v := x2 + 1) (lo' := [some (.ref (ad 54)), some (.int (x1 + 1)), some (.int (x2 + 1)), some (.int (gI M 83 (v_X13_place x1 x2).toNatClampNeg))]) dX13_heard_203 rfl (congrArg (fun q => x2 + q) kI_1) (by decide) rfl ?_
      refine r_goto (tgt := 252) dX13_heard_206 (by decide) ?_
      refine r_goto (tgt := 156) dX13_heard_252 (by decide) ?_
      exact q_weak (lo' := [some (.ref (ad 54)), some (.int (x1 + 1)), some (.int (x2 + 1)), none]) ⟨rfl, rfl, rfl, trivial⟩ (K3 c1 c2)
  · skip
    refine r_iload_n dX13_heard_164 rfl ?_
    refine r_aload_n dX13_heard_165 rfl ?_
    refine r_getI dX13_heard_166 fs_54_45 fk_X13_378 ?_
    refine r_icmp_ge (tgt := 255) dX13_heard_169 (by decide) (fun c4 => ?_) (fun c4 => ?_)
    · skip
      refine r_aload_n dX13_heard_255 rfl ?_
      refine r_iconst (v := 1) dX13_heard_256 kI_1 ?_
      refine r_putZ dX13_heard_257 fs_54_52 fk_X13_246 fp_X13_52 (Or.inr rfl) ?_
      refine r_aload_n dX13_heard_260 rfl ?_
      refine r_getR dX13_heard_261 fs_54_50 fk_X13_199 ?_
      refine r_iconst (v := 0) dX13_heard_264 kI_0 ?_
      refine q_iald (v := gI M 83 (0 : Int32).toNatClampNeg) dX13_heard_265 as_83 (by unfold vp_in; decide) rfl ?_
      exact r_iret dX13_heard_266 rfl (K4 c1 c4)
    · skip
      refine r_aload_n dX13_heard_172 rfl ?_
      refine r_getR dX13_heard_173 fs_54_50 fk_X13_199 ?_
      refine r_iload_n dX13_heard_176 rfl ?_
      refine r_iload_n dX13_heard_177 rfl ?_
      refine r_callS (As := [.int x1, .int x2]) (rest := [.ref (ad 83)]) dX13_heard_178 mk_X13_384 ms_X13_place rm_X13_heard_X13_place rfl rfl (Nat.le_of_ble_eq_true rfl) (ct_X13_place (⟨_, rfl, ?_⟩))
      refine r_iald dX13_heard_181 as_83 (g7 c1 c4) ?_
      refine q_istore_n (lo' := [some (.ref (ad 54)), some (.int x1), some (.int x2), some (.int (gI M 83 (v_X13_place x1 x2).toNatClampNeg))]) dX13_heard_182 (by decide) rfl ?_
      refine r_aload_n dX13_heard_183 rfl ?_
      refine r_iload_n dX13_heard_184 rfl ?_
      refine r_iload_n dX13_heard_185 rfl ?_
      refine r_callV (x := 54) (As := [.int x1, .int x2]) (rest := []) dX13_heard_186 mk_X13_387 mv_X13_pairFrom rm_X13_heard_X13_pairFrom rfl rfl (by decide +kernel) (Nat.le_of_ble_eq_true rfl) (ct_X13_pairFrom (g8 c1 c4) (⟨_, rfl, ?_⟩))
      refine r_iload_n dX13_heard_189 rfl ?_
      refine r_icmp_ne (tgt := 209) dX13_heard_190 (by decide) (fun c5 => ?_) (fun c5 => ?_)
      · skip
        refine r_aload_n dX13_heard_209 rfl ?_
        refine r_iload_n dX13_heard_210 rfl ?_
        refine r_iload_n dX13_heard_211 rfl ?_
        refine r_callV (x := 54) (As := [.int x1, .int x2]) (rest := []) dX13_heard_212 mk_X13_390 mv_X13_missedFrom rm_X13_heard_X13_missedFrom rfl rfl (by decide +kernel) (Nat.le_of_ble_eq_true rfl) (ct_X13_missedFrom (g9 c1 c4 c5) (⟨_, rfl, ?_⟩))
        refine r_iload_n dX13_heard_215 rfl ?_
        refine r_icmp_ne (tgt := 232) dX13_heard_216 (by decide) (fun c6 => ?_) (fun c6 => ?_)
        · skip
          refine r_aload_n dX13_heard_232 rfl ?_
          refine r_getR dX13_heard_233 fs_54_51 fk_X13_202 ?_
          refine r_iload_n dX13_heard_236 rfl ?_
          refine r_iconst (v := 1) dX13_heard_237 kI_1 ?_
          refine q_zast dX13_heard_238 as_84 (g10 c1 c4 c5 c6) (Or.inr rfl) ?_
          refine r_aload_n dX13_heard_239 rfl ?_
          refine r_dup dX13_heard_240 rfl ?_
          refine q_getI (v := gI M 54 46) dX13_heard_241 fs_54_46 fk_X13_396 rfl ?_
          refine r_iconst (v := 1) dX13_heard_244 kI_1 ?_
          refine r_iadd dX13_heard_245 ?_
          refine r_putI dX13_heard_246 fs_54_46 fk_X13_396 fp_X13_46 ?_
          refine q_iinc (v := x2 + 1) (lo' := [some (.ref (ad 54)), some (.int x1), some (.int (x2 + 1)), some (.int (gI M 83 (v_X13_place x1 x2).toNatClampNeg))]) dX13_heard_249 rfl (congrArg (fun q => x2 + q) kI_1) (by decide) rfl ?_
          refine r_goto (tgt := 156) dX13_heard_252 (by decide) ?_
          exact q_weak (lo' := [some (.ref (ad 54)), some (.int x1), some (.int (x2 + 1)), none]) ⟨rfl, rfl, rfl, trivial⟩ (K5 c1 c4 c5 c6)
        · skip
          refine r_aload_n dX13_heard_219 rfl ?_
          refine r_getR dX13_heard_220 fs_54_49 fk_X13_196 ?_
          refine r_iload_n dX13_heard_223 rfl ?_
          refine r_iconst (v := (-1)) dX13_heard_224 kI_m1 ?_
          refine r_iast dX13_heard_225 as_82 (g11 c1 c4 c5 c6) ?_
          refine q_iinc (v := x1 + 1) (lo' := [some (.ref (ad 54)), some (.int (x1 + 1)), some (.int x2), some (.int (gI M 83 (v_X13_place x1 x2).toNatClampNeg))]) dX13_heard_226 rfl (congrArg (fun q => x1 + q) kI_1) (by decide) rfl ?_
          refine r_goto (tgt := 252) dX13_heard_229 (by decide) ?_
          refine r_goto (tgt := 156) dX13_heard_252 (by decide) ?_
          exact q_weak (lo' := [some (.ref (ad 54)), some (.int (x1 + 1)), some (.int x2), none]) ⟨rfl, rfl, rfl, trivial⟩ (K6 c1 c4 c5 c6)
      · skip
        refine r_aload_n dX13_heard_193 rfl ?_
        refine r_getR dX13_heard_194 fs_54_49 fk_X13_196 ?_
        refine r_iload_n dX13_heard_197 rfl ?_
        refine r_iload_n dX13_heard_198 rfl ?_
        refine r_iast dX13_heard_199 as_82 (g12 c1 c4 c5) ?_
        refine q_iinc (v := x1 + 1) (lo' := [some (.ref (ad 54)), some (.int (x1 + 1)), some (.int x2), some (.int (gI M 83 (v_X13_place x1 x2).toNatClampNeg))]) dX13_heard_200 rfl (congrArg (fun q => x1 + q) kI_1) (by decide) rfl ?_
        refine q_iinc (v := x2 + 1) (lo' := [some (.ref (ad 54)), some (.int (x1 + 1)), some (.int (x2 + 1)), some (.int (gI M 83 (v_X13_place x1 x2).toNatClampNeg))]) dX13_heard_203 rfl (congrArg (fun q => x2 + q) kI_1) (by decide) rfl ?_
        refine r_goto (tgt := 252) dX13_heard_206 (by decide) ?_
        refine r_goto (tgt := 156) dX13_heard_252 (by decide) ?_
        exact q_weak (lo' := [some (.ref (ad 54)), some (.int (x1 + 1)), some (.int (x2 + 1)), none]) ⟨rfl, rfl, rfl, trivial⟩ (K7 c1 c4 c5)
theorem t_X13_heard_84 {x1 : Int32} {x2 : Int32} 
    (g1 : (¬ (x2 < 0)) → g_X13_pairFrom M x1 x2)
    (g2 : (¬ (x2 < 0)) → g_X13_missedFrom M x1 x2)
    (g3 : (¬ (x2 < 0)) → g_X13_moreFrom M x1 x2)
    (g4 : (¬ (x2 < 0)) → vp_in (v_X13_place x1 x2) 25921)
    (K1 : (x2 < 0) → Fw l D ad kA mX13_heard 75 [some (.ref (ad 54)), some (.int (x1 + (-1))), none, none] [] M Q)
    (K2 : (¬ (x2 < 0)) → Fw l D ad kA mX13_heard 84 [some (.ref (ad 54)), some (.int x1), some (.int (x2 + (-1))), none] [] (sI M 83 (v_X13_place x1 x2).toNatClampNeg (if (imin (v_X13_pairFrom M x1 x2) (imin (v_X13_missedFrom M x1 x2) (v_X13_moreFrom M x1 x2))) < 1000000 then imin (v_X13_pairFrom M x1 x2) (imin (v_X13_missedFrom M x1 x2) (v_X13_moreFrom M x1 x2)) else 0)) Q) : Fw l D ad kA mX13_heard 84 [some (.ref (ad 54)), some (.int x1), some (.int x2), none] [] M Q := by
  refine r_iload_n dX13_heard_84 rfl ?_
  refine r_if_lt (tgt := 141) dX13_heard_85 (by decide) (fun c1 => ?_) (fun c1 => ?_)
  · skip
    refine q_iinc (v := x1 + (-1)) (lo' := [some (.ref (ad 54)), some (.int (x1 + (-1))), some (.int x2), none]) dX13_heard_141 rfl (congrArg (fun q => x1 + q) kI_m1) (by decide) rfl ?_
    refine r_goto (tgt := 75) dX13_heard_144 (by decide) ?_
    exact q_weak (lo' := [some (.ref (ad 54)), some (.int (x1 + (-1))), none, none]) ⟨rfl, rfl, trivial⟩ (K1 c1)
  · skip
    refine r_aload_n dX13_heard_88 rfl ?_
    refine r_iload_n dX13_heard_89 rfl ?_
    refine r_iload_n dX13_heard_90 rfl ?_
    refine r_callV (x := 54) (As := [.int x1, .int x2]) (rest := []) dX13_heard_91 mk_X13_387 mv_X13_pairFrom rm_X13_heard_X13_pairFrom rfl rfl (by decide +kernel) (Nat.le_of_ble_eq_true rfl) (ct_X13_pairFrom (g1 c1) (⟨_, rfl, ?_⟩))
    refine r_aload_n dX13_heard_94 rfl ?_
    refine r_iload_n dX13_heard_95 rfl ?_
    refine r_iload_n dX13_heard_96 rfl ?_
    refine r_callV (x := 54) (As := [.int x1, .int x2]) (rest := [.int (v_X13_pairFrom M x1 x2)]) dX13_heard_97 mk_X13_390 mv_X13_missedFrom rm_X13_heard_X13_missedFrom rfl rfl (by decide +kernel) (Nat.le_of_ble_eq_true rfl) (ct_X13_missedFrom (g2 c1) (⟨_, rfl, ?_⟩))
    refine r_aload_n dX13_heard_100 rfl ?_
    refine r_iload_n dX13_heard_101 rfl ?_
    refine r_iload_n dX13_heard_102 rfl ?_
    refine r_callV (x := 54) (As := [.int x1, .int x2]) (rest := [.int (v_X13_missedFrom M x1 x2), .int (v_X13_pairFrom M x1 x2)]) dX13_heard_103 mk_X13_393 mv_X13_moreFrom rm_X13_heard_X13_moreFrom rfl rfl (by decide +kernel) (Nat.le_of_ble_eq_true rfl) (ct_X13_moreFrom (g3 c1) (⟨_, rfl, ?_⟩))
    refine q_mmin dX13_heard_106 mk_X13_266 (by decide) (Nat.le_of_ble_eq_true rfl) ?_
    refine q_mmin dX13_heard_109 mk_X13_266 (by decide) (Nat.le_of_ble_eq_true rfl) ?_
    refine q_istore_n (lo' := [some (.ref (ad 54)), some (.int x1), some (.int x2), some (.int (imin (v_X13_pairFrom M x1 x2) (imin (v_X13_missedFrom M x1 x2) (v_X13_moreFrom M x1 x2))))]) dX13_heard_112 (by decide) rfl ?_
    refine r_aload_n dX13_heard_113 rfl ?_
    refine r_getR dX13_heard_114 fs_54_50 fk_X13_199 ?_
    refine r_iload_n dX13_heard_117 rfl ?_
    refine r_iload_n dX13_heard_118 rfl ?_
    refine r_callS (As := [.int x1, .int x2]) (rest := [.ref (ad 83)]) dX13_heard_119 mk_X13_384 ms_X13_place rm_X13_heard_X13_place rfl rfl (Nat.le_of_ble_eq_true rfl) (ct_X13_place (⟨_, rfl, ?_⟩))
    refine r_iload_n dX13_heard_122 rfl ?_
    refine r_ldcw (v := 1000000) dX13_heard_123 co_X13_282 ?_
    suffices hJ1 : Fw l D ad kA mX13_heard 134 [some (.ref (ad 54)), some (.int x1), some (.int x2), none] [.int (if (imin (v_X13_pairFrom M x1 x2) (imin (v_X13_missedFrom M x1 x2) (v_X13_moreFrom M x1 x2))) < 1000000 then imin (v_X13_pairFrom M x1 x2) (imin (v_X13_missedFrom M x1 x2) (v_X13_moreFrom M x1 x2)) else 0), .int (v_X13_place x1 x2), .ref (ad 83)] M Q by
      refine r_icmp_lt (tgt := 133) dX13_heard_126 (by decide) (fun c2 => ?_) (fun c2 => ?_)
      · skip
        refine r_iload_n dX13_heard_133 rfl ?_
        exact q_weak (lo' := [some (.ref (ad 54)), some (.int x1), some (.int x2), none]) ⟨rfl, rfl, rfl, trivial⟩ (by have h9 := hJ1; simp only [if_pos c2] at h9; first | exact h9 | (simp only [if_pos c2]; exact h9))
      · skip
        refine r_iconst (v := 0) dX13_heard_129 kI_0 ?_
        refine r_goto (tgt := 134) dX13_heard_130 (by decide) ?_
        exact q_weak (lo' := [some (.ref (ad 54)), some (.int x1), some (.int x2), none]) ⟨rfl, rfl, rfl, trivial⟩ (by have h9 := hJ1; simp only [if_neg c2] at h9; first | exact h9 | (simp only [if_neg c2]; exact h9))
    refine r_iast dX13_heard_134 as_83 (g4 c1) ?_
    refine q_iinc (v := x2 + (-1)) (lo' := [some (.ref (ad 54)), some (.int x1), some (.int (x2 + (-1))), none]) dX13_heard_135 rfl (congrArg (fun q => x2 + q) kI_m1) (by decide) rfl ?_
    refine r_goto (tgt := 84) dX13_heard_138 (by decide) ?_
    exact (K2 c1)
theorem en_X13_heard  (K : Fw l D ad kA mX13_heard 0 [some (.ref (ad 54)), none, none, none] [] M Q) : CalH l D ad kA mX13_heard [.ref (ad 54)] M Q := CalH.of (by decide) rfl (Nat.le_of_ble_eq_true rfl) K
end W_model7
