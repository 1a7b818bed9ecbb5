/-! Hands: decode rows, links, walks from cut to cut (printed by wip/gen) -/
theorem dX3_forget_0 : decode cX3_forget 0 = .ok (.aload_n 0, 1) := by decide +kernel
theorem dX3_forget_1 : decode cX3_forget 1 = .ok (.iconst 0, 1) := by decide +kernel
theorem dX3_forget_2 : decode cX3_forget 2 = .ok (.putfield 32, 3) := by decide +kernel
theorem dX3_forget_5 : decode cX3_forget 5 = .ok (.return_, 1) := by decide +kernel
theorem dX3_place_0 : decode cX3_place 0 = .ok (.iload_n 0, 1) := by decide +kernel
theorem dX3_place_1 : decode cX3_place 1 = .ok (.iload_n 0, 1) := by decide +kernel
theorem dX3_place_2 : decode cX3_place 2 = .ok (.iconst 1, 1) := by decide +kernel
theorem dX3_place_3 : decode cX3_place 3 = .ok (.isub, 1) := by decide +kernel
theorem dX3_place_4 : decode cX3_place 4 = .ok (.imul, 1) := by decide +kernel
theorem dX3_place_5 : decode cX3_place 5 = .ok (.iconst 2, 1) := by decide +kernel
theorem dX3_place_6 : decode cX3_place 6 = .ok (.idiv, 1) := by decide +kernel
theorem dX3_place_7 : decode cX3_place 7 = .ok (.iload_n 1, 1) := by decide +kernel
theorem dX3_place_8 : decode cX3_place 8 = .ok (.iadd, 1) := by decide +kernel
theorem dX3_place_9 : decode cX3_place 9 = .ok (.ireturn, 1) := by decide +kernel
theorem dX3_others_0 : decode cX3_others 0 = .ok (.iconst 1, 1) := by decide +kernel
theorem dX3_others_1 : decode cX3_others 1 = .ok (.iload_n 0, 1) := by decide +kernel
theorem dX3_others_2 : decode cX3_others 2 = .ok (.invokestatic 88, 3) := by decide +kernel
theorem dX3_others_5 : decode cX3_others 5 = .ok (.ireturn, 1) := by decide +kernel
theorem dX3_did_0 : decode cX3_did 0 = .ok (.iload_n 1, 1) := by decide +kernel
theorem dX3_did_1 : decode cX3_did 1 = .ok (.ifCond .gt 7, 3) := by decide +kernel
theorem dX3_did_4 : decode cX3_did 4 = .ok (.iconst (-1), 1) := by decide +kernel
theorem dX3_did_5 : decode cX3_did 5 = .ok (.goto 11, 3) := by decide +kernel
theorem dX3_did_8 : decode cX3_did 8 = .ok (.aload_n 0, 1) := by decide +kernel
theorem dX3_did_9 : decode cX3_did 9 = .ok (.getfield 15, 3) := by decide +kernel
theorem dX3_did_12 : decode cX3_did 12 = .ok (.iload_n 1, 1) := by decide +kernel
theorem dX3_did_13 : decode cX3_did 13 = .ok (.iconst 1, 1) := by decide +kernel
theorem dX3_did_14 : decode cX3_did 14 = .ok (.isub, 1) := by decide +kernel
theorem dX3_did_15 : decode cX3_did 15 = .ok (.iaload, 1) := by decide +kernel
theorem dX3_did_16 : decode cX3_did 16 = .ok (.ireturn, 1) := by decide +kernel
theorem dX3_restOf_0 : decode cX3_restOf 0 = .ok (.iload_n 1, 1) := by decide +kernel
theorem dX3_restOf_1 : decode cX3_restOf 1 = .ok (.aload_n 0, 1) := by decide +kernel
theorem dX3_restOf_2 : decode cX3_restOf 2 = .ok (.getfield 75, 3) := by decide +kernel
theorem dX3_restOf_5 : decode cX3_restOf 5 = .ok (.if_icmp .gt 8, 3) := by decide +kernel
theorem dX3_restOf_8 : decode cX3_restOf 8 = .ok (.ldc 48, 2) := by decide +kernel
theorem dX3_restOf_10 : decode cX3_restOf 10 = .ok (.goto 13, 3) := by decide +kernel
theorem dX3_restOf_13 : decode cX3_restOf 13 = .ok (.aload_n 0, 1) := by decide +kernel
theorem dX3_restOf_14 : decode cX3_restOf 14 = .ok (.getfield 18, 3) := by decide +kernel
theorem dX3_restOf_17 : decode cX3_restOf 17 = .ok (.iload_n 1, 1) := by decide +kernel
theorem dX3_restOf_18 : decode cX3_restOf 18 = .ok (.iload_n 2, 1) := by decide +kernel
theorem dX3_restOf_19 : decode cX3_restOf 19 = .ok (.invokestatic 78, 3) := by decide +kernel
theorem dX3_restOf_22 : decode cX3_restOf 22 = .ok (.iaload, 1) := by decide +kernel
theorem dX3_restOf_23 : decode cX3_restOf 23 = .ok (.ireturn, 1) := by decide +kernel
theorem dX3_holds_0 : decode cX3_holds 0 = .ok (.iload_n 1, 1) := by decide +kernel
theorem dX3_holds_1 : decode cX3_holds 1 = .ok (.iconst (-1), 1) := by decide +kernel
theorem dX3_holds_2 : decode cX3_holds 2 = .ok (.if_icmp .eq 41, 3) := by decide +kernel
theorem dX3_holds_5 : decode cX3_holds 5 = .ok (.aload_n 0, 1) := by decide +kernel
theorem dX3_holds_6 : decode cX3_holds 6 = .ok (.getfield 24, 3) := by decide +kernel
theorem dX3_holds_9 : decode cX3_holds 9 = .ok (.getfield 120, 3) := by decide +kernel
theorem dX3_holds_12 : decode cX3_holds 12 = .ok (.iload_n 1, 1) := by decide +kernel
theorem dX3_holds_13 : decode cX3_holds 13 = .ok (.iaload, 1) := by decide +kernel
theorem dX3_holds_14 : decode cX3_holds 14 = .ok (.iconst 1, 1) := by decide +kernel
theorem dX3_holds_15 : decode cX3_holds 15 = .ok (.if_icmp .eq 28, 3) := by decide +kernel
theorem dX3_holds_18 : decode cX3_holds 18 = .ok (.aload_n 0, 1) := by decide +kernel
theorem dX3_holds_19 : decode cX3_holds 19 = .ok (.getfield 24, 3) := by decide +kernel
theorem dX3_holds_22 : decode cX3_holds 22 = .ok (.getfield 126, 3) := by decide +kernel
theorem dX3_holds_25 : decode cX3_holds 25 = .ok (.iload_n 1, 1) := by decide +kernel
theorem dX3_holds_26 : decode cX3_holds 26 = .ok (.iaload, 1) := by decide +kernel
theorem dX3_holds_27 : decode cX3_holds 27 = .ok (.aload_n 0, 1) := by decide +kernel
theorem dX3_holds_28 : decode cX3_holds 28 = .ok (.getfield 24, 3) := by decide +kernel
theorem dX3_holds_31 : decode cX3_holds 31 = .ok (.getfield 126, 3) := by decide +kernel
theorem dX3_holds_34 : decode cX3_holds 34 = .ok (.iload_n 2, 1) := by decide +kernel
theorem dX3_holds_35 : decode cX3_holds 35 = .ok (.iaload, 1) := by decide +kernel
theorem dX3_holds_36 : decode cX3_holds 36 = .ok (.if_icmp .ne 7, 3) := by decide +kernel
theorem dX3_holds_39 : decode cX3_holds 39 = .ok (.iconst 1, 1) := by decide +kernel
theorem dX3_holds_40 : decode cX3_holds 40 = .ok (.goto 4, 3) := by decide +kernel
theorem dX3_holds_43 : decode cX3_holds 43 = .ok (.iconst 0, 1) := by decide +kernel
theorem dX3_holds_44 : decode cX3_holds 44 = .ok (.ireturn, 1) := by decide +kernel
theorem dX3_move_0 : decode cX3_move 0 = .ok (.iload_n 1, 1) := by decide +kernel
theorem dX3_move_1 : decode cX3_move 1 = .ok (.iconst (-1), 1) := by decide +kernel
theorem dX3_move_2 : decode cX3_move 2 = .ok (.if_icmp .ne 5, 3) := by decide +kernel
theorem dX3_move_5 : decode cX3_move 5 = .ok (.iconst 0, 1) := by decide +kernel
theorem dX3_move_6 : decode cX3_move 6 = .ok (.ireturn, 1) := by decide +kernel
theorem dX3_move_7 : decode cX3_move 7 = .ok (.aload_n 0, 1) := by decide +kernel
theorem dX3_move_8 : decode cX3_move 8 = .ok (.getfield 24, 3) := by decide +kernel
theorem dX3_move_11 : decode cX3_move 11 = .ok (.getfield 120, 3) := by decide +kernel
theorem dX3_move_14 : decode cX3_move 14 = .ok (.iload_n 1, 1) := by decide +kernel
theorem dX3_move_15 : decode cX3_move 15 = .ok (.iaload, 1) := by decide +kernel
theorem dX3_move_16 : decode cX3_move 16 = .ok (.iconst 1, 1) := by decide +kernel
theorem dX3_move_17 : decode cX3_move 17 = .ok (.if_icmp .ne 7, 3) := by decide +kernel
theorem dX3_move_20 : decode cX3_move 20 = .ok (.iconst 1, 1) := by decide +kernel
theorem dX3_move_21 : decode cX3_move 21 = .ok (.goto 4, 3) := by decide +kernel
theorem dX3_move_24 : decode cX3_move 24 = .ok (.iconst 0, 1) := by decide +kernel
theorem dX3_move_25 : decode cX3_move 25 = .ok (.istore_n 3, 1) := by decide +kernel
theorem dX3_move_26 : decode cX3_move 26 = .ok (.aload_n 0, 1) := by decide +kernel
theorem dX3_move_27 : decode cX3_move 27 = .ok (.getfield 24, 3) := by decide +kernel
theorem dX3_move_30 : decode cX3_move 30 = .ok (.getfield 120, 3) := by decide +kernel
theorem dX3_move_33 : decode cX3_move 33 = .ok (.iload_n 2, 1) := by decide +kernel
theorem dX3_move_34 : decode cX3_move 34 = .ok (.iaload, 1) := by decide +kernel
theorem dX3_move_35 : decode cX3_move 35 = .ok (.iconst 1, 1) := by decide +kernel
theorem dX3_move_36 : decode cX3_move 36 = .ok (.if_icmp .ne 7, 3) := by decide +kernel
theorem dX3_move_39 : decode cX3_move 39 = .ok (.iconst 1, 1) := by decide +kernel
theorem dX3_move_40 : decode cX3_move 40 = .ok (.goto 4, 3) := by decide +kernel
theorem dX3_move_43 : decode cX3_move 43 = .ok (.iconst 0, 1) := by decide +kernel
theorem dX3_move_44 : decode cX3_move 44 = .ok (.istore 4, 2) := by decide +kernel
theorem dX3_move_46 : decode cX3_move 46 = .ok (.aload_n 0, 1) := by decide +kernel
theorem dX3_move_47 : decode cX3_move 47 = .ok (.getfield 24, 3) := by decide +kernel
theorem dX3_move_50 : decode cX3_move 50 = .ok (.getfield 123, 3) := by decide +kernel
theorem dX3_move_53 : decode cX3_move 53 = .ok (.iload_n 2, 1) := by decide +kernel
theorem dX3_move_54 : decode cX3_move 54 = .ok (.iaload, 1) := by decide +kernel
theorem dX3_move_55 : decode cX3_move 55 = .ok (.aload_n 0, 1) := by decide +kernel
theorem dX3_move_56 : decode cX3_move 56 = .ok (.getfield 24, 3) := by decide +kernel
theorem dX3_move_59 : decode cX3_move 59 = .ok (.getfield 123, 3) := by decide +kernel
theorem dX3_move_62 : decode cX3_move 62 = .ok (.iload_n 1, 1) := by decide +kernel
theorem dX3_move_63 : decode cX3_move 63 = .ok (.iaload, 1) := by decide +kernel
theorem dX3_move_64 : decode cX3_move 64 = .ok (.isub, 1) := by decide +kernel
theorem dX3_move_65 : decode cX3_move 65 = .ok (.istore 5, 2) := by decide +kernel
theorem dX3_move_67 : decode cX3_move 67 = .ok (.iload_n 3, 1) := by decide +kernel
theorem dX3_move_68 : decode cX3_move 68 = .ok (.ifCond .eq 21, 3) := by decide +kernel
theorem dX3_move_71 : decode cX3_move 71 = .ok (.iload 4, 2) := by decide +kernel
theorem dX3_move_73 : decode cX3_move 73 = .ok (.ifCond .eq 16, 3) := by decide +kernel
theorem dX3_move_76 : decode cX3_move 76 = .ok (.iload 5, 2) := by decide +kernel
theorem dX3_move_78 : decode cX3_move 78 = .ok (.iconst 1, 1) := by decide +kernel
theorem dX3_move_79 : decode cX3_move 79 = .ok (.if_icmp .lt 7, 3) := by decide +kernel
theorem dX3_move_82 : decode cX3_move 82 = .ok (.iconst 0, 1) := by decide +kernel
theorem dX3_move_83 : decode cX3_move 83 = .ok (.goto 5, 3) := by decide +kernel
theorem dX3_move_86 : decode cX3_move 86 = .ok (.ldc 48, 2) := by decide +kernel
theorem dX3_move_88 : decode cX3_move 88 = .ok (.ireturn, 1) := by decide +kernel
theorem dX3_move_89 : decode cX3_move 89 = .ok (.iload_n 3, 1) := by decide +kernel
theorem dX3_move_90 : decode cX3_move 90 = .ok (.ifCond .ne 71, 3) := by decide +kernel
theorem dX3_move_93 : decode cX3_move 93 = .ok (.iload 4, 2) := by decide +kernel
theorem dX3_move_95 : decode cX3_move 95 = .ok (.ifCond .ne 66, 3) := by decide +kernel
theorem dX3_move_98 : decode cX3_move 98 = .ok (.aload_n 0, 1) := by decide +kernel
theorem dX3_move_99 : decode cX3_move 99 = .ok (.getfield 24, 3) := by decide +kernel
theorem dX3_move_102 : decode cX3_move 102 = .ok (.getfield 126, 3) := by decide +kernel
theorem dX3_move_105 : decode cX3_move 105 = .ok (.iload_n 1, 1) := by decide +kernel
theorem dX3_move_106 : decode cX3_move 106 = .ok (.iaload, 1) := by decide +kernel
theorem dX3_move_107 : decode cX3_move 107 = .ok (.aload_n 0, 1) := by decide +kernel
theorem dX3_move_108 : decode cX3_move 108 = .ok (.getfield 24, 3) := by decide +kernel
theorem dX3_move_111 : decode cX3_move 111 = .ok (.getfield 126, 3) := by decide +kernel
theorem dX3_move_114 : decode cX3_move 114 = .ok (.iload_n 2, 1) := by decide +kernel
theorem dX3_move_115 : decode cX3_move 115 = .ok (.iaload, 1) := by decide +kernel
theorem dX3_move_116 : decode cX3_move 116 = .ok (.if_icmp .ne 45, 3) := by decide +kernel
theorem dX3_move_119 : decode cX3_move 119 = .ok (.aload_n 0, 1) := by decide +kernel
theorem dX3_move_120 : decode cX3_move 120 = .ok (.getfield 24, 3) := by decide +kernel
theorem dX3_move_123 : decode cX3_move 123 = .ok (.getfield 120, 3) := by decide +kernel
theorem dX3_move_126 : decode cX3_move 126 = .ok (.iload_n 1, 1) := by decide +kernel
theorem dX3_move_127 : decode cX3_move 127 = .ok (.iaload, 1) := by decide +kernel
theorem dX3_move_128 : decode cX3_move 128 = .ok (.iconst 2, 1) := by decide +kernel
theorem dX3_move_129 : decode cX3_move 129 = .ok (.if_icmp .ne 15, 3) := by decide +kernel
theorem dX3_move_132 : decode cX3_move 132 = .ok (.aload_n 0, 1) := by decide +kernel
theorem dX3_move_133 : decode cX3_move 133 = .ok (.getfield 24, 3) := by decide +kernel
theorem dX3_move_136 : decode cX3_move 136 = .ok (.getfield 129, 3) := by decide +kernel
theorem dX3_move_139 : decode cX3_move 139 = .ok (.iload_n 1, 1) := by decide +kernel
theorem dX3_move_140 : decode cX3_move 140 = .ok (.iaload, 1) := by decide +kernel
theorem dX3_move_141 : decode cX3_move 141 = .ok (.goto 4, 3) := by decide +kernel
theorem dX3_move_144 : decode cX3_move 144 = .ok (.iconst 1, 1) := by decide +kernel
theorem dX3_move_145 : decode cX3_move 145 = .ok (.istore 6, 2) := by decide +kernel
theorem dX3_move_147 : decode cX3_move 147 = .ok (.iload 5, 2) := by decide +kernel
theorem dX3_move_149 : decode cX3_move 149 = .ok (.iload 6, 2) := by decide +kernel
theorem dX3_move_151 : decode cX3_move 151 = .ok (.if_icmp .lt 7, 3) := by decide +kernel
theorem dX3_move_154 : decode cX3_move 154 = .ok (.iconst 0, 1) := by decide +kernel
theorem dX3_move_155 : decode cX3_move 155 = .ok (.goto 5, 3) := by decide +kernel
theorem dX3_move_158 : decode cX3_move 158 = .ok (.ldc 48, 2) := by decide +kernel
theorem dX3_move_160 : decode cX3_move 160 = .ok (.ireturn, 1) := by decide +kernel
theorem dX3_move_161 : decode cX3_move 161 = .ok (.iload_n 3, 1) := by decide +kernel
theorem dX3_move_162 : decode cX3_move 162 = .ok (.ifCond .eq 7, 3) := by decide +kernel
theorem dX3_move_165 : decode cX3_move 165 = .ok (.iconst 1, 1) := by decide +kernel
theorem dX3_move_166 : decode cX3_move 166 = .ok (.goto 12, 3) := by decide +kernel
theorem dX3_move_169 : decode cX3_move 169 = .ok (.aload_n 0, 1) := by decide +kernel
theorem dX3_move_170 : decode cX3_move 170 = .ok (.getfield 24, 3) := by decide +kernel
theorem dX3_move_173 : decode cX3_move 173 = .ok (.getfield 129, 3) := by decide +kernel
theorem dX3_move_176 : decode cX3_move 176 = .ok (.iload_n 1, 1) := by decide +kernel
theorem dX3_move_177 : decode cX3_move 177 = .ok (.iaload, 1) := by decide +kernel
theorem dX3_move_178 : decode cX3_move 178 = .ok (.aload_n 0, 1) := by decide +kernel
theorem dX3_move_179 : decode cX3_move 179 = .ok (.getfield 28, 3) := by decide +kernel
theorem dX3_move_182 : decode cX3_move 182 = .ok (.getfield 132, 3) := by decide +kernel
theorem dX3_move_185 : decode cX3_move 185 = .ok (.iconst 0, 1) := by decide +kernel
theorem dX3_move_186 : decode cX3_move 186 = .ok (.iaload, 1) := by decide +kernel
theorem dX3_move_187 : decode cX3_move 187 = .ok (.iadd, 1) := by decide +kernel
theorem dX3_move_188 : decode cX3_move 188 = .ok (.istore 6, 2) := by decide +kernel
theorem dX3_move_190 : decode cX3_move 190 = .ok (.iload_n 3, 1) := by decide +kernel
theorem dX3_move_191 : decode cX3_move 191 = .ok (.ifCond .ne 8, 3) := by decide +kernel
theorem dX3_move_194 : decode cX3_move 194 = .ok (.iload 4, 2) := by decide +kernel
theorem dX3_move_196 : decode cX3_move 196 = .ok (.ifCond .eq 17, 3) := by decide +kernel
theorem dX3_move_199 : decode cX3_move 199 = .ok (.iload 6, 2) := by decide +kernel
theorem dX3_move_201 : decode cX3_move 201 = .ok (.aload_n 0, 1) := by decide +kernel
theorem dX3_move_202 : decode cX3_move 202 = .ok (.getfield 28, 3) := by decide +kernel
theorem dX3_move_205 : decode cX3_move 205 = .ok (.getfield 132, 3) := by decide +kernel
theorem dX3_move_208 : decode cX3_move 208 = .ok (.iconst 3, 1) := by decide +kernel
theorem dX3_move_209 : decode cX3_move 209 = .ok (.iaload, 1) := by decide +kernel
theorem dX3_move_210 : decode cX3_move 210 = .ok (.iadd, 1) := by decide +kernel
theorem dX3_move_211 : decode cX3_move 211 = .ok (.istore 6, 2) := by decide +kernel
theorem dX3_move_213 : decode cX3_move 213 = .ok (.iload 5, 2) := by decide +kernel
theorem dX3_move_215 : decode cX3_move 215 = .ok (.iload 6, 2) := by decide +kernel
theorem dX3_move_217 : decode cX3_move 217 = .ok (.if_icmp .lt 7, 3) := by decide +kernel
theorem dX3_move_220 : decode cX3_move 220 = .ok (.iconst 1, 1) := by decide +kernel
theorem dX3_move_221 : decode cX3_move 221 = .ok (.goto 5, 3) := by decide +kernel
theorem dX3_move_224 : decode cX3_move 224 = .ok (.ldc 48, 2) := by decide +kernel
theorem dX3_move_226 : decode cX3_move 226 = .ok (.ireturn, 1) := by decide +kernel
theorem dX3_step_0 : decode cX3_step 0 = .ok (.aload_n 0, 1) := by decide +kernel
theorem dX3_step_1 : decode cX3_step 1 = .ok (.iload_n 2, 1) := by decide +kernel
theorem dX3_step_2 : decode cX3_step 2 = .ok (.iload_n 3, 1) := by decide +kernel
theorem dX3_step_3 : decode cX3_step 3 = .ok (.invokevirtual 96, 3) := by decide +kernel
theorem dX3_step_6 : decode cX3_step 6 = .ok (.ifCond .eq 8, 3) := by decide +kernel
theorem dX3_step_9 : decode cX3_step 9 = .ok (.ldc 48, 2) := by decide +kernel
theorem dX3_step_11 : decode cX3_step 11 = .ok (.goto 9, 3) := by decide +kernel
theorem dX3_step_14 : decode cX3_step 14 = .ok (.aload_n 0, 1) := by decide +kernel
theorem dX3_step_15 : decode cX3_step 15 = .ok (.iload_n 1, 1) := by decide +kernel
theorem dX3_step_16 : decode cX3_step 16 = .ok (.iload_n 3, 1) := by decide +kernel
theorem dX3_step_17 : decode cX3_step 17 = .ok (.invokevirtual 93, 3) := by decide +kernel
theorem dX3_step_20 : decode cX3_step 20 = .ok (.ireturn, 1) := by decide +kernel
theorem dX3_gather_0 : decode cX3_gather 0 = .ok (.aload_n 0, 1) := by decide +kernel
theorem dX3_gather_1 : decode cX3_gather 1 = .ok (.iconst 0, 1) := by decide +kernel
theorem dX3_gather_2 : decode cX3_gather 2 = .ok (.putfield 52, 3) := by decide +kernel
theorem dX3_gather_5 : decode cX3_gather 5 = .ok (.iconst 0, 1) := by decide +kernel
theorem dX3_gather_6 : decode cX3_gather 6 = .ok (.istore_n 3, 1) := by decide +kernel
theorem dX3_gather_7 : decode cX3_gather 7 = .ok (.iload_n 3, 1) := by decide +kernel
theorem dX3_gather_8 : decode cX3_gather 8 = .ok (.aload_n 0, 1) := by decide +kernel
theorem dX3_gather_9 : decode cX3_gather 9 = .ok (.getfield 24, 3) := by decide +kernel
theorem dX3_gather_12 : decode cX3_gather 12 = .ok (.getfield 64, 3) := by decide +kernel
theorem dX3_gather_15 : decode cX3_gather 15 = .ok (.if_icmp .ge 41, 3) := by decide +kernel
theorem dX3_gather_18 : decode cX3_gather 18 = .ok (.aload_n 0, 1) := by decide +kernel
theorem dX3_gather_19 : decode cX3_gather 19 = .ok (.getfield 24, 3) := by decide +kernel
theorem dX3_gather_22 : decode cX3_gather 22 = .ok (.lload_n 1, 1) := by decide +kernel
theorem dX3_gather_23 : decode cX3_gather 23 = .ok (.iload_n 3, 1) := by decide +kernel
theorem dX3_gather_24 : decode cX3_gather 24 = .ok (.invokevirtual 67, 3) := by decide +kernel
theorem dX3_gather_27 : decode cX3_gather 27 = .ok (.ifCond .eq 23, 3) := by decide +kernel
theorem dX3_gather_30 : decode cX3_gather 30 = .ok (.aload_n 0, 1) := by decide +kernel
theorem dX3_gather_31 : decode cX3_gather 31 = .ok (.getfield 15, 3) := by decide +kernel
theorem dX3_gather_34 : decode cX3_gather 34 = .ok (.aload_n 0, 1) := by decide +kernel
theorem dX3_gather_35 : decode cX3_gather 35 = .ok (.getfield 52, 3) := by decide +kernel
theorem dX3_gather_38 : decode cX3_gather 38 = .ok (.iload_n 3, 1) := by decide +kernel
theorem dX3_gather_39 : decode cX3_gather 39 = .ok (.iastore, 1) := by decide +kernel
theorem dX3_gather_40 : decode cX3_gather 40 = .ok (.aload_n 0, 1) := by decide +kernel
theorem dX3_gather_41 : decode cX3_gather 41 = .ok (.dup, 1) := by decide +kernel
theorem dX3_gather_42 : decode cX3_gather 42 = .ok (.getfield 52, 3) := by decide +kernel
theorem dX3_gather_45 : decode cX3_gather 45 = .ok (.iconst 1, 1) := by decide +kernel
theorem dX3_gather_46 : decode cX3_gather 46 = .ok (.iadd, 1) := by decide +kernel
theorem dX3_gather_47 : decode cX3_gather 47 = .ok (.putfield 52, 3) := by decide +kernel
theorem dX3_gather_50 : decode cX3_gather 50 = .ok (.iinc 3 1, 3) := by decide +kernel
theorem dX3_gather_53 : decode cX3_gather 53 = .ok (.goto (-46), 3) := by decide +kernel
theorem dX3_gather_56 : decode cX3_gather 56 = .ok (.return_, 1) := by decide +kernel
theorem dX3_stepBack_0 : decode cX3_stepBack 0 = .ok (.aload_n 0, 1) := by decide +kernel
theorem dX3_stepBack_1 : decode cX3_stepBack 1 = .ok (.getfield 15, 3) := by decide +kernel
theorem dX3_stepBack_4 : decode cX3_stepBack 4 = .ok (.iload_n 1, 1) := by decide +kernel
theorem dX3_stepBack_5 : decode cX3_stepBack 5 = .ok (.iaload, 1) := by decide +kernel
theorem dX3_stepBack_6 : decode cX3_stepBack 6 = .ok (.istore_n 2, 1) := by decide +kernel
theorem dX3_stepBack_7 : decode cX3_stepBack 7 = .ok (.aload_n 0, 1) := by decide +kernel
theorem dX3_stepBack_8 : decode cX3_stepBack 8 = .ok (.getfield 15, 3) := by decide +kernel
theorem dX3_stepBack_11 : decode cX3_stepBack 11 = .ok (.iload_n 1, 1) := by decide +kernel
theorem dX3_stepBack_12 : decode cX3_stepBack 12 = .ok (.iconst 1, 1) := by decide +kernel
theorem dX3_stepBack_13 : decode cX3_stepBack 13 = .ok (.isub, 1) := by decide +kernel
theorem dX3_stepBack_14 : decode cX3_stepBack 14 = .ok (.iaload, 1) := by decide +kernel
theorem dX3_stepBack_15 : decode cX3_stepBack 15 = .ok (.istore_n 3, 1) := by decide +kernel
theorem dX3_stepBack_16 : decode cX3_stepBack 16 = .ok (.iload_n 1, 1) := by decide +kernel
theorem dX3_stepBack_17 : decode cX3_stepBack 17 = .ok (.iconst 0, 1) := by decide +kernel
theorem dX3_stepBack_18 : decode cX3_stepBack 18 = .ok (.invokestatic 78, 3) := by decide +kernel
theorem dX3_stepBack_21 : decode cX3_stepBack 21 = .ok (.istore 4, 2) := by decide +kernel
theorem dX3_stepBack_23 : decode cX3_stepBack 23 = .ok (.iload_n 1, 1) := by decide +kernel
theorem dX3_stepBack_24 : decode cX3_stepBack 24 = .ok (.iconst 1, 1) := by decide +kernel
theorem dX3_stepBack_25 : decode cX3_stepBack 25 = .ok (.iadd, 1) := by decide +kernel
theorem dX3_stepBack_26 : decode cX3_stepBack 26 = .ok (.iconst 0, 1) := by decide +kernel
theorem dX3_stepBack_27 : decode cX3_stepBack 27 = .ok (.invokestatic 78, 3) := by decide +kernel
theorem dX3_stepBack_30 : decode cX3_stepBack 30 = .ok (.istore 5, 2) := by decide +kernel
theorem dX3_stepBack_32 : decode cX3_stepBack 32 = .ok (.aload_n 0, 1) := by decide +kernel
theorem dX3_stepBack_33 : decode cX3_stepBack 33 = .ok (.iload_n 3, 1) := by decide +kernel
theorem dX3_stepBack_34 : decode cX3_stepBack 34 = .ok (.iload_n 2, 1) := by decide +kernel
theorem dX3_stepBack_35 : decode cX3_stepBack 35 = .ok (.invokevirtual 93, 3) := by decide +kernel
theorem dX3_stepBack_38 : decode cX3_stepBack 38 = .ok (.istore 6, 2) := by decide +kernel
theorem dX3_stepBack_40 : decode cX3_stepBack 40 = .ok (.aload_n 0, 1) := by decide +kernel
theorem dX3_stepBack_41 : decode cX3_stepBack 41 = .ok (.iload_n 3, 1) := by decide +kernel
theorem dX3_stepBack_42 : decode cX3_stepBack 42 = .ok (.iload_n 2, 1) := by decide +kernel
theorem dX3_stepBack_43 : decode cX3_stepBack 43 = .ok (.invokevirtual 96, 3) := by decide +kernel
theorem dX3_stepBack_46 : decode cX3_stepBack 46 = .ok (.ifCond .eq 8, 3) := by decide +kernel
theorem dX3_stepBack_49 : decode cX3_stepBack 49 = .ok (.ldc 48, 2) := by decide +kernel
theorem dX3_stepBack_51 : decode cX3_stepBack 51 = .ok (.goto 12, 3) := by decide +kernel
theorem dX3_stepBack_54 : decode cX3_stepBack 54 = .ok (.aload_n 0, 1) := by decide +kernel
theorem dX3_stepBack_55 : decode cX3_stepBack 55 = .ok (.getfield 18, 3) := by decide +kernel
theorem dX3_stepBack_58 : decode cX3_stepBack 58 = .ok (.iload 5, 2) := by decide +kernel
theorem dX3_stepBack_60 : decode cX3_stepBack 60 = .ok (.iload_n 1, 1) := by decide +kernel
theorem dX3_stepBack_61 : decode cX3_stepBack 61 = .ok (.iadd, 1) := by decide +kernel
theorem dX3_stepBack_62 : decode cX3_stepBack 62 = .ok (.iaload, 1) := by decide +kernel
theorem dX3_stepBack_63 : decode cX3_stepBack 63 = .ok (.istore 7, 2) := by decide +kernel
theorem dX3_stepBack_65 : decode cX3_stepBack 65 = .ok (.iconst 0, 1) := by decide +kernel
theorem dX3_stepBack_66 : decode cX3_stepBack 66 = .ok (.istore 8, 2) := by decide +kernel
theorem dX3_stepBack_68 : decode cX3_stepBack 68 = .ok (.iconst 0, 1) := by decide +kernel
theorem dX3_stepBack_69 : decode cX3_stepBack 69 = .ok (.istore 9, 2) := by decide +kernel
theorem dX3_stepBack_71 : decode cX3_stepBack 71 = .ok (.iload 9, 2) := by decide +kernel
theorem dX3_stepBack_73 : decode cX3_stepBack 73 = .ok (.iload_n 1, 1) := by decide +kernel
theorem dX3_stepBack_74 : decode cX3_stepBack 74 = .ok (.if_icmp .ge 116, 3) := by decide +kernel
theorem dX3_stepBack_77 : decode cX3_stepBack 77 = .ok (.aload_n 0, 1) := by decide +kernel
theorem dX3_stepBack_78 : decode cX3_stepBack 78 = .ok (.iload 9, 2) := by decide +kernel
theorem dX3_stepBack_80 : decode cX3_stepBack 80 = .ok (.invokevirtual 100, 3) := by decide +kernel
theorem dX3_stepBack_83 : decode cX3_stepBack 83 = .ok (.istore 10, 2) := by decide +kernel
theorem dX3_stepBack_85 : decode cX3_stepBack 85 = .ok (.aload_n 0, 1) := by decide +kernel
theorem dX3_stepBack_86 : decode cX3_stepBack 86 = .ok (.iload 10, 2) := by decide +kernel
theorem dX3_stepBack_88 : decode cX3_stepBack 88 = .ok (.iload_n 2, 1) := by decide +kernel
theorem dX3_stepBack_89 : decode cX3_stepBack 89 = .ok (.invokevirtual 96, 3) := by decide +kernel
theorem dX3_stepBack_92 : decode cX3_stepBack 92 = .ok (.ifCond .eq 8, 3) := by decide +kernel
theorem dX3_stepBack_95 : decode cX3_stepBack 95 = .ok (.ldc 48, 2) := by decide +kernel
theorem dX3_stepBack_97 : decode cX3_stepBack 97 = .ok (.goto 16, 3) := by decide +kernel
theorem dX3_stepBack_100 : decode cX3_stepBack 100 = .ok (.iload 6, 2) := by decide +kernel
theorem dX3_stepBack_102 : decode cX3_stepBack 102 = .ok (.aload_n 0, 1) := by decide +kernel
theorem dX3_stepBack_103 : decode cX3_stepBack 103 = .ok (.getfield 18, 3) := by decide +kernel
theorem dX3_stepBack_106 : decode cX3_stepBack 106 = .ok (.iload 5, 2) := by decide +kernel
theorem dX3_stepBack_108 : decode cX3_stepBack 108 = .ok (.iload 9, 2) := by decide +kernel
theorem dX3_stepBack_110 : decode cX3_stepBack 110 = .ok (.iadd, 1) := by decide +kernel
theorem dX3_stepBack_111 : decode cX3_stepBack 111 = .ok (.iaload, 1) := by decide +kernel
theorem dX3_stepBack_112 : decode cX3_stepBack 112 = .ok (.iadd, 1) := by decide +kernel
theorem dX3_stepBack_113 : decode cX3_stepBack 113 = .ok (.istore 11, 2) := by decide +kernel
theorem dX3_stepBack_115 : decode cX3_stepBack 115 = .ok (.iload 7, 2) := by decide +kernel
theorem dX3_stepBack_117 : decode cX3_stepBack 117 = .ok (.ldc 48, 2) := by decide +kernel
theorem dX3_stepBack_119 : decode cX3_stepBack 119 = .ok (.if_icmp .lt 8, 3) := by decide +kernel
theorem dX3_stepBack_122 : decode cX3_stepBack 122 = .ok (.ldc 48, 2) := by decide +kernel
theorem dX3_stepBack_124 : decode cX3_stepBack 124 = .ok (.goto 13, 3) := by decide +kernel
theorem dX3_stepBack_127 : decode cX3_stepBack 127 = .ok (.iload 7, 2) := by decide +kernel
theorem dX3_stepBack_129 : decode cX3_stepBack 129 = .ok (.aload_n 0, 1) := by decide +kernel
theorem dX3_stepBack_130 : decode cX3_stepBack 130 = .ok (.iload 10, 2) := by decide +kernel
theorem dX3_stepBack_132 : decode cX3_stepBack 132 = .ok (.iload_n 2, 1) := by decide +kernel
theorem dX3_stepBack_133 : decode cX3_stepBack 133 = .ok (.invokevirtual 93, 3) := by decide +kernel
theorem dX3_stepBack_136 : decode cX3_stepBack 136 = .ok (.iadd, 1) := by decide +kernel
theorem dX3_stepBack_137 : decode cX3_stepBack 137 = .ok (.istore 12, 2) := by decide +kernel
theorem dX3_stepBack_139 : decode cX3_stepBack 139 = .ok (.ldc 48, 2) := by decide +kernel
theorem dX3_stepBack_141 : decode cX3_stepBack 141 = .ok (.iload 11, 2) := by decide +kernel
theorem dX3_stepBack_143 : decode cX3_stepBack 143 = .ok (.iload 12, 2) := by decide +kernel
theorem dX3_stepBack_145 : decode cX3_stepBack 145 = .ok (.invokestatic 103, 3) := by decide +kernel
theorem dX3_stepBack_148 : decode cX3_stepBack 148 = .ok (.invokestatic 103, 3) := by decide +kernel
theorem dX3_stepBack_151 : decode cX3_stepBack 151 = .ok (.istore 13, 2) := by decide +kernel
theorem dX3_stepBack_153 : decode cX3_stepBack 153 = .ok (.aload_n 0, 1) := by decide +kernel
theorem dX3_stepBack_154 : decode cX3_stepBack 154 = .ok (.getfield 18, 3) := by decide +kernel
theorem dX3_stepBack_157 : decode cX3_stepBack 157 = .ok (.iload 4, 2) := by decide +kernel
theorem dX3_stepBack_159 : decode cX3_stepBack 159 = .ok (.iload 9, 2) := by decide +kernel
theorem dX3_stepBack_161 : decode cX3_stepBack 161 = .ok (.iadd, 1) := by decide +kernel
theorem dX3_stepBack_162 : decode cX3_stepBack 162 = .ok (.iload 13, 2) := by decide +kernel
theorem dX3_stepBack_164 : decode cX3_stepBack 164 = .ok (.iastore, 1) := by decide +kernel
theorem dX3_stepBack_165 : decode cX3_stepBack 165 = .ok (.iload 8, 2) := by decide +kernel
theorem dX3_stepBack_167 : decode cX3_stepBack 167 = .ok (.ifCond .ne 10, 3) := by decide +kernel
theorem dX3_stepBack_170 : decode cX3_stepBack 170 = .ok (.iload 13, 2) := by decide +kernel
theorem dX3_stepBack_172 : decode cX3_stepBack 172 = .ok (.ldc 48, 2) := by decide +kernel
theorem dX3_stepBack_174 : decode cX3_stepBack 174 = .ok (.if_icmp .ge 7, 3) := by decide +kernel
theorem dX3_stepBack_177 : decode cX3_stepBack 177 = .ok (.iconst 1, 1) := by decide +kernel
theorem dX3_stepBack_178 : decode cX3_stepBack 178 = .ok (.goto 4, 3) := by decide +kernel
theorem dX3_stepBack_181 : decode cX3_stepBack 181 = .ok (.iconst 0, 1) := by decide +kernel
theorem dX3_stepBack_182 : decode cX3_stepBack 182 = .ok (.istore 8, 2) := by decide +kernel
theorem dX3_stepBack_184 : decode cX3_stepBack 184 = .ok (.iinc 9 1, 3) := by decide +kernel
theorem dX3_stepBack_187 : decode cX3_stepBack 187 = .ok (.goto (-116), 3) := by decide +kernel
theorem dX3_stepBack_190 : decode cX3_stepBack 190 = .ok (.iload 8, 2) := by decide +kernel
theorem dX3_stepBack_192 : decode cX3_stepBack 192 = .ok (.ireturn, 1) := by decide +kernel
theorem dX3_weighRest_0 : decode cX3_weighRest 0 = .ok (.aload_n 0, 1) := by decide +kernel
theorem dX3_weighRest_1 : decode cX3_weighRest 1 = .ok (.iconst 0, 1) := by decide +kernel
theorem dX3_weighRest_2 : decode cX3_weighRest 2 = .ok (.putfield 75, 3) := by decide +kernel
theorem dX3_weighRest_5 : decode cX3_weighRest 5 = .ok (.iconst 0, 1) := by decide +kernel
theorem dX3_weighRest_6 : decode cX3_weighRest 6 = .ok (.istore_n 1, 1) := by decide +kernel
theorem dX3_weighRest_7 : decode cX3_weighRest 7 = .ok (.iload_n 1, 1) := by decide +kernel
theorem dX3_weighRest_8 : decode cX3_weighRest 8 = .ok (.aload_n 0, 1) := by decide +kernel
theorem dX3_weighRest_9 : decode cX3_weighRest 9 = .ok (.getfield 52, 3) := by decide +kernel
theorem dX3_weighRest_12 : decode cX3_weighRest 12 = .ok (.if_icmp .ge 23, 3) := by decide +kernel
theorem dX3_weighRest_15 : decode cX3_weighRest 15 = .ok (.aload_n 0, 1) := by decide +kernel
theorem dX3_weighRest_16 : decode cX3_weighRest 16 = .ok (.getfield 18, 3) := by decide +kernel
theorem dX3_weighRest_19 : decode cX3_weighRest 19 = .ok (.aload_n 0, 1) := by decide +kernel
theorem dX3_weighRest_20 : decode cX3_weighRest 20 = .ok (.getfield 52, 3) := by decide +kernel
theorem dX3_weighRest_23 : decode cX3_weighRest 23 = .ok (.iload_n 1, 1) := by decide +kernel
theorem dX3_weighRest_24 : decode cX3_weighRest 24 = .ok (.invokestatic 78, 3) := by decide +kernel
theorem dX3_weighRest_27 : decode cX3_weighRest 27 = .ok (.iconst 0, 1) := by decide +kernel
theorem dX3_weighRest_28 : decode cX3_weighRest 28 = .ok (.iastore, 1) := by decide +kernel
theorem dX3_weighRest_29 : decode cX3_weighRest 29 = .ok (.iinc 1 1, 3) := by decide +kernel
theorem dX3_weighRest_32 : decode cX3_weighRest 32 = .ok (.goto (-25), 3) := by decide +kernel
theorem dX3_weighRest_35 : decode cX3_weighRest 35 = .ok (.aload_n 0, 1) := by decide +kernel
theorem dX3_weighRest_36 : decode cX3_weighRest 36 = .ok (.getfield 52, 3) := by decide +kernel
theorem dX3_weighRest_39 : decode cX3_weighRest 39 = .ok (.iconst 1, 1) := by decide +kernel
theorem dX3_weighRest_40 : decode cX3_weighRest 40 = .ok (.isub, 1) := by decide +kernel
theorem dX3_weighRest_41 : decode cX3_weighRest 41 = .ok (.istore_n 1, 1) := by decide +kernel
theorem dX3_weighRest_42 : decode cX3_weighRest 42 = .ok (.iload_n 1, 1) := by decide +kernel
theorem dX3_weighRest_43 : decode cX3_weighRest 43 = .ok (.ifCond .le 29, 3) := by decide +kernel
theorem dX3_weighRest_46 : decode cX3_weighRest 46 = .ok (.aload_n 0, 1) := by decide +kernel
theorem dX3_weighRest_47 : decode cX3_weighRest 47 = .ok (.getfield 75, 3) := by decide +kernel
theorem dX3_weighRest_50 : decode cX3_weighRest 50 = .ok (.ifCond .ne 22, 3) := by decide +kernel
theorem dX3_weighRest_53 : decode cX3_weighRest 53 = .ok (.aload_n 0, 1) := by decide +kernel
theorem dX3_weighRest_54 : decode cX3_weighRest 54 = .ok (.iload_n 1, 1) := by decide +kernel
theorem dX3_weighRest_55 : decode cX3_weighRest 55 = .ok (.invokevirtual 81, 3) := by decide +kernel
theorem dX3_weighRest_58 : decode cX3_weighRest 58 = .ok (.ifCond .ne 8, 3) := by decide +kernel
theorem dX3_weighRest_61 : decode cX3_weighRest 61 = .ok (.aload_n 0, 1) := by decide +kernel
theorem dX3_weighRest_62 : decode cX3_weighRest 62 = .ok (.iload_n 1, 1) := by decide +kernel
theorem dX3_weighRest_63 : decode cX3_weighRest 63 = .ok (.putfield 75, 3) := by decide +kernel
theorem dX3_weighRest_66 : decode cX3_weighRest 66 = .ok (.iinc 1 (-1), 3) := by decide +kernel
theorem dX3_weighRest_69 : decode cX3_weighRest 69 = .ok (.goto (-27), 3) := by decide +kernel
theorem dX3_weighRest_72 : decode cX3_weighRest 72 = .ok (.aload_n 0, 1) := by decide +kernel
theorem dX3_weighRest_73 : decode cX3_weighRest 73 = .ok (.getfield 52, 3) := by decide +kernel
theorem dX3_weighRest_76 : decode cX3_weighRest 76 = .ok (.ifCond .ne 7, 3) := by decide +kernel
theorem dX3_weighRest_79 : decode cX3_weighRest 79 = .ok (.iconst 0, 1) := by decide +kernel
theorem dX3_weighRest_80 : decode cX3_weighRest 80 = .ok (.goto 9, 3) := by decide +kernel
theorem dX3_weighRest_83 : decode cX3_weighRest 83 = .ok (.aload_n 0, 1) := by decide +kernel
theorem dX3_weighRest_84 : decode cX3_weighRest 84 = .ok (.iconst 1, 1) := by decide +kernel
theorem dX3_weighRest_85 : decode cX3_weighRest 85 = .ok (.iconst 0, 1) := by decide +kernel
theorem dX3_weighRest_86 : decode cX3_weighRest 86 = .ok (.invokevirtual 85, 3) := by decide +kernel
theorem dX3_weighRest_89 : decode cX3_weighRest 89 = .ok (.ireturn, 1) := by decide +kernel
theorem dX3_swapsFor_0 : decode cX3_swapsFor 0 = .ok (.aload_n 0, 1) := by decide +kernel
theorem dX3_swapsFor_1 : decode cX3_swapsFor 1 = .ok (.getfield 15, 3) := by decide +kernel
theorem dX3_swapsFor_4 : decode cX3_swapsFor 4 = .ok (.iload_n 2, 1) := by decide +kernel
theorem dX3_swapsFor_5 : decode cX3_swapsFor 5 = .ok (.iaload, 1) := by decide +kernel
theorem dX3_swapsFor_6 : decode cX3_swapsFor 6 = .ok (.istore 4, 2) := by decide +kernel
theorem dX3_swapsFor_8 : decode cX3_swapsFor 8 = .ok (.aload_n 0, 1) := by decide +kernel
theorem dX3_swapsFor_9 : decode cX3_swapsFor 9 = .ok (.getfield 15, 3) := by decide +kernel
theorem dX3_swapsFor_12 : decode cX3_swapsFor 12 = .ok (.iload_n 2, 1) := by decide +kernel
theorem dX3_swapsFor_13 : decode cX3_swapsFor 13 = .ok (.iconst 1, 1) := by decide +kernel
theorem dX3_swapsFor_14 : decode cX3_swapsFor 14 = .ok (.isub, 1) := by decide +kernel
theorem dX3_swapsFor_15 : decode cX3_swapsFor 15 = .ok (.iaload, 1) := by decide +kernel
theorem dX3_swapsFor_16 : decode cX3_swapsFor 16 = .ok (.istore 5, 2) := by decide +kernel
theorem dX3_swapsFor_18 : decode cX3_swapsFor 18 = .ok (.aload_n 0, 1) := by decide +kernel
theorem dX3_swapsFor_19 : decode cX3_swapsFor 19 = .ok (.iload_n 3, 1) := by decide +kernel
theorem dX3_swapsFor_20 : decode cX3_swapsFor 20 = .ok (.invokevirtual 100, 3) := by decide +kernel
theorem dX3_swapsFor_23 : decode cX3_swapsFor 23 = .ok (.istore 6, 2) := by decide +kernel
theorem dX3_swapsFor_25 : decode cX3_swapsFor 25 = .ok (.aload_n 0, 1) := by decide +kernel
theorem dX3_swapsFor_26 : decode cX3_swapsFor 26 = .ok (.iload_n 2, 1) := by decide +kernel
theorem dX3_swapsFor_27 : decode cX3_swapsFor 27 = .ok (.iload_n 3, 1) := by decide +kernel
theorem dX3_swapsFor_28 : decode cX3_swapsFor 28 = .ok (.invokevirtual 85, 3) := by decide +kernel
theorem dX3_swapsFor_31 : decode cX3_swapsFor 31 = .ok (.istore 7, 2) := by decide +kernel
theorem dX3_swapsFor_33 : decode cX3_swapsFor 33 = .ok (.iload_n 1, 1) := by decide +kernel
theorem dX3_swapsFor_34 : decode cX3_swapsFor 34 = .ok (.ifCond .ne 33, 3) := by decide +kernel
theorem dX3_swapsFor_37 : decode cX3_swapsFor 37 = .ok (.aload_n 0, 1) := by decide +kernel
theorem dX3_swapsFor_38 : decode cX3_swapsFor 38 = .ok (.iload 5, 2) := by decide +kernel
theorem dX3_swapsFor_40 : decode cX3_swapsFor 40 = .ok (.iload 6, 2) := by decide +kernel
theorem dX3_swapsFor_42 : decode cX3_swapsFor 42 = .ok (.iload 4, 2) := by decide +kernel
theorem dX3_swapsFor_44 : decode cX3_swapsFor 44 = .ok (.invokevirtual 109, 3) := by decide +kernel
theorem dX3_swapsFor_47 : decode cX3_swapsFor 47 = .ok (.aload_n 0, 1) := by decide +kernel
theorem dX3_swapsFor_48 : decode cX3_swapsFor 48 = .ok (.iload_n 2, 1) := by decide +kernel
theorem dX3_swapsFor_49 : decode cX3_swapsFor 49 = .ok (.iconst 1, 1) := by decide +kernel
theorem dX3_swapsFor_50 : decode cX3_swapsFor 50 = .ok (.iadd, 1) := by decide +kernel
theorem dX3_swapsFor_51 : decode cX3_swapsFor 51 = .ok (.iload_n 3, 1) := by decide +kernel
theorem dX3_swapsFor_52 : decode cX3_swapsFor 52 = .ok (.invokevirtual 85, 3) := by decide +kernel
theorem dX3_swapsFor_55 : decode cX3_swapsFor 55 = .ok (.iadd, 1) := by decide +kernel
theorem dX3_swapsFor_56 : decode cX3_swapsFor 56 = .ok (.iload 7, 2) := by decide +kernel
theorem dX3_swapsFor_58 : decode cX3_swapsFor 58 = .ok (.if_icmp .eq 7, 3) := by decide +kernel
theorem dX3_swapsFor_61 : decode cX3_swapsFor 61 = .ok (.iconst 1, 1) := by decide +kernel
theorem dX3_swapsFor_62 : decode cX3_swapsFor 62 = .ok (.goto 4, 3) := by decide +kernel
theorem dX3_swapsFor_65 : decode cX3_swapsFor 65 = .ok (.iconst 0, 1) := by decide +kernel
theorem dX3_swapsFor_66 : decode cX3_swapsFor 66 = .ok (.ireturn, 1) := by decide +kernel
theorem dX3_swapsFor_67 : decode cX3_swapsFor 67 = .ok (.aload_n 0, 1) := by decide +kernel
theorem dX3_swapsFor_68 : decode cX3_swapsFor 68 = .ok (.iload 6, 2) := by decide +kernel
theorem dX3_swapsFor_70 : decode cX3_swapsFor 70 = .ok (.iload 5, 2) := by decide +kernel
theorem dX3_swapsFor_72 : decode cX3_swapsFor 72 = .ok (.iload 4, 2) := by decide +kernel
theorem dX3_swapsFor_74 : decode cX3_swapsFor 74 = .ok (.invokevirtual 109, 3) := by decide +kernel
theorem dX3_swapsFor_77 : decode cX3_swapsFor 77 = .ok (.aload_n 0, 1) := by decide +kernel
theorem dX3_swapsFor_78 : decode cX3_swapsFor 78 = .ok (.iload_n 2, 1) := by decide +kernel
theorem dX3_swapsFor_79 : decode cX3_swapsFor 79 = .ok (.iconst 1, 1) := by decide +kernel
theorem dX3_swapsFor_80 : decode cX3_swapsFor 80 = .ok (.iadd, 1) := by decide +kernel
theorem dX3_swapsFor_81 : decode cX3_swapsFor 81 = .ok (.iload_n 2, 1) := by decide +kernel
theorem dX3_swapsFor_82 : decode cX3_swapsFor 82 = .ok (.invokevirtual 85, 3) := by decide +kernel
theorem dX3_swapsFor_85 : decode cX3_swapsFor 85 = .ok (.iadd, 1) := by decide +kernel
theorem dX3_swapsFor_86 : decode cX3_swapsFor 86 = .ok (.iload 7, 2) := by decide +kernel
theorem dX3_swapsFor_88 : decode cX3_swapsFor 88 = .ok (.if_icmp .ne 7, 3) := by decide +kernel
theorem dX3_swapsFor_91 : decode cX3_swapsFor 91 = .ok (.iconst 1, 1) := by decide +kernel
theorem dX3_swapsFor_92 : decode cX3_swapsFor 92 = .ok (.goto 4, 3) := by decide +kernel
theorem dX3_swapsFor_95 : decode cX3_swapsFor 95 = .ok (.iconst 0, 1) := by decide +kernel
theorem dX3_swapsFor_96 : decode cX3_swapsFor 96 = .ok (.ireturn, 1) := by decide +kernel
theorem dX3_keepHands_0 : decode cX3_keepHands 0 = .ok (.iconst 0, 1) := by decide +kernel
theorem dX3_keepHands_1 : decode cX3_keepHands 1 = .ok (.istore_n 1, 1) := by decide +kernel
theorem dX3_keepHands_2 : decode cX3_keepHands 2 = .ok (.iload_n 1, 1) := by decide +kernel
theorem dX3_keepHands_3 : decode cX3_keepHands 3 = .ok (.sipush 160, 3) := by decide +kernel
theorem dX3_keepHands_6 : decode cX3_keepHands 6 = .ok (.if_icmp .ge 16, 3) := by decide +kernel
theorem dX3_keepHands_9 : decode cX3_keepHands 9 = .ok (.aload_n 0, 1) := by decide +kernel
theorem dX3_keepHands_10 : decode cX3_keepHands 10 = .ok (.getfield 9, 3) := by decide +kernel
theorem dX3_keepHands_13 : decode cX3_keepHands 13 = .ok (.iload_n 1, 1) := by decide +kernel
theorem dX3_keepHands_14 : decode cX3_keepHands 14 = .ok (.iconst (-1), 1) := by decide +kernel
theorem dX3_keepHands_15 : decode cX3_keepHands 15 = .ok (.iastore, 1) := by decide +kernel
theorem dX3_keepHands_16 : decode cX3_keepHands 16 = .ok (.iinc 1 1, 3) := by decide +kernel
theorem dX3_keepHands_19 : decode cX3_keepHands 19 = .ok (.goto (-17), 3) := by decide +kernel
theorem dX3_keepHands_22 : decode cX3_keepHands 22 = .ok (.aload_n 0, 1) := by decide +kernel
theorem dX3_keepHands_23 : decode cX3_keepHands 23 = .ok (.iconst 1, 1) := by decide +kernel
theorem dX3_keepHands_24 : decode cX3_keepHands 24 = .ok (.putfield 32, 3) := by decide +kernel
theorem dX3_keepHands_27 : decode cX3_keepHands 27 = .ok (.iconst 0, 1) := by decide +kernel
theorem dX3_keepHands_28 : decode cX3_keepHands 28 = .ok (.istore_n 1, 1) := by decide +kernel
theorem dX3_keepHands_29 : decode cX3_keepHands 29 = .ok (.iconst 0, 1) := by decide +kernel
theorem dX3_keepHands_30 : decode cX3_keepHands 30 = .ok (.istore_n 2, 1) := by decide +kernel
theorem dX3_keepHands_31 : decode cX3_keepHands 31 = .ok (.iconst 0, 1) := by decide +kernel
theorem dX3_keepHands_32 : decode cX3_keepHands 32 = .ok (.istore_n 3, 1) := by decide +kernel
theorem dX3_keepHands_33 : decode cX3_keepHands 33 = .ok (.iload_n 3, 1) := by decide +kernel
theorem dX3_keepHands_34 : decode cX3_keepHands 34 = .ok (.aload_n 0, 1) := by decide +kernel
theorem dX3_keepHands_35 : decode cX3_keepHands 35 = .ok (.getfield 52, 3) := by decide +kernel
theorem dX3_keepHands_38 : decode cX3_keepHands 38 = .ok (.if_icmp .ge 41, 3) := by decide +kernel
theorem dX3_keepHands_41 : decode cX3_keepHands 41 = .ok (.iload_n 3, 1) := by decide +kernel
theorem dX3_keepHands_42 : decode cX3_keepHands 42 = .ok (.ifCond .le 19, 3) := by decide +kernel
theorem dX3_keepHands_45 : decode cX3_keepHands 45 = .ok (.aload_n 0, 1) := by decide +kernel
theorem dX3_keepHands_46 : decode cX3_keepHands 46 = .ok (.iload_n 1, 1) := by decide +kernel
theorem dX3_keepHands_47 : decode cX3_keepHands 47 = .ok (.iload_n 3, 1) := by decide +kernel
theorem dX3_keepHands_48 : decode cX3_keepHands 48 = .ok (.iload_n 2, 1) := by decide +kernel
theorem dX3_keepHands_49 : decode cX3_keepHands 49 = .ok (.invokevirtual 137, 3) := by decide +kernel
theorem dX3_keepHands_52 : decode cX3_keepHands 52 = .ok (.ifCond .eq 9, 3) := by decide +kernel
theorem dX3_keepHands_55 : decode cX3_keepHands 55 = .ok (.iconst 1, 1) := by decide +kernel
theorem dX3_keepHands_56 : decode cX3_keepHands 56 = .ok (.iload_n 1, 1) := by decide +kernel
theorem dX3_keepHands_57 : decode cX3_keepHands 57 = .ok (.isub, 1) := by decide +kernel
theorem dX3_keepHands_58 : decode cX3_keepHands 58 = .ok (.istore_n 1, 1) := by decide +kernel
theorem dX3_keepHands_59 : decode cX3_keepHands 59 = .ok (.iload_n 3, 1) := by decide +kernel
theorem dX3_keepHands_60 : decode cX3_keepHands 60 = .ok (.istore_n 2, 1) := by decide +kernel
theorem dX3_keepHands_61 : decode cX3_keepHands 61 = .ok (.aload_n 0, 1) := by decide +kernel
theorem dX3_keepHands_62 : decode cX3_keepHands 62 = .ok (.getfield 9, 3) := by decide +kernel
theorem dX3_keepHands_65 : decode cX3_keepHands 65 = .ok (.aload_n 0, 1) := by decide +kernel
theorem dX3_keepHands_66 : decode cX3_keepHands 66 = .ok (.getfield 15, 3) := by decide +kernel
theorem dX3_keepHands_69 : decode cX3_keepHands 69 = .ok (.iload_n 3, 1) := by decide +kernel
theorem dX3_keepHands_70 : decode cX3_keepHands 70 = .ok (.iaload, 1) := by decide +kernel
theorem dX3_keepHands_71 : decode cX3_keepHands 71 = .ok (.iload_n 1, 1) := by decide +kernel
theorem dX3_keepHands_72 : decode cX3_keepHands 72 = .ok (.iastore, 1) := by decide +kernel
theorem dX3_keepHands_73 : decode cX3_keepHands 73 = .ok (.iinc 3 1, 3) := by decide +kernel
theorem dX3_keepHands_76 : decode cX3_keepHands 76 = .ok (.goto (-43), 3) := by decide +kernel
theorem dX3_keepHands_79 : decode cX3_keepHands 79 = .ok (.return_, 1) := by decide +kernel
theorem dX3_stepForth_0 : decode cX3_stepForth 0 = .ok (.aload_n 0, 1) := by decide +kernel
theorem dX3_stepForth_1 : decode cX3_stepForth 1 = .ok (.getfield 15, 3) := by decide +kernel
theorem dX3_stepForth_4 : decode cX3_stepForth 4 = .ok (.iload_n 1, 1) := by decide +kernel
theorem dX3_stepForth_5 : decode cX3_stepForth 5 = .ok (.iaload, 1) := by decide +kernel
theorem dX3_stepForth_6 : decode cX3_stepForth 6 = .ok (.istore_n 2, 1) := by decide +kernel
theorem dX3_stepForth_7 : decode cX3_stepForth 7 = .ok (.aload_n 0, 1) := by decide +kernel
theorem dX3_stepForth_8 : decode cX3_stepForth 8 = .ok (.iload_n 1, 1) := by decide +kernel
theorem dX3_stepForth_9 : decode cX3_stepForth 9 = .ok (.invokevirtual 100, 3) := by decide +kernel
theorem dX3_stepForth_12 : decode cX3_stepForth 12 = .ok (.istore_n 3, 1) := by decide +kernel
theorem dX3_stepForth_13 : decode cX3_stepForth 13 = .ok (.ldc 48, 2) := by decide +kernel
theorem dX3_stepForth_15 : decode cX3_stepForth 15 = .ok (.istore 4, 2) := by decide +kernel
theorem dX3_stepForth_17 : decode cX3_stepForth 17 = .ok (.iconst 0, 1) := by decide +kernel
theorem dX3_stepForth_18 : decode cX3_stepForth 18 = .ok (.istore 5, 2) := by decide +kernel
theorem dX3_stepForth_20 : decode cX3_stepForth 20 = .ok (.iload 5, 2) := by decide +kernel
theorem dX3_stepForth_22 : decode cX3_stepForth 22 = .ok (.iload_n 1, 1) := by decide +kernel
theorem dX3_stepForth_23 : decode cX3_stepForth 23 = .ok (.invokestatic 106, 3) := by decide +kernel
theorem dX3_stepForth_26 : decode cX3_stepForth 26 = .ok (.if_icmp .ge 68, 3) := by decide +kernel
theorem dX3_stepForth_29 : decode cX3_stepForth 29 = .ok (.aload_n 0, 1) := by decide +kernel
theorem dX3_stepForth_30 : decode cX3_stepForth 30 = .ok (.iload 5, 2) := by decide +kernel
theorem dX3_stepForth_32 : decode cX3_stepForth 32 = .ok (.invokevirtual 100, 3) := by decide +kernel
theorem dX3_stepForth_35 : decode cX3_stepForth 35 = .ok (.istore 6, 2) := by decide +kernel
theorem dX3_stepForth_37 : decode cX3_stepForth 37 = .ok (.iload 4, 2) := by decide +kernel
theorem dX3_stepForth_39 : decode cX3_stepForth 39 = .ok (.aload_n 0, 1) := by decide +kernel
theorem dX3_stepForth_40 : decode cX3_stepForth 40 = .ok (.getfield 21, 3) := by decide +kernel
theorem dX3_stepForth_43 : decode cX3_stepForth 43 = .ok (.iload 5, 2) := by decide +kernel
theorem dX3_stepForth_45 : decode cX3_stepForth 45 = .ok (.iaload, 1) := by decide +kernel
theorem dX3_stepForth_46 : decode cX3_stepForth 46 = .ok (.aload_n 0, 1) := by decide +kernel
theorem dX3_stepForth_47 : decode cX3_stepForth 47 = .ok (.iload 6, 2) := by decide +kernel
theorem dX3_stepForth_49 : decode cX3_stepForth 49 = .ok (.iload_n 3, 1) := by decide +kernel
theorem dX3_stepForth_50 : decode cX3_stepForth 50 = .ok (.iload_n 2, 1) := by decide +kernel
theorem dX3_stepForth_51 : decode cX3_stepForth 51 = .ok (.invokevirtual 109, 3) := by decide +kernel
theorem dX3_stepForth_54 : decode cX3_stepForth 54 = .ok (.iadd, 1) := by decide +kernel
theorem dX3_stepForth_55 : decode cX3_stepForth 55 = .ok (.invokestatic 103, 3) := by decide +kernel
theorem dX3_stepForth_58 : decode cX3_stepForth 58 = .ok (.istore 4, 2) := by decide +kernel
theorem dX3_stepForth_60 : decode cX3_stepForth 60 = .ok (.aload_n 0, 1) := by decide +kernel
theorem dX3_stepForth_61 : decode cX3_stepForth 61 = .ok (.getfield 21, 3) := by decide +kernel
theorem dX3_stepForth_64 : decode cX3_stepForth 64 = .ok (.iload 5, 2) := by decide +kernel
theorem dX3_stepForth_66 : decode cX3_stepForth 66 = .ok (.ldc 48, 2) := by decide +kernel
theorem dX3_stepForth_68 : decode cX3_stepForth 68 = .ok (.aload_n 0, 1) := by decide +kernel
theorem dX3_stepForth_69 : decode cX3_stepForth 69 = .ok (.getfield 21, 3) := by decide +kernel
theorem dX3_stepForth_72 : decode cX3_stepForth 72 = .ok (.iload 5, 2) := by decide +kernel
theorem dX3_stepForth_74 : decode cX3_stepForth 74 = .ok (.iaload, 1) := by decide +kernel
theorem dX3_stepForth_75 : decode cX3_stepForth 75 = .ok (.aload_n 0, 1) := by decide +kernel
theorem dX3_stepForth_76 : decode cX3_stepForth 76 = .ok (.iload_n 3, 1) := by decide +kernel
theorem dX3_stepForth_77 : decode cX3_stepForth 77 = .ok (.iload 6, 2) := by decide +kernel
theorem dX3_stepForth_79 : decode cX3_stepForth 79 = .ok (.iload_n 2, 1) := by decide +kernel
theorem dX3_stepForth_80 : decode cX3_stepForth 80 = .ok (.invokevirtual 109, 3) := by decide +kernel
theorem dX3_stepForth_83 : decode cX3_stepForth 83 = .ok (.iadd, 1) := by decide +kernel
theorem dX3_stepForth_84 : decode cX3_stepForth 84 = .ok (.invokestatic 103, 3) := by decide +kernel
theorem dX3_stepForth_87 : decode cX3_stepForth 87 = .ok (.iastore, 1) := by decide +kernel
theorem dX3_stepForth_88 : decode cX3_stepForth 88 = .ok (.iinc 5 1, 3) := by decide +kernel
theorem dX3_stepForth_91 : decode cX3_stepForth 91 = .ok (.goto (-71), 3) := by decide +kernel
theorem dX3_stepForth_94 : decode cX3_stepForth 94 = .ok (.iload_n 1, 1) := by decide +kernel
theorem dX3_stepForth_95 : decode cX3_stepForth 95 = .ok (.ifCond .le 11, 3) := by decide +kernel
theorem dX3_stepForth_98 : decode cX3_stepForth 98 = .ok (.aload_n 0, 1) := by decide +kernel
theorem dX3_stepForth_99 : decode cX3_stepForth 99 = .ok (.getfield 21, 3) := by decide +kernel
theorem dX3_stepForth_102 : decode cX3_stepForth 102 = .ok (.iload_n 1, 1) := by decide +kernel
theorem dX3_stepForth_103 : decode cX3_stepForth 103 = .ok (.iload 4, 2) := by decide +kernel
theorem dX3_stepForth_105 : decode cX3_stepForth 105 = .ok (.iastore, 1) := by decide +kernel
theorem dX3_stepForth_106 : decode cX3_stepForth 106 = .ok (.return_, 1) := by decide +kernel
theorem dX3_takesSkipping_0 : decode cX3_takesSkipping 0 = .ok (.aload_n 0, 1) := by decide +kernel
theorem dX3_takesSkipping_1 : decode cX3_takesSkipping 1 = .ok (.iload_n 1, 1) := by decide +kernel
theorem dX3_takesSkipping_2 : decode cX3_takesSkipping 2 = .ok (.invokevirtual 100, 3) := by decide +kernel
theorem dX3_takesSkipping_5 : decode cX3_takesSkipping 5 = .ok (.istore_n 2, 1) := by decide +kernel
theorem dX3_takesSkipping_6 : decode cX3_takesSkipping 6 = .ok (.ldc 48, 2) := by decide +kernel
theorem dX3_takesSkipping_8 : decode cX3_takesSkipping 8 = .ok (.istore_n 3, 1) := by decide +kernel
theorem dX3_takesSkipping_9 : decode cX3_takesSkipping 9 = .ok (.iconst 0, 1) := by decide +kernel
theorem dX3_takesSkipping_10 : decode cX3_takesSkipping 10 = .ok (.istore 4, 2) := by decide +kernel
theorem dX3_takesSkipping_12 : decode cX3_takesSkipping 12 = .ok (.iload 4, 2) := by decide +kernel
theorem dX3_takesSkipping_14 : decode cX3_takesSkipping 14 = .ok (.iload_n 1, 1) := by decide +kernel
theorem dX3_takesSkipping_15 : decode cX3_takesSkipping 15 = .ok (.invokestatic 106, 3) := by decide +kernel
theorem dX3_takesSkipping_18 : decode cX3_takesSkipping 18 = .ok (.if_icmp .ge 105, 3) := by decide +kernel
theorem dX3_takesSkipping_21 : decode cX3_takesSkipping 21 = .ok (.aload_n 0, 1) := by decide +kernel
theorem dX3_takesSkipping_22 : decode cX3_takesSkipping 22 = .ok (.iload 4, 2) := by decide +kernel
theorem dX3_takesSkipping_24 : decode cX3_takesSkipping 24 = .ok (.invokevirtual 100, 3) := by decide +kernel
theorem dX3_takesSkipping_27 : decode cX3_takesSkipping 27 = .ok (.istore 5, 2) := by decide +kernel
theorem dX3_takesSkipping_29 : decode cX3_takesSkipping 29 = .ok (.iconst 0, 1) := by decide +kernel
theorem dX3_takesSkipping_30 : decode cX3_takesSkipping 30 = .ok (.istore 6, 2) := by decide +kernel
theorem dX3_takesSkipping_32 : decode cX3_takesSkipping 32 = .ok (.iload_n 1, 1) := by decide +kernel
theorem dX3_takesSkipping_33 : decode cX3_takesSkipping 33 = .ok (.iconst 1, 1) := by decide +kernel
theorem dX3_takesSkipping_34 : decode cX3_takesSkipping 34 = .ok (.iadd, 1) := by decide +kernel
theorem dX3_takesSkipping_35 : decode cX3_takesSkipping 35 = .ok (.aload_n 0, 1) := by decide +kernel
theorem dX3_takesSkipping_36 : decode cX3_takesSkipping 36 = .ok (.getfield 52, 3) := by decide +kernel
theorem dX3_takesSkipping_39 : decode cX3_takesSkipping 39 = .ok (.if_icmp .ge 63, 3) := by decide +kernel
theorem dX3_takesSkipping_42 : decode cX3_takesSkipping 42 = .ok (.aload_n 0, 1) := by decide +kernel
theorem dX3_takesSkipping_43 : decode cX3_takesSkipping 43 = .ok (.getfield 15, 3) := by decide +kernel
theorem dX3_takesSkipping_46 : decode cX3_takesSkipping 46 = .ok (.iload_n 1, 1) := by decide +kernel
theorem dX3_takesSkipping_47 : decode cX3_takesSkipping 47 = .ok (.iconst 1, 1) := by decide +kernel
theorem dX3_takesSkipping_48 : decode cX3_takesSkipping 48 = .ok (.iadd, 1) := by decide +kernel
theorem dX3_takesSkipping_49 : decode cX3_takesSkipping 49 = .ok (.iaload, 1) := by decide +kernel
theorem dX3_takesSkipping_50 : decode cX3_takesSkipping 50 = .ok (.istore 7, 2) := by decide +kernel
theorem dX3_takesSkipping_52 : decode cX3_takesSkipping 52 = .ok (.aload_n 0, 1) := by decide +kernel
theorem dX3_takesSkipping_53 : decode cX3_takesSkipping 53 = .ok (.iload_n 2, 1) := by decide +kernel
theorem dX3_takesSkipping_54 : decode cX3_takesSkipping 54 = .ok (.iload 5, 2) := by decide +kernel
theorem dX3_takesSkipping_56 : decode cX3_takesSkipping 56 = .ok (.iload 7, 2) := by decide +kernel
theorem dX3_takesSkipping_58 : decode cX3_takesSkipping 58 = .ok (.invokevirtual 109, 3) := by decide +kernel
theorem dX3_takesSkipping_61 : decode cX3_takesSkipping 61 = .ok (.aload_n 0, 1) := by decide +kernel
theorem dX3_takesSkipping_62 : decode cX3_takesSkipping 62 = .ok (.iload_n 1, 1) := by decide +kernel
theorem dX3_takesSkipping_63 : decode cX3_takesSkipping 63 = .ok (.iconst 2, 1) := by decide +kernel
theorem dX3_takesSkipping_64 : decode cX3_takesSkipping 64 = .ok (.iadd, 1) := by decide +kernel
theorem dX3_takesSkipping_65 : decode cX3_takesSkipping 65 = .ok (.iload 4, 2) := by decide +kernel
theorem dX3_takesSkipping_67 : decode cX3_takesSkipping 67 = .ok (.invokevirtual 85, 3) := by decide +kernel
theorem dX3_takesSkipping_70 : decode cX3_takesSkipping 70 = .ok (.iadd, 1) := by decide +kernel
theorem dX3_takesSkipping_71 : decode cX3_takesSkipping 71 = .ok (.istore 8, 2) := by decide +kernel
theorem dX3_takesSkipping_73 : decode cX3_takesSkipping 73 = .ok (.aload_n 0, 1) := by decide +kernel
theorem dX3_takesSkipping_74 : decode cX3_takesSkipping 74 = .ok (.iload 5, 2) := by decide +kernel
theorem dX3_takesSkipping_76 : decode cX3_takesSkipping 76 = .ok (.iload_n 2, 1) := by decide +kernel
theorem dX3_takesSkipping_77 : decode cX3_takesSkipping 77 = .ok (.iload 7, 2) := by decide +kernel
theorem dX3_takesSkipping_79 : decode cX3_takesSkipping 79 = .ok (.invokevirtual 109, 3) := by decide +kernel
theorem dX3_takesSkipping_82 : decode cX3_takesSkipping 82 = .ok (.aload_n 0, 1) := by decide +kernel
theorem dX3_takesSkipping_83 : decode cX3_takesSkipping 83 = .ok (.iload_n 1, 1) := by decide +kernel
theorem dX3_takesSkipping_84 : decode cX3_takesSkipping 84 = .ok (.iconst 2, 1) := by decide +kernel
theorem dX3_takesSkipping_85 : decode cX3_takesSkipping 85 = .ok (.iadd, 1) := by decide +kernel
theorem dX3_takesSkipping_86 : decode cX3_takesSkipping 86 = .ok (.iload_n 1, 1) := by decide +kernel
theorem dX3_takesSkipping_87 : decode cX3_takesSkipping 87 = .ok (.invokevirtual 85, 3) := by decide +kernel
theorem dX3_takesSkipping_90 : decode cX3_takesSkipping 90 = .ok (.iadd, 1) := by decide +kernel
theorem dX3_takesSkipping_91 : decode cX3_takesSkipping 91 = .ok (.istore 9, 2) := by decide +kernel
theorem dX3_takesSkipping_93 : decode cX3_takesSkipping 93 = .ok (.iload 8, 2) := by decide +kernel
theorem dX3_takesSkipping_95 : decode cX3_takesSkipping 95 = .ok (.iload 9, 2) := by decide +kernel
theorem dX3_takesSkipping_97 : decode cX3_takesSkipping 97 = .ok (.invokestatic 103, 3) := by decide +kernel
theorem dX3_takesSkipping_100 : decode cX3_takesSkipping 100 = .ok (.istore 6, 2) := by decide +kernel
theorem dX3_takesSkipping_102 : decode cX3_takesSkipping 102 = .ok (.iload_n 3, 1) := by decide +kernel
theorem dX3_takesSkipping_103 : decode cX3_takesSkipping 103 = .ok (.aload_n 0, 1) := by decide +kernel
theorem dX3_takesSkipping_104 : decode cX3_takesSkipping 104 = .ok (.getfield 21, 3) := by decide +kernel
theorem dX3_takesSkipping_107 : decode cX3_takesSkipping 107 = .ok (.iload 4, 2) := by decide +kernel
theorem dX3_takesSkipping_109 : decode cX3_takesSkipping 109 = .ok (.iaload, 1) := by decide +kernel
theorem dX3_takesSkipping_110 : decode cX3_takesSkipping 110 = .ok (.iload 6, 2) := by decide +kernel
theorem dX3_takesSkipping_112 : decode cX3_takesSkipping 112 = .ok (.iadd, 1) := by decide +kernel
theorem dX3_takesSkipping_113 : decode cX3_takesSkipping 113 = .ok (.invokestatic 103, 3) := by decide +kernel
theorem dX3_takesSkipping_116 : decode cX3_takesSkipping 116 = .ok (.istore_n 3, 1) := by decide +kernel
theorem dX3_takesSkipping_117 : decode cX3_takesSkipping 117 = .ok (.iinc 4 1, 3) := by decide +kernel
theorem dX3_takesSkipping_120 : decode cX3_takesSkipping 120 = .ok (.goto (-108), 3) := by decide +kernel
theorem dX3_takesSkipping_123 : decode cX3_takesSkipping 123 = .ok (.iload_n 3, 1) := by decide +kernel
theorem dX3_takesSkipping_124 : decode cX3_takesSkipping 124 = .ok (.ireturn, 1) := by decide +kernel
theorem dX3_restBeside_0 : decode cX3_restBeside 0 = .ok (.iconst 0, 1) := by decide +kernel
theorem dX3_restBeside_1 : decode cX3_restBeside 1 = .ok (.istore_n 3, 1) := by decide +kernel
theorem dX3_restBeside_2 : decode cX3_restBeside 2 = .ok (.aload_n 0, 1) := by decide +kernel
theorem dX3_restBeside_3 : decode cX3_restBeside 3 = .ok (.getfield 52, 3) := by decide +kernel
theorem dX3_restBeside_6 : decode cX3_restBeside 6 = .ok (.iconst 1, 1) := by decide +kernel
theorem dX3_restBeside_7 : decode cX3_restBeside 7 = .ok (.isub, 1) := by decide +kernel
theorem dX3_restBeside_8 : decode cX3_restBeside 8 = .ok (.istore 4, 2) := by decide +kernel
theorem dX3_restBeside_10 : decode cX3_restBeside 10 = .ok (.iload 4, 2) := by decide +kernel
theorem dX3_restBeside_12 : decode cX3_restBeside 12 = .ok (.iload_n 2, 1) := by decide +kernel
theorem dX3_restBeside_13 : decode cX3_restBeside 13 = .ok (.if_icmp .lt 81, 3) := by decide +kernel
theorem dX3_restBeside_16 : decode cX3_restBeside 16 = .ok (.aload_n 0, 1) := by decide +kernel
theorem dX3_restBeside_17 : decode cX3_restBeside 17 = .ok (.aload_n 0, 1) := by decide +kernel
theorem dX3_restBeside_18 : decode cX3_restBeside 18 = .ok (.getfield 15, 3) := by decide +kernel
theorem dX3_restBeside_21 : decode cX3_restBeside 21 = .ok (.iload 4, 2) := by decide +kernel
theorem dX3_restBeside_23 : decode cX3_restBeside 23 = .ok (.iconst 1, 1) := by decide +kernel
theorem dX3_restBeside_24 : decode cX3_restBeside 24 = .ok (.isub, 1) := by decide +kernel
theorem dX3_restBeside_25 : decode cX3_restBeside 25 = .ok (.iaload, 1) := by decide +kernel
theorem dX3_restBeside_26 : decode cX3_restBeside 26 = .ok (.iload_n 1, 1) := by decide +kernel
theorem dX3_restBeside_27 : decode cX3_restBeside 27 = .ok (.aload_n 0, 1) := by decide +kernel
theorem dX3_restBeside_28 : decode cX3_restBeside 28 = .ok (.getfield 15, 3) := by decide +kernel
theorem dX3_restBeside_31 : decode cX3_restBeside 31 = .ok (.iload 4, 2) := by decide +kernel
theorem dX3_restBeside_33 : decode cX3_restBeside 33 = .ok (.iaload, 1) := by decide +kernel
theorem dX3_restBeside_34 : decode cX3_restBeside 34 = .ok (.invokevirtual 109, 3) := by decide +kernel
theorem dX3_restBeside_37 : decode cX3_restBeside 37 = .ok (.iload_n 3, 1) := by decide +kernel
theorem dX3_restBeside_38 : decode cX3_restBeside 38 = .ok (.iadd, 1) := by decide +kernel
theorem dX3_restBeside_39 : decode cX3_restBeside 39 = .ok (.istore 5, 2) := by decide +kernel
theorem dX3_restBeside_41 : decode cX3_restBeside 41 = .ok (.aload_n 0, 1) := by decide +kernel
theorem dX3_restBeside_42 : decode cX3_restBeside 42 = .ok (.iload_n 1, 1) := by decide +kernel
theorem dX3_restBeside_43 : decode cX3_restBeside 43 = .ok (.aload_n 0, 1) := by decide +kernel
theorem dX3_restBeside_44 : decode cX3_restBeside 44 = .ok (.getfield 15, 3) := by decide +kernel
theorem dX3_restBeside_47 : decode cX3_restBeside 47 = .ok (.iload 4, 2) := by decide +kernel
theorem dX3_restBeside_49 : decode cX3_restBeside 49 = .ok (.iconst 1, 1) := by decide +kernel
theorem dX3_restBeside_50 : decode cX3_restBeside 50 = .ok (.isub, 1) := by decide +kernel
theorem dX3_restBeside_51 : decode cX3_restBeside 51 = .ok (.iaload, 1) := by decide +kernel
theorem dX3_restBeside_52 : decode cX3_restBeside 52 = .ok (.aload_n 0, 1) := by decide +kernel
theorem dX3_restBeside_53 : decode cX3_restBeside 53 = .ok (.getfield 15, 3) := by decide +kernel
theorem dX3_restBeside_56 : decode cX3_restBeside 56 = .ok (.iload 4, 2) := by decide +kernel
theorem dX3_restBeside_58 : decode cX3_restBeside 58 = .ok (.iaload, 1) := by decide +kernel
theorem dX3_restBeside_59 : decode cX3_restBeside 59 = .ok (.invokevirtual 109, 3) := by decide +kernel
theorem dX3_restBeside_62 : decode cX3_restBeside 62 = .ok (.aload_n 0, 1) := by decide +kernel
theorem dX3_restBeside_63 : decode cX3_restBeside 63 = .ok (.iload 4, 2) := by decide +kernel
theorem dX3_restBeside_65 : decode cX3_restBeside 65 = .ok (.iconst 1, 1) := by decide +kernel
theorem dX3_restBeside_66 : decode cX3_restBeside 66 = .ok (.iadd, 1) := by decide +kernel
theorem dX3_restBeside_67 : decode cX3_restBeside 67 = .ok (.iload 4, 2) := by decide +kernel
theorem dX3_restBeside_69 : decode cX3_restBeside 69 = .ok (.invokevirtual 85, 3) := by decide +kernel
theorem dX3_restBeside_72 : decode cX3_restBeside 72 = .ok (.iadd, 1) := by decide +kernel
theorem dX3_restBeside_73 : decode cX3_restBeside 73 = .ok (.istore 6, 2) := by decide +kernel
theorem dX3_restBeside_75 : decode cX3_restBeside 75 = .ok (.ldc 48, 2) := by decide +kernel
theorem dX3_restBeside_77 : decode cX3_restBeside 77 = .ok (.iload 5, 2) := by decide +kernel
theorem dX3_restBeside_79 : decode cX3_restBeside 79 = .ok (.iload 6, 2) := by decide +kernel
theorem dX3_restBeside_81 : decode cX3_restBeside 81 = .ok (.invokestatic 103, 3) := by decide +kernel
theorem dX3_restBeside_84 : decode cX3_restBeside 84 = .ok (.invokestatic 103, 3) := by decide +kernel
theorem dX3_restBeside_87 : decode cX3_restBeside 87 = .ok (.istore_n 3, 1) := by decide +kernel
theorem dX3_restBeside_88 : decode cX3_restBeside 88 = .ok (.iinc 4 (-1), 3) := by decide +kernel
theorem dX3_restBeside_91 : decode cX3_restBeside 91 = .ok (.goto (-81), 3) := by decide +kernel
theorem dX3_restBeside_94 : decode cX3_restBeside 94 = .ok (.iload_n 3, 1) := by decide +kernel
theorem dX3_restBeside_95 : decode cX3_restBeside 95 = .ok (.ireturn, 1) := by decide +kernel
theorem dX3_restBehind_0 : decode cX3_restBehind 0 = .ok (.iload_n 3, 1) := by decide +kernel
theorem dX3_restBehind_1 : decode cX3_restBehind 1 = .ok (.aload_n 0, 1) := by decide +kernel
theorem dX3_restBehind_2 : decode cX3_restBehind 2 = .ok (.getfield 52, 3) := by decide +kernel
theorem dX3_restBehind_5 : decode cX3_restBehind 5 = .ok (.if_icmp .lt 5, 3) := by decide +kernel
theorem dX3_restBehind_8 : decode cX3_restBehind 8 = .ok (.iconst 0, 1) := by decide +kernel
theorem dX3_restBehind_9 : decode cX3_restBehind 9 = .ok (.ireturn, 1) := by decide +kernel
theorem dX3_restBehind_10 : decode cX3_restBehind 10 = .ok (.aload_n 0, 1) := by decide +kernel
theorem dX3_restBehind_11 : decode cX3_restBehind 11 = .ok (.getfield 15, 3) := by decide +kernel
theorem dX3_restBehind_14 : decode cX3_restBehind 14 = .ok (.iload_n 3, 1) := by decide +kernel
theorem dX3_restBehind_15 : decode cX3_restBehind 15 = .ok (.iaload, 1) := by decide +kernel
theorem dX3_restBehind_16 : decode cX3_restBehind 16 = .ok (.istore 5, 2) := by decide +kernel
theorem dX3_restBehind_18 : decode cX3_restBehind 18 = .ok (.aload_n 0, 1) := by decide +kernel
theorem dX3_restBehind_19 : decode cX3_restBehind 19 = .ok (.iload_n 2, 1) := by decide +kernel
theorem dX3_restBehind_20 : decode cX3_restBehind 20 = .ok (.invokevirtual 100, 3) := by decide +kernel
theorem dX3_restBehind_23 : decode cX3_restBehind 23 = .ok (.istore 6, 2) := by decide +kernel
theorem dX3_restBehind_25 : decode cX3_restBehind 25 = .ok (.aload_n 0, 1) := by decide +kernel
theorem dX3_restBehind_26 : decode cX3_restBehind 26 = .ok (.iload_n 1, 1) := by decide +kernel
theorem dX3_restBehind_27 : decode cX3_restBehind 27 = .ok (.iload 6, 2) := by decide +kernel
theorem dX3_restBehind_29 : decode cX3_restBehind 29 = .ok (.iload 5, 2) := by decide +kernel
theorem dX3_restBehind_31 : decode cX3_restBehind 31 = .ok (.invokevirtual 109, 3) := by decide +kernel
theorem dX3_restBehind_34 : decode cX3_restBehind 34 = .ok (.aload_n 0, 1) := by decide +kernel
theorem dX3_restBehind_35 : decode cX3_restBehind 35 = .ok (.iload_n 3, 1) := by decide +kernel
theorem dX3_restBehind_36 : decode cX3_restBehind 36 = .ok (.iconst 1, 1) := by decide +kernel
theorem dX3_restBehind_37 : decode cX3_restBehind 37 = .ok (.iadd, 1) := by decide +kernel
theorem dX3_restBehind_38 : decode cX3_restBehind 38 = .ok (.iload_n 2, 1) := by decide +kernel
theorem dX3_restBehind_39 : decode cX3_restBehind 39 = .ok (.invokevirtual 85, 3) := by decide +kernel
theorem dX3_restBehind_42 : decode cX3_restBehind 42 = .ok (.iadd, 1) := by decide +kernel
theorem dX3_restBehind_43 : decode cX3_restBehind 43 = .ok (.istore 7, 2) := by decide +kernel
theorem dX3_restBehind_45 : decode cX3_restBehind 45 = .ok (.iload 7, 2) := by decide +kernel
theorem dX3_restBehind_47 : decode cX3_restBehind 47 = .ok (.aload_n 0, 1) := by decide +kernel
theorem dX3_restBehind_48 : decode cX3_restBehind 48 = .ok (.iload 6, 2) := by decide +kernel
theorem dX3_restBehind_50 : decode cX3_restBehind 50 = .ok (.iload_n 1, 1) := by decide +kernel
theorem dX3_restBehind_51 : decode cX3_restBehind 51 = .ok (.iload 5, 2) := by decide +kernel
theorem dX3_restBehind_53 : decode cX3_restBehind 53 = .ok (.invokevirtual 109, 3) := by decide +kernel
theorem dX3_restBehind_56 : decode cX3_restBehind 56 = .ok (.iload 4, 2) := by decide +kernel
theorem dX3_restBehind_58 : decode cX3_restBehind 58 = .ok (.iadd, 1) := by decide +kernel
theorem dX3_restBehind_59 : decode cX3_restBehind 59 = .ok (.invokestatic 103, 3) := by decide +kernel
theorem dX3_restBehind_62 : decode cX3_restBehind 62 = .ok (.ireturn, 1) := by decide +kernel
theorem dX3_takesInserting_0 : decode cX3_takesInserting 0 = .ok (.aload_n 0, 1) := by decide +kernel
theorem dX3_takesInserting_1 : decode cX3_takesInserting 1 = .ok (.iload_n 2, 1) := by decide +kernel
theorem dX3_takesInserting_2 : decode cX3_takesInserting 2 = .ok (.invokevirtual 100, 3) := by decide +kernel
theorem dX3_takesInserting_5 : decode cX3_takesInserting 5 = .ok (.istore_n 3, 1) := by decide +kernel
theorem dX3_takesInserting_6 : decode cX3_takesInserting 6 = .ok (.aload_n 0, 1) := by decide +kernel
theorem dX3_takesInserting_7 : decode cX3_takesInserting 7 = .ok (.iload_n 1, 1) := by decide +kernel
theorem dX3_takesInserting_8 : decode cX3_takesInserting 8 = .ok (.iload_n 2, 1) := by decide +kernel
theorem dX3_takesInserting_9 : decode cX3_takesInserting 9 = .ok (.iconst 1, 1) := by decide +kernel
theorem dX3_takesInserting_10 : decode cX3_takesInserting 10 = .ok (.iadd, 1) := by decide +kernel
theorem dX3_takesInserting_11 : decode cX3_takesInserting 11 = .ok (.invokevirtual 113, 3) := by decide +kernel
theorem dX3_takesInserting_14 : decode cX3_takesInserting 14 = .ok (.istore 4, 2) := by decide +kernel
theorem dX3_takesInserting_16 : decode cX3_takesInserting 16 = .ok (.ldc 48, 2) := by decide +kernel
theorem dX3_takesInserting_18 : decode cX3_takesInserting 18 = .ok (.istore 5, 2) := by decide +kernel
theorem dX3_takesInserting_20 : decode cX3_takesInserting 20 = .ok (.ldc 48, 2) := by decide +kernel
theorem dX3_takesInserting_22 : decode cX3_takesInserting 22 = .ok (.istore 6, 2) := by decide +kernel
theorem dX3_takesInserting_24 : decode cX3_takesInserting 24 = .ok (.iconst 0, 1) := by decide +kernel
theorem dX3_takesInserting_25 : decode cX3_takesInserting 25 = .ok (.istore 7, 2) := by decide +kernel
theorem dX3_takesInserting_27 : decode cX3_takesInserting 27 = .ok (.iload 7, 2) := by decide +kernel
theorem dX3_takesInserting_29 : decode cX3_takesInserting 29 = .ok (.iload_n 2, 1) := by decide +kernel
theorem dX3_takesInserting_30 : decode cX3_takesInserting 30 = .ok (.invokestatic 106, 3) := by decide +kernel
theorem dX3_takesInserting_33 : decode cX3_takesInserting 33 = .ok (.if_icmp .ge 78, 3) := by decide +kernel
theorem dX3_takesInserting_36 : decode cX3_takesInserting 36 = .ok (.aload_n 0, 1) := by decide +kernel
theorem dX3_takesInserting_37 : decode cX3_takesInserting 37 = .ok (.iload 7, 2) := by decide +kernel
theorem dX3_takesInserting_39 : decode cX3_takesInserting 39 = .ok (.invokevirtual 100, 3) := by decide +kernel
theorem dX3_takesInserting_42 : decode cX3_takesInserting 42 = .ok (.istore 8, 2) := by decide +kernel
theorem dX3_takesInserting_44 : decode cX3_takesInserting 44 = .ok (.aload_n 0, 1) := by decide +kernel
theorem dX3_takesInserting_45 : decode cX3_takesInserting 45 = .ok (.getfield 21, 3) := by decide +kernel
theorem dX3_takesInserting_48 : decode cX3_takesInserting 48 = .ok (.iload 7, 2) := by decide +kernel
theorem dX3_takesInserting_50 : decode cX3_takesInserting 50 = .ok (.iaload, 1) := by decide +kernel
theorem dX3_takesInserting_51 : decode cX3_takesInserting 51 = .ok (.aload_n 0, 1) := by decide +kernel
theorem dX3_takesInserting_52 : decode cX3_takesInserting 52 = .ok (.iload_n 3, 1) := by decide +kernel
theorem dX3_takesInserting_53 : decode cX3_takesInserting 53 = .ok (.iload 8, 2) := by decide +kernel
theorem dX3_takesInserting_55 : decode cX3_takesInserting 55 = .ok (.iload_n 1, 1) := by decide +kernel
theorem dX3_takesInserting_56 : decode cX3_takesInserting 56 = .ok (.invokevirtual 109, 3) := by decide +kernel
theorem dX3_takesInserting_59 : decode cX3_takesInserting 59 = .ok (.iadd, 1) := by decide +kernel
theorem dX3_takesInserting_60 : decode cX3_takesInserting 60 = .ok (.istore 9, 2) := by decide +kernel
theorem dX3_takesInserting_62 : decode cX3_takesInserting 62 = .ok (.iload 5, 2) := by decide +kernel
theorem dX3_takesInserting_64 : decode cX3_takesInserting 64 = .ok (.iload 9, 2) := by decide +kernel
theorem dX3_takesInserting_66 : decode cX3_takesInserting 66 = .ok (.aload_n 0, 1) := by decide +kernel
theorem dX3_takesInserting_67 : decode cX3_takesInserting 67 = .ok (.iload_n 1, 1) := by decide +kernel
theorem dX3_takesInserting_68 : decode cX3_takesInserting 68 = .ok (.iload 7, 2) := by decide +kernel
theorem dX3_takesInserting_70 : decode cX3_takesInserting 70 = .ok (.iload_n 2, 1) := by decide +kernel
theorem dX3_takesInserting_71 : decode cX3_takesInserting 71 = .ok (.iload 4, 2) := by decide +kernel
theorem dX3_takesInserting_73 : decode cX3_takesInserting 73 = .ok (.invokevirtual 116, 3) := by decide +kernel
theorem dX3_takesInserting_76 : decode cX3_takesInserting 76 = .ok (.iadd, 1) := by decide +kernel
theorem dX3_takesInserting_77 : decode cX3_takesInserting 77 = .ok (.invokestatic 103, 3) := by decide +kernel
theorem dX3_takesInserting_80 : decode cX3_takesInserting 80 = .ok (.istore 5, 2) := by decide +kernel
theorem dX3_takesInserting_82 : decode cX3_takesInserting 82 = .ok (.iload 6, 2) := by decide +kernel
theorem dX3_takesInserting_84 : decode cX3_takesInserting 84 = .ok (.aload_n 0, 1) := by decide +kernel
theorem dX3_takesInserting_85 : decode cX3_takesInserting 85 = .ok (.getfield 21, 3) := by decide +kernel
theorem dX3_takesInserting_88 : decode cX3_takesInserting 88 = .ok (.iload 7, 2) := by decide +kernel
theorem dX3_takesInserting_90 : decode cX3_takesInserting 90 = .ok (.iaload, 1) := by decide +kernel
theorem dX3_takesInserting_91 : decode cX3_takesInserting 91 = .ok (.aload_n 0, 1) := by decide +kernel
theorem dX3_takesInserting_92 : decode cX3_takesInserting 92 = .ok (.iload 8, 2) := by decide +kernel
theorem dX3_takesInserting_94 : decode cX3_takesInserting 94 = .ok (.iload_n 3, 1) := by decide +kernel
theorem dX3_takesInserting_95 : decode cX3_takesInserting 95 = .ok (.iload_n 1, 1) := by decide +kernel
theorem dX3_takesInserting_96 : decode cX3_takesInserting 96 = .ok (.invokevirtual 109, 3) := by decide +kernel
theorem dX3_takesInserting_99 : decode cX3_takesInserting 99 = .ok (.iadd, 1) := by decide +kernel
theorem dX3_takesInserting_100 : decode cX3_takesInserting 100 = .ok (.invokestatic 103, 3) := by decide +kernel
theorem dX3_takesInserting_103 : decode cX3_takesInserting 103 = .ok (.istore 6, 2) := by decide +kernel
theorem dX3_takesInserting_105 : decode cX3_takesInserting 105 = .ok (.iinc 7 1, 3) := by decide +kernel
theorem dX3_takesInserting_108 : decode cX3_takesInserting 108 = .ok (.goto (-81), 3) := by decide +kernel
theorem dX3_takesInserting_111 : decode cX3_takesInserting 111 = .ok (.iload 5, 2) := by decide +kernel
theorem dX3_takesInserting_113 : decode cX3_takesInserting 113 = .ok (.iload 6, 2) := by decide +kernel
theorem dX3_takesInserting_115 : decode cX3_takesInserting 115 = .ok (.aload_n 0, 1) := by decide +kernel
theorem dX3_takesInserting_116 : decode cX3_takesInserting 116 = .ok (.iload_n 1, 1) := by decide +kernel
theorem dX3_takesInserting_117 : decode cX3_takesInserting 117 = .ok (.iload_n 2, 1) := by decide +kernel
theorem dX3_takesInserting_118 : decode cX3_takesInserting 118 = .ok (.iload_n 2, 1) := by decide +kernel
theorem dX3_takesInserting_119 : decode cX3_takesInserting 119 = .ok (.iload 4, 2) := by decide +kernel
theorem dX3_takesInserting_121 : decode cX3_takesInserting 121 = .ok (.invokevirtual 116, 3) := by decide +kernel
theorem dX3_takesInserting_124 : decode cX3_takesInserting 124 = .ok (.iadd, 1) := by decide +kernel
theorem dX3_takesInserting_125 : decode cX3_takesInserting 125 = .ok (.invokestatic 103, 3) := by decide +kernel
theorem dX3_takesInserting_128 : decode cX3_takesInserting 128 = .ok (.ireturn, 1) := by decide +kernel
theorem dX3_takesOf_0 : decode cX3_takesOf 0 = .ok (.aload_n 0, 1) := by decide +kernel
theorem dX3_takesOf_1 : decode cX3_takesOf 1 = .ok (.lload_n 1, 1) := by decide +kernel
theorem dX3_takesOf_2 : decode cX3_takesOf 2 = .ok (.invokevirtual 36, 3) := by decide +kernel
theorem dX3_takesOf_5 : decode cX3_takesOf 5 = .ok (.aload_n 0, 1) := by decide +kernel
theorem dX3_takesOf_6 : decode cX3_takesOf 6 = .ok (.invokevirtual 40, 3) := by decide +kernel
theorem dX3_takesOf_9 : decode cX3_takesOf 9 = .ok (.ireturn, 1) := by decide +kernel
theorem dX3_choose_0 : decode cX3_choose 0 = .ok (.aload_n 0, 1) := by decide +kernel
theorem dX3_choose_1 : decode cX3_choose 1 = .ok (.lload_n 1, 1) := by decide +kernel
theorem dX3_choose_2 : decode cX3_choose 2 = .ok (.invokevirtual 44, 3) := by decide +kernel
theorem dX3_choose_5 : decode cX3_choose 5 = .ok (.istore_n 3, 1) := by decide +kernel
theorem dX3_choose_6 : decode cX3_choose 6 = .ok (.iload_n 3, 1) := by decide +kernel
theorem dX3_choose_7 : decode cX3_choose 7 = .ok (.ldc 48, 2) := by decide +kernel
theorem dX3_choose_9 : decode cX3_choose 9 = .ok (.if_icmp .ge 7, 3) := by decide +kernel
theorem dX3_choose_12 : decode cX3_choose 12 = .ok (.aload_n 0, 1) := by decide +kernel
theorem dX3_choose_13 : decode cX3_choose 13 = .ok (.invokevirtual 49, 3) := by decide +kernel
theorem dX3_choose_16 : decode cX3_choose 16 = .ok (.iload_n 3, 1) := by decide +kernel
theorem dX3_choose_17 : decode cX3_choose 17 = .ok (.ireturn, 1) := by decide +kernel
theorem dX3_weighWithout_0 : decode cX3_weighWithout 0 = .ok (.aload_n 0, 1) := by decide +kernel
theorem dX3_weighWithout_1 : decode cX3_weighWithout 1 = .ok (.lload_n 1, 1) := by decide +kernel
theorem dX3_weighWithout_2 : decode cX3_weighWithout 2 = .ok (.invokevirtual 44, 3) := by decide +kernel
theorem dX3_weighWithout_5 : decode cX3_weighWithout 5 = .ok (.pop, 1) := by decide +kernel
theorem dX3_weighWithout_6 : decode cX3_weighWithout 6 = .ok (.aload_n 0, 1) := by decide +kernel
theorem dX3_weighWithout_7 : decode cX3_weighWithout 7 = .ok (.getfield 21, 3) := by decide +kernel
theorem dX3_weighWithout_10 : decode cX3_weighWithout 10 = .ok (.iconst 0, 1) := by decide +kernel
theorem dX3_weighWithout_11 : decode cX3_weighWithout 11 = .ok (.iconst 0, 1) := by decide +kernel
theorem dX3_weighWithout_12 : decode cX3_weighWithout 12 = .ok (.iastore, 1) := by decide +kernel
theorem dX3_weighWithout_13 : decode cX3_weighWithout 13 = .ok (.iconst 0, 1) := by decide +kernel
theorem dX3_weighWithout_14 : decode cX3_weighWithout 14 = .ok (.istore 4, 2) := by decide +kernel
theorem dX3_weighWithout_16 : decode cX3_weighWithout 16 = .ok (.iload 4, 2) := by decide +kernel
theorem dX3_weighWithout_18 : decode cX3_weighWithout 18 = .ok (.aload_n 0, 1) := by decide +kernel
theorem dX3_weighWithout_19 : decode cX3_weighWithout 19 = .ok (.getfield 52, 3) := by decide +kernel
theorem dX3_weighWithout_22 : decode cX3_weighWithout 22 = .ok (.if_icmp .ge 30, 3) := by decide +kernel
theorem dX3_weighWithout_25 : decode cX3_weighWithout 25 = .ok (.aload_n 3, 1) := by decide +kernel
theorem dX3_weighWithout_26 : decode cX3_weighWithout 26 = .ok (.aload_n 0, 1) := by decide +kernel
theorem dX3_weighWithout_27 : decode cX3_weighWithout 27 = .ok (.getfield 15, 3) := by decide +kernel
theorem dX3_weighWithout_30 : decode cX3_weighWithout 30 = .ok (.iload 4, 2) := by decide +kernel
theorem dX3_weighWithout_32 : decode cX3_weighWithout 32 = .ok (.iaload, 1) := by decide +kernel
theorem dX3_weighWithout_33 : decode cX3_weighWithout 33 = .ok (.aload_n 0, 1) := by decide +kernel
theorem dX3_weighWithout_34 : decode cX3_weighWithout 34 = .ok (.iload 4, 2) := by decide +kernel
theorem dX3_weighWithout_36 : decode cX3_weighWithout 36 = .ok (.invokevirtual 56, 3) := by decide +kernel
theorem dX3_weighWithout_39 : decode cX3_weighWithout 39 = .ok (.iastore, 1) := by decide +kernel
theorem dX3_weighWithout_40 : decode cX3_weighWithout 40 = .ok (.aload_n 0, 1) := by decide +kernel
theorem dX3_weighWithout_41 : decode cX3_weighWithout 41 = .ok (.iload 4, 2) := by decide +kernel
theorem dX3_weighWithout_43 : decode cX3_weighWithout 43 = .ok (.invokevirtual 60, 3) := by decide +kernel
theorem dX3_weighWithout_46 : decode cX3_weighWithout 46 = .ok (.iinc 4 1, 3) := by decide +kernel
theorem dX3_weighWithout_49 : decode cX3_weighWithout 49 = .ok (.goto (-33), 3) := by decide +kernel
theorem dX3_weighWithout_52 : decode cX3_weighWithout 52 = .ok (.return_, 1) := by decide +kernel
theorem dX3_weighWith_0 : decode cX3_weighWith 0 = .ok (.aload_n 0, 1) := by decide +kernel
theorem dX3_weighWith_1 : decode cX3_weighWith 1 = .ok (.lload_n 1, 1) := by decide +kernel
theorem dX3_weighWith_2 : decode cX3_weighWith 2 = .ok (.invokevirtual 44, 3) := by decide +kernel
theorem dX3_weighWith_5 : decode cX3_weighWith 5 = .ok (.pop, 1) := by decide +kernel
theorem dX3_weighWith_6 : decode cX3_weighWith 6 = .ok (.aload_n 0, 1) := by decide +kernel
theorem dX3_weighWith_7 : decode cX3_weighWith 7 = .ok (.getfield 21, 3) := by decide +kernel
theorem dX3_weighWith_10 : decode cX3_weighWith 10 = .ok (.iconst 0, 1) := by decide +kernel
theorem dX3_weighWith_11 : decode cX3_weighWith 11 = .ok (.iconst 0, 1) := by decide +kernel
theorem dX3_weighWith_12 : decode cX3_weighWith 12 = .ok (.iastore, 1) := by decide +kernel
theorem dX3_weighWith_13 : decode cX3_weighWith 13 = .ok (.iconst 0, 1) := by decide +kernel
theorem dX3_weighWith_14 : decode cX3_weighWith 14 = .ok (.istore 6, 2) := by decide +kernel
theorem dX3_weighWith_16 : decode cX3_weighWith 16 = .ok (.iconst 0, 1) := by decide +kernel
theorem dX3_weighWith_17 : decode cX3_weighWith 17 = .ok (.istore 7, 2) := by decide +kernel
theorem dX3_weighWith_19 : decode cX3_weighWith 19 = .ok (.iload 7, 2) := by decide +kernel
theorem dX3_weighWith_21 : decode cX3_weighWith 21 = .ok (.aload_n 0, 1) := by decide +kernel
theorem dX3_weighWith_22 : decode cX3_weighWith 22 = .ok (.getfield 24, 3) := by decide +kernel
theorem dX3_weighWith_25 : decode cX3_weighWith 25 = .ok (.getfield 64, 3) := by decide +kernel
theorem dX3_weighWith_28 : decode cX3_weighWith 28 = .ok (.if_icmp .ge 68, 3) := by decide +kernel
theorem dX3_weighWith_31 : decode cX3_weighWith 31 = .ok (.iload 6, 2) := by decide +kernel
theorem dX3_weighWith_33 : decode cX3_weighWith 33 = .ok (.aload_n 0, 1) := by decide +kernel
theorem dX3_weighWith_34 : decode cX3_weighWith 34 = .ok (.getfield 52, 3) := by decide +kernel
theorem dX3_weighWith_37 : decode cX3_weighWith 37 = .ok (.if_icmp .ge 27, 3) := by decide +kernel
theorem dX3_weighWith_40 : decode cX3_weighWith 40 = .ok (.aload_n 0, 1) := by decide +kernel
theorem dX3_weighWith_41 : decode cX3_weighWith 41 = .ok (.getfield 15, 3) := by decide +kernel
theorem dX3_weighWith_44 : decode cX3_weighWith 44 = .ok (.iload 6, 2) := by decide +kernel
theorem dX3_weighWith_46 : decode cX3_weighWith 46 = .ok (.iaload, 1) := by decide +kernel
theorem dX3_weighWith_47 : decode cX3_weighWith 47 = .ok (.iload 7, 2) := by decide +kernel
theorem dX3_weighWith_49 : decode cX3_weighWith 49 = .ok (.if_icmp .ne 15, 3) := by decide +kernel
theorem dX3_weighWith_52 : decode cX3_weighWith 52 = .ok (.aload_n 0, 1) := by decide +kernel
theorem dX3_weighWith_53 : decode cX3_weighWith 53 = .ok (.iload 6, 2) := by decide +kernel
theorem dX3_weighWith_55 : decode cX3_weighWith 55 = .ok (.invokevirtual 60, 3) := by decide +kernel
theorem dX3_weighWith_58 : decode cX3_weighWith 58 = .ok (.iinc 6 1, 3) := by decide +kernel
theorem dX3_weighWith_61 : decode cX3_weighWith 61 = .ok (.goto 29, 3) := by decide +kernel
theorem dX3_weighWith_64 : decode cX3_weighWith 64 = .ok (.aload_n 0, 1) := by decide +kernel
theorem dX3_weighWith_65 : decode cX3_weighWith 65 = .ok (.getfield 24, 3) := by decide +kernel
theorem dX3_weighWith_68 : decode cX3_weighWith 68 = .ok (.lload_n 3, 1) := by decide +kernel
theorem dX3_weighWith_69 : decode cX3_weighWith 69 = .ok (.iload 7, 2) := by decide +kernel
theorem dX3_weighWith_71 : decode cX3_weighWith 71 = .ok (.invokevirtual 67, 3) := by decide +kernel
theorem dX3_weighWith_74 : decode cX3_weighWith 74 = .ok (.ifCond .eq 16, 3) := by decide +kernel
theorem dX3_weighWith_77 : decode cX3_weighWith 77 = .ok (.aload 5, 2) := by decide +kernel
theorem dX3_weighWith_79 : decode cX3_weighWith 79 = .ok (.iload 7, 2) := by decide +kernel
theorem dX3_weighWith_81 : decode cX3_weighWith 81 = .ok (.aload_n 0, 1) := by decide +kernel
theorem dX3_weighWith_82 : decode cX3_weighWith 82 = .ok (.iload 7, 2) := by decide +kernel
theorem dX3_weighWith_84 : decode cX3_weighWith 84 = .ok (.iload 6, 2) := by decide +kernel
theorem dX3_weighWith_86 : decode cX3_weighWith 86 = .ok (.invokevirtual 71, 3) := by decide +kernel
theorem dX3_weighWith_89 : decode cX3_weighWith 89 = .ok (.iastore, 1) := by decide +kernel
theorem dX3_weighWith_90 : decode cX3_weighWith 90 = .ok (.iinc 7 1, 3) := by decide +kernel
theorem dX3_weighWith_93 : decode cX3_weighWith 93 = .ok (.goto (-74), 3) := by decide +kernel
theorem dX3_weighWith_96 : decode cX3_weighWith 96 = .ok (.return_, 1) := by decide +kernel
abbrev mX3_forget : MI := (yX3_forget, cX3_forget, 1, none, 1, 21, [])
abbrev mX3_place : MI := (yX3_place, cX3_place, 2, some .int, 1, 21, [])
abbrev mX3_others : MI := (yX3_others, cX3_others, 1, some .int, 1, 21, [])
abbrev mX3_did : MI := (yX3_did, cX3_did, 2, some .int, 1, 21, [])
abbrev mX3_restOf : MI := (yX3_restOf, cX3_restOf, 3, some .int, 2, 42, [])
abbrev mX3_holds : MI := (yX3_holds, cX3_holds, 3, some .boolean, 1, 21, [])
abbrev mX3_move : MI := (yX3_move, cX3_move, 7, some .int, 1, 21, [])
abbrev mX3_step : MI := (yX3_step, cX3_step, 4, some .int, 2, 47, [])
abbrev mX3_gather : MI := (yX3_gather, cX3_gather, 4, none, 2, 44, [])
abbrev mX3_stepBack : MI := (yX3_stepBack, cX3_stepBack, 14, some .boolean, 2, 47, [])
abbrev mX3_weighRest : MI := (yX3_weighRest, cX3_weighRest, 2, some .int, 3, 80, [])
abbrev mX3_swapsFor : MI := (yX3_swapsFor, cX3_swapsFor, 8, some .boolean, 3, 70, [])
abbrev mX3_keepHands : MI := (yX3_keepHands, cX3_keepHands, 4, none, 4, 97, [])
abbrev mX3_stepForth : MI := (yX3_stepForth, cX3_stepForth, 7, none, 3, 70, [])
abbrev mX3_takesSkipping : MI := (yX3_takesSkipping, cX3_takesSkipping, 10, some .int, 3, 70, [])
abbrev mX3_restBeside : MI := (yX3_restBeside, cX3_restBeside, 7, some .int, 3, 70, [])
abbrev mX3_restBehind : MI := (yX3_restBehind, cX3_restBehind, 8, some .int, 3, 70, [])
abbrev mX3_takesInserting : MI := (yX3_takesInserting, cX3_takesInserting, 10, some .int, 4, 97, [])
abbrev mX3_takesOf : MI := (yX3_takesOf, cX3_takesOf, 3, some .int, 4, 101, [])
abbrev mX3_choose : MI := (yX3_choose, cX3_choose, 4, some .int, 5, 123, [])
abbrev mX3_weighWithout : MI := (yX3_weighWithout, cX3_weighWithout, 5, none, 5, 123, [])
abbrev mX3_weighWith : MI := (yX3_weighWith, cX3_weighWith, 8, none, 5, 126, [])
theorem co_X3_48 : Cond.constant RX3 48 16777216 ∈ lw_w := lw_in (i := 752) (by decide +kernel) (by decide +kernel)
theorem fk_X3_9 : Fk RX3 9 3 2 := ⟨RX3, TX3, 9, tyX3, rfl, inX3, by decide, lw_in (i := 183) (by decide +kernel) (by decide +kernel), tyX3_ok, nmX3⟩
theorem fk_X3_15 : Fk RX3 15 3 4 := ⟨RX3, TX3, 9, tyX3, rfl, inX3, by decide, lw_in (i := 187) (by decide +kernel) (by decide +kernel), tyX3_ok, nmX3⟩
theorem fk_X3_18 : Fk RX3 18 3 6 := ⟨RX3, TX3, 9, tyX3, rfl, inX3, by decide, lw_in (i := 189) (by decide +kernel) (by decide +kernel), tyX3_ok, nmX3⟩
theorem fk_X3_21 : Fk RX3 21 3 8 := ⟨RX3, TX3, 9, tyX3, rfl, inX3, by decide, lw_in (i := 191) (by decide +kernel) (by decide +kernel), tyX3_ok, nmX3⟩
theorem fk_X3_24 : Fk RX3 24 3 0 := ⟨RX3, TX3, 9, tyX3, rfl, inX3, by decide, lw_in (i := 181) (by decide +kernel) (by decide +kernel), tyX3_ok, nmX3⟩
theorem fk_X3_28 : Fk RX3 28 3 1 := ⟨RX3, TX3, 9, tyX3, rfl, inX3, by decide, lw_in (i := 182) (by decide +kernel) (by decide +kernel), tyX3_ok, nmX3⟩
theorem fk_X3_32 : Fk RX3 32 3 3 := ⟨RX3, TX3, 9, tyX3, rfl, inX3, by decide, lw_in (i := 185) (by decide +kernel) (by decide +kernel), tyX3_ok, nmX3⟩
theorem fk_X3_52 : Fk RX3 52 3 5 := ⟨RX3, TX3, 9, tyX3, rfl, inX3, by decide, lw_in (i := 188) (by decide +kernel) (by decide +kernel), tyX3_ok, nmX3⟩
theorem fk_X3_64 : Fk RX3 64 9 4 := ⟨RX9, TX9, 5, tyX9, rfl, inX9, by decide, lw_in (i := 112) (by decide +kernel) (by decide +kernel), tyX9_ok, nmX9⟩
theorem fk_X3_75 : Fk RX3 75 3 7 := ⟨RX3, TX3, 9, tyX3, rfl, inX3, by decide, lw_in (i := 190) (by decide +kernel) (by decide +kernel), tyX3_ok, nmX3⟩
theorem fk_X3_120 : Fk RX3 120 9 3 := ⟨RX9, TX9, 5, tyX9, rfl, inX9, by decide, lw_in (i := 104) (by decide +kernel) (by decide +kernel), tyX9_ok, nmX9⟩
theorem fk_X3_123 : Fk RX3 123 9 0 := ⟨RX9, TX9, 5, tyX9, rfl, inX9, by decide, lw_in (i := 88) (by decide +kernel) (by decide +kernel), tyX9_ok, nmX9⟩
theorem fk_X3_126 : Fk RX3 126 9 1 := ⟨RX9, TX9, 5, tyX9, rfl, inX9, by decide, lw_in (i := 95) (by decide +kernel) (by decide +kernel), tyX9_ok, nmX9⟩
theorem fk_X3_129 : Fk RX3 129 9 2 := ⟨RX9, TX9, 5, tyX9, rfl, inX9, by decide, lw_in (i := 100) (by decide +kernel) (by decide +kernel), tyX9_ok, nmX9⟩
theorem fk_X3_132 : Fk RX3 132 6 0 := ⟨RX6, TX6, 5, tyX6, rfl, inX6, by decide, lw_in (i := 159) (by decide +kernel) (by decide +kernel), tyX6_ok, nmX6⟩
theorem fp_X3_3 : Fp 3 3 .boolean := ⟨RX3, TX3, 9, rfl, rfl, by decide +kernel⟩
theorem fp_X3_5 : Fp 3 5 .int := ⟨RX3, TX3, 9, rfl, rfl, by decide +kernel⟩
theorem fp_X3_7 : Fp 3 7 .int := ⟨RX3, TX3, 9, rfl, rfl, by decide +kernel⟩
theorem ms_X3_others : Cond.static mX3_others.y ∈ lw_w := lw_in (i := 880) (by decide +kernel) (by decide +kernel)
theorem ms_X3_place : Cond.static mX3_place.y ∈ lw_w := lw_in (i := 742) (by decide +kernel) (by decide +kernel)
theorem mv_X3_did : MkV mX3_did := ⟨lw_in (i := 759) (by decide +kernel) (by decide +kernel), lw_se (i := 18) (by decide +kernel) (by decide +kernel)⟩
theorem mv_X3_gather : MkV mX3_gather := ⟨lw_in (i := 731) (by decide +kernel) (by decide +kernel), lw_se (i := 13) (by decide +kernel) (by decide +kernel)⟩
theorem mv_X3_holds : MkV mX3_holds := ⟨lw_in (i := 755) (by decide +kernel) (by decide +kernel), lw_se (i := 17) (by decide +kernel) (by decide +kernel)⟩
theorem mv_X3_keepHands : MkV mX3_keepHands := ⟨lw_in (i := 768) (by decide +kernel) (by decide +kernel), lw_se (i := 20) (by decide +kernel) (by decide +kernel)⟩
theorem mv_X3_move : MkV mX3_move := ⟨lw_in (i := 750) (by decide +kernel) (by decide +kernel), lw_se (i := 16) (by decide +kernel) (by decide +kernel)⟩
theorem mv_X3_restBehind : MkV mX3_restBehind := ⟨lw_in (i := 903) (by decide +kernel) (by decide +kernel), lw_se (i := 35) (by decide +kernel) (by decide +kernel)⟩
theorem mv_X3_restBeside : MkV mX3_restBeside := ⟨lw_in (i := 899) (by decide +kernel) (by decide +kernel), lw_se (i := 34) (by decide +kernel) (by decide +kernel)⟩
theorem mv_X3_restOf : MkV mX3_restOf := ⟨lw_in (i := 764) (by decide +kernel) (by decide +kernel), lw_se (i := 19) (by decide +kernel) (by decide +kernel)⟩
theorem mv_X3_step : MkV mX3_step := ⟨lw_in (i := 776) (by decide +kernel) (by decide +kernel), lw_se (i := 22) (by decide +kernel) (by decide +kernel)⟩
theorem mv_X3_stepBack : MkV mX3_stepBack := ⟨lw_in (i := 746) (by decide +kernel) (by decide +kernel), lw_se (i := 15) (by decide +kernel) (by decide +kernel)⟩
theorem mv_X3_stepForth : MkV mX3_stepForth := ⟨lw_in (i := 887) (by decide +kernel) (by decide +kernel), lw_se (i := 32) (by decide +kernel) (by decide +kernel)⟩
theorem mv_X3_swapsFor : MkV mX3_swapsFor := ⟨lw_in (i := 772) (by decide +kernel) (by decide +kernel), lw_se (i := 21) (by decide +kernel) (by decide +kernel)⟩
theorem mv_X3_takesInserting : MkV mX3_takesInserting := ⟨lw_in (i := 895) (by decide +kernel) (by decide +kernel), lw_se (i := 33) (by decide +kernel) (by decide +kernel)⟩
theorem mv_X3_takesOf : MkV mX3_takesOf := ⟨lw_in (i := 726) (by decide +kernel) (by decide +kernel), lw_in (i := 727) (by decide +kernel) (by decide +kernel)⟩
theorem mv_X3_takesSkipping : MkV mX3_takesSkipping := ⟨lw_in (i := 877) (by decide +kernel) (by decide +kernel), lw_se (i := 31) (by decide +kernel) (by decide +kernel)⟩
theorem mv_X3_weighRest : MkV mX3_weighRest := ⟨lw_in (i := 739) (by decide +kernel) (by decide +kernel), lw_se (i := 14) (by decide +kernel) (by decide +kernel)⟩
theorem mv_X9_isOn : MkV mX9_isOn := ⟨lw_in (i := 734) (by decide +kernel) (by decide +kernel), lw_in (i := 735) (by decide +kernel) (by decide +kernel)⟩
theorem mk_X3_36 : Mk RX3 36 mX3_gather 1 := ⟨lw_in (i := 729) (by decide +kernel) (by decide +kernel), lw_in (i := 7) (by decide +kernel) (by decide +kernel), lw_in (i := 732) (by decide +kernel) (by decide +kernel), by decide +kernel⟩
theorem mk_X3_40 : Mk RX3 40 mX3_weighRest 0 := ⟨lw_in (i := 737) (by decide +kernel) (by decide +kernel), lw_in (i := 7) (by decide +kernel) (by decide +kernel), lw_in (i := 740) (by decide +kernel) (by decide +kernel), by decide +kernel⟩
theorem mk_X3_44 : Mk RX3 44 mX3_takesOf 1 := ⟨lw_in (i := 725) (by decide +kernel) (by decide +kernel), lw_in (i := 7) (by decide +kernel) (by decide +kernel), lw_in (i := 728) (by decide +kernel) (by decide +kernel), by decide +kernel⟩
theorem mk_X3_49 : Mk RX3 49 mX3_keepHands 0 := ⟨lw_in (i := 766) (by decide +kernel) (by decide +kernel), lw_in (i := 7) (by decide +kernel) (by decide +kernel), lw_in (i := 769) (by decide +kernel) (by decide +kernel), by decide +kernel⟩
theorem mk_X3_56 : Mk RX3 56 mX3_takesSkipping 1 := ⟨lw_in (i := 875) (by decide +kernel) (by decide +kernel), lw_in (i := 7) (by decide +kernel) (by decide +kernel), lw_in (i := 878) (by decide +kernel) (by decide +kernel), by decide +kernel⟩
theorem mk_X3_60 : Mk RX3 60 mX3_stepForth 1 := ⟨lw_in (i := 885) (by decide +kernel) (by decide +kernel), lw_in (i := 7) (by decide +kernel) (by decide +kernel), lw_in (i := 888) (by decide +kernel) (by decide +kernel), by decide +kernel⟩
theorem mk_X3_67 : Mk RX3 67 mX9_isOn 2 := ⟨lw_in (i := 733) (by decide +kernel) (by decide +kernel), lw_in (i := 4) (by decide +kernel) (by decide +kernel), lw_in (i := 736) (by decide +kernel) (by decide +kernel), by decide +kernel⟩
theorem mk_X3_71 : Mk RX3 71 mX3_takesInserting 2 := ⟨lw_in (i := 893) (by decide +kernel) (by decide +kernel), lw_in (i := 7) (by decide +kernel) (by decide +kernel), lw_in (i := 896) (by decide +kernel) (by decide +kernel), by decide +kernel⟩
theorem mk_X3_78 : Mk RX3 78 mX3_place 2 := ⟨lw_in (i := 741) (by decide +kernel) (by decide +kernel), lw_in (i := 7) (by decide +kernel) (by decide +kernel), lw_in (i := 743) (by decide +kernel) (by decide +kernel), by decide +kernel⟩
theorem mk_X3_81 : Mk RX3 81 mX3_stepBack 1 := ⟨lw_in (i := 744) (by decide +kernel) (by decide +kernel), lw_in (i := 7) (by decide +kernel) (by decide +kernel), lw_in (i := 747) (by decide +kernel) (by decide +kernel), by decide +kernel⟩
theorem mk_X3_85 : Mk RX3 85 mX3_restOf 2 := ⟨lw_in (i := 762) (by decide +kernel) (by decide +kernel), lw_in (i := 7) (by decide +kernel) (by decide +kernel), lw_in (i := 765) (by decide +kernel) (by decide +kernel), by decide +kernel⟩
theorem mk_X3_88 : Cond.methodLink RX3 88 Lib.Math.max.name ∈ lw_w := lw_in (i := 882) (by decide +kernel) (by decide +kernel)
theorem mk_X3_93 : Mk RX3 93 mX3_move 2 := ⟨lw_in (i := 748) (by decide +kernel) (by decide +kernel), lw_in (i := 7) (by decide +kernel) (by decide +kernel), lw_in (i := 751) (by decide +kernel) (by decide +kernel), by decide +kernel⟩
theorem mk_X3_96 : Mk RX3 96 mX3_holds 2 := ⟨lw_in (i := 753) (by decide +kernel) (by decide +kernel), lw_in (i := 7) (by decide +kernel) (by decide +kernel), lw_in (i := 756) (by decide +kernel) (by decide +kernel), by decide +kernel⟩
theorem mk_X3_100 : Mk RX3 100 mX3_did 1 := ⟨lw_in (i := 757) (by decide +kernel) (by decide +kernel), lw_in (i := 7) (by decide +kernel) (by decide +kernel), lw_in (i := 760) (by decide +kernel) (by decide +kernel), by decide +kernel⟩
theorem mk_X3_103 : Cond.methodLink RX3 103 Lib.Math.min.name ∈ lw_w := lw_in (i := 761) (by decide +kernel) (by decide +kernel)
theorem mk_X3_106 : Mk RX3 106 mX3_others 1 := ⟨lw_in (i := 879) (by decide +kernel) (by decide +kernel), lw_in (i := 7) (by decide +kernel) (by decide +kernel), lw_in (i := 881) (by decide +kernel) (by decide +kernel), by decide +kernel⟩
theorem mk_X3_109 : Mk RX3 109 mX3_step 3 := ⟨lw_in (i := 774) (by decide +kernel) (by decide +kernel), lw_in (i := 7) (by decide +kernel) (by decide +kernel), lw_in (i := 777) (by decide +kernel) (by decide +kernel), by decide +kernel⟩
theorem mk_X3_113 : Mk RX3 113 mX3_restBeside 2 := ⟨lw_in (i := 897) (by decide +kernel) (by decide +kernel), lw_in (i := 7) (by decide +kernel) (by decide +kernel), lw_in (i := 900) (by decide +kernel) (by decide +kernel), by decide +kernel⟩
theorem mk_X3_116 : Mk RX3 116 mX3_restBehind 4 := ⟨lw_in (i := 901) (by decide +kernel) (by decide +kernel), lw_in (i := 7) (by decide +kernel) (by decide +kernel), lw_in (i := 904) (by decide +kernel) (by decide +kernel), by decide +kernel⟩
theorem mk_X3_137 : Mk RX3 137 mX3_swapsFor 3 := ⟨lw_in (i := 770) (by decide +kernel) (by decide +kernel), lw_in (i := 7) (by decide +kernel) (by decide +kernel), lw_in (i := 773) (by decide +kernel) (by decide +kernel), by decide +kernel⟩
theorem rm_X3_choose_X3_keepHands : Rm mX3_choose mX3_keepHands := ⟨by decide, by decide⟩
theorem rm_X3_choose_X3_takesOf : Rm mX3_choose mX3_takesOf := ⟨by decide, by decide⟩
theorem rm_X3_gather_X9_isOn : Rm mX3_gather mX9_isOn := ⟨by decide, by decide⟩
theorem rm_X3_keepHands_X3_swapsFor : Rm mX3_keepHands mX3_swapsFor := ⟨by decide, by decide⟩
theorem rm_X3_restBehind_X3_did : Rm mX3_restBehind mX3_did := ⟨by decide, by decide⟩
theorem rm_X3_restBehind_X3_restOf : Rm mX3_restBehind mX3_restOf := ⟨by decide, by decide⟩
theorem rm_X3_restBehind_X3_step : Rm mX3_restBehind mX3_step := ⟨by decide, by decide⟩
theorem rm_X3_restBeside_X3_restOf : Rm mX3_restBeside mX3_restOf := ⟨by decide, by decide⟩
theorem rm_X3_restBeside_X3_step : Rm mX3_restBeside mX3_step := ⟨by decide, by decide⟩
theorem rm_X3_restOf_X3_place : Rm mX3_restOf mX3_place := ⟨by decide, by decide⟩
theorem rm_X3_step_X3_holds : Rm mX3_step mX3_holds := ⟨by decide, by decide⟩
theorem rm_X3_step_X3_move : Rm mX3_step mX3_move := ⟨by decide, by decide⟩
theorem rm_X3_stepBack_X3_did : Rm mX3_stepBack mX3_did := ⟨by decide, by decide⟩
theorem rm_X3_stepBack_X3_holds : Rm mX3_stepBack mX3_holds := ⟨by decide, by decide⟩
theorem rm_X3_stepBack_X3_move : Rm mX3_stepBack mX3_move := ⟨by decide, by decide⟩
theorem rm_X3_stepBack_X3_place : Rm mX3_stepBack mX3_place := ⟨by decide, by decide⟩
theorem rm_X3_stepForth_X3_did : Rm mX3_stepForth mX3_did := ⟨by decide, by decide⟩
theorem rm_X3_stepForth_X3_others : Rm mX3_stepForth mX3_others := ⟨by decide, by decide⟩
theorem rm_X3_stepForth_X3_step : Rm mX3_stepForth mX3_step := ⟨by decide, by decide⟩
theorem rm_X3_swapsFor_X3_did : Rm mX3_swapsFor mX3_did := ⟨by decide, by decide⟩
theorem rm_X3_swapsFor_X3_restOf : Rm mX3_swapsFor mX3_restOf := ⟨by decide, by decide⟩
theorem rm_X3_swapsFor_X3_step : Rm mX3_swapsFor mX3_step := ⟨by decide, by decide⟩
theorem rm_X3_takesInserting_X3_did : Rm mX3_takesInserting mX3_did := ⟨by decide, by decide⟩
theorem rm_X3_takesInserting_X3_others : Rm mX3_takesInserting mX3_others := ⟨by decide, by decide⟩
theorem rm_X3_takesInserting_X3_restBehind : Rm mX3_takesInserting mX3_restBehind := ⟨by decide, by decide⟩
theorem rm_X3_takesInserting_X3_restBeside : Rm mX3_takesInserting mX3_restBeside := ⟨by decide, by decide⟩
theorem rm_X3_takesInserting_X3_step : Rm mX3_takesInserting mX3_step := ⟨by decide, by decide⟩
theorem rm_X3_takesOf_X3_gather : Rm mX3_takesOf mX3_gather := ⟨by decide, by decide⟩
theorem rm_X3_takesOf_X3_weighRest : Rm mX3_takesOf mX3_weighRest := ⟨by decide, by decide⟩
theorem rm_X3_takesSkipping_X3_did : Rm mX3_takesSkipping mX3_did := ⟨by decide, by decide⟩
theorem rm_X3_takesSkipping_X3_others : Rm mX3_takesSkipping mX3_others := ⟨by decide, by decide⟩
theorem rm_X3_takesSkipping_X3_restOf : Rm mX3_takesSkipping mX3_restOf := ⟨by decide, by decide⟩
theorem rm_X3_takesSkipping_X3_step : Rm mX3_takesSkipping mX3_step := ⟨by decide, by decide⟩
theorem rm_X3_weighRest_X3_place : Rm mX3_weighRest mX3_place := ⟨by decide, by decide⟩
theorem rm_X3_weighRest_X3_restOf : Rm mX3_weighRest mX3_restOf := ⟨by decide, by decide⟩
theorem rm_X3_weighRest_X3_stepBack : Rm mX3_weighRest mX3_stepBack := ⟨by decide, by decide⟩
theorem rm_X3_weighWith_X3_stepForth : Rm mX3_weighWith mX3_stepForth := ⟨by decide, by decide⟩
theorem rm_X3_weighWith_X3_takesInserting : Rm mX3_weighWith mX3_takesInserting := ⟨by decide, by decide⟩
theorem rm_X3_weighWith_X3_takesOf : Rm mX3_weighWith mX3_takesOf := ⟨by decide, by decide⟩
theorem rm_X3_weighWith_X9_isOn : Rm mX3_weighWith mX9_isOn := ⟨by decide, by decide⟩
theorem rm_X3_weighWithout_X3_stepForth : Rm mX3_weighWithout mX3_stepForth := ⟨by decide, by decide⟩
theorem rm_X3_weighWithout_X3_takesOf : Rm mX3_weighWithout mX3_takesOf := ⟨by decide, by decide⟩
theorem rm_X3_weighWithout_X3_takesSkipping : Rm mX3_weighWithout mX3_takesSkipping := ⟨by decide, by decide⟩
section W_hands
variable {l : Launch} {D : va_G} {ad : Nat → Nat} {kA : Nat → ClassId} {M : Mem} {Q : Outcome → Mem → Prop}
theorem t_X3_forget_0  
    (K1 : Q (.returned none) (sI M 17 3 0)) : Fw l D ad kA mX3_forget 0 [some (.ref (ad 17))] [] M Q := by
  refine r_aload_n dX3_forget_0 rfl ?_
  refine r_iconst (v := 0) dX3_forget_1 kI_0 ?_
  refine r_putZ dX3_forget_2 fs_17_3 fk_X3_32 fp_X3_3 (Or.inl rfl) ?_
  exact r_vret dX3_forget_5 rfl K1
theorem en_X3_forget  (K : Fw l D ad kA mX3_forget 0 [some (.ref (ad 17))] [] M Q) : Cal l D ad kA mX3_forget [.ref (ad 17)] M Q := Cal.of (by decide) rfl rfl (Nat.le_of_ble_eq_true rfl) K
def v_X3_place (x0 : Int32) (x1 : Int32) : Int32 := ((x0 * (x0 - 1)) / 2) + x1
theorem ct_X3_place {x0 : Int32} {x1 : Int32}  (h : Q (.returned (some (.int (v_X3_place x0 x1)))) M) : Cal l D ad kA mX3_place [.int x0, .int x1] M Q := by
  refine Cal.of (lo := [some (.int x0), some (.int x1)]) (by decide) rfl rfl (Nat.le_of_ble_eq_true rfl) ?_
  refine r_iload_n dX3_place_0 rfl ?_
  refine r_iload_n dX3_place_1 rfl ?_
  refine r_iconst (v := 1) dX3_place_2 kI_1 ?_
  refine r_isub dX3_place_3 ?_
  refine r_imul dX3_place_4 ?_
  refine r_iconst (v := 2) dX3_place_5 kI_2 ?_
  refine r_idiv dX3_place_6 (by decide) ?_
  refine r_iload_n dX3_place_7 rfl ?_
  refine r_iadd dX3_place_8 ?_
  exact r_iret dX3_place_9 rfl h
def v_X3_others (x0 : Int32) : Int32 := imax 1 x0
theorem ct_X3_others {x0 : Int32}  (h : Q (.returned (some (.int (v_X3_others x0)))) M) : Cal l D ad kA mX3_others [.int x0] M Q := by
  refine Cal.of (lo := [some (.int x0)]) (by decide) rfl rfl (Nat.le_of_ble_eq_true rfl) ?_
  refine r_iconst (v := 1) dX3_others_0 kI_1 ?_
  refine r_iload_n dX3_others_1 rfl ?_
  refine q_mmax dX3_others_2 mk_X3_88 (by decide) (Nat.le_of_ble_eq_true rfl) ?_
  exact r_iret dX3_others_5 rfl h
def v_X3_did (M : Mem) (x1 : Int32) : Int32 := if 0 < x1 then gI M 19 (x1 - 1).toNatClampNeg else (-1)
def g_X3_did (M : Mem) (x1 : Int32) : Prop := ((0 < x1) → vp_in (x1 - 1) 160)
theorem ct_X3_did {x1 : Int32}  (g : g_X3_did M x1) (h : Q (.returned (some (.int (v_X3_did M x1)))) M) : Cal l D ad kA mX3_did [.ref (ad 17), .int x1] M Q := by
  refine Cal.of (lo := [some (.ref (ad 17)), some (.int x1)]) (by decide) rfl rfl (Nat.le_of_ble_eq_true rfl) ?_
  have g1 := g
  refine r_iload_n dX3_did_0 rfl ?_
  suffices hJ1 : Fw l D ad kA mX3_did 16 [none, none] [.int (if 0 < x1 then gI M 19 (x1 - 1).toNatClampNeg else (-1))] M Q by
    refine r_if_gt (tgt := 8) dX3_did_1 (by decide) (fun c1 => ?_) (fun c1 => ?_)
    · skip
      refine r_aload_n dX3_did_8 rfl ?_
      refine r_getR dX3_did_9 fs_17_4 fk_X3_15 ?_
      refine r_iload_n dX3_did_12 rfl ?_
      refine r_iconst (v := 1) dX3_did_13 kI_1 ?_
      refine r_isub dX3_did_14 ?_
      refine r_iald dX3_did_15 as_19 (g1 c1) ?_
      exact q_weak (lo' := [none, none]) trivial (by have h9 := hJ1; simp only [if_pos c1] at h9; exact h9)
    · skip
      refine r_iconst (v := (-1)) dX3_did_4 kI_m1 ?_
      refine r_goto (tgt := 16) dX3_did_5 (by decide) ?_
      exact q_weak (lo' := [none, none]) trivial (by have h9 := hJ1; simp only [if_neg c1] at h9; exact h9)
  exact r_iret dX3_did_16 rfl h
def v_X3_restOf (M : Mem) (x1 : Int32) (x2 : Int32) : Int32 := if (gI M 17 7) < x1 then gI M 20 (v_X3_place x1 x2).toNatClampNeg else 16777216
def g_X3_restOf (M : Mem) (x1 : Int32) (x2 : Int32) : Prop := (((gI M 17 7) < x1) → vp_in (v_X3_place x1 x2) 12880)
theorem ct_X3_restOf {x1 : Int32} {x2 : Int32}  (g : g_X3_restOf M x1 x2) (h : Q (.returned (some (.int (v_X3_restOf M x1 x2)))) M) : Cal l D ad kA mX3_restOf [.ref (ad 17), .int x1, .int x2] M Q := by
  refine Cal.of (lo := [some (.ref (ad 17)), some (.int x1), some (.int x2)]) (by decide) rfl rfl (Nat.le_of_ble_eq_true rfl) ?_
  have g1 := g
  refine r_iload_n dX3_restOf_0 rfl ?_
  refine r_aload_n dX3_restOf_1 rfl ?_
  refine r_getI dX3_restOf_2 fs_17_7 fk_X3_75 ?_
  suffices hJ1 : Fw l D ad kA mX3_restOf 23 [none, none, none] [.int (if (gI M 17 7) < x1 then gI M 20 (v_X3_place x1 x2).toNatClampNeg else 16777216)] M Q by
    refine r_icmp_gt (tgt := 13) dX3_restOf_5 (by decide) (fun c1 => ?_) (fun c1 => ?_)
    · skip
      refine r_aload_n dX3_restOf_13 rfl ?_
      refine r_getR dX3_restOf_14 fs_17_6 fk_X3_18 ?_
      refine r_iload_n dX3_restOf_17 rfl ?_
      refine r_iload_n dX3_restOf_18 rfl ?_
      refine r_callS (As := [.int x1, .int x2]) (rest := [.ref (ad 20)]) dX3_restOf_19 mk_X3_78 ms_X3_place rm_X3_restOf_X3_place rfl rfl (Nat.le_of_ble_eq_true rfl) (ct_X3_place (⟨_, rfl, ?_⟩))
      refine r_iald dX3_restOf_22 as_20 (g1 c1) ?_
      exact q_weak (lo' := [none, none, none]) trivial (by have h9 := hJ1; simp only [if_pos c1] at h9; exact h9)
    · skip
      refine r_ldc (v := 16777216) dX3_restOf_8 co_X3_48 ?_
      refine r_goto (tgt := 23) dX3_restOf_10 (by decide) ?_
      exact q_weak (lo' := [none, none, none]) trivial (by have h9 := hJ1; simp only [if_neg c1] at h9; exact h9)
  exact r_iret dX3_restOf_23 rfl h
def v_X3_holds (M : Mem) (x1 : Int32) (x2 : Int32) : Int32 := if x1 = (-1) then 0 else if (gI M 13 x1.toNatClampNeg) = 1 then 0 else if (gI M 11 x1.toNatClampNeg) = (gI M 11 x2.toNatClampNeg) then 1 else 0
def g_X3_holds (M : Mem) (x1 : Int32) (x2 : Int32) : Prop := ((¬ (x1 = (-1))) → vp_in x1 160) ∧ ((¬ (x1 = (-1))) → (¬ ((gI M 13 x1.toNatClampNeg) = 1)) → vp_in x2 160)
theorem ct_X3_holds {x1 : Int32} {x2 : Int32}  (g : g_X3_holds M x1 x2) (h : Q (.returned (some (.int (v_X3_holds M x1 x2)))) M) : Cal l D ad kA mX3_holds [.ref (ad 17), .int x1, .int x2] M Q := by
  refine Cal.of (lo := [some (.ref (ad 17)), some (.int x1), some (.int x2)]) (by decide) rfl rfl (Nat.le_of_ble_eq_true rfl) ?_
  obtain ⟨g1, g2⟩ := g
  refine r_iload_n dX3_holds_0 rfl ?_
  refine r_iconst (v := (-1)) dX3_holds_1 kI_m1 ?_
  suffices hJ1 : Fw l D ad kA mX3_holds 44 [none, none, none] [.int (if x1 = (-1) then 0 else if (gI M 13 x1.toNatClampNeg) = 1 then 0 else if (gI M 11 x1.toNatClampNeg) = (gI M 11 x2.toNatClampNeg) then 1 else 0)] M Q by
    refine r_icmp_eq (tgt := 43) dX3_holds_2 (by decide) (fun c1 => ?_) (fun c1 => ?_)
    · skip
      refine r_iconst (v := 0) dX3_holds_43 kI_0 ?_
      exact q_weak (lo' := [none, none, none]) trivial (by have h9 := hJ1; simp only [if_pos c1] at h9; exact h9)
    · skip
      refine r_aload_n dX3_holds_5 rfl ?_
      refine r_getR dX3_holds_6 fs_17_0 fk_X3_24 ?_
      refine r_getR dX3_holds_9 fs_9_3 fk_X3_120 ?_
      refine r_iload_n dX3_holds_12 rfl ?_
      refine r_iald dX3_holds_13 as_13 (g1 c1) ?_
      refine r_iconst (v := 1) dX3_holds_14 kI_1 ?_
      refine r_icmp_eq (tgt := 43) dX3_holds_15 (by decide) (fun c2 => ?_) (fun c2 => ?_)
      · skip
        refine r_iconst (v := 0) dX3_holds_43 kI_0 ?_
        exact q_weak (lo' := [none, none, none]) trivial (by have h9 := hJ1; simp only [if_neg c1, if_pos c2] at h9; exact h9)
      · skip
        refine r_aload_n dX3_holds_18 rfl ?_
        refine r_getR dX3_holds_19 fs_17_0 fk_X3_24 ?_
        refine r_getR dX3_holds_22 fs_9_1 fk_X3_126 ?_
        refine r_iload_n dX3_holds_25 rfl ?_
        refine r_iald dX3_holds_26 as_11 (g1 c1) ?_
        refine r_aload_n dX3_holds_27 rfl ?_
        refine r_getR dX3_holds_28 fs_17_0 fk_X3_24 ?_
        refine r_getR dX3_holds_31 fs_9_1 fk_X3_126 ?_
        refine r_iload_n dX3_holds_34 rfl ?_
        refine r_iald dX3_holds_35 as_11 (g2 c1 c2) ?_
        refine r_icmp_ne (tgt := 43) dX3_holds_36 (by decide) (fun c3 => ?_) (fun c3 => ?_)
        · skip
          refine r_iconst (v := 0) dX3_holds_43 kI_0 ?_
          exact q_weak (lo' := [none, none, none]) trivial (by have h9 := hJ1; simp only [if_neg c1, if_neg c2, if_neg c3] at h9; exact h9)
        · skip
          refine r_iconst (v := 1) dX3_holds_39 kI_1 ?_
          refine r_goto (tgt := 44) dX3_holds_40 (by decide) ?_
          exact q_weak (lo' := [none, none, none]) trivial (by have h9 := hJ1; simp only [if_neg c1, if_neg c2, if_pos c3] at h9; exact h9)
  exact r_zret dX3_holds_44 rfl (nar_z (ite01 (Or.inl rfl) (ite01 (Or.inl rfl) (ite01 (Or.inr rfl) (Or.inl rfl))))).1 h
theorem z_X3_holds {M : Mem} {x1 : Int32} {x2 : Int32} : v_X3_holds M x1 x2 = 0 ∨ v_X3_holds M x1 x2 = 1 := (ite01 (Or.inl rfl) (ite01 (Or.inl rfl) (ite01 (Or.inr rfl) (Or.inl rfl))))
def v_X3_move (M : Mem) (x1 : Int32) (x2 : Int32) : Int32 := if x1 = (-1) then 0 else if (if (gI M 13 x1.toNatClampNeg) = 1 then 1 else 0 : Int32) = 0 then if (if (gI M 13 x1.toNatClampNeg) = 1 then 1 else 0 : Int32) = 0 then if (if (gI M 13 x2.toNatClampNeg) = 1 then 1 else 0 : Int32) = 0 then if (gI M 11 x1.toNatClampNeg) = (gI M 11 x2.toNatClampNeg) then if ((gI M 10 x2.toNatClampNeg) - (gI M 10 x1.toNatClampNeg)) < (if (gI M 13 x1.toNatClampNeg) = 2 then gI M 12 x1.toNatClampNeg else 1 : Int32) then 16777216 else 0 else if ((gI M 10 x2.toNatClampNeg) - (gI M 10 x1.toNatClampNeg)) < (if (if (gI M 13 x1.toNatClampNeg) = 1 then 1 else 0 : Int32) = 0 then if (if (gI M 13 x2.toNatClampNeg) = 1 then 1 else 0 : Int32) = 0 then (if (if (gI M 13 x1.toNatClampNeg) = 1 then 1 else 0 : Int32) = 0 then gI M 12 x1.toNatClampNeg else 1) + (gI M 15 (0 : Int32).toNatClampNeg) else ((if (if (gI M 13 x1.toNatClampNeg) = 1 then 1 else 0 : Int32) = 0 then gI M 12 x1.toNatClampNeg else 1) + (gI M 15 (0 : Int32).toNatClampNeg)) + (gI M 15 (3 : Int32).toNatClampNeg) else ((if (if (gI M 13 x1.toNatClampNeg) = 1 then 1 else 0 : Int32) = 0 then gI M 12 x1.toNatClampNeg else 1) + (gI M 15 (0 : Int32).toNatClampNeg)) + (gI M 15 (3 : Int32).toNatClampNeg) : Int32) then 16777216 else 1 else if ((gI M 10 x2.toNatClampNeg) - (gI M 10 x1.toNatClampNeg)) < (if (if (gI M 13 x1.toNatClampNeg) = 1 then 1 else 0 : Int32) = 0 then if (if (gI M 13 x2.toNatClampNeg) = 1 then 1 else 0 : Int32) = 0 then (if (if (gI M 13 x1.toNatClampNeg) = 1 then 1 else 0 : Int32) = 0 then gI M 12 x1.toNatClampNeg else 1) + (gI M 15 (0 : Int32).toNatClampNeg) else ((if (if (gI M 13 x1.toNatClampNeg) = 1 then 1 else 0 : Int32) = 0 then gI M 12 x1.toNatClampNeg else 1) + (gI M 15 (0 : Int32).toNatClampNeg)) + (gI M 15 (3 : Int32).toNatClampNeg) else ((if (if (gI M 13 x1.toNatClampNeg) = 1 then 1 else 0 : Int32) = 0 then gI M 12 x1.toNatClampNeg else 1) + (gI M 15 (0 : Int32).toNatClampNeg)) + (gI M 15 (3 : Int32).toNatClampNeg) : Int32) then 16777216 else 1 else if ((gI M 10 x2.toNatClampNeg) - (gI M 10 x1.toNatClampNeg)) < (if (if (gI M 13 x1.toNatClampNeg) = 1 then 1 else 0 : Int32) = 0 then if (if (gI M 13 x2.toNatClampNeg) = 1 then 1 else 0 : Int32) = 0 then (if (if (gI M 13 x1.toNatClampNeg) = 1 then 1 else 0 : Int32) = 0 then gI M 12 x1.toNatClampNeg else 1) + (gI M 15 (0 : Int32).toNatClampNeg) else ((if (if (gI M 13 x1.toNatClampNeg) = 1 then 1 else 0 : Int32) = 0 then gI M 12 x1.toNatClampNeg else 1) + (gI M 15 (0 : Int32).toNatClampNeg)) + (gI M 15 (3 : Int32).toNatClampNeg) else ((if (if (gI M 13 x1.toNatClampNeg) = 1 then 1 else 0 : Int32) = 0 then gI M 12 x1.toNatClampNeg else 1) + (gI M 15 (0 : Int32).toNatClampNeg)) + (gI M 15 (3 : Int32).toNatClampNeg) : Int32) then 16777216 else 1 else if (if (gI M 13 x2.toNatClampNeg) = 1 then 1 else 0 : Int32) = 0 then if (if (gI M 13 x1.toNatClampNeg) = 1 then 1 else 0 : Int32) = 0 then if (if (gI M 13 x2.toNatClampNeg) = 1 then 1 else 0 : Int32) = 0 then if (gI M 11 x1.toNatClampNeg) = (gI M 11 x2.toNatClampNeg) then if ((gI M 10 x2.toNatClampNeg) - (gI M 10 x1.toNatClampNeg)) < (if (gI M 13 x1.toNatClampNeg) = 2 then gI M 12 x1.toNatClampNeg else 1 : Int32) then 16777216 else 0 else if ((gI M 10 x2.toNatClampNeg) - (gI M 10 x1.toNatClampNeg)) < (if (if (gI M 13 x1.toNatClampNeg) = 1 then 1 else 0 : Int32) = 0 then if (if (gI M 13 x2.toNatClampNeg) = 1 then 1 else 0 : Int32) = 0 then (if (if (gI M 13 x1.toNatClampNeg) = 1 then 1 else 0 : Int32) = 0 then gI M 12 x1.toNatClampNeg else 1) + (gI M 15 (0 : Int32).toNatClampNeg) else ((if (if (gI M 13 x1.toNatClampNeg) = 1 then 1 else 0 : Int32) = 0 then gI M 12 x1.toNatClampNeg else 1) + (gI M 15 (0 : Int32).toNatClampNeg)) + (gI M 15 (3 : Int32).toNatClampNeg) else ((if (if (gI M 13 x1.toNatClampNeg) = 1 then 1 else 0 : Int32) = 0 then gI M 12 x1.toNatClampNeg else 1) + (gI M 15 (0 : Int32).toNatClampNeg)) + (gI M 15 (3 : Int32).toNatClampNeg) : Int32) then 16777216 else 1 else if ((gI M 10 x2.toNatClampNeg) - (gI M 10 x1.toNatClampNeg)) < (if (if (gI M 13 x1.toNatClampNeg) = 1 then 1 else 0 : Int32) = 0 then if (if (gI M 13 x2.toNatClampNeg) = 1 then 1 else 0 : Int32) = 0 then (if (if (gI M 13 x1.toNatClampNeg) = 1 then 1 else 0 : Int32) = 0 then gI M 12 x1.toNatClampNeg else 1) + (gI M 15 (0 : Int32).toNatClampNeg) else ((if (if (gI M 13 x1.toNatClampNeg) = 1 then 1 else 0 : Int32) = 0 then gI M 12 x1.toNatClampNeg else 1) + (gI M 15 (0 : Int32).toNatClampNeg)) + (gI M 15 (3 : Int32).toNatClampNeg) else ((if (if (gI M 13 x1.toNatClampNeg) = 1 then 1 else 0 : Int32) = 0 then gI M 12 x1.toNatClampNeg else 1) + (gI M 15 (0 : Int32).toNatClampNeg)) + (gI M 15 (3 : Int32).toNatClampNeg) : Int32) then 16777216 else 1 else if ((gI M 10 x2.toNatClampNeg) - (gI M 10 x1.toNatClampNeg)) < (if (if (gI M 13 x1.toNatClampNeg) = 1 then 1 else 0 : Int32) = 0 then if (if (gI M 13 x2.toNatClampNeg) = 1 then 1 else 0 : Int32) = 0 then (if (if (gI M 13 x1.toNatClampNeg) = 1 then 1 else 0 : Int32) = 0 then gI M 12 x1.toNatClampNeg else 1) + (gI M 15 (0 : Int32).toNatClampNeg) else ((if (if (gI M 13 x1.toNatClampNeg) = 1 then 1 else 0 : Int32) = 0 then gI M 12 x1.toNatClampNeg else 1) + (gI M 15 (0 : Int32).toNatClampNeg)) + (gI M 15 (3 : Int32).toNatClampNeg) else ((if (if (gI M 13 x1.toNatClampNeg) = 1 then 1 else 0 : Int32) = 0 then gI M 12 x1.toNatClampNeg else 1) + (gI M 15 (0 : Int32).toNatClampNeg)) + (gI M 15 (3 : Int32).toNatClampNeg) : Int32) then 16777216 else 1 else if ((gI M 10 x2.toNatClampNeg) - (gI M 10 x1.toNatClampNeg)) < 1 then 16777216 else 0
def g_X3_move (M : Mem) (x1 : Int32) (x2 : Int32) : Prop := ((¬ (x1 = (-1))) → vp_in x1 160) ∧ ((¬ (x1 = (-1))) → vp_in x2 160)
theorem ct_X3_move {x1 : Int32} {x2 : Int32}  (g : g_X3_move M x1 x2) (h : Q (.returned (some (.int (v_X3_move M x1 x2)))) M) : Cal l D ad kA mX3_move [.ref (ad 17), .int x1, .int x2] M Q := by
  refine Cal.of (lo := [some (.ref (ad 17)), some (.int x1), some (.int x2), none, none, none, none]) (by decide) rfl rfl (Nat.le_of_ble_eq_true rfl) ?_
  obtain ⟨g1, g2⟩ := g
  refine r_iload_n dX3_move_0 rfl ?_
  refine r_iconst (v := (-1)) dX3_move_1 kI_m1 ?_
  refine r_icmp_ne (tgt := 7) dX3_move_2 (by decide) (fun c1 => ?_) (fun c1 => ?_)
  · skip
    refine r_aload_n dX3_move_7 rfl ?_
    refine r_getR dX3_move_8 fs_17_0 fk_X3_24 ?_
    refine r_getR dX3_move_11 fs_9_3 fk_X3_120 ?_
    refine r_iload_n dX3_move_14 rfl ?_
    refine r_iald dX3_move_15 as_13 (g1 c1) ?_
    refine r_iconst (v := 1) dX3_move_16 kI_1 ?_
    suffices hJ1 : Fw l D ad kA mX3_move 25 [some (.ref (ad 17)), some (.int x1), some (.int x2), none, none, none, none] [.int (if (gI M 13 x1.toNatClampNeg) = 1 then 1 else 0)] M Q by
      refine r_icmp_ne (tgt := 24) dX3_move_17 (by decide) (fun c2 => ?_) (fun c2 => ?_)
      · skip
        refine r_iconst (v := 0) dX3_move_24 kI_0 ?_
        exact q_weak (lo' := [some (.ref (ad 17)), some (.int x1), some (.int x2), none, none, none, none]) ⟨rfl, rfl, rfl, trivial⟩ (by have h9 := hJ1; simp only [if_neg c2] at h9; exact h9)
      · skip
        refine r_iconst (v := 1) dX3_move_20 kI_1 ?_
        refine r_goto (tgt := 25) dX3_move_21 (by decide) ?_
        exact q_weak (lo' := [some (.ref (ad 17)), some (.int x1), some (.int x2), none, none, none, none]) ⟨rfl, rfl, rfl, trivial⟩ (by have h9 := hJ1; simp only [if_pos c2] at h9; exact h9)
    refine q_istore_n (lo' := [some (.ref (ad 17)), some (.int x1), some (.int x2), some (.int (if (gI M 13 x1.toNatClampNeg) = 1 then 1 else 0)), none, none, none]) dX3_move_25 (by decide) rfl ?_
    refine r_aload_n dX3_move_26 rfl ?_
    refine r_getR dX3_move_27 fs_17_0 fk_X3_24 ?_
    refine r_getR dX3_move_30 fs_9_3 fk_X3_120 ?_
    refine r_iload_n dX3_move_33 rfl ?_
    refine r_iald dX3_move_34 as_13 (g2 c1) ?_
    refine r_iconst (v := 1) dX3_move_35 kI_1 ?_
    suffices hJ2 : Fw l D ad kA mX3_move 44 [some (.ref (ad 17)), some (.int x1), some (.int x2), some (.int (if (gI M 13 x1.toNatClampNeg) = 1 then 1 else 0)), none, none, none] [.int (if (gI M 13 x2.toNatClampNeg) = 1 then 1 else 0)] M Q by
      refine r_icmp_ne (tgt := 43) dX3_move_36 (by decide) (fun c3 => ?_) (fun c3 => ?_)
      · skip
        refine r_iconst (v := 0) dX3_move_43 kI_0 ?_
        exact q_weak (lo' := [some (.ref (ad 17)), some (.int x1), some (.int x2), some (.int (if (gI M 13 x1.toNatClampNeg) = 1 then 1 else 0)), none, none, none]) ⟨rfl, rfl, rfl, rfl, trivial⟩ (by have h9 := hJ2; simp only [if_neg c3] at h9; exact h9)
      · skip
        refine r_iconst (v := 1) dX3_move_39 kI_1 ?_
        refine r_goto (tgt := 44) dX3_move_40 (by decide) ?_
        exact q_weak (lo' := [some (.ref (ad 17)), some (.int x1), some (.int x2), some (.int (if (gI M 13 x1.toNatClampNeg) = 1 then 1 else 0)), none, none, none]) ⟨rfl, rfl, rfl, rfl, trivial⟩ (by have h9 := hJ2; simp only [if_pos c3] at h9; exact h9)
    refine q_istore (lo' := [some (.ref (ad 17)), some (.int x1), some (.int x2), some (.int (if (gI M 13 x1.toNatClampNeg) = 1 then 1 else 0)), some (.int (if (gI M 13 x2.toNatClampNeg) = 1 then 1 else 0)), none, none]) dX3_move_44 (by decide) rfl ?_
    refine r_aload_n dX3_move_46 rfl ?_
    refine r_getR dX3_move_47 fs_17_0 fk_X3_24 ?_
    refine r_getR dX3_move_50 fs_9_0 fk_X3_123 ?_
    refine r_iload_n dX3_move_53 rfl ?_
    refine r_iald dX3_move_54 as_10 (g2 c1) ?_
    refine r_aload_n dX3_move_55 rfl ?_
    refine r_getR dX3_move_56 fs_17_0 fk_X3_24 ?_
    refine r_getR dX3_move_59 fs_9_0 fk_X3_123 ?_
    refine r_iload_n dX3_move_62 rfl ?_
    refine r_iald dX3_move_63 as_10 (g1 c1) ?_
    refine r_isub dX3_move_64 ?_
    refine q_istore (lo' := [some (.ref (ad 17)), some (.int x1), some (.int x2), some (.int (if (gI M 13 x1.toNatClampNeg) = 1 then 1 else 0)), some (.int (if (gI M 13 x2.toNatClampNeg) = 1 then 1 else 0)), some (.int ((gI M 10 x2.toNatClampNeg) - (gI M 10 x1.toNatClampNeg))), none]) dX3_move_65 (by decide) rfl ?_
    refine r_iload_n dX3_move_67 rfl ?_
    refine r_if_eq (tgt := 89) dX3_move_68 (by decide) (fun c4 => ?_) (fun c4 => ?_)
    · skip
      refine r_iload_n dX3_move_89 rfl ?_
      refine r_if_ne (tgt := 161) dX3_move_90 (by decide) (fun c5 => ?_) (fun c5 => ?_)
      · skip
        refine r_iload_n dX3_move_161 rfl ?_
        suffices hJ3 : Fw l D ad kA mX3_move 178 [some (.ref (ad 17)), none, none, some (.int (if (gI M 13 x1.toNatClampNeg) = 1 then 1 else 0)), some (.int (if (gI M 13 x2.toNatClampNeg) = 1 then 1 else 0)), some (.int ((gI M 10 x2.toNatClampNeg) - (gI M 10 x1.toNatClampNeg))), none] [.int (if (if (gI M 13 x1.toNatClampNeg) = 1 then 1 else 0 : Int32) = 0 then gI M 12 x1.toNatClampNeg else 1)] M Q by
          refine r_if_eq (tgt := 169) dX3_move_162 (by decide) (fun c6 => ?_) (fun c6 => ?_)
          · skip
            refine r_aload_n dX3_move_169 rfl ?_
            refine r_getR dX3_move_170 fs_17_0 fk_X3_24 ?_
            refine r_getR dX3_move_173 fs_9_2 fk_X3_129 ?_
            refine r_iload_n dX3_move_176 rfl ?_
            refine r_iald dX3_move_177 as_12 (g1 c1) ?_
            exact q_weak (lo' := [some (.ref (ad 17)), none, none, some (.int (if (gI M 13 x1.toNatClampNeg) = 1 then 1 else 0)), some (.int (if (gI M 13 x2.toNatClampNeg) = 1 then 1 else 0)), some (.int ((gI M 10 x2.toNatClampNeg) - (gI M 10 x1.toNatClampNeg))), none]) ⟨rfl, rfl, rfl, rfl, trivial⟩ (by have h9 := hJ3; simp only [if_pos c6] at h9; exact h9)
          · skip
            refine r_iconst (v := 1) dX3_move_165 kI_1 ?_
            refine r_goto (tgt := 178) dX3_move_166 (by decide) ?_
            exact q_weak (lo' := [some (.ref (ad 17)), none, none, some (.int (if (gI M 13 x1.toNatClampNeg) = 1 then 1 else 0)), some (.int (if (gI M 13 x2.toNatClampNeg) = 1 then 1 else 0)), some (.int ((gI M 10 x2.toNatClampNeg) - (gI M 10 x1.toNatClampNeg))), none]) ⟨rfl, rfl, rfl, rfl, trivial⟩ (by have h9 := hJ3; simp only [if_neg c6] at h9; exact h9)
        refine r_aload_n dX3_move_178 rfl ?_
        refine r_getR dX3_move_179 fs_17_1 fk_X3_28 ?_
        refine r_getR dX3_move_182 fs_14_0 fk_X3_132 ?_
        refine r_iconst (v := 0) dX3_move_185 kI_0 ?_
        refine r_iald dX3_move_186 as_15 (by unfold vp_in; decide) ?_
        refine r_iadd dX3_move_187 ?_
        refine q_istore (lo' := [some (.ref (ad 17)), none, none, some (.int (if (gI M 13 x1.toNatClampNeg) = 1 then 1 else 0)), some (.int (if (gI M 13 x2.toNatClampNeg) = 1 then 1 else 0)), some (.int ((gI M 10 x2.toNatClampNeg) - (gI M 10 x1.toNatClampNeg))), some (.int ((if (if (gI M 13 x1.toNatClampNeg) = 1 then 1 else 0 : Int32) = 0 then gI M 12 x1.toNatClampNeg else 1) + (gI M 15 (0 : Int32).toNatClampNeg)))]) dX3_move_188 (by decide) rfl ?_
        refine r_iload_n dX3_move_190 rfl ?_
        suffices hJ4 : Fw l D ad kA mX3_move 213 [none, none, none, none, none, some (.int ((gI M 10 x2.toNatClampNeg) - (gI M 10 x1.toNatClampNeg))), some (.int (if (if (gI M 13 x1.toNatClampNeg) = 1 then 1 else 0 : Int32) = 0 then if (if (gI M 13 x2.toNatClampNeg) = 1 then 1 else 0 : Int32) = 0 then (if (if (gI M 13 x1.toNatClampNeg) = 1 then 1 else 0 : Int32) = 0 then gI M 12 x1.toNatClampNeg else 1) + (gI M 15 (0 : Int32).toNatClampNeg) else ((if (if (gI M 13 x1.toNatClampNeg) = 1 then 1 else 0 : Int32) = 0 then gI M 12 x1.toNatClampNeg else 1) + (gI M 15 (0 : Int32).toNatClampNeg)) + (gI M 15 (3 : Int32).toNatClampNeg) else ((if (if (gI M 13 x1.toNatClampNeg) = 1 then 1 else 0 : Int32) = 0 then gI M 12 x1.toNatClampNeg else 1) + (gI M 15 (0 : Int32).toNatClampNeg)) + (gI M 15 (3 : Int32).toNatClampNeg)))] [] M Q by
          refine r_if_ne (tgt := 199) dX3_move_191 (by decide) (fun c7 => ?_) (fun c7 => ?_)
          · skip
            refine r_iload dX3_move_199 rfl ?_
            refine r_aload_n dX3_move_201 rfl ?_
            refine r_getR dX3_move_202 fs_17_1 fk_X3_28 ?_
            refine r_getR dX3_move_205 fs_14_0 fk_X3_132 ?_
            refine r_iconst (v := 3) dX3_move_208 kI_3 ?_
            refine r_iald dX3_move_209 as_15 (by unfold vp_in; decide) ?_
            refine r_iadd dX3_move_210 ?_
            refine q_istore (lo' := [some (.ref (ad 17)), none, none, some (.int (if (gI M 13 x1.toNatClampNeg) = 1 then 1 else 0)), some (.int (if (gI M 13 x2.toNatClampNeg) = 1 then 1 else 0)), some (.int ((gI M 10 x2.toNatClampNeg) - (gI M 10 x1.toNatClampNeg))), some (.int (((if (if (gI M 13 x1.toNatClampNeg) = 1 then 1 else 0 : Int32) = 0 then gI M 12 x1.toNatClampNeg else 1) + (gI M 15 (0 : Int32).toNatClampNeg)) + (gI M 15 (3 : Int32).toNatClampNeg)))]) dX3_move_211 (by decide) rfl ?_
            exact q_weak (lo' := [none, none, none, none, none, some (.int ((gI M 10 x2.toNatClampNeg) - (gI M 10 x1.toNatClampNeg))), some (.int (((if (if (gI M 13 x1.toNatClampNeg) = 1 then 1 else 0 : Int32) = 0 then gI M 12 x1.toNatClampNeg else 1) + (gI M 15 (0 : Int32).toNatClampNeg)) + (gI M 15 (3 : Int32).toNatClampNeg)))]) ⟨rfl, rfl, trivial⟩ (by have h9 := hJ4; simp only [if_neg c7] at h9; exact h9)
          · skip
            refine r_iload dX3_move_194 rfl ?_
            refine r_if_eq (tgt := 213) dX3_move_196 (by decide) (fun c8 => ?_) (fun c8 => ?_)
            · skip
              exact q_weak (lo' := [none, none, none, none, none, some (.int ((gI M 10 x2.toNatClampNeg) - (gI M 10 x1.toNatClampNeg))), some (.int ((if (if (gI M 13 x1.toNatClampNeg) = 1 then 1 else 0 : Int32) = 0 then gI M 12 x1.toNatClampNeg else 1) + (gI M 15 (0 : Int32).toNatClampNeg)))]) ⟨rfl, rfl, trivial⟩ (by have h9 := hJ4; simp only [if_pos c7, if_pos c8] at h9; exact h9)
            · skip
              refine r_iload dX3_move_199 rfl ?_
              refine r_aload_n dX3_move_201 rfl ?_
              refine r_getR dX3_move_202 fs_17_1 fk_X3_28 ?_
              refine r_getR dX3_move_205 fs_14_0 fk_X3_132 ?_
              refine r_iconst (v := 3) dX3_move_208 kI_3 ?_
              refine r_iald dX3_move_209 as_15 (by unfold vp_in; decide) ?_
              refine r_iadd dX3_move_210 ?_
              refine q_istore (lo' := [some (.ref (ad 17)), none, none, some (.int (if (gI M 13 x1.toNatClampNeg) = 1 then 1 else 0)), some (.int (if (gI M 13 x2.toNatClampNeg) = 1 then 1 else 0)), some (.int ((gI M 10 x2.toNatClampNeg) - (gI M 10 x1.toNatClampNeg))), some (.int (((if (if (gI M 13 x1.toNatClampNeg) = 1 then 1 else 0 : Int32) = 0 then gI M 12 x1.toNatClampNeg else 1) + (gI M 15 (0 : Int32).toNatClampNeg)) + (gI M 15 (3 : Int32).toNatClampNeg)))]) dX3_move_211 (by decide) rfl ?_
              exact q_weak (lo' := [none, none, none, none, none, some (.int ((gI M 10 x2.toNatClampNeg) - (gI M 10 x1.toNatClampNeg))), some (.int (((if (if (gI M 13 x1.toNatClampNeg) = 1 then 1 else 0 : Int32) = 0 then gI M 12 x1.toNatClampNeg else 1) + (gI M 15 (0 : Int32).toNatClampNeg)) + (gI M 15 (3 : Int32).toNatClampNeg)))]) ⟨rfl, rfl, trivial⟩ (by have h9 := hJ4; simp only [if_pos c7, if_neg c8] at h9; exact h9)
        refine r_iload dX3_move_213 rfl ?_
        refine r_iload dX3_move_215 rfl ?_
        suffices hJ5 : Fw l D ad kA mX3_move 226 [none, none, none, none, none, none, none] [.int (if ((gI M 10 x2.toNatClampNeg) - (gI M 10 x1.toNatClampNeg)) < (if (if (gI M 13 x1.toNatClampNeg) = 1 then 1 else 0 : Int32) = 0 then if (if (gI M 13 x2.toNatClampNeg) = 1 then 1 else 0 : Int32) = 0 then (if (if (gI M 13 x1.toNatClampNeg) = 1 then 1 else 0 : Int32) = 0 then gI M 12 x1.toNatClampNeg else 1) + (gI M 15 (0 : Int32).toNatClampNeg) else ((if (if (gI M 13 x1.toNatClampNeg) = 1 then 1 else 0 : Int32) = 0 then gI M 12 x1.toNatClampNeg else 1) + (gI M 15 (0 : Int32).toNatClampNeg)) + (gI M 15 (3 : Int32).toNatClampNeg) else ((if (if (gI M 13 x1.toNatClampNeg) = 1 then 1 else 0 : Int32) = 0 then gI M 12 x1.toNatClampNeg else 1) + (gI M 15 (0 : Int32).toNatClampNeg)) + (gI M 15 (3 : Int32).toNatClampNeg) : Int32) then 16777216 else 1)] M Q by
          refine r_icmp_lt (tgt := 224) dX3_move_217 (by decide) (fun c9 => ?_) (fun c9 => ?_)
          · skip
            refine r_ldc (v := 16777216) dX3_move_224 co_X3_48 ?_
            exact q_weak (lo' := [none, none, none, none, none, none, none]) trivial (by have h9 := hJ5; simp only [if_pos c9] at h9; exact h9)
          · skip
            refine r_iconst (v := 1) dX3_move_220 kI_1 ?_
            refine r_goto (tgt := 226) dX3_move_221 (by decide) ?_
            exact q_weak (lo' := [none, none, none, none, none, none, none]) trivial (by have h9 := hJ5; simp only [if_neg c9] at h9; exact h9)
        exact r_iret dX3_move_226 rfl (by have h9 := h; simp only [v_X3_move, if_neg c1, if_pos c4, if_neg c5] at h9; exact h9)
      · skip
        refine r_iload dX3_move_93 rfl ?_
        refine r_if_ne (tgt := 161) dX3_move_95 (by decide) (fun c10 => ?_) (fun c10 => ?_)
        · skip
          refine r_iload_n dX3_move_161 rfl ?_
          suffices hJ6 : Fw l D ad kA mX3_move 178 [some (.ref (ad 17)), none, none, some (.int (if (gI M 13 x1.toNatClampNeg) = 1 then 1 else 0)), some (.int (if (gI M 13 x2.toNatClampNeg) = 1 then 1 else 0)), some (.int ((gI M 10 x2.toNatClampNeg) - (gI M 10 x1.toNatClampNeg))), none] [.int (if (if (gI M 13 x1.toNatClampNeg) = 1 then 1 else 0 : Int32) = 0 then gI M 12 x1.toNatClampNeg else 1)] M Q by
            refine r_if_eq (tgt := 169) dX3_move_162 (by decide) (fun c11 => ?_) (fun c11 => ?_)
            · skip
              refine r_aload_n dX3_move_169 rfl ?_
              refine r_getR dX3_move_170 fs_17_0 fk_X3_24 ?_
              refine r_getR dX3_move_173 fs_9_2 fk_X3_129 ?_
              refine r_iload_n dX3_move_176 rfl ?_
              refine r_iald dX3_move_177 as_12 (g1 c1) ?_
              exact q_weak (lo' := [some (.ref (ad 17)), none, none, some (.int (if (gI M 13 x1.toNatClampNeg) = 1 then 1 else 0)), some (.int (if (gI M 13 x2.toNatClampNeg) = 1 then 1 else 0)), some (.int ((gI M 10 x2.toNatClampNeg) - (gI M 10 x1.toNatClampNeg))), none]) ⟨rfl, rfl, rfl, rfl, trivial⟩ (by have h9 := hJ6; simp only [if_pos c11] at h9; exact h9)
            · skip
              refine r_iconst (v := 1) dX3_move_165 kI_1 ?_
              refine r_goto (tgt := 178) dX3_move_166 (by decide) ?_
              exact q_weak (lo' := [some (.ref (ad 17)), none, none, some (.int (if (gI M 13 x1.toNatClampNeg) = 1 then 1 else 0)), some (.int (if (gI M 13 x2.toNatClampNeg) = 1 then 1 else 0)), some (.int ((gI M 10 x2.toNatClampNeg) - (gI M 10 x1.toNatClampNeg))), none]) ⟨rfl, rfl, rfl, rfl, trivial⟩ (by have h9 := hJ6; simp only [if_neg c11] at h9; exact h9)
          refine r_aload_n dX3_move_178 rfl ?_
          refine r_getR dX3_move_179 fs_17_1 fk_X3_28 ?_
          refine r_getR dX3_move_182 fs_14_0 fk_X3_132 ?_
          refine r_iconst (v := 0) dX3_move_185 kI_0 ?_
          refine r_iald dX3_move_186 as_15 (by unfold vp_in; decide) ?_
          refine r_iadd dX3_move_187 ?_
          refine q_istore (lo' := [some (.ref (ad 17)), none, none, some (.int (if (gI M 13 x1.toNatClampNeg) = 1 then 1 else 0)), some (.int (if (gI M 13 x2.toNatClampNeg) = 1 then 1 else 0)), some (.int ((gI M 10 x2.toNatClampNeg) - (gI M 10 x1.toNatClampNeg))), some (.int ((if (if (gI M 13 x1.toNatClampNeg) = 1 then 1 else 0 : Int32) = 0 then gI M 12 x1.toNatClampNeg else 1) + (gI M 15 (0 : Int32).toNatClampNeg)))]) dX3_move_188 (by decide) rfl ?_
          refine r_iload_n dX3_move_190 rfl ?_
          suffices hJ7 : Fw l D ad kA mX3_move 213 [none, none, none, none, none, some (.int ((gI M 10 x2.toNatClampNeg) - (gI M 10 x1.toNatClampNeg))), some (.int (if (if (gI M 13 x1.toNatClampNeg) = 1 then 1 else 0 : Int32) = 0 then if (if (gI M 13 x2.toNatClampNeg) = 1 then 1 else 0 : Int32) = 0 then (if (if (gI M 13 x1.toNatClampNeg) = 1 then 1 else 0 : Int32) = 0 then gI M 12 x1.toNatClampNeg else 1) + (gI M 15 (0 : Int32).toNatClampNeg) else ((if (if (gI M 13 x1.toNatClampNeg) = 1 then 1 else 0 : Int32) = 0 then gI M 12 x1.toNatClampNeg else 1) + (gI M 15 (0 : Int32).toNatClampNeg)) + (gI M 15 (3 : Int32).toNatClampNeg) else ((if (if (gI M 13 x1.toNatClampNeg) = 1 then 1 else 0 : Int32) = 0 then gI M 12 x1.toNatClampNeg else 1) + (gI M 15 (0 : Int32).toNatClampNeg)) + (gI M 15 (3 : Int32).toNatClampNeg)))] [] M Q by
            refine r_if_ne (tgt := 199) dX3_move_191 (by decide) (fun c12 => ?_) (fun c12 => ?_)
            · skip
              refine r_iload dX3_move_199 rfl ?_
              refine r_aload_n dX3_move_201 rfl ?_
              refine r_getR dX3_move_202 fs_17_1 fk_X3_28 ?_
              refine r_getR dX3_move_205 fs_14_0 fk_X3_132 ?_
              refine r_iconst (v := 3) dX3_move_208 kI_3 ?_
              refine r_iald dX3_move_209 as_15 (by unfold vp_in; decide) ?_
              refine r_iadd dX3_move_210 ?_
              refine q_istore (lo' := [some (.ref (ad 17)), none, none, some (.int (if (gI M 13 x1.toNatClampNeg) = 1 then 1 else 0)), some (.int (if (gI M 13 x2.toNatClampNeg) = 1 then 1 else 0)), some (.int ((gI M 10 x2.toNatClampNeg) - (gI M 10 x1.toNatClampNeg))), some (.int (((if (if (gI M 13 x1.toNatClampNeg) = 1 then 1 else 0 : Int32) = 0 then gI M 12 x1.toNatClampNeg else 1) + (gI M 15 (0 : Int32).toNatClampNeg)) + (gI M 15 (3 : Int32).toNatClampNeg)))]) dX3_move_211 (by decide) rfl ?_
              exact q_weak (lo' := [none, none, none, none, none, some (.int ((gI M 10 x2.toNatClampNeg) - (gI M 10 x1.toNatClampNeg))), some (.int (((if (if (gI M 13 x1.toNatClampNeg) = 1 then 1 else 0 : Int32) = 0 then gI M 12 x1.toNatClampNeg else 1) + (gI M 15 (0 : Int32).toNatClampNeg)) + (gI M 15 (3 : Int32).toNatClampNeg)))]) ⟨rfl, rfl, trivial⟩ (by have h9 := hJ7; simp only [if_neg c12] at h9; exact h9)
            · skip
              refine r_iload dX3_move_194 rfl ?_
              refine r_if_eq (tgt := 213) dX3_move_196 (by decide) (fun c13 => ?_) (fun c13 => ?_)
              · skip
                exact q_weak (lo' := [none, none, none, none, none, some (.int ((gI M 10 x2.toNatClampNeg) - (gI M 10 x1.toNatClampNeg))), some (.int ((if (if (gI M 13 x1.toNatClampNeg) = 1 then 1 else 0 : Int32) = 0 then gI M 12 x1.toNatClampNeg else 1) + (gI M 15 (0 : Int32).toNatClampNeg)))]) ⟨rfl, rfl, trivial⟩ (by have h9 := hJ7; simp only [if_pos c12, if_pos c13] at h9; exact h9)
              · skip
                refine r_iload dX3_move_199 rfl ?_
                refine r_aload_n dX3_move_201 rfl ?_
                refine r_getR dX3_move_202 fs_17_1 fk_X3_28 ?_
                refine r_getR dX3_move_205 fs_14_0 fk_X3_132 ?_
                refine r_iconst (v := 3) dX3_move_208 kI_3 ?_
                refine r_iald dX3_move_209 as_15 (by unfold vp_in; decide) ?_
                refine r_iadd dX3_move_210 ?_
                refine q_istore (lo' := [some (.ref (ad 17)), none, none, some (.int (if (gI M 13 x1.toNatClampNeg) = 1 then 1 else 0)), some (.int (if (gI M 13 x2.toNatClampNeg) = 1 then 1 else 0)), some (.int ((gI M 10 x2.toNatClampNeg) - (gI M 10 x1.toNatClampNeg))), some (.int (((if (if (gI M 13 x1.toNatClampNeg) = 1 then 1 else 0 : Int32) = 0 then gI M 12 x1.toNatClampNeg else 1) + (gI M 15 (0 : Int32).toNatClampNeg)) + (gI M 15 (3 : Int32).toNatClampNeg)))]) dX3_move_211 (by decide) rfl ?_
                exact q_weak (lo' := [none, none, none, none, none, some (.int ((gI M 10 x2.toNatClampNeg) - (gI M 10 x1.toNatClampNeg))), some (.int (((if (if (gI M 13 x1.toNatClampNeg) = 1 then 1 else 0 : Int32) = 0 then gI M 12 x1.toNatClampNeg else 1) + (gI M 15 (0 : Int32).toNatClampNeg)) + (gI M 15 (3 : Int32).toNatClampNeg)))]) ⟨rfl, rfl, trivial⟩ (by have h9 := hJ7; simp only [if_pos c12, if_neg c13] at h9; exact h9)
          refine r_iload dX3_move_213 rfl ?_
          refine r_iload dX3_move_215 rfl ?_
          suffices hJ8 : Fw l D ad kA mX3_move 226 [none, none, none, none, none, none, none] [.int (if ((gI M 10 x2.toNatClampNeg) - (gI M 10 x1.toNatClampNeg)) < (if (if (gI M 13 x1.toNatClampNeg) = 1 then 1 else 0 : Int32) = 0 then if (if (gI M 13 x2.toNatClampNeg) = 1 then 1 else 0 : Int32) = 0 then (if (if (gI M 13 x1.toNatClampNeg) = 1 then 1 else 0 : Int32) = 0 then gI M 12 x1.toNatClampNeg else 1) + (gI M 15 (0 : Int32).toNatClampNeg) else ((if (if (gI M 13 x1.toNatClampNeg) = 1 then 1 else 0 : Int32) = 0 then gI M 12 x1.toNatClampNeg else 1) + (gI M 15 (0 : Int32).toNatClampNeg)) + (gI M 15 (3 : Int32).toNatClampNeg) else ((if (if (gI M 13 x1.toNatClampNeg) = 1 then 1 else 0 : Int32) = 0 then gI M 12 x1.toNatClampNeg else 1) + (gI M 15 (0 : Int32).toNatClampNeg)) + (gI M 15 (3 : Int32).toNatClampNeg) : Int32) then 16777216 else 1)] M Q by
            refine r_icmp_lt (tgt := 224) dX3_move_217 (by decide) (fun c14 => ?_) (fun c14 => ?_)
            · skip
              refine r_ldc (v := 16777216) dX3_move_224 co_X3_48 ?_
              exact q_weak (lo' := [none, none, none, none, none, none, none]) trivial (by have h9 := hJ8; simp only [if_pos c14] at h9; exact h9)
            · skip
              refine r_iconst (v := 1) dX3_move_220 kI_1 ?_
              refine r_goto (tgt := 226) dX3_move_221 (by decide) ?_
              exact q_weak (lo' := [none, none, none, none, none, none, none]) trivial (by have h9 := hJ8; simp only [if_neg c14] at h9; exact h9)
          exact r_iret dX3_move_226 rfl (by have h9 := h; simp only [v_X3_move, if_neg c1, if_pos c4, if_pos c5, if_neg c10] at h9; exact h9)
        · skip
          refine r_aload_n dX3_move_98 rfl ?_
          refine r_getR dX3_move_99 fs_17_0 fk_X3_24 ?_
          refine r_getR dX3_move_102 fs_9_1 fk_X3_126 ?_
          refine r_iload_n dX3_move_105 rfl ?_
          refine r_iald dX3_move_106 as_11 (g1 c1) ?_
          refine r_aload_n dX3_move_107 rfl ?_
          refine r_getR dX3_move_108 fs_17_0 fk_X3_24 ?_
          refine r_getR dX3_move_111 fs_9_1 fk_X3_126 ?_
          refine r_iload_n dX3_move_114 rfl ?_
          refine r_iald dX3_move_115 as_11 (g2 c1) ?_
          refine r_icmp_ne (tgt := 161) dX3_move_116 (by decide) (fun c15 => ?_) (fun c15 => ?_)
          · skip
            refine r_iload_n dX3_move_161 rfl ?_
            suffices hJ9 : Fw l D ad kA mX3_move 178 [some (.ref (ad 17)), none, none, some (.int (if (gI M 13 x1.toNatClampNeg) = 1 then 1 else 0)), some (.int (if (gI M 13 x2.toNatClampNeg) = 1 then 1 else 0)), some (.int ((gI M 10 x2.toNatClampNeg) - (gI M 10 x1.toNatClampNeg))), none] [.int (if (if (gI M 13 x1.toNatClampNeg) = 1 then 1 else 0 : Int32) = 0 then gI M 12 x1.toNatClampNeg else 1)] M Q by
              refine r_if_eq (tgt := 169) dX3_move_162 (by decide) (fun c16 => ?_) (fun c16 => ?_)
              · skip
                refine r_aload_n dX3_move_169 rfl ?_
                refine r_getR dX3_move_170 fs_17_0 fk_X3_24 ?_
                refine r_getR dX3_move_173 fs_9_2 fk_X3_129 ?_
                refine r_iload_n dX3_move_176 rfl ?_
                refine r_iald dX3_move_177 as_12 (g1 c1) ?_
                exact q_weak (lo' := [some (.ref (ad 17)), none, none, some (.int (if (gI M 13 x1.toNatClampNeg) = 1 then 1 else 0)), some (.int (if (gI M 13 x2.toNatClampNeg) = 1 then 1 else 0)), some (.int ((gI M 10 x2.toNatClampNeg) - (gI M 10 x1.toNatClampNeg))), none]) ⟨rfl, rfl, rfl, rfl, trivial⟩ (by have h9 := hJ9; simp only [if_pos c16] at h9; exact h9)
              · skip
                refine r_iconst (v := 1) dX3_move_165 kI_1 ?_
                refine r_goto (tgt := 178) dX3_move_166 (by decide) ?_
                exact q_weak (lo' := [some (.ref (ad 17)), none, none, some (.int (if (gI M 13 x1.toNatClampNeg) = 1 then 1 else 0)), some (.int (if (gI M 13 x2.toNatClampNeg) = 1 then 1 else 0)), some (.int ((gI M 10 x2.toNatClampNeg) - (gI M 10 x1.toNatClampNeg))), none]) ⟨rfl, rfl, rfl, rfl, trivial⟩ (by have h9 := hJ9; simp only [if_neg c16] at h9; exact h9)
            refine r_aload_n dX3_move_178 rfl ?_
            refine r_getR dX3_move_179 fs_17_1 fk_X3_28 ?_
            refine r_getR dX3_move_182 fs_14_0 fk_X3_132 ?_
            refine r_iconst (v := 0) dX3_move_185 kI_0 ?_
            refine r_iald dX3_move_186 as_15 (by unfold vp_in; decide) ?_
            refine r_iadd dX3_move_187 ?_
            refine q_istore (lo' := [some (.ref (ad 17)), none, none, some (.int (if (gI M 13 x1.toNatClampNeg) = 1 then 1 else 0)), some (.int (if (gI M 13 x2.toNatClampNeg) = 1 then 1 else 0)), some (.int ((gI M 10 x2.toNatClampNeg) - (gI M 10 x1.toNatClampNeg))), some (.int ((if (if (gI M 13 x1.toNatClampNeg) = 1 then 1 else 0 : Int32) = 0 then gI M 12 x1.toNatClampNeg else 1) + (gI M 15 (0 : Int32).toNatClampNeg)))]) dX3_move_188 (by decide) rfl ?_
            refine r_iload_n dX3_move_190 rfl ?_
            suffices hJ10 : Fw l D ad kA mX3_move 213 [none, none, none, none, none, some (.int ((gI M 10 x2.toNatClampNeg) - (gI M 10 x1.toNatClampNeg))), some (.int (if (if (gI M 13 x1.toNatClampNeg) = 1 then 1 else 0 : Int32) = 0 then if (if (gI M 13 x2.toNatClampNeg) = 1 then 1 else 0 : Int32) = 0 then (if (if (gI M 13 x1.toNatClampNeg) = 1 then 1 else 0 : Int32) = 0 then gI M 12 x1.toNatClampNeg else 1) + (gI M 15 (0 : Int32).toNatClampNeg) else ((if (if (gI M 13 x1.toNatClampNeg) = 1 then 1 else 0 : Int32) = 0 then gI M 12 x1.toNatClampNeg else 1) + (gI M 15 (0 : Int32).toNatClampNeg)) + (gI M 15 (3 : Int32).toNatClampNeg) else ((if (if (gI M 13 x1.toNatClampNeg) = 1 then 1 else 0 : Int32) = 0 then gI M 12 x1.toNatClampNeg else 1) + (gI M 15 (0 : Int32).toNatClampNeg)) + (gI M 15 (3 : Int32).toNatClampNeg)))] [] M Q by
              refine r_if_ne (tgt := 199) dX3_move_191 (by decide) (fun c17 => ?_) (fun c17 => ?_)
              · skip
                refine r_iload dX3_move_199 rfl ?_
                refine r_aload_n dX3_move_201 rfl ?_
                refine r_getR dX3_move_202 fs_17_1 fk_X3_28 ?_
                refine r_getR dX3_move_205 fs_14_0 fk_X3_132 ?_
                refine r_iconst (v := 3) dX3_move_208 kI_3 ?_
                refine r_iald dX3_move_209 as_15 (by unfold vp_in; decide) ?_
                refine r_iadd dX3_move_210 ?_
                refine q_istore (lo' := [some (.ref (ad 17)), none, none, some (.int (if (gI M 13 x1.toNatClampNeg) = 1 then 1 else 0)), some (.int (if (gI M 13 x2.toNatClampNeg) = 1 then 1 else 0)), some (.int ((gI M 10 x2.toNatClampNeg) - (gI M 10 x1.toNatClampNeg))), some (.int (((if (if (gI M 13 x1.toNatClampNeg) = 1 then 1 else 0 : Int32) = 0 then gI M 12 x1.toNatClampNeg else 1) + (gI M 15 (0 : Int32).toNatClampNeg)) + (gI M 15 (3 : Int32).toNatClampNeg)))]) dX3_move_211 (by decide) rfl ?_
                exact q_weak (lo' := [none, none, none, none, none, some (.int ((gI M 10 x2.toNatClampNeg) - (gI M 10 x1.toNatClampNeg))), some (.int (((if (if (gI M 13 x1.toNatClampNeg) = 1 then 1 else 0 : Int32) = 0 then gI M 12 x1.toNatClampNeg else 1) + (gI M 15 (0 : Int32).toNatClampNeg)) + (gI M 15 (3 : Int32).toNatClampNeg)))]) ⟨rfl, rfl, trivial⟩ (by have h9 := hJ10; simp only [if_neg c17] at h9; exact h9)
              · skip
                refine r_iload dX3_move_194 rfl ?_
                refine r_if_eq (tgt := 213) dX3_move_196 (by decide) (fun c18 => ?_) (fun c18 => ?_)
                · skip
                  exact q_weak (lo' := [none, none, none, none, none, some (.int ((gI M 10 x2.toNatClampNeg) - (gI M 10 x1.toNatClampNeg))), some (.int ((if (if (gI M 13 x1.toNatClampNeg) = 1 then 1 else 0 : Int32) = 0 then gI M 12 x1.toNatClampNeg else 1) + (gI M 15 (0 : Int32).toNatClampNeg)))]) ⟨rfl, rfl, trivial⟩ (by have h9 := hJ10; simp only [if_pos c17, if_pos c18] at h9; exact h9)
                · skip
                  refine r_iload dX3_move_199 rfl ?_
                  refine r_aload_n dX3_move_201 rfl ?_
                  refine r_getR dX3_move_202 fs_17_1 fk_X3_28 ?_
                  refine r_getR dX3_move_205 fs_14_0 fk_X3_132 ?_
                  refine r_iconst (v := 3) dX3_move_208 kI_3 ?_
                  refine r_iald dX3_move_209 as_15 (by unfold vp_in; decide) ?_
                  refine r_iadd dX3_move_210 ?_
                  refine q_istore (lo' := [some (.ref (ad 17)), none, none, some (.int (if (gI M 13 x1.toNatClampNeg) = 1 then 1 else 0)), some (.int (if (gI M 13 x2.toNatClampNeg) = 1 then 1 else 0)), some (.int ((gI M 10 x2.toNatClampNeg) - (gI M 10 x1.toNatClampNeg))), some (.int (((if (if (gI M 13 x1.toNatClampNeg) = 1 then 1 else 0 : Int32) = 0 then gI M 12 x1.toNatClampNeg else 1) + (gI M 15 (0 : Int32).toNatClampNeg)) + (gI M 15 (3 : Int32).toNatClampNeg)))]) dX3_move_211 (by decide) rfl ?_
                  exact q_weak (lo' := [none, none, none, none, none, some (.int ((gI M 10 x2.toNatClampNeg) - (gI M 10 x1.toNatClampNeg))), some (.int (((if (if (gI M 13 x1.toNatClampNeg) = 1 then 1 else 0 : Int32) = 0 then gI M 12 x1.toNatClampNeg else 1) + (gI M 15 (0 : Int32).toNatClampNeg)) + (gI M 15 (3 : Int32).toNatClampNeg)))]) ⟨rfl, rfl, trivial⟩ (by have h9 := hJ10; simp only [if_pos c17, if_neg c18] at h9; exact h9)
            refine r_iload dX3_move_213 rfl ?_
            refine r_iload dX3_move_215 rfl ?_
            suffices hJ11 : Fw l D ad kA mX3_move 226 [none, none, none, none, none, none, none] [.int (if ((gI M 10 x2.toNatClampNeg) - (gI M 10 x1.toNatClampNeg)) < (if (if (gI M 13 x1.toNatClampNeg) = 1 then 1 else 0 : Int32) = 0 then if (if (gI M 13 x2.toNatClampNeg) = 1 then 1 else 0 : Int32) = 0 then (if (if (gI M 13 x1.toNatClampNeg) = 1 then 1 else 0 : Int32) = 0 then gI M 12 x1.toNatClampNeg else 1) + (gI M 15 (0 : Int32).toNatClampNeg) else ((if (if (gI M 13 x1.toNatClampNeg) = 1 then 1 else 0 : Int32) = 0 then gI M 12 x1.toNatClampNeg else 1) + (gI M 15 (0 : Int32).toNatClampNeg)) + (gI M 15 (3 : Int32).toNatClampNeg) else ((if (if (gI M 13 x1.toNatClampNeg) = 1 then 1 else 0 : Int32) = 0 then gI M 12 x1.toNatClampNeg else 1) + (gI M 15 (0 : Int32).toNatClampNeg)) + (gI M 15 (3 : Int32).toNatClampNeg) : Int32) then 16777216 else 1)] M Q by
              refine r_icmp_lt (tgt := 224) dX3_move_217 (by decide) (fun c19 => ?_) (fun c19 => ?_)
              · skip
                refine r_ldc (v := 16777216) dX3_move_224 co_X3_48 ?_
                exact q_weak (lo' := [none, none, none, none, none, none, none]) trivial (by have h9 := hJ11; simp only [if_pos c19] at h9; exact h9)
              · skip
                refine r_iconst (v := 1) dX3_move_220 kI_1 ?_
                refine r_goto (tgt := 226) dX3_move_221 (by decide) ?_
                exact q_weak (lo' := [none, none, none, none, none, none, none]) trivial (by have h9 := hJ11; simp only [if_neg c19] at h9; exact h9)
            exact r_iret dX3_move_226 rfl (by have h9 := h; simp only [v_X3_move, if_neg c1, if_pos c4, if_pos c5, if_pos c10, if_neg c15] at h9; exact h9)
          · skip
            refine r_aload_n dX3_move_119 rfl ?_
            refine r_getR dX3_move_120 fs_17_0 fk_X3_24 ?_
            refine r_getR dX3_move_123 fs_9_3 fk_X3_120 ?_
            refine r_iload_n dX3_move_126 rfl ?_
            refine r_iald dX3_move_127 as_13 (g1 c1) ?_
            refine r_iconst (v := 2) dX3_move_128 kI_2 ?_
            suffices hJ12 : Fw l D ad kA mX3_move 145 [none, none, none, none, none, some (.int ((gI M 10 x2.toNatClampNeg) - (gI M 10 x1.toNatClampNeg))), none] [.int (if (gI M 13 x1.toNatClampNeg) = 2 then gI M 12 x1.toNatClampNeg else 1)] M Q by
              refine r_icmp_ne (tgt := 144) dX3_move_129 (by decide) (fun c20 => ?_) (fun c20 => ?_)
              · skip
                refine r_iconst (v := 1) dX3_move_144 kI_1 ?_
                exact q_weak (lo' := [none, none, none, none, none, some (.int ((gI M 10 x2.toNatClampNeg) - (gI M 10 x1.toNatClampNeg))), none]) ⟨rfl, trivial⟩ (by have h9 := hJ12; simp only [if_neg c20] at h9; exact h9)
              · skip
                refine r_aload_n dX3_move_132 rfl ?_
                refine r_getR dX3_move_133 fs_17_0 fk_X3_24 ?_
                refine r_getR dX3_move_136 fs_9_2 fk_X3_129 ?_
                refine r_iload_n dX3_move_139 rfl ?_
                refine r_iald dX3_move_140 as_12 (g1 c1) ?_
                refine r_goto (tgt := 145) dX3_move_141 (by decide) ?_
                exact q_weak (lo' := [none, none, none, none, none, some (.int ((gI M 10 x2.toNatClampNeg) - (gI M 10 x1.toNatClampNeg))), none]) ⟨rfl, trivial⟩ (by have h9 := hJ12; simp only [if_pos c20] at h9; exact h9)
            refine q_istore (lo' := [none, none, none, none, none, some (.int ((gI M 10 x2.toNatClampNeg) - (gI M 10 x1.toNatClampNeg))), some (.int (if (gI M 13 x1.toNatClampNeg) = 2 then gI M 12 x1.toNatClampNeg else 1))]) dX3_move_145 (by decide) rfl ?_
            refine r_iload dX3_move_147 rfl ?_
            refine r_iload dX3_move_149 rfl ?_
            suffices hJ13 : Fw l D ad kA mX3_move 160 [none, none, none, none, none, none, none] [.int (if ((gI M 10 x2.toNatClampNeg) - (gI M 10 x1.toNatClampNeg)) < (if (gI M 13 x1.toNatClampNeg) = 2 then gI M 12 x1.toNatClampNeg else 1 : Int32) then 16777216 else 0)] M Q by
              refine r_icmp_lt (tgt := 158) dX3_move_151 (by decide) (fun c21 => ?_) (fun c21 => ?_)
              · skip
                refine r_ldc (v := 16777216) dX3_move_158 co_X3_48 ?_
                exact q_weak (lo' := [none, none, none, none, none, none, none]) trivial (by have h9 := hJ13; simp only [if_pos c21] at h9; exact h9)
              · skip
                refine r_iconst (v := 0) dX3_move_154 kI_0 ?_
                refine r_goto (tgt := 160) dX3_move_155 (by decide) ?_
                exact q_weak (lo' := [none, none, none, none, none, none, none]) trivial (by have h9 := hJ13; simp only [if_neg c21] at h9; exact h9)
            exact r_iret dX3_move_160 rfl (by have h9 := h; simp only [v_X3_move, if_neg c1, if_pos c4, if_pos c5, if_pos c10, if_pos c15] at h9; exact h9)
    · skip
      refine r_iload dX3_move_71 rfl ?_
      refine r_if_eq (tgt := 89) dX3_move_73 (by decide) (fun c22 => ?_) (fun c22 => ?_)
      · skip
        refine r_iload_n dX3_move_89 rfl ?_
        refine r_if_ne (tgt := 161) dX3_move_90 (by decide) (fun c23 => ?_) (fun c23 => ?_)
        · skip
          refine r_iload_n dX3_move_161 rfl ?_
          suffices hJ14 : Fw l D ad kA mX3_move 178 [some (.ref (ad 17)), none, none, some (.int (if (gI M 13 x1.toNatClampNeg) = 1 then 1 else 0)), some (.int (if (gI M 13 x2.toNatClampNeg) = 1 then 1 else 0)), some (.int ((gI M 10 x2.toNatClampNeg) - (gI M 10 x1.toNatClampNeg))), none] [.int (if (if (gI M 13 x1.toNatClampNeg) = 1 then 1 else 0 : Int32) = 0 then gI M 12 x1.toNatClampNeg else 1)] M Q by
            refine r_if_eq (tgt := 169) dX3_move_162 (by decide) (fun c24 => ?_) (fun c24 => ?_)
            · skip
              refine r_aload_n dX3_move_169 rfl ?_
              refine r_getR dX3_move_170 fs_17_0 fk_X3_24 ?_
              refine r_getR dX3_move_173 fs_9_2 fk_X3_129 ?_
              refine r_iload_n dX3_move_176 rfl ?_
              refine r_iald dX3_move_177 as_12 (g1 c1) ?_
              exact q_weak (lo' := [some (.ref (ad 17)), none, none, some (.int (if (gI M 13 x1.toNatClampNeg) = 1 then 1 else 0)), some (.int (if (gI M 13 x2.toNatClampNeg) = 1 then 1 else 0)), some (.int ((gI M 10 x2.toNatClampNeg) - (gI M 10 x1.toNatClampNeg))), none]) ⟨rfl, rfl, rfl, rfl, trivial⟩ (by have h9 := hJ14; simp only [if_pos c24] at h9; exact h9)
            · skip
              refine r_iconst (v := 1) dX3_move_165 kI_1 ?_
              refine r_goto (tgt := 178) dX3_move_166 (by decide) ?_
              exact q_weak (lo' := [some (.ref (ad 17)), none, none, some (.int (if (gI M 13 x1.toNatClampNeg) = 1 then 1 else 0)), some (.int (if (gI M 13 x2.toNatClampNeg) = 1 then 1 else 0)), some (.int ((gI M 10 x2.toNatClampNeg) - (gI M 10 x1.toNatClampNeg))), none]) ⟨rfl, rfl, rfl, rfl, trivial⟩ (by have h9 := hJ14; simp only [if_neg c24] at h9; exact h9)
          refine r_aload_n dX3_move_178 rfl ?_
          refine r_getR dX3_move_179 fs_17_1 fk_X3_28 ?_
          refine r_getR dX3_move_182 fs_14_0 fk_X3_132 ?_
          refine r_iconst (v := 0) dX3_move_185 kI_0 ?_
          refine r_iald dX3_move_186 as_15 (by unfold vp_in; decide) ?_
          refine r_iadd dX3_move_187 ?_
          refine q_istore (lo' := [some (.ref (ad 17)), none, none, some (.int (if (gI M 13 x1.toNatClampNeg) = 1 then 1 else 0)), some (.int (if (gI M 13 x2.toNatClampNeg) = 1 then 1 else 0)), some (.int ((gI M 10 x2.toNatClampNeg) - (gI M 10 x1.toNatClampNeg))), some (.int ((if (if (gI M 13 x1.toNatClampNeg) = 1 then 1 else 0 : Int32) = 0 then gI M 12 x1.toNatClampNeg else 1) + (gI M 15 (0 : Int32).toNatClampNeg)))]) dX3_move_188 (by decide) rfl ?_
          refine r_iload_n dX3_move_190 rfl ?_
          suffices hJ15 : Fw l D ad kA mX3_move 213 [none, none, none, none, none, some (.int ((gI M 10 x2.toNatClampNeg) - (gI M 10 x1.toNatClampNeg))), some (.int (if (if (gI M 13 x1.toNatClampNeg) = 1 then 1 else 0 : Int32) = 0 then if (if (gI M 13 x2.toNatClampNeg) = 1 then 1 else 0 : Int32) = 0 then (if (if (gI M 13 x1.toNatClampNeg) = 1 then 1 else 0 : Int32) = 0 then gI M 12 x1.toNatClampNeg else 1) + (gI M 15 (0 : Int32).toNatClampNeg) else ((if (if (gI M 13 x1.toNatClampNeg) = 1 then 1 else 0 : Int32) = 0 then gI M 12 x1.toNatClampNeg else 1) + (gI M 15 (0 : Int32).toNatClampNeg)) + (gI M 15 (3 : Int32).toNatClampNeg) else ((if (if (gI M 13 x1.toNatClampNeg) = 1 then 1 else 0 : Int32) = 0 then gI M 12 x1.toNatClampNeg else 1) + (gI M 15 (0 : Int32).toNatClampNeg)) + (gI M 15 (3 : Int32).toNatClampNeg)))] [] M Q by
            refine r_if_ne (tgt := 199) dX3_move_191 (by decide) (fun c25 => ?_) (fun c25 => ?_)
            · skip
              refine r_iload dX3_move_199 rfl ?_
              refine r_aload_n dX3_move_201 rfl ?_
              refine r_getR dX3_move_202 fs_17_1 fk_X3_28 ?_
              refine r_getR dX3_move_205 fs_14_0 fk_X3_132 ?_
              refine r_iconst (v := 3) dX3_move_208 kI_3 ?_
              refine r_iald dX3_move_209 as_15 (by unfold vp_in; decide) ?_
              refine r_iadd dX3_move_210 ?_
              refine q_istore (lo' := [some (.ref (ad 17)), none, none, some (.int (if (gI M 13 x1.toNatClampNeg) = 1 then 1 else 0)), some (.int (if (gI M 13 x2.toNatClampNeg) = 1 then 1 else 0)), some (.int ((gI M 10 x2.toNatClampNeg) - (gI M 10 x1.toNatClampNeg))), some (.int (((if (if (gI M 13 x1.toNatClampNeg) = 1 then 1 else 0 : Int32) = 0 then gI M 12 x1.toNatClampNeg else 1) + (gI M 15 (0 : Int32).toNatClampNeg)) + (gI M 15 (3 : Int32).toNatClampNeg)))]) dX3_move_211 (by decide) rfl ?_
              exact q_weak (lo' := [none, none, none, none, none, some (.int ((gI M 10 x2.toNatClampNeg) - (gI M 10 x1.toNatClampNeg))), some (.int (((if (if (gI M 13 x1.toNatClampNeg) = 1 then 1 else 0 : Int32) = 0 then gI M 12 x1.toNatClampNeg else 1) + (gI M 15 (0 : Int32).toNatClampNeg)) + (gI M 15 (3 : Int32).toNatClampNeg)))]) ⟨rfl, rfl, trivial⟩ (by have h9 := hJ15; simp only [if_neg c25] at h9; exact h9)
            · skip
              refine r_iload dX3_move_194 rfl ?_
              refine r_if_eq (tgt := 213) dX3_move_196 (by decide) (fun c26 => ?_) (fun c26 => ?_)
              · skip
                exact q_weak (lo' := [none, none, none, none, none, some (.int ((gI M 10 x2.toNatClampNeg) - (gI M 10 x1.toNatClampNeg))), some (.int ((if (if (gI M 13 x1.toNatClampNeg) = 1 then 1 else 0 : Int32) = 0 then gI M 12 x1.toNatClampNeg else 1) + (gI M 15 (0 : Int32).toNatClampNeg)))]) ⟨rfl, rfl, trivial⟩ (by have h9 := hJ15; simp only [if_pos c25, if_pos c26] at h9; exact h9)
              · skip
                refine r_iload dX3_move_199 rfl ?_
                refine r_aload_n dX3_move_201 rfl ?_
                refine r_getR dX3_move_202 fs_17_1 fk_X3_28 ?_
                refine r_getR dX3_move_205 fs_14_0 fk_X3_132 ?_
                refine r_iconst (v := 3) dX3_move_208 kI_3 ?_
                refine r_iald dX3_move_209 as_15 (by unfold vp_in; decide) ?_
                refine r_iadd dX3_move_210 ?_
                refine q_istore (lo' := [some (.ref (ad 17)), none, none, some (.int (if (gI M 13 x1.toNatClampNeg) = 1 then 1 else 0)), some (.int (if (gI M 13 x2.toNatClampNeg) = 1 then 1 else 0)), some (.int ((gI M 10 x2.toNatClampNeg) - (gI M 10 x1.toNatClampNeg))), some (.int (((if (if (gI M 13 x1.toNatClampNeg) = 1 then 1 else 0 : Int32) = 0 then gI M 12 x1.toNatClampNeg else 1) + (gI M 15 (0 : Int32).toNatClampNeg)) + (gI M 15 (3 : Int32).toNatClampNeg)))]) dX3_move_211 (by decide) rfl ?_
                exact q_weak (lo' := [none, none, none, none, none, some (.int ((gI M 10 x2.toNatClampNeg) - (gI M 10 x1.toNatClampNeg))), some (.int (((if (if (gI M 13 x1.toNatClampNeg) = 1 then 1 else 0 : Int32) = 0 then gI M 12 x1.toNatClampNeg else 1) + (gI M 15 (0 : Int32).toNatClampNeg)) + (gI M 15 (3 : Int32).toNatClampNeg)))]) ⟨rfl, rfl, trivial⟩ (by have h9 := hJ15; simp only [if_pos c25, if_neg c26] at h9; exact h9)
          refine r_iload dX3_move_213 rfl ?_
          refine r_iload dX3_move_215 rfl ?_
          suffices hJ16 : Fw l D ad kA mX3_move 226 [none, none, none, none, none, none, none] [.int (if ((gI M 10 x2.toNatClampNeg) - (gI M 10 x1.toNatClampNeg)) < (if (if (gI M 13 x1.toNatClampNeg) = 1 then 1 else 0 : Int32) = 0 then if (if (gI M 13 x2.toNatClampNeg) = 1 then 1 else 0 : Int32) = 0 then (if (if (gI M 13 x1.toNatClampNeg) = 1 then 1 else 0 : Int32) = 0 then gI M 12 x1.toNatClampNeg else 1) + (gI M 15 (0 : Int32).toNatClampNeg) else ((if (if (gI M 13 x1.toNatClampNeg) = 1 then 1 else 0 : Int32) = 0 then gI M 12 x1.toNatClampNeg else 1) + (gI M 15 (0 : Int32).toNatClampNeg)) + (gI M 15 (3 : Int32).toNatClampNeg) else ((if (if (gI M 13 x1.toNatClampNeg) = 1 then 1 else 0 : Int32) = 0 then gI M 12 x1.toNatClampNeg else 1) + (gI M 15 (0 : Int32).toNatClampNeg)) + (gI M 15 (3 : Int32).toNatClampNeg) : Int32) then 16777216 else 1)] M Q by
            refine r_icmp_lt (tgt := 224) dX3_move_217 (by decide) (fun c27 => ?_) (fun c27 => ?_)
            · skip
              refine r_ldc (v := 16777216) dX3_move_224 co_X3_48 ?_
              exact q_weak (lo' := [none, none, none, none, none, none, none]) trivial (by have h9 := hJ16; simp only [if_pos c27] at h9; exact h9)
            · skip
              refine r_iconst (v := 1) dX3_move_220 kI_1 ?_
              refine r_goto (tgt := 226) dX3_move_221 (by decide) ?_
              exact q_weak (lo' := [none, none, none, none, none, none, none]) trivial (by have h9 := hJ16; simp only [if_neg c27] at h9; exact h9)
          exact r_iret dX3_move_226 rfl (by have h9 := h; simp only [v_X3_move, if_neg c1, if_neg c4, if_pos c22, if_neg c23] at h9; exact h9)
        · skip
          refine r_iload dX3_move_93 rfl ?_
          refine r_if_ne (tgt := 161) dX3_move_95 (by decide) (fun c28 => ?_) (fun c28 => ?_)
          · skip
            refine r_iload_n dX3_move_161 rfl ?_
            suffices hJ17 : Fw l D ad kA mX3_move 178 [some (.ref (ad 17)), none, none, some (.int (if (gI M 13 x1.toNatClampNeg) = 1 then 1 else 0)), some (.int (if (gI M 13 x2.toNatClampNeg) = 1 then 1 else 0)), some (.int ((gI M 10 x2.toNatClampNeg) - (gI M 10 x1.toNatClampNeg))), none] [.int (if (if (gI M 13 x1.toNatClampNeg) = 1 then 1 else 0 : Int32) = 0 then gI M 12 x1.toNatClampNeg else 1)] M Q by
              refine r_if_eq (tgt := 169) dX3_move_162 (by decide) (fun c29 => ?_) (fun c29 => ?_)
              · skip
                refine r_aload_n dX3_move_169 rfl ?_
                refine r_getR dX3_move_170 fs_17_0 fk_X3_24 ?_
                refine r_getR dX3_move_173 fs_9_2 fk_X3_129 ?_
                refine r_iload_n dX3_move_176 rfl ?_
                refine r_iald dX3_move_177 as_12 (g1 c1) ?_
                exact q_weak (lo' := [some (.ref (ad 17)), none, none, some (.int (if (gI M 13 x1.toNatClampNeg) = 1 then 1 else 0)), some (.int (if (gI M 13 x2.toNatClampNeg) = 1 then 1 else 0)), some (.int ((gI M 10 x2.toNatClampNeg) - (gI M 10 x1.toNatClampNeg))), none]) ⟨rfl, rfl, rfl, rfl, trivial⟩ (by have h9 := hJ17; simp only [if_pos c29] at h9; exact h9)
              · skip
                refine r_iconst (v := 1) dX3_move_165 kI_1 ?_
                refine r_goto (tgt := 178) dX3_move_166 (by decide) ?_
                exact q_weak (lo' := [some (.ref (ad 17)), none, none, some (.int (if (gI M 13 x1.toNatClampNeg) = 1 then 1 else 0)), some (.int (if (gI M 13 x2.toNatClampNeg) = 1 then 1 else 0)), some (.int ((gI M 10 x2.toNatClampNeg) - (gI M 10 x1.toNatClampNeg))), none]) ⟨rfl, rfl, rfl, rfl, trivial⟩ (by have h9 := hJ17; simp only [if_neg c29] at h9; exact h9)
            refine r_aload_n dX3_move_178 rfl ?_
            refine r_getR dX3_move_179 fs_17_1 fk_X3_28 ?_
            refine r_getR dX3_move_182 fs_14_0 fk_X3_132 ?_
            refine r_iconst (v := 0) dX3_move_185 kI_0 ?_
            refine r_iald dX3_move_186 as_15 (by unfold vp_in; decide) ?_
            refine r_iadd dX3_move_187 ?_
            refine q_istore (lo' := [some (.ref (ad 17)), none, none, some (.int (if (gI M 13 x1.toNatClampNeg) = 1 then 1 else 0)), some (.int (if (gI M 13 x2.toNatClampNeg) = 1 then 1 else 0)), some (.int ((gI M 10 x2.toNatClampNeg) - (gI M 10 x1.toNatClampNeg))), some (.int ((if (if (gI M 13 x1.toNatClampNeg) = 1 then 1 else 0 : Int32) = 0 then gI M 12 x1.toNatClampNeg else 1) + (gI M 15 (0 : Int32).toNatClampNeg)))]) dX3_move_188 (by decide) rfl ?_
            refine r_iload_n dX3_move_190 rfl ?_
            suffices hJ18 : Fw l D ad kA mX3_move 213 [none, none, none, none, none, some (.int ((gI M 10 x2.toNatClampNeg) - (gI M 10 x1.toNatClampNeg))), some (.int (if (if (gI M 13 x1.toNatClampNeg) = 1 then 1 else 0 : Int32) = 0 then if (if (gI M 13 x2.toNatClampNeg) = 1 then 1 else 0 : Int32) = 0 then (if (if (gI M 13 x1.toNatClampNeg) = 1 then 1 else 0 : Int32) = 0 then gI M 12 x1.toNatClampNeg else 1) + (gI M 15 (0 : Int32).toNatClampNeg) else ((if (if (gI M 13 x1.toNatClampNeg) = 1 then 1 else 0 : Int32) = 0 then gI M 12 x1.toNatClampNeg else 1) + (gI M 15 (0 : Int32).toNatClampNeg)) + (gI M 15 (3 : Int32).toNatClampNeg) else ((if (if (gI M 13 x1.toNatClampNeg) = 1 then 1 else 0 : Int32) = 0 then gI M 12 x1.toNatClampNeg else 1) + (gI M 15 (0 : Int32).toNatClampNeg)) + (gI M 15 (3 : Int32).toNatClampNeg)))] [] M Q by
              refine r_if_ne (tgt := 199) dX3_move_191 (by decide) (fun c30 => ?_) (fun c30 => ?_)
              · skip
                refine r_iload dX3_move_199 rfl ?_
                refine r_aload_n dX3_move_201 rfl ?_
                refine r_getR dX3_move_202 fs_17_1 fk_X3_28 ?_
                refine r_getR dX3_move_205 fs_14_0 fk_X3_132 ?_
                refine r_iconst (v := 3) dX3_move_208 kI_3 ?_
                refine r_iald dX3_move_209 as_15 (by unfold vp_in; decide) ?_
                refine r_iadd dX3_move_210 ?_
                refine q_istore (lo' := [some (.ref (ad 17)), none, none, some (.int (if (gI M 13 x1.toNatClampNeg) = 1 then 1 else 0)), some (.int (if (gI M 13 x2.toNatClampNeg) = 1 then 1 else 0)), some (.int ((gI M 10 x2.toNatClampNeg) - (gI M 10 x1.toNatClampNeg))), some (.int (((if (if (gI M 13 x1.toNatClampNeg) = 1 then 1 else 0 : Int32) = 0 then gI M 12 x1.toNatClampNeg else 1) + (gI M 15 (0 : Int32).toNatClampNeg)) + (gI M 15 (3 : Int32).toNatClampNeg)))]) dX3_move_211 (by decide) rfl ?_
                exact q_weak (lo' := [none, none, none, none, none, some (.int ((gI M 10 x2.toNatClampNeg) - (gI M 10 x1.toNatClampNeg))), some (.int (((if (if (gI M 13 x1.toNatClampNeg) = 1 then 1 else 0 : Int32) = 0 then gI M 12 x1.toNatClampNeg else 1) + (gI M 15 (0 : Int32).toNatClampNeg)) + (gI M 15 (3 : Int32).toNatClampNeg)))]) ⟨rfl, rfl, trivial⟩ (by have h9 := hJ18; simp only [if_neg c30] at h9; exact h9)
              · skip
                refine r_iload dX3_move_194 rfl ?_
                refine r_if_eq (tgt := 213) dX3_move_196 (by decide) (fun c31 => ?_) (fun c31 => ?_)
                · skip
                  exact q_weak (lo' := [none, none, none, none, none, some (.int ((gI M 10 x2.toNatClampNeg) - (gI M 10 x1.toNatClampNeg))), some (.int ((if (if (gI M 13 x1.toNatClampNeg) = 1 then 1 else 0 : Int32) = 0 then gI M 12 x1.toNatClampNeg else 1) + (gI M 15 (0 : Int32).toNatClampNeg)))]) ⟨rfl, rfl, trivial⟩ (by have h9 := hJ18; simp only [if_pos c30, if_pos c31] at h9; exact h9)
                · skip
                  refine r_iload dX3_move_199 rfl ?_
                  refine r_aload_n dX3_move_201 rfl ?_
                  refine r_getR dX3_move_202 fs_17_1 fk_X3_28 ?_
                  refine r_getR dX3_move_205 fs_14_0 fk_X3_132 ?_
                  refine r_iconst (v := 3) dX3_move_208 kI_3 ?_
                  refine r_iald dX3_move_209 as_15 (by unfold vp_in; decide) ?_
                  refine r_iadd dX3_move_210 ?_
                  refine q_istore (lo' := [some (.ref (ad 17)), none, none, some (.int (if (gI M 13 x1.toNatClampNeg) = 1 then 1 else 0)), some (.int (if (gI M 13 x2.toNatClampNeg) = 1 then 1 else 0)), some (.int ((gI M 10 x2.toNatClampNeg) - (gI M 10 x1.toNatClampNeg))), some (.int (((if (if (gI M 13 x1.toNatClampNeg) = 1 then 1 else 0 : Int32) = 0 then gI M 12 x1.toNatClampNeg else 1) + (gI M 15 (0 : Int32).toNatClampNeg)) + (gI M 15 (3 : Int32).toNatClampNeg)))]) dX3_move_211 (by decide) rfl ?_
                  exact q_weak (lo' := [none, none, none, none, none, some (.int ((gI M 10 x2.toNatClampNeg) - (gI M 10 x1.toNatClampNeg))), some (.int (((if (if (gI M 13 x1.toNatClampNeg) = 1 then 1 else 0 : Int32) = 0 then gI M 12 x1.toNatClampNeg else 1) + (gI M 15 (0 : Int32).toNatClampNeg)) + (gI M 15 (3 : Int32).toNatClampNeg)))]) ⟨rfl, rfl, trivial⟩ (by have h9 := hJ18; simp only [if_pos c30, if_neg c31] at h9; exact h9)
            refine r_iload dX3_move_213 rfl ?_
            refine r_iload dX3_move_215 rfl ?_
            suffices hJ19 : Fw l D ad kA mX3_move 226 [none, none, none, none, none, none, none] [.int (if ((gI M 10 x2.toNatClampNeg) - (gI M 10 x1.toNatClampNeg)) < (if (if (gI M 13 x1.toNatClampNeg) = 1 then 1 else 0 : Int32) = 0 then if (if (gI M 13 x2.toNatClampNeg) = 1 then 1 else 0 : Int32) = 0 then (if (if (gI M 13 x1.toNatClampNeg) = 1 then 1 else 0 : Int32) = 0 then gI M 12 x1.toNatClampNeg else 1) + (gI M 15 (0 : Int32).toNatClampNeg) else ((if (if (gI M 13 x1.toNatClampNeg) = 1 then 1 else 0 : Int32) = 0 then gI M 12 x1.toNatClampNeg else 1) + (gI M 15 (0 : Int32).toNatClampNeg)) + (gI M 15 (3 : Int32).toNatClampNeg) else ((if (if (gI M 13 x1.toNatClampNeg) = 1 then 1 else 0 : Int32) = 0 then gI M 12 x1.toNatClampNeg else 1) + (gI M 15 (0 : Int32).toNatClampNeg)) + (gI M 15 (3 : Int32).toNatClampNeg) : Int32) then 16777216 else 1)] M Q by
              refine r_icmp_lt (tgt := 224) dX3_move_217 (by decide) (fun c32 => ?_) (fun c32 => ?_)
              · skip
                refine r_ldc (v := 16777216) dX3_move_224 co_X3_48 ?_
                exact q_weak (lo' := [none, none, none, none, none, none, none]) trivial (by have h9 := hJ19; simp only [if_pos c32] at h9; exact h9)
              · skip
                refine r_iconst (v := 1) dX3_move_220 kI_1 ?_
                refine r_goto (tgt := 226) dX3_move_221 (by decide) ?_
                exact q_weak (lo' := [none, none, none, none, none, none, none]) trivial (by have h9 := hJ19; simp only [if_neg c32] at h9; exact h9)
            exact r_iret dX3_move_226 rfl (by have h9 := h; simp only [v_X3_move, if_neg c1, if_neg c4, if_pos c22, if_pos c23, if_neg c28] at h9; exact h9)
          · skip
            refine r_aload_n dX3_move_98 rfl ?_
            refine r_getR dX3_move_99 fs_17_0 fk_X3_24 ?_
            refine r_getR dX3_move_102 fs_9_1 fk_X3_126 ?_
            refine r_iload_n dX3_move_105 rfl ?_
            refine r_iald dX3_move_106 as_11 (g1 c1) ?_
            refine r_aload_n dX3_move_107 rfl ?_
            refine r_getR dX3_move_108 fs_17_0 fk_X3_24 ?_
            refine r_getR dX3_move_111 fs_9_1 fk_X3_126 ?_
            refine r_iload_n dX3_move_114 rfl ?_
            refine r_iald dX3_move_115 as_11 (g2 c1) ?_
            refine r_icmp_ne (tgt := 161) dX3_move_116 (by decide) (fun c33 => ?_) (fun c33 => ?_)
            · skip
              refine r_iload_n dX3_move_161 rfl ?_
              suffices hJ20 : Fw l D ad kA mX3_move 178 [some (.ref (ad 17)), none, none, some (.int (if (gI M 13 x1.toNatClampNeg) = 1 then 1 else 0)), some (.int (if (gI M 13 x2.toNatClampNeg) = 1 then 1 else 0)), some (.int ((gI M 10 x2.toNatClampNeg) - (gI M 10 x1.toNatClampNeg))), none] [.int (if (if (gI M 13 x1.toNatClampNeg) = 1 then 1 else 0 : Int32) = 0 then gI M 12 x1.toNatClampNeg else 1)] M Q by
                refine r_if_eq (tgt := 169) dX3_move_162 (by decide) (fun c34 => ?_) (fun c34 => ?_)
                · skip
                  refine r_aload_n dX3_move_169 rfl ?_
                  refine r_getR dX3_move_170 fs_17_0 fk_X3_24 ?_
                  refine r_getR dX3_move_173 fs_9_2 fk_X3_129 ?_
                  refine r_iload_n dX3_move_176 rfl ?_
                  refine r_iald dX3_move_177 as_12 (g1 c1) ?_
                  exact q_weak (lo' := [some (.ref (ad 17)), none, none, some (.int (if (gI M 13 x1.toNatClampNeg) = 1 then 1 else 0)), some (.int (if (gI M 13 x2.toNatClampNeg) = 1 then 1 else 0)), some (.int ((gI M 10 x2.toNatClampNeg) - (gI M 10 x1.toNatClampNeg))), none]) ⟨rfl, rfl, rfl, rfl, trivial⟩ (by have h9 := hJ20; simp only [if_pos c34] at h9; exact h9)
                · skip
                  refine r_iconst (v := 1) dX3_move_165 kI_1 ?_
                  refine r_goto (tgt := 178) dX3_move_166 (by decide) ?_
                  exact q_weak (lo' := [some (.ref (ad 17)), none, none, some (.int (if (gI M 13 x1.toNatClampNeg) = 1 then 1 else 0)), some (.int (if (gI M 13 x2.toNatClampNeg) = 1 then 1 else 0)), some (.int ((gI M 10 x2.toNatClampNeg) - (gI M 10 x1.toNatClampNeg))), none]) ⟨rfl, rfl, rfl, rfl, trivial⟩ (by have h9 := hJ20; simp only [if_neg c34] at h9; exact h9)
              refine r_aload_n dX3_move_178 rfl ?_
              refine r_getR dX3_move_179 fs_17_1 fk_X3_28 ?_
              refine r_getR dX3_move_182 fs_14_0 fk_X3_132 ?_
              refine r_iconst (v := 0) dX3_move_185 kI_0 ?_
              refine r_iald dX3_move_186 as_15 (by unfold vp_in; decide) ?_
              refine r_iadd dX3_move_187 ?_
              refine q_istore (lo' := [some (.ref (ad 17)), none, none, some (.int (if (gI M 13 x1.toNatClampNeg) = 1 then 1 else 0)), some (.int (if (gI M 13 x2.toNatClampNeg) = 1 then 1 else 0)), some (.int ((gI M 10 x2.toNatClampNeg) - (gI M 10 x1.toNatClampNeg))), some (.int ((if (if (gI M 13 x1.toNatClampNeg) = 1 then 1 else 0 : Int32) = 0 then gI M 12 x1.toNatClampNeg else 1) + (gI M 15 (0 : Int32).toNatClampNeg)))]) dX3_move_188 (by decide) rfl ?_
              refine r_iload_n dX3_move_190 rfl ?_
              suffices hJ21 : Fw l D ad kA mX3_move 213 [none, none, none, none, none, some (.int ((gI M 10 x2.toNatClampNeg) - (gI M 10 x1.toNatClampNeg))), some (.int (if (if (gI M 13 x1.toNatClampNeg) = 1 then 1 else 0 : Int32) = 0 then if (if (gI M 13 x2.toNatClampNeg) = 1 then 1 else 0 : Int32) = 0 then (if (if (gI M 13 x1.toNatClampNeg) = 1 then 1 else 0 : Int32) = 0 then gI M 12 x1.toNatClampNeg else 1) + (gI M 15 (0 : Int32).toNatClampNeg) else ((if (if (gI M 13 x1.toNatClampNeg) = 1 then 1 else 0 : Int32) = 0 then gI M 12 x1.toNatClampNeg else 1) + (gI M 15 (0 : Int32).toNatClampNeg)) + (gI M 15 (3 : Int32).toNatClampNeg) else ((if (if (gI M 13 x1.toNatClampNeg) = 1 then 1 else 0 : Int32) = 0 then gI M 12 x1.toNatClampNeg else 1) + (gI M 15 (0 : Int32).toNatClampNeg)) + (gI M 15 (3 : Int32).toNatClampNeg)))] [] M Q by
                refine r_if_ne (tgt := 199) dX3_move_191 (by decide) (fun c35 => ?_) (fun c35 => ?_)
                · skip
                  refine r_iload dX3_move_199 rfl ?_
                  refine r_aload_n dX3_move_201 rfl ?_
                  refine r_getR dX3_move_202 fs_17_1 fk_X3_28 ?_
                  refine r_getR dX3_move_205 fs_14_0 fk_X3_132 ?_
                  refine r_iconst (v := 3) dX3_move_208 kI_3 ?_
                  refine r_iald dX3_move_209 as_15 (by unfold vp_in; decide) ?_
                  refine r_iadd dX3_move_210 ?_
                  refine q_istore (lo' := [some (.ref (ad 17)), none, none, some (.int (if (gI M 13 x1.toNatClampNeg) = 1 then 1 else 0)), some (.int (if (gI M 13 x2.toNatClampNeg) = 1 then 1 else 0)), some (.int ((gI M 10 x2.toNatClampNeg) - (gI M 10 x1.toNatClampNeg))), some (.int (((if (if (gI M 13 x1.toNatClampNeg) = 1 then 1 else 0 : Int32) = 0 then gI M 12 x1.toNatClampNeg else 1) + (gI M 15 (0 : Int32).toNatClampNeg)) + (gI M 15 (3 : Int32).toNatClampNeg)))]) dX3_move_211 (by decide) rfl ?_
                  exact q_weak (lo' := [none, none, none, none, none, some (.int ((gI M 10 x2.toNatClampNeg) - (gI M 10 x1.toNatClampNeg))), some (.int (((if (if (gI M 13 x1.toNatClampNeg) = 1 then 1 else 0 : Int32) = 0 then gI M 12 x1.toNatClampNeg else 1) + (gI M 15 (0 : Int32).toNatClampNeg)) + (gI M 15 (3 : Int32).toNatClampNeg)))]) ⟨rfl, rfl, trivial⟩ (by have h9 := hJ21; simp only [if_neg c35] at h9; exact h9)
                · skip
                  refine r_iload dX3_move_194 rfl ?_
                  refine r_if_eq (tgt := 213) dX3_move_196 (by decide) (fun c36 => ?_) (fun c36 => ?_)
                  · skip
                    exact q_weak (lo' := [none, none, none, none, none, some (.int ((gI M 10 x2.toNatClampNeg) - (gI M 10 x1.toNatClampNeg))), some (.int ((if (if (gI M 13 x1.toNatClampNeg) = 1 then 1 else 0 : Int32) = 0 then gI M 12 x1.toNatClampNeg else 1) + (gI M 15 (0 : Int32).toNatClampNeg)))]) ⟨rfl, rfl, trivial⟩ (by have h9 := hJ21; simp only [if_pos c35, if_pos c36] at h9; exact h9)
                  · skip
                    refine r_iload dX3_move_199 rfl ?_
                    refine r_aload_n dX3_move_201 rfl ?_
                    refine r_getR dX3_move_202 fs_17_1 fk_X3_28 ?_
                    refine r_getR dX3_move_205 fs_14_0 fk_X3_132 ?_
                    refine r_iconst (v := 3) dX3_move_208 kI_3 ?_
                    refine r_iald dX3_move_209 as_15 (by unfold vp_in; decide) ?_
                    refine r_iadd dX3_move_210 ?_
                    refine q_istore (lo' := [some (.ref (ad 17)), none, none, some (.int (if (gI M 13 x1.toNatClampNeg) = 1 then 1 else 0)), some (.int (if (gI M 13 x2.toNatClampNeg) = 1 then 1 else 0)), some (.int ((gI M 10 x2.toNatClampNeg) - (gI M 10 x1.toNatClampNeg))), some (.int (((if (if (gI M 13 x1.toNatClampNeg) = 1 then 1 else 0 : Int32) = 0 then gI M 12 x1.toNatClampNeg else 1) + (gI M 15 (0 : Int32).toNatClampNeg)) + (gI M 15 (3 : Int32).toNatClampNeg)))]) dX3_move_211 (by decide) rfl ?_
                    exact q_weak (lo' := [none, none, none, none, none, some (.int ((gI M 10 x2.toNatClampNeg) - (gI M 10 x1.toNatClampNeg))), some (.int (((if (if (gI M 13 x1.toNatClampNeg) = 1 then 1 else 0 : Int32) = 0 then gI M 12 x1.toNatClampNeg else 1) + (gI M 15 (0 : Int32).toNatClampNeg)) + (gI M 15 (3 : Int32).toNatClampNeg)))]) ⟨rfl, rfl, trivial⟩ (by have h9 := hJ21; simp only [if_pos c35, if_neg c36] at h9; exact h9)
              refine r_iload dX3_move_213 rfl ?_
              refine r_iload dX3_move_215 rfl ?_
              suffices hJ22 : Fw l D ad kA mX3_move 226 [none, none, none, none, none, none, none] [.int (if ((gI M 10 x2.toNatClampNeg) - (gI M 10 x1.toNatClampNeg)) < (if (if (gI M 13 x1.toNatClampNeg) = 1 then 1 else 0 : Int32) = 0 then if (if (gI M 13 x2.toNatClampNeg) = 1 then 1 else 0 : Int32) = 0 then (if (if (gI M 13 x1.toNatClampNeg) = 1 then 1 else 0 : Int32) = 0 then gI M 12 x1.toNatClampNeg else 1) + (gI M 15 (0 : Int32).toNatClampNeg) else ((if (if (gI M 13 x1.toNatClampNeg) = 1 then 1 else 0 : Int32) = 0 then gI M 12 x1.toNatClampNeg else 1) + (gI M 15 (0 : Int32).toNatClampNeg)) + (gI M 15 (3 : Int32).toNatClampNeg) else ((if (if (gI M 13 x1.toNatClampNeg) = 1 then 1 else 0 : Int32) = 0 then gI M 12 x1.toNatClampNeg else 1) + (gI M 15 (0 : Int32).toNatClampNeg)) + (gI M 15 (3 : Int32).toNatClampNeg) : Int32) then 16777216 else 1)] M Q by
                refine r_icmp_lt (tgt := 224) dX3_move_217 (by decide) (fun c37 => ?_) (fun c37 => ?_)
                · skip
                  refine r_ldc (v := 16777216) dX3_move_224 co_X3_48 ?_
                  exact q_weak (lo' := [none, none, none, none, none, none, none]) trivial (by have h9 := hJ22; simp only [if_pos c37] at h9; exact h9)
                · skip
                  refine r_iconst (v := 1) dX3_move_220 kI_1 ?_
                  refine r_goto (tgt := 226) dX3_move_221 (by decide) ?_
                  exact q_weak (lo' := [none, none, none, none, none, none, none]) trivial (by have h9 := hJ22; simp only [if_neg c37] at h9; exact h9)
              exact r_iret dX3_move_226 rfl (by have h9 := h; simp only [v_X3_move, if_neg c1, if_neg c4, if_pos c22, if_pos c23, if_pos c28, if_neg c33] at h9; exact h9)
            · skip
              refine r_aload_n dX3_move_119 rfl ?_
              refine r_getR dX3_move_120 fs_17_0 fk_X3_24 ?_
              refine r_getR dX3_move_123 fs_9_3 fk_X3_120 ?_
              refine r_iload_n dX3_move_126 rfl ?_
              refine r_iald dX3_move_127 as_13 (g1 c1) ?_
              refine r_iconst (v := 2) dX3_move_128 kI_2 ?_
              suffices hJ23 : Fw l D ad kA mX3_move 145 [none, none, none, none, none, some (.int ((gI M 10 x2.toNatClampNeg) - (gI M 10 x1.toNatClampNeg))), none] [.int (if (gI M 13 x1.toNatClampNeg) = 2 then gI M 12 x1.toNatClampNeg else 1)] M Q by
                refine r_icmp_ne (tgt := 144) dX3_move_129 (by decide) (fun c38 => ?_) (fun c38 => ?_)
                · skip
                  refine r_iconst (v := 1) dX3_move_144 kI_1 ?_
                  exact q_weak (lo' := [none, none, none, none, none, some (.int ((gI M 10 x2.toNatClampNeg) - (gI M 10 x1.toNatClampNeg))), none]) ⟨rfl, trivial⟩ (by have h9 := hJ23; simp only [if_neg c38] at h9; exact h9)
                · skip
                  refine r_aload_n dX3_move_132 rfl ?_
                  refine r_getR dX3_move_133 fs_17_0 fk_X3_24 ?_
                  refine r_getR dX3_move_136 fs_9_2 fk_X3_129 ?_
                  refine r_iload_n dX3_move_139 rfl ?_
                  refine r_iald dX3_move_140 as_12 (g1 c1) ?_
                  refine r_goto (tgt := 145) dX3_move_141 (by decide) ?_
                  exact q_weak (lo' := [none, none, none, none, none, some (.int ((gI M 10 x2.toNatClampNeg) - (gI M 10 x1.toNatClampNeg))), none]) ⟨rfl, trivial⟩ (by have h9 := hJ23; simp only [if_pos c38] at h9; exact h9)
              refine q_istore (lo' := [none, none, none, none, none, some (.int ((gI M 10 x2.toNatClampNeg) - (gI M 10 x1.toNatClampNeg))), some (.int (if (gI M 13 x1.toNatClampNeg) = 2 then gI M 12 x1.toNatClampNeg else 1))]) dX3_move_145 (by decide) rfl ?_
              refine r_iload dX3_move_147 rfl ?_
              refine r_iload dX3_move_149 rfl ?_
              suffices hJ24 : Fw l D ad kA mX3_move 160 [none, none, none, none, none, none, none] [.int (if ((gI M 10 x2.toNatClampNeg) - (gI M 10 x1.toNatClampNeg)) < (if (gI M 13 x1.toNatClampNeg) = 2 then gI M 12 x1.toNatClampNeg else 1 : Int32) then 16777216 else 0)] M Q by
                refine r_icmp_lt (tgt := 158) dX3_move_151 (by decide) (fun c39 => ?_) (fun c39 => ?_)
                · skip
                  refine r_ldc (v := 16777216) dX3_move_158 co_X3_48 ?_
                  exact q_weak (lo' := [none, none, none, none, none, none, none]) trivial (by have h9 := hJ24; simp only [if_pos c39] at h9; exact h9)
                · skip
                  refine r_iconst (v := 0) dX3_move_154 kI_0 ?_
                  refine r_goto (tgt := 160) dX3_move_155 (by decide) ?_
                  exact q_weak (lo' := [none, none, none, none, none, none, none]) trivial (by have h9 := hJ24; simp only [if_neg c39] at h9; exact h9)
              exact r_iret dX3_move_160 rfl (by have h9 := h; simp only [v_X3_move, if_neg c1, if_neg c4, if_pos c22, if_pos c23, if_pos c28, if_pos c33] at h9; exact h9)
      · skip
        refine r_iload dX3_move_76 rfl ?_
        refine r_iconst (v := 1) dX3_move_78 kI_1 ?_
        suffices hJ25 : Fw l D ad kA mX3_move 88 [none, none, none, none, none, none, none] [.int (if ((gI M 10 x2.toNatClampNeg) - (gI M 10 x1.toNatClampNeg)) < 1 then 16777216 else 0)] M Q by
          refine r_icmp_lt (tgt := 86) dX3_move_79 (by decide) (fun c40 => ?_) (fun c40 => ?_)
          · skip
            refine r_ldc (v := 16777216) dX3_move_86 co_X3_48 ?_
            exact q_weak (lo' := [none, none, none, none, none, none, none]) trivial (by have h9 := hJ25; simp only [if_pos c40] at h9; exact h9)
          · skip
            refine r_iconst (v := 0) dX3_move_82 kI_0 ?_
            refine r_goto (tgt := 88) dX3_move_83 (by decide) ?_
            exact q_weak (lo' := [none, none, none, none, none, none, none]) trivial (by have h9 := hJ25; simp only [if_neg c40] at h9; exact h9)
        exact r_iret dX3_move_88 rfl (by have h9 := h; simp only [v_X3_move, if_neg c1, if_neg c4, if_neg c22] at h9; exact h9)
  · skip
    refine r_iconst (v := 0) dX3_move_5 kI_0 ?_
    exact r_iret dX3_move_6 rfl (by have h9 := h; simp only [v_X3_move, if_pos c1] at h9; exact h9)
def v_X3_step (M : Mem) (x1 : Int32) (x2 : Int32) (x3 : Int32) : Int32 := if (v_X3_holds M x2 x3) = 0 then v_X3_move M x1 x3 else 16777216
def g_X3_step (M : Mem) (x1 : Int32) (x2 : Int32) (x3 : Int32) : Prop := (g_X3_holds M x2 x3) ∧ (((v_X3_holds M x2 x3) = 0) → g_X3_move M x1 x3)
theorem ct_X3_step {x1 : Int32} {x2 : Int32} {x3 : Int32}  (g : g_X3_step M x1 x2 x3) (h : Q (.returned (some (.int (v_X3_step M x1 x2 x3)))) M) : Cal l D ad kA mX3_step [.ref (ad 17), .int x1, .int x2, .int x3] M Q := by
  refine Cal.of (lo := [some (.ref (ad 17)), some (.int x1), some (.int x2), some (.int x3)]) (by decide) rfl rfl (Nat.le_of_ble_eq_true rfl) ?_
  obtain ⟨g1, g2⟩ := g
  refine r_aload_n dX3_step_0 rfl ?_
  refine r_iload_n dX3_step_1 rfl ?_
  refine r_iload_n dX3_step_2 rfl ?_
  refine r_callV (x := 17) (As := [.int x2, .int x3]) (rest := []) dX3_step_3 mk_X3_96 mv_X3_holds rm_X3_step_X3_holds rfl rfl (by decide +kernel) (Nat.le_of_ble_eq_true rfl) (ct_X3_holds g1 (⟨_, rfl, ?_⟩))
  suffices hJ1 : Fw l D ad kA mX3_step 20 [none, none, none, none] [.int (if (v_X3_holds M x2 x3) = 0 then v_X3_move M x1 x3 else 16777216)] M Q by
    refine r_if_eq (tgt := 14) dX3_step_6 (by decide) (fun c1 => ?_) (fun c1 => ?_)
    · skip
      refine r_aload_n dX3_step_14 rfl ?_
      refine r_iload_n dX3_step_15 rfl ?_
      refine r_iload_n dX3_step_16 rfl ?_
      refine r_callV (x := 17) (As := [.int x1, .int x3]) (rest := []) dX3_step_17 mk_X3_93 mv_X3_move rm_X3_step_X3_move rfl rfl (by decide +kernel) (Nat.le_of_ble_eq_true rfl) (ct_X3_move (g2 c1) (⟨_, rfl, ?_⟩))
      exact q_weak (lo' := [none, none, none, none]) trivial (by have h9 := hJ1; simp only [if_pos c1] at h9; exact h9)
    · skip
      refine r_ldc (v := 16777216) dX3_step_9 co_X3_48 ?_
      refine r_goto (tgt := 20) dX3_step_11 (by decide) ?_
      exact q_weak (lo' := [none, none, none, none]) trivial (by have h9 := hJ1; simp only [if_neg c1] at h9; exact h9)
  exact r_iret dX3_step_20 rfl h
theorem t_X3_gather_0 {z1 : Int64} 
    (K1 : Fw l D ad kA mX3_gather 7 [some (.ref (ad 17)), some (.long z1), none, some (.int 0)] [] (sI M 17 5 0) Q) : Fw l D ad kA mX3_gather 0 [some (.ref (ad 17)), some (.long z1), none, none] [] M Q := by
  refine r_aload_n dX3_gather_0 rfl ?_
  refine r_iconst (v := 0) dX3_gather_1 kI_0 ?_
  refine r_putI dX3_gather_2 fs_17_5 fk_X3_52 fp_X3_5 ?_
  refine r_iconst (v := 0) dX3_gather_5 kI_0 ?_
  refine q_istore_n (lo' := [some (.ref (ad 17)), some (.long z1), none, some (.int 0)]) dX3_gather_6 (by decide) rfl ?_
  exact K1
theorem t_X3_gather_7 {z1 : Int64} {x3 : Int32} 
    (g1 : (¬ ((gI M 9 4) ≤ x3)) → g_X9_isOn M z1 x3)
    (g2 : (¬ ((gI M 9 4) ≤ x3)) → (¬ ((v_X9_isOn M z1 x3) = 0)) → vp_in (gI M 17 5) 160)
    (K1 : ((gI M 9 4) ≤ x3) → Q (.returned none) M)
    (K2 : (¬ ((gI M 9 4) ≤ x3)) → ((v_X9_isOn M z1 x3) = 0) → Fw l D ad kA mX3_gather 7 [some (.ref (ad 17)), some (.long z1), none, some (.int (x3 + 1))] [] M Q)
    (K3 : (¬ ((gI M 9 4) ≤ x3)) → (¬ ((v_X9_isOn M z1 x3) = 0)) → Fw l D ad kA mX3_gather 7 [some (.ref (ad 17)), some (.long z1), none, some (.int (x3 + 1))] [] (sI (sI M 19 (gI M 17 5).toNatClampNeg x3) 17 5 ((gI (sI M 19 (gI M 17 5).toNatClampNeg x3) 17 5) + 1)) Q) : Fw l D ad kA mX3_gather 7 [some (.ref (ad 17)), some (.long z1), none, some (.int x3)] [] M Q := by
  refine r_iload_n dX3_gather_7 rfl ?_
  refine r_aload_n dX3_gather_8 rfl ?_
  refine r_getR dX3_gather_9 fs_17_0 fk_X3_24 ?_
  refine r_getI dX3_gather_12 fs_9_4 fk_X3_64 ?_
  refine r_icmp_ge (tgt := 56) dX3_gather_15 (by decide) (fun c1 => ?_) (fun c1 => ?_)
  · skip
    exact r_vret dX3_gather_56 rfl (K1 c1)
  · skip
    refine r_aload_n dX3_gather_18 rfl ?_
    refine r_getR dX3_gather_19 fs_17_0 fk_X3_24 ?_
    refine r_lload_n dX3_gather_22 rfl ?_
    refine r_iload_n dX3_gather_23 rfl ?_
    refine r_callV (x := 9) (As := [.long z1, .int x3]) (rest := []) dX3_gather_24 mk_X3_67 mv_X9_isOn rm_X3_gather_X9_isOn rfl rfl (by decide +kernel) (Nat.le_of_ble_eq_true rfl) (ct_X9_isOn (g1 c1) (⟨_, rfl, ?_⟩))
    refine r_if_eq (tgt := 50) dX3_gather_27 (by decide) (fun c2 => ?_) (fun c2 => ?_)
    · skip
      refine q_iinc (v := x3 + 1) (lo' := [some (.ref (ad 17)), some (.long z1), none, some (.int (x3 + 1))]) dX3_gather_50 rfl (congrArg (fun q => x3 + q) kI_1) (by decide) rfl ?_
      refine r_goto (tgt := 7) dX3_gather_53 (by decide) ?_
      exact (K2 c1 c2)
    · skip
      refine r_aload_n dX3_gather_30 rfl ?_
      refine r_getR dX3_gather_31 fs_17_4 fk_X3_15 ?_
      refine r_aload_n dX3_gather_34 rfl ?_
      refine r_getI dX3_gather_35 fs_17_5 fk_X3_52 ?_
      refine r_iload_n dX3_gather_38 rfl ?_
      refine r_iast dX3_gather_39 as_19 (g2 c1 c2) ?_
      refine r_aload_n dX3_gather_40 rfl ?_
      refine r_dup dX3_gather_41 rfl ?_
      refine r_getI dX3_gather_42 fs_17_5 fk_X3_52 ?_
      refine r_iconst (v := 1) dX3_gather_45 kI_1 ?_
      refine r_iadd dX3_gather_46 ?_
      refine r_putI dX3_gather_47 fs_17_5 fk_X3_52 fp_X3_5 ?_
      refine q_iinc (v := x3 + 1) (lo' := [some (.ref (ad 17)), some (.long z1), none, some (.int (x3 + 1))]) dX3_gather_50 rfl (congrArg (fun q => x3 + q) kI_1) (by decide) rfl ?_
      refine r_goto (tgt := 7) dX3_gather_53 (by decide) ?_
      exact (K3 c1 c2)
theorem en_X3_gather {z1 : Int64} (K : Fw l D ad kA mX3_gather 0 [some (.ref (ad 17)), some (.long z1), none, none] [] M Q) : Cal l D ad kA mX3_gather [.ref (ad 17), .long z1] M Q := Cal.of (by decide) rfl rfl (Nat.le_of_ble_eq_true rfl) K
theorem t_X3_stepBack_0 {x1 : Int32} 
    (g1 : vp_in x1 160)
    (g2 : vp_in (x1 - 1) 160)
    (g3 : g_X3_move M (gI M 19 (x1 - 1).toNatClampNeg) (gI M 19 x1.toNatClampNeg))
    (g4 : g_X3_holds M (gI M 19 (x1 - 1).toNatClampNeg) (gI M 19 x1.toNatClampNeg))
    (g5 : ((v_X3_holds M (gI M 19 (x1 - 1).toNatClampNeg) (gI M 19 x1.toNatClampNeg)) = 0) → vp_in ((v_X3_place (x1 + 1) 0) + x1) 12880)
    (K1 : Fw l D ad kA mX3_stepBack 71 [some (.ref (ad 17)), some (.int x1), some (.int (gI M 19 x1.toNatClampNeg)), none, some (.int (v_X3_place x1 0)), some (.int (v_X3_place (x1 + 1) 0)), some (.int (v_X3_move M (gI M 19 (x1 - 1).toNatClampNeg) (gI M 19 x1.toNatClampNeg))), some (.int (if (v_X3_holds M (gI M 19 (x1 - 1).toNatClampNeg) (gI M 19 x1.toNatClampNeg)) = 0 then gI M 20 ((v_X3_place (x1 + 1) 0) + x1).toNatClampNeg else 16777216)), some (.int 0), some (.int 0), none, none, none, none] [] M Q) : Fw l D ad kA mX3_stepBack 0 [some (.ref (ad 17)), some (.int x1), none, none, none, none, none, none, none, none, none, none, none, none] [] M Q := by
  refine r_aload_n dX3_stepBack_0 rfl ?_
  refine r_getR dX3_stepBack_1 fs_17_4 fk_X3_15 ?_
  refine r_iload_n dX3_stepBack_4 rfl ?_
  refine r_iald dX3_stepBack_5 as_19 g1 ?_
  refine q_istore_n (lo' := [some (.ref (ad 17)), some (.int x1), some (.int (gI M 19 x1.toNatClampNeg)), none, none, none, none, none, none, none, none, none, none, none]) dX3_stepBack_6 (by decide) rfl ?_
  refine r_aload_n dX3_stepBack_7 rfl ?_
  refine r_getR dX3_stepBack_8 fs_17_4 fk_X3_15 ?_
  refine r_iload_n dX3_stepBack_11 rfl ?_
  refine r_iconst (v := 1) dX3_stepBack_12 kI_1 ?_
  refine r_isub dX3_stepBack_13 ?_
  refine r_iald dX3_stepBack_14 as_19 g2 ?_
  refine q_istore_n (lo' := [some (.ref (ad 17)), some (.int x1), some (.int (gI M 19 x1.toNatClampNeg)), some (.int (gI M 19 (x1 - 1).toNatClampNeg)), none, none, none, none, none, none, none, none, none, none]) dX3_stepBack_15 (by decide) rfl ?_
  refine r_iload_n dX3_stepBack_16 rfl ?_
  refine r_iconst (v := 0) dX3_stepBack_17 kI_0 ?_
  refine r_callS (As := [.int x1, .int 0]) (rest := []) dX3_stepBack_18 mk_X3_78 ms_X3_place rm_X3_stepBack_X3_place rfl rfl (Nat.le_of_ble_eq_true rfl) (ct_X3_place (⟨_, rfl, ?_⟩))
  refine q_istore (lo' := [some (.ref (ad 17)), some (.int x1), some (.int (gI M 19 x1.toNatClampNeg)), some (.int (gI M 19 (x1 - 1).toNatClampNeg)), some (.int (v_X3_place x1 0)), none, none, none, none, none, none, none, none, none]) dX3_stepBack_21 (by decide) rfl ?_
  refine r_iload_n dX3_stepBack_23 rfl ?_
  refine r_iconst (v := 1) dX3_stepBack_24 kI_1 ?_
  refine r_iadd dX3_stepBack_25 ?_
  refine r_iconst (v := 0) dX3_stepBack_26 kI_0 ?_
  refine r_callS (As := [.int (x1 + 1), .int 0]) (rest := []) dX3_stepBack_27 mk_X3_78 ms_X3_place rm_X3_stepBack_X3_place rfl rfl (Nat.le_of_ble_eq_true rfl) (ct_X3_place (⟨_, rfl, ?_⟩))
  refine q_istore (lo' := [some (.ref (ad 17)), some (.int x1), some (.int (gI M 19 x1.toNatClampNeg)), some (.int (gI M 19 (x1 - 1).toNatClampNeg)), some (.int (v_X3_place x1 0)), some (.int (v_X3_place (x1 + 1) 0)), none, none, none, none, none, none, none, none]) dX3_stepBack_30 (by decide) rfl ?_
  refine r_aload_n dX3_stepBack_32 rfl ?_
  refine r_iload_n dX3_stepBack_33 rfl ?_
  refine r_iload_n dX3_stepBack_34 rfl ?_
  refine r_callV (x := 17) (As := [.int (gI M 19 (x1 - 1).toNatClampNeg), .int (gI M 19 x1.toNatClampNeg)]) (rest := []) dX3_stepBack_35 mk_X3_93 mv_X3_move rm_X3_stepBack_X3_move rfl rfl (by decide +kernel) (Nat.le_of_ble_eq_true rfl) (ct_X3_move g3 (⟨_, rfl, ?_⟩))
  refine q_istore (lo' := [some (.ref (ad 17)), some (.int x1), some (.int (gI M 19 x1.toNatClampNeg)), some (.int (gI M 19 (x1 - 1).toNatClampNeg)), some (.int (v_X3_place x1 0)), some (.int (v_X3_place (x1 + 1) 0)), some (.int (v_X3_move M (gI M 19 (x1 - 1).toNatClampNeg) (gI M 19 x1.toNatClampNeg))), none, none, none, none, none, none, none]) dX3_stepBack_38 (by decide) rfl ?_
  refine r_aload_n dX3_stepBack_40 rfl ?_
  refine r_iload_n dX3_stepBack_41 rfl ?_
  refine r_iload_n dX3_stepBack_42 rfl ?_
  refine r_callV (x := 17) (As := [.int (gI M 19 (x1 - 1).toNatClampNeg), .int (gI M 19 x1.toNatClampNeg)]) (rest := []) dX3_stepBack_43 mk_X3_96 mv_X3_holds rm_X3_stepBack_X3_holds rfl rfl (by decide +kernel) (Nat.le_of_ble_eq_true rfl) (ct_X3_holds g4 (⟨_, rfl, ?_⟩))
  suffices hJ1 : Fw l D ad kA mX3_stepBack 63 [some (.ref (ad 17)), some (.int x1), some (.int (gI M 19 x1.toNatClampNeg)), none, some (.int (v_X3_place x1 0)), some (.int (v_X3_place (x1 + 1) 0)), some (.int (v_X3_move M (gI M 19 (x1 - 1).toNatClampNeg) (gI M 19 x1.toNatClampNeg))), none, none, none, none, none, none, none] [.int (if (v_X3_holds M (gI M 19 (x1 - 1).toNatClampNeg) (gI M 19 x1.toNatClampNeg)) = 0 then gI M 20 ((v_X3_place (x1 + 1) 0) + x1).toNatClampNeg else 16777216)] M Q by
    refine r_if_eq (tgt := 54) dX3_stepBack_46 (by decide) (fun c1 => ?_) (fun c1 => ?_)
    · skip
      refine r_aload_n dX3_stepBack_54 rfl ?_
      refine r_getR dX3_stepBack_55 fs_17_6 fk_X3_18 ?_
      refine r_iload dX3_stepBack_58 rfl ?_
      refine r_iload_n dX3_stepBack_60 rfl ?_
      refine r_iadd dX3_stepBack_61 ?_
      refine r_iald dX3_stepBack_62 as_20 (g5 c1) ?_
      exact q_weak (lo' := [some (.ref (ad 17)), some (.int x1), some (.int (gI M 19 x1.toNatClampNeg)), none, some (.int (v_X3_place x1 0)), some (.int (v_X3_place (x1 + 1) 0)), some (.int (v_X3_move M (gI M 19 (x1 - 1).toNatClampNeg) (gI M 19 x1.toNatClampNeg))), none, none, none, none, none, none, none]) ⟨rfl, rfl, rfl, rfl, rfl, rfl, trivial⟩ (by have h9 := hJ1; simp only [if_pos c1] at h9; exact h9)
    · skip
      refine r_ldc (v := 16777216) dX3_stepBack_49 co_X3_48 ?_
      refine r_goto (tgt := 63) dX3_stepBack_51 (by decide) ?_
      exact q_weak (lo' := [some (.ref (ad 17)), some (.int x1), some (.int (gI M 19 x1.toNatClampNeg)), none, some (.int (v_X3_place x1 0)), some (.int (v_X3_place (x1 + 1) 0)), some (.int (v_X3_move M (gI M 19 (x1 - 1).toNatClampNeg) (gI M 19 x1.toNatClampNeg))), none, none, none, none, none, none, none]) ⟨rfl, rfl, rfl, rfl, rfl, rfl, trivial⟩ (by have h9 := hJ1; simp only [if_neg c1] at h9; exact h9)
  refine q_istore (lo' := [some (.ref (ad 17)), some (.int x1), some (.int (gI M 19 x1.toNatClampNeg)), none, some (.int (v_X3_place x1 0)), some (.int (v_X3_place (x1 + 1) 0)), some (.int (v_X3_move M (gI M 19 (x1 - 1).toNatClampNeg) (gI M 19 x1.toNatClampNeg))), some (.int (if (v_X3_holds M (gI M 19 (x1 - 1).toNatClampNeg) (gI M 19 x1.toNatClampNeg)) = 0 then gI M 20 ((v_X3_place (x1 + 1) 0) + x1).toNatClampNeg else 16777216)), none, none, none, none, none, none]) dX3_stepBack_63 (by decide) rfl ?_
  refine r_iconst (v := 0) dX3_stepBack_65 kI_0 ?_
  refine q_istore (lo' := [some (.ref (ad 17)), some (.int x1), some (.int (gI M 19 x1.toNatClampNeg)), none, some (.int (v_X3_place x1 0)), some (.int (v_X3_place (x1 + 1) 0)), some (.int (v_X3_move M (gI M 19 (x1 - 1).toNatClampNeg) (gI M 19 x1.toNatClampNeg))), some (.int (if (v_X3_holds M (gI M 19 (x1 - 1).toNatClampNeg) (gI M 19 x1.toNatClampNeg)) = 0 then gI M 20 ((v_X3_place (x1 + 1) 0) + x1).toNatClampNeg else 16777216)), some (.int 0), none, none, none, none, none]) dX3_stepBack_66 (by decide) rfl ?_
  refine r_iconst (v := 0) dX3_stepBack_68 kI_0 ?_
  refine q_istore (lo' := [some (.ref (ad 17)), some (.int x1), some (.int (gI M 19 x1.toNatClampNeg)), none, some (.int (v_X3_place x1 0)), some (.int (v_X3_place (x1 + 1) 0)), some (.int (v_X3_move M (gI M 19 (x1 - 1).toNatClampNeg) (gI M 19 x1.toNatClampNeg))), some (.int (if (v_X3_holds M (gI M 19 (x1 - 1).toNatClampNeg) (gI M 19 x1.toNatClampNeg)) = 0 then gI M 20 ((v_X3_place (x1 + 1) 0) + x1).toNatClampNeg else 16777216)), some (.int 0), some (.int 0), none, none, none, none]) dX3_stepBack_69 (by decide) rfl ?_
  exact K1
theorem t_X3_stepBack_71 {x1 : Int32} {x2 : Int32} {x4 : Int32} {x5 : Int32} {x6 : Int32} {x7 : Int32} {x8 : Int32} {x9 : Int32} 
    (g1 : (x1 ≤ x9) → x8 = 0 ∨ x8 = 1)
    (g2 : (¬ (x1 ≤ x9)) → g_X3_did M x9)
    (g3 : (¬ (x1 ≤ x9)) → g_X3_holds M (v_X3_did M x9) x2)
    (g4 : (¬ (x1 ≤ x9)) → ((v_X3_holds M (v_X3_did M x9) x2) = 0) → vp_in (x5 + x9) 12880)
    (g5 : (¬ (x1 ≤ x9)) → (x7 < 16777216) → g_X3_move M (v_X3_did M x9) x2)
    (g6 : (¬ (x1 ≤ x9)) → vp_in (x4 + x9) 12880)
    (K1 : (x1 ≤ x9) → Q (.returned (some (.int x8))) M)
    (K2 : (¬ (x1 ≤ x9)) → Fw l D ad kA mX3_stepBack 71 [some (.ref (ad 17)), some (.int x1), some (.int x2), none, some (.int x4), some (.int x5), some (.int x6), some (.int x7), some (.int (if x8 = 0 then if 16777216 ≤ (imin 16777216 (imin (if (v_X3_holds M (v_X3_did M x9) x2) = 0 then x6 + (gI M 20 (x5 + x9).toNatClampNeg) else 16777216) (if x7 < 16777216 then x7 + (v_X3_move M (v_X3_did M x9) x2) else 16777216))) then 0 else 1 else 1)), some (.int (x9 + 1)), none, none, none, none] [] (sI M 20 (x4 + x9).toNatClampNeg (imin 16777216 (imin (if (v_X3_holds M (v_X3_did M x9) x2) = 0 then x6 + (gI M 20 (x5 + x9).toNatClampNeg) else 16777216) (if x7 < 16777216 then x7 + (v_X3_move M (v_X3_did M x9) x2) else 16777216)))) Q) : Fw l D ad kA mX3_stepBack 71 [some (.ref (ad 17)), some (.int x1), some (.int x2), none, some (.int x4), some (.int x5), some (.int x6), some (.int x7), some (.int x8), some (.int x9), none, none, none, none] [] M Q := by
  refine r_iload dX3_stepBack_71 rfl ?_
  refine r_iload_n dX3_stepBack_73 rfl ?_
  refine r_icmp_ge (tgt := 190) dX3_stepBack_74 (by decide) (fun c1 => ?_) (fun c1 => ?_)
  · skip
    refine r_iload dX3_stepBack_190 rfl ?_
    exact r_zret dX3_stepBack_192 rfl (nar_z (g1 c1)).1 (K1 c1)
  · skip
    refine r_aload_n dX3_stepBack_77 rfl ?_
    refine r_iload dX3_stepBack_78 rfl ?_
    refine r_callV (x := 17) (As := [.int x9]) (rest := []) dX3_stepBack_80 mk_X3_100 mv_X3_did rm_X3_stepBack_X3_did rfl rfl (by decide +kernel) (Nat.le_of_ble_eq_true rfl) (ct_X3_did (g2 c1) (⟨_, rfl, ?_⟩))
    refine q_istore (lo' := [some (.ref (ad 17)), some (.int x1), some (.int x2), none, some (.int x4), some (.int x5), some (.int x6), some (.int x7), some (.int x8), some (.int x9), some (.int (v_X3_did M x9)), none, none, none]) dX3_stepBack_83 (by decide) rfl ?_
    refine r_aload_n dX3_stepBack_85 rfl ?_
    refine r_iload dX3_stepBack_86 rfl ?_
    refine r_iload_n dX3_stepBack_88 rfl ?_
    refine r_callV (x := 17) (As := [.int (v_X3_did M x9), .int x2]) (rest := []) dX3_stepBack_89 mk_X3_96 mv_X3_holds rm_X3_stepBack_X3_holds rfl rfl (by decide +kernel) (Nat.le_of_ble_eq_true rfl) (ct_X3_holds (g3 c1) (⟨_, rfl, ?_⟩))
    suffices hJ1 : Fw l D ad kA mX3_stepBack 113 [some (.ref (ad 17)), some (.int x1), some (.int x2), none, some (.int x4), some (.int x5), some (.int x6), some (.int x7), some (.int x8), some (.int x9), some (.int (v_X3_did M x9)), none, none, none] [.int (if (v_X3_holds M (v_X3_did M x9) x2) = 0 then x6 + (gI M 20 (x5 + x9).toNatClampNeg) else 16777216)] M Q by
      refine r_if_eq (tgt := 100) dX3_stepBack_92 (by decide) (fun c2 => ?_) (fun c2 => ?_)
      · skip
        refine r_iload dX3_stepBack_100 rfl ?_
        refine r_aload_n dX3_stepBack_102 rfl ?_
        refine r_getR dX3_stepBack_103 fs_17_6 fk_X3_18 ?_
        refine r_iload dX3_stepBack_106 rfl ?_
        refine r_iload dX3_stepBack_108 rfl ?_
        refine r_iadd dX3_stepBack_110 ?_
        refine r_iald dX3_stepBack_111 as_20 (g4 c1 c2) ?_
        refine r_iadd dX3_stepBack_112 ?_
        exact q_weak (lo' := [some (.ref (ad 17)), some (.int x1), some (.int x2), none, some (.int x4), some (.int x5), some (.int x6), some (.int x7), some (.int x8), some (.int x9), some (.int (v_X3_did M x9)), none, none, none]) ⟨rfl, rfl, rfl, rfl, rfl, rfl, rfl, rfl, rfl, rfl, trivial⟩ (by have h9 := hJ1; simp only [if_pos c2] at h9; exact h9)
      · skip
        refine r_ldc (v := 16777216) dX3_stepBack_95 co_X3_48 ?_
        refine r_goto (tgt := 113) dX3_stepBack_97 (by decide) ?_
        exact q_weak (lo' := [some (.ref (ad 17)), some (.int x1), some (.int x2), none, some (.int x4), some (.int x5), some (.int x6), some (.int x7), some (.int x8), some (.int x9), some (.int (v_X3_did M x9)), none, none, none]) ⟨rfl, rfl, rfl, rfl, rfl, rfl, rfl, rfl, rfl, rfl, trivial⟩ (by have h9 := hJ1; simp only [if_neg c2] at h9; exact h9)
    refine q_istore (lo' := [some (.ref (ad 17)), some (.int x1), some (.int x2), none, some (.int x4), some (.int x5), some (.int x6), some (.int x7), some (.int x8), some (.int x9), some (.int (v_X3_did M x9)), some (.int (if (v_X3_holds M (v_X3_did M x9) x2) = 0 then x6 + (gI M 20 (x5 + x9).toNatClampNeg) else 16777216)), none, none]) dX3_stepBack_113 (by decide) rfl ?_
    refine r_iload dX3_stepBack_115 rfl ?_
    refine r_ldc (v := 16777216) dX3_stepBack_117 co_X3_48 ?_
    suffices hJ2 : Fw l D ad kA mX3_stepBack 137 [some (.ref (ad 17)), some (.int x1), some (.int x2), none, some (.int x4), some (.int x5), some (.int x6), some (.int x7), some (.int x8), some (.int x9), none, some (.int (if (v_X3_holds M (v_X3_did M x9) x2) = 0 then x6 + (gI M 20 (x5 + x9).toNatClampNeg) else 16777216)), none, none] [.int (if x7 < 16777216 then x7 + (v_X3_move M (v_X3_did M x9) x2) else 16777216)] M Q by
      refine r_icmp_lt (tgt := 127) dX3_stepBack_119 (by decide) (fun c3 => ?_) (fun c3 => ?_)
      · skip
        refine r_iload dX3_stepBack_127 rfl ?_
        refine r_aload_n dX3_stepBack_129 rfl ?_
        refine r_iload dX3_stepBack_130 rfl ?_
        refine r_iload_n dX3_stepBack_132 rfl ?_
        refine r_callV (x := 17) (As := [.int (v_X3_did M x9), .int x2]) (rest := [.int x7]) dX3_stepBack_133 mk_X3_93 mv_X3_move rm_X3_stepBack_X3_move rfl rfl (by decide +kernel) (Nat.le_of_ble_eq_true rfl) (ct_X3_move (g5 c1 c3) (⟨_, rfl, ?_⟩))
        refine r_iadd dX3_stepBack_136 ?_
        exact q_weak (lo' := [some (.ref (ad 17)), some (.int x1), some (.int x2), none, some (.int x4), some (.int x5), some (.int x6), some (.int x7), some (.int x8), some (.int x9), none, some (.int (if (v_X3_holds M (v_X3_did M x9) x2) = 0 then x6 + (gI M 20 (x5 + x9).toNatClampNeg) else 16777216)), none, none]) ⟨rfl, rfl, rfl, rfl, rfl, rfl, rfl, rfl, rfl, rfl, trivial⟩ (by have h9 := hJ2; simp only [if_pos c3] at h9; exact h9)
      · skip
        refine r_ldc (v := 16777216) dX3_stepBack_122 co_X3_48 ?_
        refine r_goto (tgt := 137) dX3_stepBack_124 (by decide) ?_
        exact q_weak (lo' := [some (.ref (ad 17)), some (.int x1), some (.int x2), none, some (.int x4), some (.int x5), some (.int x6), some (.int x7), some (.int x8), some (.int x9), none, some (.int (if (v_X3_holds M (v_X3_did M x9) x2) = 0 then x6 + (gI M 20 (x5 + x9).toNatClampNeg) else 16777216)), none, none]) ⟨rfl, rfl, rfl, rfl, rfl, rfl, rfl, rfl, rfl, rfl, trivial⟩ (by have h9 := hJ2; simp only [if_neg c3] at h9; exact h9)
    refine q_istore (lo' := [some (.ref (ad 17)), some (.int x1), some (.int x2), none, some (.int x4), some (.int x5), some (.int x6), some (.int x7), some (.int x8), some (.int x9), none, some (.int (if (v_X3_holds M (v_X3_did M x9) x2) = 0 then x6 + (gI M 20 (x5 + x9).toNatClampNeg) else 16777216)), some (.int (if x7 < 16777216 then x7 + (v_X3_move M (v_X3_did M x9) x2) else 16777216)), none]) dX3_stepBack_137 (by decide) rfl ?_
    refine r_ldc (v := 16777216) dX3_stepBack_139 co_X3_48 ?_
    refine r_iload dX3_stepBack_141 rfl ?_
    refine r_iload dX3_stepBack_143 rfl ?_
    refine q_mmin dX3_stepBack_145 mk_X3_103 (by decide) (Nat.le_of_ble_eq_true rfl) ?_
    refine q_mmin dX3_stepBack_148 mk_X3_103 (by decide) (Nat.le_of_ble_eq_true rfl) ?_
    refine q_istore (lo' := [some (.ref (ad 17)), some (.int x1), some (.int x2), none, some (.int x4), some (.int x5), some (.int x6), some (.int x7), some (.int x8), some (.int x9), none, some (.int (if (v_X3_holds M (v_X3_did M x9) x2) = 0 then x6 + (gI M 20 (x5 + x9).toNatClampNeg) else 16777216)), some (.int (if x7 < 16777216 then x7 + (v_X3_move M (v_X3_did M x9) x2) else 16777216)), some (.int (imin 16777216 (imin (if (v_X3_holds M (v_X3_did M x9) x2) = 0 then x6 + (gI M 20 (x5 + x9).toNatClampNeg) else 16777216) (if x7 < 16777216 then x7 + (v_X3_move M (v_X3_did M x9) x2) else 16777216))))]) dX3_stepBack_151 (by decide) rfl ?_
    refine r_aload_n dX3_stepBack_153 rfl ?_
    refine r_getR dX3_stepBack_154 fs_17_6 fk_X3_18 ?_
    refine r_iload dX3_stepBack_157 rfl ?_
    refine r_iload dX3_stepBack_159 rfl ?_
    refine r_iadd dX3_stepBack_161 ?_
    refine r_iload dX3_stepBack_162 rfl ?_
    refine r_iast dX3_stepBack_164 as_20 (g6 c1) ?_
    refine r_iload dX3_stepBack_165 rfl ?_
    suffices hJ3 : Fw l D ad kA mX3_stepBack 182 [some (.ref (ad 17)), some (.int x1), some (.int x2), none, some (.int x4), some (.int x5), some (.int x6), some (.int x7), none, some (.int x9), none, none, none, none] [.int (if x8 = 0 then if 16777216 ≤ (imin 16777216 (imin (if (v_X3_holds M (v_X3_did M x9) x2) = 0 then x6 + (gI M 20 (x5 + x9).toNatClampNeg) else 16777216) (if x7 < 16777216 then x7 + (v_X3_move M (v_X3_did M x9) x2) else 16777216))) then 0 else 1 else 1)] (sI M 20 (x4 + x9).toNatClampNeg (imin 16777216 (imin (if (v_X3_holds M (v_X3_did M x9) x2) = 0 then x6 + (gI M 20 (x5 + x9).toNatClampNeg) else 16777216) (if x7 < 16777216 then x7 + (v_X3_move M (v_X3_did M x9) x2) else 16777216)))) Q by
      refine r_if_ne (tgt := 177) dX3_stepBack_167 (by decide) (fun c4 => ?_) (fun c4 => ?_)
      · skip
        refine r_iconst (v := 1) dX3_stepBack_177 kI_1 ?_
        refine r_goto (tgt := 182) dX3_stepBack_178 (by decide) ?_
        exact q_weak (lo' := [some (.ref (ad 17)), some (.int x1), some (.int x2), none, some (.int x4), some (.int x5), some (.int x6), some (.int x7), none, some (.int x9), none, none, none, none]) ⟨rfl, rfl, rfl, rfl, rfl, rfl, rfl, rfl, trivial⟩ (by have h9 := hJ3; simp only [if_neg c4] at h9; exact h9)
      · skip
        refine r_iload dX3_stepBack_170 rfl ?_
        refine r_ldc (v := 16777216) dX3_stepBack_172 co_X3_48 ?_
        refine r_icmp_ge (tgt := 181) dX3_stepBack_174 (by decide) (fun c5 => ?_) (fun c5 => ?_)
        · skip
          refine r_iconst (v := 0) dX3_stepBack_181 kI_0 ?_
          exact q_weak (lo' := [some (.ref (ad 17)), some (.int x1), some (.int x2), none, some (.int x4), some (.int x5), some (.int x6), some (.int x7), none, some (.int x9), none, none, none, none]) ⟨rfl, rfl, rfl, rfl, rfl, rfl, rfl, rfl, trivial⟩ (by have h9 := hJ3; simp only [if_pos c4, if_pos c5] at h9; exact h9)
        · skip
          refine r_iconst (v := 1) dX3_stepBack_177 kI_1 ?_
          refine r_goto (tgt := 182) dX3_stepBack_178 (by decide) ?_
          exact q_weak (lo' := [some (.ref (ad 17)), some (.int x1), some (.int x2), none, some (.int x4), some (.int x5), some (.int x6), some (.int x7), none, some (.int x9), none, none, none, none]) ⟨rfl, rfl, rfl, rfl, rfl, rfl, rfl, rfl, trivial⟩ (by have h9 := hJ3; simp only [if_pos c4, if_neg c5] at h9; exact h9)
    refine q_istore (lo' := [some (.ref (ad 17)), some (.int x1), some (.int x2), none, some (.int x4), some (.int x5), some (.int x6), some (.int x7), some (.int (if x8 = 0 then if 16777216 ≤ (imin 16777216 (imin (if (v_X3_holds M (v_X3_did M x9) x2) = 0 then x6 + (gI M 20 (x5 + x9).toNatClampNeg) else 16777216) (if x7 < 16777216 then x7 + (v_X3_move M (v_X3_did M x9) x2) else 16777216))) then 0 else 1 else 1)), some (.int x9), none, none, none, none]) dX3_stepBack_182 (by decide) rfl ?_
    refine q_iinc (v := x9 + 1) (lo' := [some (.ref (ad 17)), some (.int x1), some (.int x2), none, some (.int x4), some (.int x5), some (.int x6), some (.int x7), some (.int (if x8 = 0 then if 16777216 ≤ (imin 16777216 (imin (if (v_X3_holds M (v_X3_did M x9) x2) = 0 then x6 + (gI M 20 (x5 + x9).toNatClampNeg) else 16777216) (if x7 < 16777216 then x7 + (v_X3_move M (v_X3_did M x9) x2) else 16777216))) then 0 else 1 else 1)), some (.int (x9 + 1)), none, none, none, none]) dX3_stepBack_184 rfl (congrArg (fun q => x9 + q) kI_1) (by decide) rfl ?_
    refine r_goto (tgt := 71) dX3_stepBack_187 (by decide) ?_
    exact (K2 c1)
theorem en_X3_stepBack {x1 : Int32} (K : Fw l D ad kA mX3_stepBack 0 [some (.ref (ad 17)), some (.int x1), none, none, none, none, none, none, none, none, none, none, none, none] [] M Q) : Cal l D ad kA mX3_stepBack [.ref (ad 17), .int x1] M Q := Cal.of (by decide) rfl rfl (Nat.le_of_ble_eq_true rfl) K
theorem t_X3_weighRest_0  
    (K1 : Fw l D ad kA mX3_weighRest 7 [some (.ref (ad 17)), some (.int 0)] [] (sI M 17 7 0) Q) : Fw l D ad kA mX3_weighRest 0 [some (.ref (ad 17)), none] [] M Q := by
  refine r_aload_n dX3_weighRest_0 rfl ?_
  refine r_iconst (v := 0) dX3_weighRest_1 kI_0 ?_
  refine r_putI dX3_weighRest_2 fs_17_7 fk_X3_75 fp_X3_7 ?_
  refine r_iconst (v := 0) dX3_weighRest_5 kI_0 ?_
  refine q_istore_n (lo' := [some (.ref (ad 17)), some (.int 0)]) dX3_weighRest_6 (by decide) rfl ?_
  exact K1
theorem t_X3_weighRest_7 {x1 : Int32} 
    (g1 : (¬ ((gI M 17 5) ≤ x1)) → vp_in (v_X3_place (gI M 17 5) x1) 12880)
    (K1 : ((gI M 17 5) ≤ x1) → Fw l D ad kA mX3_weighRest 42 [some (.ref (ad 17)), some (.int ((gI M 17 5) - 1))] [] M Q)
    (K2 : (¬ ((gI M 17 5) ≤ x1)) → Fw l D ad kA mX3_weighRest 7 [some (.ref (ad 17)), some (.int (x1 + 1))] [] (sI M 20 (v_X3_place (gI M 17 5) x1).toNatClampNeg 0) Q) : Fw l D ad kA mX3_weighRest 7 [some (.ref (ad 17)), some (.int x1)] [] M Q := by
  refine r_iload_n dX3_weighRest_7 rfl ?_
  refine r_aload_n dX3_weighRest_8 rfl ?_
  refine r_getI dX3_weighRest_9 fs_17_5 fk_X3_52 ?_
  refine r_icmp_ge (tgt := 35) dX3_weighRest_12 (by decide) (fun c1 => ?_) (fun c1 => ?_)
  · skip
    refine r_aload_n dX3_weighRest_35 rfl ?_
    refine r_getI dX3_weighRest_36 fs_17_5 fk_X3_52 ?_
    refine r_iconst (v := 1) dX3_weighRest_39 kI_1 ?_
    refine r_isub dX3_weighRest_40 ?_
    refine q_istore_n (lo' := [some (.ref (ad 17)), some (.int ((gI M 17 5) - 1))]) dX3_weighRest_41 (by decide) rfl ?_
    exact (K1 c1)
  · skip
    refine r_aload_n dX3_weighRest_15 rfl ?_
    refine r_getR dX3_weighRest_16 fs_17_6 fk_X3_18 ?_
    refine r_aload_n dX3_weighRest_19 rfl ?_
    refine r_getI dX3_weighRest_20 fs_17_5 fk_X3_52 ?_
    refine r_iload_n dX3_weighRest_23 rfl ?_
    refine r_callS (As := [.int (gI M 17 5), .int x1]) (rest := [.ref (ad 20)]) dX3_weighRest_24 mk_X3_78 ms_X3_place rm_X3_weighRest_X3_place rfl rfl (Nat.le_of_ble_eq_true rfl) (ct_X3_place (⟨_, rfl, ?_⟩))
    refine r_iconst (v := 0) dX3_weighRest_27 kI_0 ?_
    refine r_iast dX3_weighRest_28 as_20 (g1 c1) ?_
    refine q_iinc (v := x1 + 1) (lo' := [some (.ref (ad 17)), some (.int (x1 + 1))]) dX3_weighRest_29 rfl (congrArg (fun q => x1 + q) kI_1) (by decide) rfl ?_
    refine r_goto (tgt := 7) dX3_weighRest_32 (by decide) ?_
    exact (K2 c1)
theorem t_X3_weighRest_42 {x1 : Int32} 
    (g1 : (x1 ≤ 0) → (¬ ((gI M 17 5) = 0)) → g_X3_restOf M 1 0)
    (g2 : (¬ (x1 ≤ 0)) → (¬ ((gI M 17 7) = 0)) → (¬ ((gI M 17 5) = 0)) → g_X3_restOf M 1 0)
    (K1 : (x1 ≤ 0) → Q (.returned (some (.int (if (gI M 17 5) = 0 then 0 else v_X3_restOf M 1 0)))) M)
    (K2 : (¬ (x1 ≤ 0)) → (¬ ((gI M 17 7) = 0)) → Q (.returned (some (.int (if (gI M 17 5) = 0 then 0 else v_X3_restOf M 1 0)))) M)
    (K3 : (¬ (x1 ≤ 0)) → ((gI M 17 7) = 0) → Cal l D ad kA mX3_stepBack [.ref (ad 17), .int x1] M (fun oc M2 => ∃ r : Int32, oc = .returned (some (.int r)) ∧ Fw l D ad kA mX3_weighRest 58 [some (.ref (ad 17)), some (.int x1)] [.int r] M2 Q)) : Fw l D ad kA mX3_weighRest 42 [some (.ref (ad 17)), some (.int x1)] [] M Q := by
  refine r_iload_n dX3_weighRest_42 rfl ?_
  refine r_if_le (tgt := 72) dX3_weighRest_43 (by decide) (fun c1 => ?_) (fun c1 => ?_)
  · skip
    refine r_aload_n dX3_weighRest_72 rfl ?_
    refine r_getI dX3_weighRest_73 fs_17_5 fk_X3_52 ?_
    suffices hJ1 : Fw l D ad kA mX3_weighRest 89 [none, none] [.int (if (gI M 17 5) = 0 then 0 else v_X3_restOf M 1 0)] M Q by
      refine r_if_ne (tgt := 83) dX3_weighRest_76 (by decide) (fun c2 => ?_) (fun c2 => ?_)
      · skip
        refine r_aload_n dX3_weighRest_83 rfl ?_
        refine r_iconst (v := 1) dX3_weighRest_84 kI_1 ?_
        refine r_iconst (v := 0) dX3_weighRest_85 kI_0 ?_
        refine r_callV (x := 17) (As := [.int 1, .int 0]) (rest := []) dX3_weighRest_86 mk_X3_85 mv_X3_restOf rm_X3_weighRest_X3_restOf rfl rfl (by decide +kernel) (Nat.le_of_ble_eq_true rfl) (ct_X3_restOf (g1 c1 c2) (⟨_, rfl, ?_⟩))
        exact q_weak (lo' := [none, none]) trivial (by have h9 := hJ1; simp only [if_neg c2] at h9; exact h9)
      · skip
        refine r_iconst (v := 0) dX3_weighRest_79 kI_0 ?_
        refine r_goto (tgt := 89) dX3_weighRest_80 (by decide) ?_
        exact q_weak (lo' := [none, none]) trivial (by have h9 := hJ1; simp only [if_pos c2] at h9; exact h9)
    exact r_iret dX3_weighRest_89 rfl (K1 c1)
  · skip
    refine r_aload_n dX3_weighRest_46 rfl ?_
    refine r_getI dX3_weighRest_47 fs_17_7 fk_X3_75 ?_
    refine r_if_ne (tgt := 72) dX3_weighRest_50 (by decide) (fun c3 => ?_) (fun c3 => ?_)
    · skip
      refine r_aload_n dX3_weighRest_72 rfl ?_
      refine r_getI dX3_weighRest_73 fs_17_5 fk_X3_52 ?_
      suffices hJ2 : Fw l D ad kA mX3_weighRest 89 [none, none] [.int (if (gI M 17 5) = 0 then 0 else v_X3_restOf M 1 0)] M Q by
        refine r_if_ne (tgt := 83) dX3_weighRest_76 (by decide) (fun c4 => ?_) (fun c4 => ?_)
        · skip
          refine r_aload_n dX3_weighRest_83 rfl ?_
          refine r_iconst (v := 1) dX3_weighRest_84 kI_1 ?_
          refine r_iconst (v := 0) dX3_weighRest_85 kI_0 ?_
          refine r_callV (x := 17) (As := [.int 1, .int 0]) (rest := []) dX3_weighRest_86 mk_X3_85 mv_X3_restOf rm_X3_weighRest_X3_restOf rfl rfl (by decide +kernel) (Nat.le_of_ble_eq_true rfl) (ct_X3_restOf (g2 c1 c3 c4) (⟨_, rfl, ?_⟩))
          exact q_weak (lo' := [none, none]) trivial (by have h9 := hJ2; simp only [if_neg c4] at h9; exact h9)
        · skip
          refine r_iconst (v := 0) dX3_weighRest_79 kI_0 ?_
          refine r_goto (tgt := 89) dX3_weighRest_80 (by decide) ?_
          exact q_weak (lo' := [none, none]) trivial (by have h9 := hJ2; simp only [if_pos c4] at h9; exact h9)
      exact r_iret dX3_weighRest_89 rfl (K2 c1 c3)
    · skip
      refine r_aload_n dX3_weighRest_53 rfl ?_
      refine r_iload_n dX3_weighRest_54 rfl ?_
      exact r_callV (x := 17) (As := [.int x1]) (rest := []) dX3_weighRest_55 mk_X3_81 mv_X3_stepBack rm_X3_weighRest_X3_stepBack rfl rfl (by decide +kernel) (Nat.le_of_ble_eq_true rfl) (cal_i (lo' := [some (.ref (ad 17)), some (.int x1)]) ⟨rfl, rfl, trivial⟩ (K3 c1 c3))
theorem t_X3_weighRest_58 {x1 : Int32} {s1 : Int32} 
    (K1 : (¬ (s1 = 0)) → Fw l D ad kA mX3_weighRest 42 [some (.ref (ad 17)), some (.int (x1 + (-1)))] [] M Q)
    (K2 : (s1 = 0) → Fw l D ad kA mX3_weighRest 42 [some (.ref (ad 17)), some (.int (x1 + (-1)))] [] (sI M 17 7 x1) Q) : Fw l D ad kA mX3_weighRest 58 [some (.ref (ad 17)), some (.int x1)] [.int s1] M Q := by
  refine r_if_ne (tgt := 66) dX3_weighRest_58 (by decide) (fun c1 => ?_) (fun c1 => ?_)
  · skip
    refine q_iinc (v := x1 + (-1)) (lo' := [some (.ref (ad 17)), some (.int (x1 + (-1)))]) dX3_weighRest_66 rfl (congrArg (fun q => x1 + q) kI_m1) (by decide) rfl ?_
    refine r_goto (tgt := 42) dX3_weighRest_69 (by decide) ?_
    exact (K1 c1)
  · skip
    refine r_aload_n dX3_weighRest_61 rfl ?_
    refine r_iload_n dX3_weighRest_62 rfl ?_
    refine r_putI dX3_weighRest_63 fs_17_7 fk_X3_75 fp_X3_7 ?_
    refine q_iinc (v := x1 + (-1)) (lo' := [some (.ref (ad 17)), some (.int (x1 + (-1)))]) dX3_weighRest_66 rfl (congrArg (fun q => x1 + q) kI_m1) (by decide) rfl ?_
    refine r_goto (tgt := 42) dX3_weighRest_69 (by decide) ?_
    exact (K2 c1)
theorem en_X3_weighRest  (K : Fw l D ad kA mX3_weighRest 0 [some (.ref (ad 17)), none] [] M Q) : Cal l D ad kA mX3_weighRest [.ref (ad 17)] M Q := Cal.of (by decide) rfl rfl (Nat.le_of_ble_eq_true rfl) K
def v_X3_swapsFor (M : Mem) (x1 : Int32) (x2 : Int32) (x3 : Int32) : Int32 := if x1 = 0 then if ((v_X3_step M (gI M 19 (x2 - 1).toNatClampNeg) (v_X3_did M x3) (gI M 19 x2.toNatClampNeg)) + (v_X3_restOf M (x2 + 1) x3)) = (v_X3_restOf M x2 x3) then 0 else 1 else if ((v_X3_step M (v_X3_did M x3) (gI M 19 (x2 - 1).toNatClampNeg) (gI M 19 x2.toNatClampNeg)) + (v_X3_restOf M (x2 + 1) x2)) = (v_X3_restOf M x2 x3) then 1 else 0
def g_X3_swapsFor (M : Mem) (x1 : Int32) (x2 : Int32) (x3 : Int32) : Prop := (vp_in x2 160) ∧ (vp_in (x2 - 1) 160) ∧ (g_X3_did M x3) ∧ (g_X3_restOf M x2 x3) ∧ ((¬ (x1 = 0)) → g_X3_step M (v_X3_did M x3) (gI M 19 (x2 - 1).toNatClampNeg) (gI M 19 x2.toNatClampNeg)) ∧ ((¬ (x1 = 0)) → g_X3_restOf M (x2 + 1) x2) ∧ ((x1 = 0) → g_X3_step M (gI M 19 (x2 - 1).toNatClampNeg) (v_X3_did M x3) (gI M 19 x2.toNatClampNeg)) ∧ ((x1 = 0) → g_X3_restOf M (x2 + 1) x3)
theorem ct_X3_swapsFor {x1 : Int32} {x2 : Int32} {x3 : Int32}  (g : g_X3_swapsFor M x1 x2 x3) (h : Q (.returned (some (.int (v_X3_swapsFor M x1 x2 x3)))) M) : Cal l D ad kA mX3_swapsFor [.ref (ad 17), .int x1, .int x2, .int x3] M Q := by
  refine Cal.of (lo := [some (.ref (ad 17)), some (.int x1), some (.int x2), some (.int x3), none, none, none, none]) (by decide) rfl rfl (Nat.le_of_ble_eq_true rfl) ?_
  obtain ⟨g1, g2, g3, g4, g5, g6, g7, g8⟩ := g
  refine r_aload_n dX3_swapsFor_0 rfl ?_
  refine r_getR dX3_swapsFor_1 fs_17_4 fk_X3_15 ?_
  refine r_iload_n dX3_swapsFor_4 rfl ?_
  refine r_iald dX3_swapsFor_5 as_19 g1 ?_
  refine q_istore (lo' := [some (.ref (ad 17)), some (.int x1), some (.int x2), some (.int x3), some (.int (gI M 19 x2.toNatClampNeg)), none, none, none]) dX3_swapsFor_6 (by decide) rfl ?_
  refine r_aload_n dX3_swapsFor_8 rfl ?_
  refine r_getR dX3_swapsFor_9 fs_17_4 fk_X3_15 ?_
  refine r_iload_n dX3_swapsFor_12 rfl ?_
  refine r_iconst (v := 1) dX3_swapsFor_13 kI_1 ?_
  refine r_isub dX3_swapsFor_14 ?_
  refine r_iald dX3_swapsFor_15 as_19 g2 ?_
  refine q_istore (lo' := [some (.ref (ad 17)), some (.int x1), some (.int x2), some (.int x3), some (.int (gI M 19 x2.toNatClampNeg)), some (.int (gI M 19 (x2 - 1).toNatClampNeg)), none, none]) dX3_swapsFor_16 (by decide) rfl ?_
  refine r_aload_n dX3_swapsFor_18 rfl ?_
  refine r_iload_n dX3_swapsFor_19 rfl ?_
  refine r_callV (x := 17) (As := [.int x3]) (rest := []) dX3_swapsFor_20 mk_X3_100 mv_X3_did rm_X3_swapsFor_X3_did rfl rfl (by decide +kernel) (Nat.le_of_ble_eq_true rfl) (ct_X3_did g3 (⟨_, rfl, ?_⟩))
  refine q_istore (lo' := [some (.ref (ad 17)), some (.int x1), some (.int x2), some (.int x3), some (.int (gI M 19 x2.toNatClampNeg)), some (.int (gI M 19 (x2 - 1).toNatClampNeg)), some (.int (v_X3_did M x3)), none]) dX3_swapsFor_23 (by decide) rfl ?_
  refine r_aload_n dX3_swapsFor_25 rfl ?_
  refine r_iload_n dX3_swapsFor_26 rfl ?_
  refine r_iload_n dX3_swapsFor_27 rfl ?_
  refine r_callV (x := 17) (As := [.int x2, .int x3]) (rest := []) dX3_swapsFor_28 mk_X3_85 mv_X3_restOf rm_X3_swapsFor_X3_restOf rfl rfl (by decide +kernel) (Nat.le_of_ble_eq_true rfl) (ct_X3_restOf g4 (⟨_, rfl, ?_⟩))
  refine q_istore (lo' := [some (.ref (ad 17)), some (.int x1), some (.int x2), some (.int x3), some (.int (gI M 19 x2.toNatClampNeg)), some (.int (gI M 19 (x2 - 1).toNatClampNeg)), some (.int (v_X3_did M x3)), some (.int (v_X3_restOf M x2 x3))]) dX3_swapsFor_31 (by decide) rfl ?_
  refine r_iload_n dX3_swapsFor_33 rfl ?_
  refine r_if_ne (tgt := 67) dX3_swapsFor_34 (by decide) (fun c1 => ?_) (fun c1 => ?_)
  · skip
    refine r_aload_n dX3_swapsFor_67 rfl ?_
    refine r_iload dX3_swapsFor_68 rfl ?_
    refine r_iload dX3_swapsFor_70 rfl ?_
    refine r_iload dX3_swapsFor_72 rfl ?_
    refine r_callV (x := 17) (As := [.int (v_X3_did M x3), .int (gI M 19 (x2 - 1).toNatClampNeg), .int (gI M 19 x2.toNatClampNeg)]) (rest := []) dX3_swapsFor_74 mk_X3_109 mv_X3_step rm_X3_swapsFor_X3_step rfl rfl (by decide +kernel) (Nat.le_of_ble_eq_true rfl) (ct_X3_step (g5 c1) (⟨_, rfl, ?_⟩))
    refine r_aload_n dX3_swapsFor_77 rfl ?_
    refine r_iload_n dX3_swapsFor_78 rfl ?_
    refine r_iconst (v := 1) dX3_swapsFor_79 kI_1 ?_
    refine r_iadd dX3_swapsFor_80 ?_
    refine r_iload_n dX3_swapsFor_81 rfl ?_
    refine r_callV (x := 17) (As := [.int (x2 + 1), .int x2]) (rest := [.int (v_X3_step M (v_X3_did M x3) (gI M 19 (x2 - 1).toNatClampNeg) (gI M 19 x2.toNatClampNeg))]) dX3_swapsFor_82 mk_X3_85 mv_X3_restOf rm_X3_swapsFor_X3_restOf rfl rfl (by decide +kernel) (Nat.le_of_ble_eq_true rfl) (ct_X3_restOf (g6 c1) (⟨_, rfl, ?_⟩))
    refine r_iadd dX3_swapsFor_85 ?_
    refine r_iload dX3_swapsFor_86 rfl ?_
    suffices hJ1 : Fw l D ad kA mX3_swapsFor 96 [none, none, none, none, none, none, none, none] [.int (if ((v_X3_step M (v_X3_did M x3) (gI M 19 (x2 - 1).toNatClampNeg) (gI M 19 x2.toNatClampNeg)) + (v_X3_restOf M (x2 + 1) x2)) = (v_X3_restOf M x2 x3) then 1 else 0)] M Q by
      refine r_icmp_ne (tgt := 95) dX3_swapsFor_88 (by decide) (fun c2 => ?_) (fun c2 => ?_)
      · skip
        refine r_iconst (v := 0) dX3_swapsFor_95 kI_0 ?_
        exact q_weak (lo' := [none, none, none, none, none, none, none, none]) trivial (by have h9 := hJ1; simp only [if_neg c2] at h9; exact h9)
      · skip
        refine r_iconst (v := 1) dX3_swapsFor_91 kI_1 ?_
        refine r_goto (tgt := 96) dX3_swapsFor_92 (by decide) ?_
        exact q_weak (lo' := [none, none, none, none, none, none, none, none]) trivial (by have h9 := hJ1; simp only [if_pos c2] at h9; exact h9)
    exact r_zret dX3_swapsFor_96 rfl (nar_z (ite01 (Or.inr rfl) (Or.inl rfl))).1 (by have h9 := h; simp only [v_X3_swapsFor, if_neg c1] at h9; exact h9)
  · skip
    refine r_aload_n dX3_swapsFor_37 rfl ?_
    refine r_iload dX3_swapsFor_38 rfl ?_
    refine r_iload dX3_swapsFor_40 rfl ?_
    refine r_iload dX3_swapsFor_42 rfl ?_
    refine r_callV (x := 17) (As := [.int (gI M 19 (x2 - 1).toNatClampNeg), .int (v_X3_did M x3), .int (gI M 19 x2.toNatClampNeg)]) (rest := []) dX3_swapsFor_44 mk_X3_109 mv_X3_step rm_X3_swapsFor_X3_step rfl rfl (by decide +kernel) (Nat.le_of_ble_eq_true rfl) (ct_X3_step (g7 c1) (⟨_, rfl, ?_⟩))
    refine r_aload_n dX3_swapsFor_47 rfl ?_
    refine r_iload_n dX3_swapsFor_48 rfl ?_
    refine r_iconst (v := 1) dX3_swapsFor_49 kI_1 ?_
    refine r_iadd dX3_swapsFor_50 ?_
    refine r_iload_n dX3_swapsFor_51 rfl ?_
    refine r_callV (x := 17) (As := [.int (x2 + 1), .int x3]) (rest := [.int (v_X3_step M (gI M 19 (x2 - 1).toNatClampNeg) (v_X3_did M x3) (gI M 19 x2.toNatClampNeg))]) dX3_swapsFor_52 mk_X3_85 mv_X3_restOf rm_X3_swapsFor_X3_restOf rfl rfl (by decide +kernel) (Nat.le_of_ble_eq_true rfl) (ct_X3_restOf (g8 c1) (⟨_, rfl, ?_⟩))
    refine r_iadd dX3_swapsFor_55 ?_
    refine r_iload dX3_swapsFor_56 rfl ?_
    suffices hJ2 : Fw l D ad kA mX3_swapsFor 66 [none, none, none, none, none, none, none, none] [.int (if ((v_X3_step M (gI M 19 (x2 - 1).toNatClampNeg) (v_X3_did M x3) (gI M 19 x2.toNatClampNeg)) + (v_X3_restOf M (x2 + 1) x3)) = (v_X3_restOf M x2 x3) then 0 else 1)] M Q by
      refine r_icmp_eq (tgt := 65) dX3_swapsFor_58 (by decide) (fun c3 => ?_) (fun c3 => ?_)
      · skip
        refine r_iconst (v := 0) dX3_swapsFor_65 kI_0 ?_
        exact q_weak (lo' := [none, none, none, none, none, none, none, none]) trivial (by have h9 := hJ2; simp only [if_pos c3] at h9; exact h9)
      · skip
        refine r_iconst (v := 1) dX3_swapsFor_61 kI_1 ?_
        refine r_goto (tgt := 66) dX3_swapsFor_62 (by decide) ?_
        exact q_weak (lo' := [none, none, none, none, none, none, none, none]) trivial (by have h9 := hJ2; simp only [if_neg c3] at h9; exact h9)
    exact r_zret dX3_swapsFor_66 rfl (nar_z (ite01 (Or.inl rfl) (Or.inr rfl))).1 (by have h9 := h; simp only [v_X3_swapsFor, if_pos c1] at h9; exact h9)
theorem z_X3_swapsFor {M : Mem} {x1 : Int32} {x2 : Int32} {x3 : Int32} : v_X3_swapsFor M x1 x2 x3 = 0 ∨ v_X3_swapsFor M x1 x2 x3 = 1 := (ite01 (ite01 (Or.inl rfl) (Or.inr rfl)) (ite01 (Or.inr rfl) (Or.inl rfl)))
theorem t_X3_keepHands_0  
    (K1 : Fw l D ad kA mX3_keepHands 2 [some (.ref (ad 17)), some (.int 0), none, none] [] M Q) : Fw l D ad kA mX3_keepHands 0 [some (.ref (ad 17)), none, none, none] [] M Q := by
  refine r_iconst (v := 0) dX3_keepHands_0 kI_0 ?_
  refine q_istore_n (lo' := [some (.ref (ad 17)), some (.int 0), none, none]) dX3_keepHands_1 (by decide) rfl ?_
  exact K1
theorem t_X3_keepHands_2 {x1 : Int32} 
    (g1 : (¬ (160 ≤ x1)) → vp_in x1 160)
    (K1 : (160 ≤ x1) → Fw l D ad kA mX3_keepHands 33 [some (.ref (ad 17)), some (.int 0), some (.int 0), some (.int 0)] [] (sI M 17 3 1) Q)
    (K2 : (¬ (160 ≤ x1)) → Fw l D ad kA mX3_keepHands 2 [some (.ref (ad 17)), some (.int (x1 + 1)), none, none] [] (sI M 18 x1.toNatClampNeg (-1)) Q) : Fw l D ad kA mX3_keepHands 2 [some (.ref (ad 17)), some (.int x1), none, none] [] M Q := by
  refine r_iload_n dX3_keepHands_2 rfl ?_
  refine r_sipush (v := 160) dX3_keepHands_3 kS_160 ?_
  refine r_icmp_ge (tgt := 22) dX3_keepHands_6 (by decide) (fun c1 => ?_) (fun c1 => ?_)
  · skip
    refine r_aload_n dX3_keepHands_22 rfl ?_
    refine r_iconst (v := 1) dX3_keepHands_23 kI_1 ?_
    refine r_putZ dX3_keepHands_24 fs_17_3 fk_X3_32 fp_X3_3 (Or.inr rfl) ?_
    refine r_iconst (v := 0) dX3_keepHands_27 kI_0 ?_
    refine q_istore_n (lo' := [some (.ref (ad 17)), some (.int 0), none, none]) dX3_keepHands_28 (by decide) rfl ?_
    refine r_iconst (v := 0) dX3_keepHands_29 kI_0 ?_
    refine q_istore_n (lo' := [some (.ref (ad 17)), some (.int 0), some (.int 0), none]) dX3_keepHands_30 (by decide) rfl ?_
    refine r_iconst (v := 0) dX3_keepHands_31 kI_0 ?_
    refine q_istore_n (lo' := [some (.ref (ad 17)), some (.int 0), some (.int 0), some (.int 0)]) dX3_keepHands_32 (by decide) rfl ?_
    exact (K1 c1)
  · skip
    refine r_aload_n dX3_keepHands_9 rfl ?_
    refine r_getR dX3_keepHands_10 fs_17_2 fk_X3_9 ?_
    refine r_iload_n dX3_keepHands_13 rfl ?_
    refine r_iconst (v := (-1)) dX3_keepHands_14 kI_m1 ?_
    refine r_iast dX3_keepHands_15 as_18 (g1 c1) ?_
    refine q_iinc (v := x1 + 1) (lo' := [some (.ref (ad 17)), some (.int (x1 + 1)), none, none]) dX3_keepHands_16 rfl (congrArg (fun q => x1 + q) kI_1) (by decide) rfl ?_
    refine r_goto (tgt := 2) dX3_keepHands_19 (by decide) ?_
    exact (K2 c1)
theorem t_X3_keepHands_33 {x1 : Int32} {x2 : Int32} {x3 : Int32} 
    (g1 : (¬ ((gI M 17 5) ≤ x3)) → (¬ (x3 ≤ 0)) → g_X3_swapsFor M x1 x3 x2)
    (g2 : (¬ ((gI M 17 5) ≤ x3)) → vp_in x3 160)
    (g3 : (¬ ((gI M 17 5) ≤ x3)) → vp_in (gI M 19 x3.toNatClampNeg) 160)
    (K1 : ((gI M 17 5) ≤ x3) → Q (.returned none) M)
    (K2 : (¬ ((gI M 17 5) ≤ x3)) → Fw l D ad kA mX3_keepHands 33 [some (.ref (ad 17)), some (.int (if x3 ≤ 0 then x1 else if (v_X3_swapsFor M x1 x3 x2) = 0 then x1 else 1 - x1)), some (.int (if x3 ≤ 0 then x2 else if (v_X3_swapsFor M x1 x3 x2) = 0 then x2 else x3)), some (.int (x3 + 1))] [] (sI M 18 (gI M 19 x3.toNatClampNeg).toNatClampNeg (if x3 ≤ 0 then x1 else if (v_X3_swapsFor M x1 x3 x2) = 0 then x1 else 1 - x1)) Q) : Fw l D ad kA mX3_keepHands 33 [some (.ref (ad 17)), some (.int x1), some (.int x2), some (.int x3)] [] M Q := by
  refine r_iload_n dX3_keepHands_33 rfl ?_
  refine r_aload_n dX3_keepHands_34 rfl ?_
  refine r_getI dX3_keepHands_35 fs_17_5 fk_X3_52 ?_
  refine r_icmp_ge (tgt := 79) dX3_keepHands_38 (by decide) (fun c1 => ?_) (fun c1 => ?_)
  · skip
    exact r_vret dX3_keepHands_79 rfl (K1 c1)
  · skip
    refine r_iload_n dX3_keepHands_41 rfl ?_
    suffices hJ1 : Fw l D ad kA mX3_keepHands 61 [some (.ref (ad 17)), some (.int (if x3 ≤ 0 then x1 else if (v_X3_swapsFor M x1 x3 x2) = 0 then x1 else 1 - x1)), some (.int (if x3 ≤ 0 then x2 else if (v_X3_swapsFor M x1 x3 x2) = 0 then x2 else x3)), some (.int x3)] [] M Q by
      refine r_if_le (tgt := 61) dX3_keepHands_42 (by decide) (fun c2 => ?_) (fun c2 => ?_)
      · skip
        exact q_weak (lo' := [some (.ref (ad 17)), some (.int x1), some (.int x2), some (.int x3)]) ⟨rfl, rfl, rfl, rfl, trivial⟩ (by have h9 := hJ1; simp only [if_pos c2] at h9; exact h9)
      · skip
        refine r_aload_n dX3_keepHands_45 rfl ?_
        refine r_iload_n dX3_keepHands_46 rfl ?_
        refine r_iload_n dX3_keepHands_47 rfl ?_
        refine r_iload_n dX3_keepHands_48 rfl ?_
        refine r_callV (x := 17) (As := [.int x1, .int x3, .int x2]) (rest := []) dX3_keepHands_49 mk_X3_137 mv_X3_swapsFor rm_X3_keepHands_X3_swapsFor rfl rfl (by decide +kernel) (Nat.le_of_ble_eq_true rfl) (ct_X3_swapsFor (g1 c1 c2) (⟨_, rfl, ?_⟩))
        refine r_if_eq (tgt := 61) dX3_keepHands_52 (by decide) (fun c3 => ?_) (fun c3 => ?_)
        · skip
          exact q_weak (lo' := [some (.ref (ad 17)), some (.int x1), some (.int x2), some (.int x3)]) ⟨rfl, rfl, rfl, rfl, trivial⟩ (by have h9 := hJ1; simp only [if_neg c2, if_pos c3] at h9; exact h9)
        · skip
          refine r_iconst (v := 1) dX3_keepHands_55 kI_1 ?_
          refine r_iload_n dX3_keepHands_56 rfl ?_
          refine r_isub dX3_keepHands_57 ?_
          refine q_istore_n (lo' := [some (.ref (ad 17)), some (.int (1 - x1)), some (.int x2), some (.int x3)]) dX3_keepHands_58 (by decide) rfl ?_
          refine r_iload_n dX3_keepHands_59 rfl ?_
          refine q_istore_n (lo' := [some (.ref (ad 17)), some (.int (1 - x1)), some (.int x3), some (.int x3)]) dX3_keepHands_60 (by decide) rfl ?_
          exact q_weak (lo' := [some (.ref (ad 17)), some (.int (1 - x1)), some (.int x3), some (.int x3)]) ⟨rfl, rfl, rfl, rfl, trivial⟩ (by have h9 := hJ1; simp only [if_neg c2, if_neg c3] at h9; exact h9)
    refine r_aload_n dX3_keepHands_61 rfl ?_
    refine r_getR dX3_keepHands_62 fs_17_2 fk_X3_9 ?_
    refine r_aload_n dX3_keepHands_65 rfl ?_
    refine r_getR dX3_keepHands_66 fs_17_4 fk_X3_15 ?_
    refine r_iload_n dX3_keepHands_69 rfl ?_
    refine r_iald dX3_keepHands_70 as_19 (g2 c1) ?_
    refine r_iload_n dX3_keepHands_71 rfl ?_
    refine r_iast dX3_keepHands_72 as_18 (g3 c1) ?_
    refine q_iinc (v := x3 + 1) (lo' := [some (.ref (ad 17)), some (.int (if x3 ≤ 0 then x1 else if (v_X3_swapsFor M x1 x3 x2) = 0 then x1 else 1 - x1)), some (.int (if x3 ≤ 0 then x2 else if (v_X3_swapsFor M x1 x3 x2) = 0 then x2 else x3)), some (.int (x3 + 1))]) dX3_keepHands_73 rfl (congrArg (fun q => x3 + q) kI_1) (by decide) rfl ?_
    refine r_goto (tgt := 33) dX3_keepHands_76 (by decide) ?_
    exact (K2 c1)
theorem en_X3_keepHands  (K : Fw l D ad kA mX3_keepHands 0 [some (.ref (ad 17)), none, none, none] [] M Q) : Cal l D ad kA mX3_keepHands [.ref (ad 17)] M Q := Cal.of (by decide) rfl rfl (Nat.le_of_ble_eq_true rfl) K
theorem t_X3_stepForth_0 {x1 : Int32} 
    (g1 : vp_in x1 160)
    (g2 : g_X3_did M x1)
    (K1 : Fw l D ad kA mX3_stepForth 20 [some (.ref (ad 17)), some (.int x1), some (.int (gI M 19 x1.toNatClampNeg)), some (.int (v_X3_did M x1)), some (.int 16777216), some (.int 0), none] [] M Q) : Fw l D ad kA mX3_stepForth 0 [some (.ref (ad 17)), some (.int x1), none, none, none, none, none] [] M Q := by
  refine r_aload_n dX3_stepForth_0 rfl ?_
  refine r_getR dX3_stepForth_1 fs_17_4 fk_X3_15 ?_
  refine r_iload_n dX3_stepForth_4 rfl ?_
  refine r_iald dX3_stepForth_5 as_19 g1 ?_
  refine q_istore_n (lo' := [some (.ref (ad 17)), some (.int x1), some (.int (gI M 19 x1.toNatClampNeg)), none, none, none, none]) dX3_stepForth_6 (by decide) rfl ?_
  refine r_aload_n dX3_stepForth_7 rfl ?_
  refine r_iload_n dX3_stepForth_8 rfl ?_
  refine r_callV (x := 17) (As := [.int x1]) (rest := []) dX3_stepForth_9 mk_X3_100 mv_X3_did rm_X3_stepForth_X3_did rfl rfl (by decide +kernel) (Nat.le_of_ble_eq_true rfl) (ct_X3_did g2 (⟨_, rfl, ?_⟩))
  refine q_istore_n (lo' := [some (.ref (ad 17)), some (.int x1), some (.int (gI M 19 x1.toNatClampNeg)), some (.int (v_X3_did M x1)), none, none, none]) dX3_stepForth_12 (by decide) rfl ?_
  refine r_ldc (v := 16777216) dX3_stepForth_13 co_X3_48 ?_
  refine q_istore (lo' := [some (.ref (ad 17)), some (.int x1), some (.int (gI M 19 x1.toNatClampNeg)), some (.int (v_X3_did M x1)), some (.int 16777216), none, none]) dX3_stepForth_15 (by decide) rfl ?_
  refine r_iconst (v := 0) dX3_stepForth_17 kI_0 ?_
  refine q_istore (lo' := [some (.ref (ad 17)), some (.int x1), some (.int (gI M 19 x1.toNatClampNeg)), some (.int (v_X3_did M x1)), some (.int 16777216), some (.int 0), none]) dX3_stepForth_18 (by decide) rfl ?_
  exact K1
theorem t_X3_stepForth_20 {x1 : Int32} {x2 : Int32} {x3 : Int32} {x4 : Int32} {x5 : Int32} 
    (g1 : ((v_X3_others x1) ≤ x5) → (¬ (x1 ≤ 0)) → vp_in x1 160)
    (g2 : (¬ ((v_X3_others x1) ≤ x5)) → g_X3_did M x5)
    (g3 : (¬ ((v_X3_others x1) ≤ x5)) → vp_in x5 160)
    (g4 : (¬ ((v_X3_others x1) ≤ x5)) → g_X3_step M (v_X3_did M x5) x3 x2)
    (g5 : (¬ ((v_X3_others x1) ≤ x5)) → g_X3_step M x3 (v_X3_did M x5) x2)
    (K1 : ((v_X3_others x1) ≤ x5) → (x1 ≤ 0) → Q (.returned none) M)
    (K2 : ((v_X3_others x1) ≤ x5) → (¬ (x1 ≤ 0)) → Q (.returned none) (sI M 21 x1.toNatClampNeg x4))
    (K3 : (¬ ((v_X3_others x1) ≤ x5)) → Fw l D ad kA mX3_stepForth 20 [some (.ref (ad 17)), some (.int x1), some (.int x2), some (.int x3), some (.int (imin x4 ((gI M 21 x5.toNatClampNeg) + (v_X3_step M (v_X3_did M x5) x3 x2)))), some (.int (x5 + 1)), none] [] (sI M 21 x5.toNatClampNeg (imin 16777216 ((gI M 21 x5.toNatClampNeg) + (v_X3_step M x3 (v_X3_did M x5) x2)))) Q) : Fw l D ad kA mX3_stepForth 20 [some (.ref (ad 17)), some (.int x1), some (.int x2), some (.int x3), some (.int x4), some (.int x5), none] [] M Q := by
  refine r_iload dX3_stepForth_20 rfl ?_
  refine r_iload_n dX3_stepForth_22 rfl ?_
  refine r_callS (As := [.int x1]) (rest := [.int x5]) dX3_stepForth_23 mk_X3_106 ms_X3_others rm_X3_stepForth_X3_others rfl rfl (Nat.le_of_ble_eq_true rfl) (ct_X3_others (⟨_, rfl, ?_⟩))
  refine r_icmp_ge (tgt := 94) dX3_stepForth_26 (by decide) (fun c1 => ?_) (fun c1 => ?_)
  · skip
    refine r_iload_n dX3_stepForth_94 rfl ?_
    refine r_if_le (tgt := 106) dX3_stepForth_95 (by decide) (fun c2 => ?_) (fun c2 => ?_)
    · skip
      exact r_vret dX3_stepForth_106 rfl (K1 c1 c2)
    · skip
      refine r_aload_n dX3_stepForth_98 rfl ?_
      refine r_getR dX3_stepForth_99 fs_17_8 fk_X3_21 ?_
      refine r_iload_n dX3_stepForth_102 rfl ?_
      refine r_iload dX3_stepForth_103 rfl ?_
      refine r_iast dX3_stepForth_105 as_21 (g1 c1 c2) ?_
      exact r_vret dX3_stepForth_106 rfl (K2 c1 c2)
  · skip
    refine r_aload_n dX3_stepForth_29 rfl ?_
    refine r_iload dX3_stepForth_30 rfl ?_
    refine r_callV (x := 17) (As := [.int x5]) (rest := []) dX3_stepForth_32 mk_X3_100 mv_X3_did rm_X3_stepForth_X3_did rfl rfl (by decide +kernel) (Nat.le_of_ble_eq_true rfl) (ct_X3_did (g2 c1) (⟨_, rfl, ?_⟩))
    refine q_istore (lo' := [some (.ref (ad 17)), some (.int x1), some (.int x2), some (.int x3), some (.int x4), some (.int x5), some (.int (v_X3_did M x5))]) dX3_stepForth_35 (by decide) rfl ?_
    refine r_iload dX3_stepForth_37 rfl ?_
    refine r_aload_n dX3_stepForth_39 rfl ?_
    refine r_getR dX3_stepForth_40 fs_17_8 fk_X3_21 ?_
    refine r_iload dX3_stepForth_43 rfl ?_
    refine r_iald dX3_stepForth_45 as_21 (g3 c1) ?_
    refine r_aload_n dX3_stepForth_46 rfl ?_
    refine r_iload dX3_stepForth_47 rfl ?_
    refine r_iload_n dX3_stepForth_49 rfl ?_
    refine r_iload_n dX3_stepForth_50 rfl ?_
    refine r_callV (x := 17) (As := [.int (v_X3_did M x5), .int x3, .int x2]) (rest := [.int (gI M 21 x5.toNatClampNeg), .int x4]) dX3_stepForth_51 mk_X3_109 mv_X3_step rm_X3_stepForth_X3_step rfl rfl (by decide +kernel) (Nat.le_of_ble_eq_true rfl) (ct_X3_step (g4 c1) (⟨_, rfl, ?_⟩))
    refine r_iadd dX3_stepForth_54 ?_
    refine q_mmin dX3_stepForth_55 mk_X3_103 (by decide) (Nat.le_of_ble_eq_true rfl) ?_
    refine q_istore (lo' := [some (.ref (ad 17)), some (.int x1), some (.int x2), some (.int x3), some (.int (imin x4 ((gI M 21 x5.toNatClampNeg) + (v_X3_step M (v_X3_did M x5) x3 x2)))), some (.int x5), some (.int (v_X3_did M x5))]) dX3_stepForth_58 (by decide) rfl ?_
    refine r_aload_n dX3_stepForth_60 rfl ?_
    refine r_getR dX3_stepForth_61 fs_17_8 fk_X3_21 ?_
    refine r_iload dX3_stepForth_64 rfl ?_
    refine r_ldc (v := 16777216) dX3_stepForth_66 co_X3_48 ?_
    refine r_aload_n dX3_stepForth_68 rfl ?_
    refine r_getR dX3_stepForth_69 fs_17_8 fk_X3_21 ?_
    refine r_iload dX3_stepForth_72 rfl ?_
    refine r_iald dX3_stepForth_74 as_21 (g3 c1) ?_
    refine r_aload_n dX3_stepForth_75 rfl ?_
    refine r_iload_n dX3_stepForth_76 rfl ?_
    refine r_iload dX3_stepForth_77 rfl ?_
    refine r_iload_n dX3_stepForth_79 rfl ?_
    refine r_callV (x := 17) (As := [.int x3, .int (v_X3_did M x5), .int x2]) (rest := [.int (gI M 21 x5.toNatClampNeg), .int 16777216, .int x5, .ref (ad 21)]) dX3_stepForth_80 mk_X3_109 mv_X3_step rm_X3_stepForth_X3_step rfl rfl (by decide +kernel) (Nat.le_of_ble_eq_true rfl) (ct_X3_step (g5 c1) (⟨_, rfl, ?_⟩))
    refine r_iadd dX3_stepForth_83 ?_
    refine q_mmin dX3_stepForth_84 mk_X3_103 (by decide) (Nat.le_of_ble_eq_true rfl) ?_
    refine r_iast dX3_stepForth_87 as_21 (g3 c1) ?_
    refine q_iinc (v := x5 + 1) (lo' := [some (.ref (ad 17)), some (.int x1), some (.int x2), some (.int x3), some (.int (imin x4 ((gI M 21 x5.toNatClampNeg) + (v_X3_step M (v_X3_did M x5) x3 x2)))), some (.int (x5 + 1)), some (.int (v_X3_did M x5))]) dX3_stepForth_88 rfl (congrArg (fun q => x5 + q) kI_1) (by decide) rfl ?_
    refine r_goto (tgt := 20) dX3_stepForth_91 (by decide) ?_
    exact q_weak (lo' := [some (.ref (ad 17)), some (.int x1), some (.int x2), some (.int x3), some (.int (imin x4 ((gI M 21 x5.toNatClampNeg) + (v_X3_step M (v_X3_did M x5) x3 x2)))), some (.int (x5 + 1)), none]) ⟨rfl, rfl, rfl, rfl, rfl, rfl, trivial⟩ (K3 c1)
theorem en_X3_stepForth {x1 : Int32} (K : Fw l D ad kA mX3_stepForth 0 [some (.ref (ad 17)), some (.int x1), none, none, none, none, none] [] M Q) : Cal l D ad kA mX3_stepForth [.ref (ad 17), .int x1] M Q := Cal.of (by decide) rfl rfl (Nat.le_of_ble_eq_true rfl) K
theorem t_X3_takesSkipping_0 {x1 : Int32} 
    (g1 : g_X3_did M x1)
    (K1 : Fw l D ad kA mX3_takesSkipping 12 [some (.ref (ad 17)), some (.int x1), some (.int (v_X3_did M x1)), some (.int 16777216), some (.int 0), none, none, none, none, none] [] M Q) : Fw l D ad kA mX3_takesSkipping 0 [some (.ref (ad 17)), some (.int x1), none, none, none, none, none, none, none, none] [] M Q := by
  refine r_aload_n dX3_takesSkipping_0 rfl ?_
  refine r_iload_n dX3_takesSkipping_1 rfl ?_
  refine r_callV (x := 17) (As := [.int x1]) (rest := []) dX3_takesSkipping_2 mk_X3_100 mv_X3_did rm_X3_takesSkipping_X3_did rfl rfl (by decide +kernel) (Nat.le_of_ble_eq_true rfl) (ct_X3_did g1 (⟨_, rfl, ?_⟩))
  refine q_istore_n (lo' := [some (.ref (ad 17)), some (.int x1), some (.int (v_X3_did M x1)), none, none, none, none, none, none, none]) dX3_takesSkipping_5 (by decide) rfl ?_
  refine r_ldc (v := 16777216) dX3_takesSkipping_6 co_X3_48 ?_
  refine q_istore_n (lo' := [some (.ref (ad 17)), some (.int x1), some (.int (v_X3_did M x1)), some (.int 16777216), none, none, none, none, none, none]) dX3_takesSkipping_8 (by decide) rfl ?_
  refine r_iconst (v := 0) dX3_takesSkipping_9 kI_0 ?_
  refine q_istore (lo' := [some (.ref (ad 17)), some (.int x1), some (.int (v_X3_did M x1)), some (.int 16777216), some (.int 0), none, none, none, none, none]) dX3_takesSkipping_10 (by decide) rfl ?_
  exact K1
theorem t_X3_takesSkipping_12 {x1 : Int32} {x2 : Int32} {x3 : Int32} {x4 : Int32} 
    (g1 : (¬ ((v_X3_others x1) ≤ x4)) → g_X3_did M x4)
    (g2 : (¬ ((v_X3_others x1) ≤ x4)) → (¬ ((gI M 17 5) ≤ (x1 + 1))) → vp_in (x1 + 1) 160)
    (g3 : (¬ ((v_X3_others x1) ≤ x4)) → (¬ ((gI M 17 5) ≤ (x1 + 1))) → g_X3_step M x2 (v_X3_did M x4) (gI M 19 (x1 + 1).toNatClampNeg))
    (g4 : (¬ ((v_X3_others x1) ≤ x4)) → (¬ ((gI M 17 5) ≤ (x1 + 1))) → g_X3_restOf M (x1 + 2) x4)
    (g5 : (¬ ((v_X3_others x1) ≤ x4)) → (¬ ((gI M 17 5) ≤ (x1 + 1))) → g_X3_step M (v_X3_did M x4) x2 (gI M 19 (x1 + 1).toNatClampNeg))
    (g6 : (¬ ((v_X3_others x1) ≤ x4)) → (¬ ((gI M 17 5) ≤ (x1 + 1))) → g_X3_restOf M (x1 + 2) x1)
    (g7 : (¬ ((v_X3_others x1) ≤ x4)) → vp_in x4 160)
    (K1 : ((v_X3_others x1) ≤ x4) → Q (.returned (some (.int x3))) M)
    (K2 : (¬ ((v_X3_others x1) ≤ x4)) → Fw l D ad kA mX3_takesSkipping 12 [some (.ref (ad 17)), some (.int x1), some (.int x2), some (.int (imin x3 ((gI M 21 x4.toNatClampNeg) + (if (gI M 17 5) ≤ (x1 + 1) then 0 else imin ((v_X3_step M x2 (v_X3_did M x4) (gI M 19 (x1 + 1).toNatClampNeg)) + (v_X3_restOf M (x1 + 2) x4)) ((v_X3_step M (v_X3_did M x4) x2 (gI M 19 (x1 + 1).toNatClampNeg)) + (v_X3_restOf M (x1 + 2) x1)))))), some (.int (x4 + 1)), none, none, none, none, none] [] M Q) : Fw l D ad kA mX3_takesSkipping 12 [some (.ref (ad 17)), some (.int x1), some (.int x2), some (.int x3), some (.int x4), none, none, none, none, none] [] M Q := by
  refine r_iload dX3_takesSkipping_12 rfl ?_
  refine r_iload_n dX3_takesSkipping_14 rfl ?_
  refine r_callS (As := [.int x1]) (rest := [.int x4]) dX3_takesSkipping_15 mk_X3_106 ms_X3_others rm_X3_takesSkipping_X3_others rfl rfl (Nat.le_of_ble_eq_true rfl) (ct_X3_others (⟨_, rfl, ?_⟩))
  refine r_icmp_ge (tgt := 123) dX3_takesSkipping_18 (by decide) (fun c1 => ?_) (fun c1 => ?_)
  · skip
    refine r_iload_n dX3_takesSkipping_123 rfl ?_
    exact r_iret dX3_takesSkipping_124 rfl (K1 c1)
  · skip
    refine r_aload_n dX3_takesSkipping_21 rfl ?_
    refine r_iload dX3_takesSkipping_22 rfl ?_
    refine r_callV (x := 17) (As := [.int x4]) (rest := []) dX3_takesSkipping_24 mk_X3_100 mv_X3_did rm_X3_takesSkipping_X3_did rfl rfl (by decide +kernel) (Nat.le_of_ble_eq_true rfl) (ct_X3_did (g1 c1) (⟨_, rfl, ?_⟩))
    refine q_istore (lo' := [some (.ref (ad 17)), some (.int x1), some (.int x2), some (.int x3), some (.int x4), some (.int (v_X3_did M x4)), none, none, none, none]) dX3_takesSkipping_27 (by decide) rfl ?_
    refine r_iconst (v := 0) dX3_takesSkipping_29 kI_0 ?_
    refine q_istore (lo' := [some (.ref (ad 17)), some (.int x1), some (.int x2), some (.int x3), some (.int x4), some (.int (v_X3_did M x4)), some (.int 0), none, none, none]) dX3_takesSkipping_30 (by decide) rfl ?_
    refine r_iload_n dX3_takesSkipping_32 rfl ?_
    refine r_iconst (v := 1) dX3_takesSkipping_33 kI_1 ?_
    refine r_iadd dX3_takesSkipping_34 ?_
    refine r_aload_n dX3_takesSkipping_35 rfl ?_
    refine r_getI dX3_takesSkipping_36 fs_17_5 fk_X3_52 ?_
    suffices hJ1 : Fw l D ad kA mX3_takesSkipping 102 [some (.ref (ad 17)), some (.int x1), some (.int x2), some (.int x3), some (.int x4), none, some (.int (if (gI M 17 5) ≤ (x1 + 1) then 0 else imin ((v_X3_step M x2 (v_X3_did M x4) (gI M 19 (x1 + 1).toNatClampNeg)) + (v_X3_restOf M (x1 + 2) x4)) ((v_X3_step M (v_X3_did M x4) x2 (gI M 19 (x1 + 1).toNatClampNeg)) + (v_X3_restOf M (x1 + 2) x1)))), none, none, none] [] M Q by
      refine r_icmp_ge (tgt := 102) dX3_takesSkipping_39 (by decide) (fun c2 => ?_) (fun c2 => ?_)
      · skip
        exact q_weak (lo' := [some (.ref (ad 17)), some (.int x1), some (.int x2), some (.int x3), some (.int x4), none, some (.int 0), none, none, none]) ⟨rfl, rfl, rfl, rfl, rfl, rfl, trivial⟩ (by have h9 := hJ1; simp only [if_pos c2] at h9; exact h9)
      · skip
        refine r_aload_n dX3_takesSkipping_42 rfl ?_
        refine r_getR dX3_takesSkipping_43 fs_17_4 fk_X3_15 ?_
        refine r_iload_n dX3_takesSkipping_46 rfl ?_
        refine r_iconst (v := 1) dX3_takesSkipping_47 kI_1 ?_
        refine r_iadd dX3_takesSkipping_48 ?_
        refine r_iald dX3_takesSkipping_49 as_19 (g2 c1 c2) ?_
        refine q_istore (lo' := [some (.ref (ad 17)), some (.int x1), some (.int x2), some (.int x3), some (.int x4), some (.int (v_X3_did M x4)), some (.int 0), some (.int (gI M 19 (x1 + 1).toNatClampNeg)), none, none]) dX3_takesSkipping_50 (by decide) rfl ?_
        refine r_aload_n dX3_takesSkipping_52 rfl ?_
        refine r_iload_n dX3_takesSkipping_53 rfl ?_
        refine r_iload dX3_takesSkipping_54 rfl ?_
        refine r_iload dX3_takesSkipping_56 rfl ?_
        refine r_callV (x := 17) (As := [.int x2, .int (v_X3_did M x4), .int (gI M 19 (x1 + 1).toNatClampNeg)]) (rest := []) dX3_takesSkipping_58 mk_X3_109 mv_X3_step rm_X3_takesSkipping_X3_step rfl rfl (by decide +kernel) (Nat.le_of_ble_eq_true rfl) (ct_X3_step (g3 c1 c2) (⟨_, rfl, ?_⟩))
        refine r_aload_n dX3_takesSkipping_61 rfl ?_
        refine r_iload_n dX3_takesSkipping_62 rfl ?_
        refine r_iconst (v := 2) dX3_takesSkipping_63 kI_2 ?_
        refine r_iadd dX3_takesSkipping_64 ?_
        refine r_iload dX3_takesSkipping_65 rfl ?_
        refine r_callV (x := 17) (As := [.int (x1 + 2), .int x4]) (rest := [.int (v_X3_step M x2 (v_X3_did M x4) (gI M 19 (x1 + 1).toNatClampNeg))]) dX3_takesSkipping_67 mk_X3_85 mv_X3_restOf rm_X3_takesSkipping_X3_restOf rfl rfl (by decide +kernel) (Nat.le_of_ble_eq_true rfl) (ct_X3_restOf (g4 c1 c2) (⟨_, rfl, ?_⟩))
        refine r_iadd dX3_takesSkipping_70 ?_
        refine q_istore (lo' := [some (.ref (ad 17)), some (.int x1), some (.int x2), some (.int x3), some (.int x4), some (.int (v_X3_did M x4)), some (.int 0), some (.int (gI M 19 (x1 + 1).toNatClampNeg)), some (.int ((v_X3_step M x2 (v_X3_did M x4) (gI M 19 (x1 + 1).toNatClampNeg)) + (v_X3_restOf M (x1 + 2) x4))), none]) dX3_takesSkipping_71 (by decide) rfl ?_
        refine r_aload_n dX3_takesSkipping_73 rfl ?_
        refine r_iload dX3_takesSkipping_74 rfl ?_
        refine r_iload_n dX3_takesSkipping_76 rfl ?_
        refine r_iload dX3_takesSkipping_77 rfl ?_
        refine r_callV (x := 17) (As := [.int (v_X3_did M x4), .int x2, .int (gI M 19 (x1 + 1).toNatClampNeg)]) (rest := []) dX3_takesSkipping_79 mk_X3_109 mv_X3_step rm_X3_takesSkipping_X3_step rfl rfl (by decide +kernel) (Nat.le_of_ble_eq_true rfl) (ct_X3_step (g5 c1 c2) (⟨_, rfl, ?_⟩))
        refine r_aload_n dX3_takesSkipping_82 rfl ?_
        refine r_iload_n dX3_takesSkipping_83 rfl ?_
        refine r_iconst (v := 2) dX3_takesSkipping_84 kI_2 ?_
        refine r_iadd dX3_takesSkipping_85 ?_
        refine r_iload_n dX3_takesSkipping_86 rfl ?_
        refine r_callV (x := 17) (As := [.int (x1 + 2), .int x1]) (rest := [.int (v_X3_step M (v_X3_did M x4) x2 (gI M 19 (x1 + 1).toNatClampNeg))]) dX3_takesSkipping_87 mk_X3_85 mv_X3_restOf rm_X3_takesSkipping_X3_restOf rfl rfl (by decide +kernel) (Nat.le_of_ble_eq_true rfl) (ct_X3_restOf (g6 c1 c2) (⟨_, rfl, ?_⟩))
        refine r_iadd dX3_takesSkipping_90 ?_
        refine q_istore (lo' := [some (.ref (ad 17)), some (.int x1), some (.int x2), some (.int x3), some (.int x4), some (.int (v_X3_did M x4)), some (.int 0), some (.int (gI M 19 (x1 + 1).toNatClampNeg)), some (.int ((v_X3_step M x2 (v_X3_did M x4) (gI M 19 (x1 + 1).toNatClampNeg)) + (v_X3_restOf M (x1 + 2) x4))), some (.int ((v_X3_step M (v_X3_did M x4) x2 (gI M 19 (x1 + 1).toNatClampNeg)) + (v_X3_restOf M (x1 + 2) x1)))]) dX3_takesSkipping_91 (by decide) rfl ?_
        refine r_iload dX3_takesSkipping_93 rfl ?_
        refine r_iload dX3_takesSkipping_95 rfl ?_
        refine q_mmin dX3_takesSkipping_97 mk_X3_103 (by decide) (Nat.le_of_ble_eq_true rfl) ?_
        refine q_istore (lo' := [some (.ref (ad 17)), some (.int x1), some (.int x2), some (.int x3), some (.int x4), some (.int (v_X3_did M x4)), some (.int (imin ((v_X3_step M x2 (v_X3_did M x4) (gI M 19 (x1 + 1).toNatClampNeg)) + (v_X3_restOf M (x1 + 2) x4)) ((v_X3_step M (v_X3_did M x4) x2 (gI M 19 (x1 + 1).toNatClampNeg)) + (v_X3_restOf M (x1 + 2) x1)))), some (.int (gI M 19 (x1 + 1).toNatClampNeg)), some (.int ((v_X3_step M x2 (v_X3_did M x4) (gI M 19 (x1 + 1).toNatClampNeg)) + (v_X3_restOf M (x1 + 2) x4))), some (.int ((v_X3_step M (v_X3_did M x4) x2 (gI M 19 (x1 + 1).toNatClampNeg)) + (v_X3_restOf M (x1 + 2) x1)))]) dX3_takesSkipping_100 (by decide) rfl ?_
        exact q_weak (lo' := [some (.ref (ad 17)), some (.int x1), some (.int x2), some (.int x3), some (.int x4), none, some (.int (imin ((v_X3_step M x2 (v_X3_did M x4) (gI M 19 (x1 + 1).toNatClampNeg)) + (v_X3_restOf M (x1 + 2) x4)) ((v_X3_step M (v_X3_did M x4) x2 (gI M 19 (x1 + 1).toNatClampNeg)) + (v_X3_restOf M (x1 + 2) x1)))), none, none, none]) ⟨rfl, rfl, rfl, rfl, rfl, rfl, trivial⟩ (by have h9 := hJ1; simp only [if_neg c2] at h9; exact h9)
    refine r_iload_n dX3_takesSkipping_102 rfl ?_
    refine r_aload_n dX3_takesSkipping_103 rfl ?_
    refine r_getR dX3_takesSkipping_104 fs_17_8 fk_X3_21 ?_
    refine r_iload dX3_takesSkipping_107 rfl ?_
    refine r_iald dX3_takesSkipping_109 as_21 (g7 c1) ?_
    refine r_iload dX3_takesSkipping_110 rfl ?_
    refine r_iadd dX3_takesSkipping_112 ?_
    refine q_mmin dX3_takesSkipping_113 mk_X3_103 (by decide) (Nat.le_of_ble_eq_true rfl) ?_
    refine q_istore_n (lo' := [some (.ref (ad 17)), some (.int x1), some (.int x2), some (.int (imin x3 ((gI M 21 x4.toNatClampNeg) + (if (gI M 17 5) ≤ (x1 + 1) then 0 else imin ((v_X3_step M x2 (v_X3_did M x4) (gI M 19 (x1 + 1).toNatClampNeg)) + (v_X3_restOf M (x1 + 2) x4)) ((v_X3_step M (v_X3_did M x4) x2 (gI M 19 (x1 + 1).toNatClampNeg)) + (v_X3_restOf M (x1 + 2) x1)))))), some (.int x4), none, some (.int (if (gI M 17 5) ≤ (x1 + 1) then 0 else imin ((v_X3_step M x2 (v_X3_did M x4) (gI M 19 (x1 + 1).toNatClampNeg)) + (v_X3_restOf M (x1 + 2) x4)) ((v_X3_step M (v_X3_did M x4) x2 (gI M 19 (x1 + 1).toNatClampNeg)) + (v_X3_restOf M (x1 + 2) x1)))), none, none, none]) dX3_takesSkipping_116 (by decide) rfl ?_
    refine q_iinc (v := x4 + 1) (lo' := [some (.ref (ad 17)), some (.int x1), some (.int x2), some (.int (imin x3 ((gI M 21 x4.toNatClampNeg) + (if (gI M 17 5) ≤ (x1 + 1) then 0 else imin ((v_X3_step M x2 (v_X3_did M x4) (gI M 19 (x1 + 1).toNatClampNeg)) + (v_X3_restOf M (x1 + 2) x4)) ((v_X3_step M (v_X3_did M x4) x2 (gI M 19 (x1 + 1).toNatClampNeg)) + (v_X3_restOf M (x1 + 2) x1)))))), some (.int (x4 + 1)), none, some (.int (if (gI M 17 5) ≤ (x1 + 1) then 0 else imin ((v_X3_step M x2 (v_X3_did M x4) (gI M 19 (x1 + 1).toNatClampNeg)) + (v_X3_restOf M (x1 + 2) x4)) ((v_X3_step M (v_X3_did M x4) x2 (gI M 19 (x1 + 1).toNatClampNeg)) + (v_X3_restOf M (x1 + 2) x1)))), none, none, none]) dX3_takesSkipping_117 rfl (congrArg (fun q => x4 + q) kI_1) (by decide) rfl ?_
    refine r_goto (tgt := 12) dX3_takesSkipping_120 (by decide) ?_
    exact q_weak (lo' := [some (.ref (ad 17)), some (.int x1), some (.int x2), some (.int (imin x3 ((gI M 21 x4.toNatClampNeg) + (if (gI M 17 5) ≤ (x1 + 1) then 0 else imin ((v_X3_step M x2 (v_X3_did M x4) (gI M 19 (x1 + 1).toNatClampNeg)) + (v_X3_restOf M (x1 + 2) x4)) ((v_X3_step M (v_X3_did M x4) x2 (gI M 19 (x1 + 1).toNatClampNeg)) + (v_X3_restOf M (x1 + 2) x1)))))), some (.int (x4 + 1)), none, none, none, none, none]) ⟨rfl, rfl, rfl, rfl, rfl, trivial⟩ (K2 c1)
theorem en_X3_takesSkipping {x1 : Int32} (K : Fw l D ad kA mX3_takesSkipping 0 [some (.ref (ad 17)), some (.int x1), none, none, none, none, none, none, none, none] [] M Q) : Cal l D ad kA mX3_takesSkipping [.ref (ad 17), .int x1] M Q := Cal.of (by decide) rfl rfl (Nat.le_of_ble_eq_true rfl) K
theorem t_X3_restBeside_0 {x1 : Int32} {x2 : Int32} 
    (K1 : Fw l D ad kA mX3_restBeside 10 [some (.ref (ad 17)), some (.int x1), some (.int x2), some (.int 0), some (.int ((gI M 17 5) - 1)), none, none] [] M Q) : Fw l D ad kA mX3_restBeside 0 [some (.ref (ad 17)), some (.int x1), some (.int x2), none, none, none, none] [] M Q := by
  refine r_iconst (v := 0) dX3_restBeside_0 kI_0 ?_
  refine q_istore_n (lo' := [some (.ref (ad 17)), some (.int x1), some (.int x2), some (.int 0), none, none, none]) dX3_restBeside_1 (by decide) rfl ?_
  refine r_aload_n dX3_restBeside_2 rfl ?_
  refine r_getI dX3_restBeside_3 fs_17_5 fk_X3_52 ?_
  refine r_iconst (v := 1) dX3_restBeside_6 kI_1 ?_
  refine r_isub dX3_restBeside_7 ?_
  refine q_istore (lo' := [some (.ref (ad 17)), some (.int x1), some (.int x2), some (.int 0), some (.int ((gI M 17 5) - 1)), none, none]) dX3_restBeside_8 (by decide) rfl ?_
  exact K1
theorem t_X3_restBeside_10 {x1 : Int32} {x2 : Int32} {x3 : Int32} {x4 : Int32} 
    (g1 : (¬ (x4 < x2)) → vp_in (x4 - 1) 160)
    (g2 : (¬ (x4 < x2)) → vp_in x4 160)
    (g3 : (¬ (x4 < x2)) → g_X3_step M (gI M 19 (x4 - 1).toNatClampNeg) x1 (gI M 19 x4.toNatClampNeg))
    (g4 : (¬ (x4 < x2)) → g_X3_step M x1 (gI M 19 (x4 - 1).toNatClampNeg) (gI M 19 x4.toNatClampNeg))
    (g5 : (¬ (x4 < x2)) → g_X3_restOf M (x4 + 1) x4)
    (K1 : (x4 < x2) → Q (.returned (some (.int x3))) M)
    (K2 : (¬ (x4 < x2)) → Fw l D ad kA mX3_restBeside 10 [some (.ref (ad 17)), some (.int x1), some (.int x2), some (.int (imin 16777216 (imin ((v_X3_step M (gI M 19 (x4 - 1).toNatClampNeg) x1 (gI M 19 x4.toNatClampNeg)) + x3) ((v_X3_step M x1 (gI M 19 (x4 - 1).toNatClampNeg) (gI M 19 x4.toNatClampNeg)) + (v_X3_restOf M (x4 + 1) x4))))), some (.int (x4 + (-1))), none, none] [] M Q) : Fw l D ad kA mX3_restBeside 10 [some (.ref (ad 17)), some (.int x1), some (.int x2), some (.int x3), some (.int x4), none, none] [] M Q := by
  refine r_iload dX3_restBeside_10 rfl ?_
  refine r_iload_n dX3_restBeside_12 rfl ?_
  refine r_icmp_lt (tgt := 94) dX3_restBeside_13 (by decide) (fun c1 => ?_) (fun c1 => ?_)
  · skip
    refine r_iload_n dX3_restBeside_94 rfl ?_
    exact r_iret dX3_restBeside_95 rfl (K1 c1)
  · skip
    refine r_aload_n dX3_restBeside_16 rfl ?_
    refine r_aload_n dX3_restBeside_17 rfl ?_
    refine r_getR dX3_restBeside_18 fs_17_4 fk_X3_15 ?_
    refine r_iload dX3_restBeside_21 rfl ?_
    refine r_iconst (v := 1) dX3_restBeside_23 kI_1 ?_
    refine r_isub dX3_restBeside_24 ?_
    refine r_iald dX3_restBeside_25 as_19 (g1 c1) ?_
    refine r_iload_n dX3_restBeside_26 rfl ?_
    refine r_aload_n dX3_restBeside_27 rfl ?_
    refine r_getR dX3_restBeside_28 fs_17_4 fk_X3_15 ?_
    refine r_iload dX3_restBeside_31 rfl ?_
    refine r_iald dX3_restBeside_33 as_19 (g2 c1) ?_
    refine r_callV (x := 17) (As := [.int (gI M 19 (x4 - 1).toNatClampNeg), .int x1, .int (gI M 19 x4.toNatClampNeg)]) (rest := []) dX3_restBeside_34 mk_X3_109 mv_X3_step rm_X3_restBeside_X3_step rfl rfl (by decide +kernel) (Nat.le_of_ble_eq_true rfl) (ct_X3_step (g3 c1) (⟨_, rfl, ?_⟩))
    refine r_iload_n dX3_restBeside_37 rfl ?_
    refine r_iadd dX3_restBeside_38 ?_
    refine q_istore (lo' := [some (.ref (ad 17)), some (.int x1), some (.int x2), some (.int x3), some (.int x4), some (.int ((v_X3_step M (gI M 19 (x4 - 1).toNatClampNeg) x1 (gI M 19 x4.toNatClampNeg)) + x3)), none]) dX3_restBeside_39 (by decide) rfl ?_
    refine r_aload_n dX3_restBeside_41 rfl ?_
    refine r_iload_n dX3_restBeside_42 rfl ?_
    refine r_aload_n dX3_restBeside_43 rfl ?_
    refine r_getR dX3_restBeside_44 fs_17_4 fk_X3_15 ?_
    refine r_iload dX3_restBeside_47 rfl ?_
    refine r_iconst (v := 1) dX3_restBeside_49 kI_1 ?_
    refine r_isub dX3_restBeside_50 ?_
    refine r_iald dX3_restBeside_51 as_19 (g1 c1) ?_
    refine r_aload_n dX3_restBeside_52 rfl ?_
    refine r_getR dX3_restBeside_53 fs_17_4 fk_X3_15 ?_
    refine r_iload dX3_restBeside_56 rfl ?_
    refine r_iald dX3_restBeside_58 as_19 (g2 c1) ?_
    refine r_callV (x := 17) (As := [.int x1, .int (gI M 19 (x4 - 1).toNatClampNeg), .int (gI M 19 x4.toNatClampNeg)]) (rest := []) dX3_restBeside_59 mk_X3_109 mv_X3_step rm_X3_restBeside_X3_step rfl rfl (by decide +kernel) (Nat.le_of_ble_eq_true rfl) (ct_X3_step (g4 c1) (⟨_, rfl, ?_⟩))
    refine r_aload_n dX3_restBeside_62 rfl ?_
    refine r_iload dX3_restBeside_63 rfl ?_
    refine r_iconst (v := 1) dX3_restBeside_65 kI_1 ?_
    refine r_iadd dX3_restBeside_66 ?_
    refine r_iload dX3_restBeside_67 rfl ?_
    refine r_callV (x := 17) (As := [.int (x4 + 1), .int x4]) (rest := [.int (v_X3_step M x1 (gI M 19 (x4 - 1).toNatClampNeg) (gI M 19 x4.toNatClampNeg))]) dX3_restBeside_69 mk_X3_85 mv_X3_restOf rm_X3_restBeside_X3_restOf rfl rfl (by decide +kernel) (Nat.le_of_ble_eq_true rfl) (ct_X3_restOf (g5 c1) (⟨_, rfl, ?_⟩))
    refine r_iadd dX3_restBeside_72 ?_
    refine q_istore (lo' := [some (.ref (ad 17)), some (.int x1), some (.int x2), some (.int x3), some (.int x4), some (.int ((v_X3_step M (gI M 19 (x4 - 1).toNatClampNeg) x1 (gI M 19 x4.toNatClampNeg)) + x3)), some (.int ((v_X3_step M x1 (gI M 19 (x4 - 1).toNatClampNeg) (gI M 19 x4.toNatClampNeg)) + (v_X3_restOf M (x4 + 1) x4)))]) dX3_restBeside_73 (by decide) rfl ?_
    refine r_ldc (v := 16777216) dX3_restBeside_75 co_X3_48 ?_
    refine r_iload dX3_restBeside_77 rfl ?_
    refine r_iload dX3_restBeside_79 rfl ?_
    refine q_mmin dX3_restBeside_81 mk_X3_103 (by decide) (Nat.le_of_ble_eq_true rfl) ?_
    refine q_mmin dX3_restBeside_84 mk_X3_103 (by decide) (Nat.le_of_ble_eq_true rfl) ?_
    refine q_istore_n (lo' := [some (.ref (ad 17)), some (.int x1), some (.int x2), some (.int (imin 16777216 (imin ((v_X3_step M (gI M 19 (x4 - 1).toNatClampNeg) x1 (gI M 19 x4.toNatClampNeg)) + x3) ((v_X3_step M x1 (gI M 19 (x4 - 1).toNatClampNeg) (gI M 19 x4.toNatClampNeg)) + (v_X3_restOf M (x4 + 1) x4))))), some (.int x4), some (.int ((v_X3_step M (gI M 19 (x4 - 1).toNatClampNeg) x1 (gI M 19 x4.toNatClampNeg)) + x3)), some (.int ((v_X3_step M x1 (gI M 19 (x4 - 1).toNatClampNeg) (gI M 19 x4.toNatClampNeg)) + (v_X3_restOf M (x4 + 1) x4)))]) dX3_restBeside_87 (by decide) rfl ?_
    refine q_iinc (v := x4 + (-1)) (lo' := [some (.ref (ad 17)), some (.int x1), some (.int x2), some (.int (imin 16777216 (imin ((v_X3_step M (gI M 19 (x4 - 1).toNatClampNeg) x1 (gI M 19 x4.toNatClampNeg)) + x3) ((v_X3_step M x1 (gI M 19 (x4 - 1).toNatClampNeg) (gI M 19 x4.toNatClampNeg)) + (v_X3_restOf M (x4 + 1) x4))))), some (.int (x4 + (-1))), some (.int ((v_X3_step M (gI M 19 (x4 - 1).toNatClampNeg) x1 (gI M 19 x4.toNatClampNeg)) + x3)), some (.int ((v_X3_step M x1 (gI M 19 (x4 - 1).toNatClampNeg) (gI M 19 x4.toNatClampNeg)) + (v_X3_restOf M (x4 + 1) x4)))]) dX3_restBeside_88 rfl (congrArg (fun q => x4 + q) kI_m1) (by decide) rfl ?_
    refine r_goto (tgt := 10) dX3_restBeside_91 (by decide) ?_
    exact q_weak (lo' := [some (.ref (ad 17)), some (.int x1), some (.int x2), some (.int (imin 16777216 (imin ((v_X3_step M (gI M 19 (x4 - 1).toNatClampNeg) x1 (gI M 19 x4.toNatClampNeg)) + x3) ((v_X3_step M x1 (gI M 19 (x4 - 1).toNatClampNeg) (gI M 19 x4.toNatClampNeg)) + (v_X3_restOf M (x4 + 1) x4))))), some (.int (x4 + (-1))), none, none]) ⟨rfl, rfl, rfl, rfl, rfl, trivial⟩ (K2 c1)
theorem en_X3_restBeside {x1 : Int32} {x2 : Int32} (K : Fw l D ad kA mX3_restBeside 0 [some (.ref (ad 17)), some (.int x1), some (.int x2), none, none, none, none] [] M Q) : Cal l D ad kA mX3_restBeside [.ref (ad 17), .int x1, .int x2] M Q := Cal.of (by decide) rfl rfl (Nat.le_of_ble_eq_true rfl) K
def v_X3_restBehind (M : Mem) (x1 : Int32) (x2 : Int32) (x3 : Int32) (x4 : Int32) : Int32 := if x3 < (gI M 17 5) then imin ((v_X3_step M x1 (v_X3_did M x2) (gI M 19 x3.toNatClampNeg)) + (v_X3_restOf M (x3 + 1) x2)) ((v_X3_step M (v_X3_did M x2) x1 (gI M 19 x3.toNatClampNeg)) + x4) else 0
def g_X3_restBehind (M : Mem) (x1 : Int32) (x2 : Int32) (x3 : Int32) (x4 : Int32) : Prop := ((x3 < (gI M 17 5)) → vp_in x3 160) ∧ ((x3 < (gI M 17 5)) → g_X3_did M x2) ∧ ((x3 < (gI M 17 5)) → g_X3_step M x1 (v_X3_did M x2) (gI M 19 x3.toNatClampNeg)) ∧ ((x3 < (gI M 17 5)) → g_X3_restOf M (x3 + 1) x2) ∧ ((x3 < (gI M 17 5)) → g_X3_step M (v_X3_did M x2) x1 (gI M 19 x3.toNatClampNeg))
theorem ct_X3_restBehind {x1 : Int32} {x2 : Int32} {x3 : Int32} {x4 : Int32}  (g : g_X3_restBehind M x1 x2 x3 x4) (h : Q (.returned (some (.int (v_X3_restBehind M x1 x2 x3 x4)))) M) : Cal l D ad kA mX3_restBehind [.ref (ad 17), .int x1, .int x2, .int x3, .int x4] M Q := by
  refine Cal.of (lo := [some (.ref (ad 17)), some (.int x1), some (.int x2), some (.int x3), some (.int x4), none, none, none]) (by decide) rfl rfl (Nat.le_of_ble_eq_true rfl) ?_
  obtain ⟨g1, g2, g3, g4, g5⟩ := g
  refine r_iload_n dX3_restBehind_0 rfl ?_
  refine r_aload_n dX3_restBehind_1 rfl ?_
  refine r_getI dX3_restBehind_2 fs_17_5 fk_X3_52 ?_
  refine r_icmp_lt (tgt := 10) dX3_restBehind_5 (by decide) (fun c1 => ?_) (fun c1 => ?_)
  · skip
    refine r_aload_n dX3_restBehind_10 rfl ?_
    refine r_getR dX3_restBehind_11 fs_17_4 fk_X3_15 ?_
    refine r_iload_n dX3_restBehind_14 rfl ?_
    refine r_iald dX3_restBehind_15 as_19 (g1 c1) ?_
    refine q_istore (lo' := [some (.ref (ad 17)), some (.int x1), some (.int x2), some (.int x3), some (.int x4), some (.int (gI M 19 x3.toNatClampNeg)), none, none]) dX3_restBehind_16 (by decide) rfl ?_
    refine r_aload_n dX3_restBehind_18 rfl ?_
    refine r_iload_n dX3_restBehind_19 rfl ?_
    refine r_callV (x := 17) (As := [.int x2]) (rest := []) dX3_restBehind_20 mk_X3_100 mv_X3_did rm_X3_restBehind_X3_did rfl rfl (by decide +kernel) (Nat.le_of_ble_eq_true rfl) (ct_X3_did (g2 c1) (⟨_, rfl, ?_⟩))
    refine q_istore (lo' := [some (.ref (ad 17)), some (.int x1), some (.int x2), some (.int x3), some (.int x4), some (.int (gI M 19 x3.toNatClampNeg)), some (.int (v_X3_did M x2)), none]) dX3_restBehind_23 (by decide) rfl ?_
    refine r_aload_n dX3_restBehind_25 rfl ?_
    refine r_iload_n dX3_restBehind_26 rfl ?_
    refine r_iload dX3_restBehind_27 rfl ?_
    refine r_iload dX3_restBehind_29 rfl ?_
    refine r_callV (x := 17) (As := [.int x1, .int (v_X3_did M x2), .int (gI M 19 x3.toNatClampNeg)]) (rest := []) dX3_restBehind_31 mk_X3_109 mv_X3_step rm_X3_restBehind_X3_step rfl rfl (by decide +kernel) (Nat.le_of_ble_eq_true rfl) (ct_X3_step (g3 c1) (⟨_, rfl, ?_⟩))
    refine r_aload_n dX3_restBehind_34 rfl ?_
    refine r_iload_n dX3_restBehind_35 rfl ?_
    refine r_iconst (v := 1) dX3_restBehind_36 kI_1 ?_
    refine r_iadd dX3_restBehind_37 ?_
    refine r_iload_n dX3_restBehind_38 rfl ?_
    refine r_callV (x := 17) (As := [.int (x3 + 1), .int x2]) (rest := [.int (v_X3_step M x1 (v_X3_did M x2) (gI M 19 x3.toNatClampNeg))]) dX3_restBehind_39 mk_X3_85 mv_X3_restOf rm_X3_restBehind_X3_restOf rfl rfl (by decide +kernel) (Nat.le_of_ble_eq_true rfl) (ct_X3_restOf (g4 c1) (⟨_, rfl, ?_⟩))
    refine r_iadd dX3_restBehind_42 ?_
    refine q_istore (lo' := [some (.ref (ad 17)), some (.int x1), some (.int x2), some (.int x3), some (.int x4), some (.int (gI M 19 x3.toNatClampNeg)), some (.int (v_X3_did M x2)), some (.int ((v_X3_step M x1 (v_X3_did M x2) (gI M 19 x3.toNatClampNeg)) + (v_X3_restOf M (x3 + 1) x2)))]) dX3_restBehind_43 (by decide) rfl ?_
    refine r_iload dX3_restBehind_45 rfl ?_
    refine r_aload_n dX3_restBehind_47 rfl ?_
    refine r_iload dX3_restBehind_48 rfl ?_
    refine r_iload_n dX3_restBehind_50 rfl ?_
    refine r_iload dX3_restBehind_51 rfl ?_
    refine r_callV (x := 17) (As := [.int (v_X3_did M x2), .int x1, .int (gI M 19 x3.toNatClampNeg)]) (rest := [.int ((v_X3_step M x1 (v_X3_did M x2) (gI M 19 x3.toNatClampNeg)) + (v_X3_restOf M (x3 + 1) x2))]) dX3_restBehind_53 mk_X3_109 mv_X3_step rm_X3_restBehind_X3_step rfl rfl (by decide +kernel) (Nat.le_of_ble_eq_true rfl) (ct_X3_step (g5 c1) (⟨_, rfl, ?_⟩))
    refine r_iload dX3_restBehind_56 rfl ?_
    refine r_iadd dX3_restBehind_58 ?_
    refine q_mmin dX3_restBehind_59 mk_X3_103 (by decide) (Nat.le_of_ble_eq_true rfl) ?_
    exact r_iret dX3_restBehind_62 rfl (by have h9 := h; simp only [v_X3_restBehind, if_pos c1] at h9; exact h9)
  · skip
    refine r_iconst (v := 0) dX3_restBehind_8 kI_0 ?_
    exact r_iret dX3_restBehind_9 rfl (by have h9 := h; simp only [v_X3_restBehind, if_neg c1] at h9; exact h9)
theorem t_X3_takesInserting_0 {x1 : Int32} {x2 : Int32} 
    (g1 : g_X3_did M x2)
    (K1 : Cal l D ad kA mX3_restBeside [.ref (ad 17), .int x1, .int (x2 + 1)] M (fun oc M2 => ∃ r : Int32, oc = .returned (some (.int r)) ∧ Fw l D ad kA mX3_takesInserting 14 [some (.ref (ad 17)), some (.int x1), some (.int x2), some (.int (v_X3_did M x2)), none, none, none, none, none, none] [.int r] M2 Q)) : Fw l D ad kA mX3_takesInserting 0 [some (.ref (ad 17)), some (.int x1), some (.int x2), none, none, none, none, none, none, none] [] M Q := by
  refine r_aload_n dX3_takesInserting_0 rfl ?_
  refine r_iload_n dX3_takesInserting_1 rfl ?_
  refine r_callV (x := 17) (As := [.int x2]) (rest := []) dX3_takesInserting_2 mk_X3_100 mv_X3_did rm_X3_takesInserting_X3_did rfl rfl (by decide +kernel) (Nat.le_of_ble_eq_true rfl) (ct_X3_did g1 (⟨_, rfl, ?_⟩))
  refine q_istore_n (lo' := [some (.ref (ad 17)), some (.int x1), some (.int x2), some (.int (v_X3_did M x2)), none, none, none, none, none, none]) dX3_takesInserting_5 (by decide) rfl ?_
  refine r_aload_n dX3_takesInserting_6 rfl ?_
  refine r_iload_n dX3_takesInserting_7 rfl ?_
  refine r_iload_n dX3_takesInserting_8 rfl ?_
  refine r_iconst (v := 1) dX3_takesInserting_9 kI_1 ?_
  refine r_iadd dX3_takesInserting_10 ?_
  exact r_callV (x := 17) (As := [.int x1, .int (x2 + 1)]) (rest := []) dX3_takesInserting_11 mk_X3_113 mv_X3_restBeside rm_X3_takesInserting_X3_restBeside rfl rfl (by decide +kernel) (Nat.le_of_ble_eq_true rfl) (cal_i (lo' := [some (.ref (ad 17)), some (.int x1), some (.int x2), some (.int (v_X3_did M x2)), none, none, none, none, none, none]) ⟨rfl, rfl, rfl, rfl, trivial⟩ K1)
theorem t_X3_takesInserting_14 {x1 : Int32} {x2 : Int32} {x3 : Int32} {s1 : Int32} 
    (K1 : Fw l D ad kA mX3_takesInserting 27 [some (.ref (ad 17)), some (.int x1), some (.int x2), some (.int x3), some (.int s1), some (.int 16777216), some (.int 16777216), some (.int 0), none, none] [] M Q) : Fw l D ad kA mX3_takesInserting 14 [some (.ref (ad 17)), some (.int x1), some (.int x2), some (.int x3), none, none, none, none, none, none] [.int s1] M Q := by
  refine q_istore (lo' := [some (.ref (ad 17)), some (.int x1), some (.int x2), some (.int x3), some (.int s1), none, none, none, none, none]) dX3_takesInserting_14 (by decide) rfl ?_
  refine r_ldc (v := 16777216) dX3_takesInserting_16 co_X3_48 ?_
  refine q_istore (lo' := [some (.ref (ad 17)), some (.int x1), some (.int x2), some (.int x3), some (.int s1), some (.int 16777216), none, none, none, none]) dX3_takesInserting_18 (by decide) rfl ?_
  refine r_ldc (v := 16777216) dX3_takesInserting_20 co_X3_48 ?_
  refine q_istore (lo' := [some (.ref (ad 17)), some (.int x1), some (.int x2), some (.int x3), some (.int s1), some (.int 16777216), some (.int 16777216), none, none, none]) dX3_takesInserting_22 (by decide) rfl ?_
  refine r_iconst (v := 0) dX3_takesInserting_24 kI_0 ?_
  refine q_istore (lo' := [some (.ref (ad 17)), some (.int x1), some (.int x2), some (.int x3), some (.int s1), some (.int 16777216), some (.int 16777216), some (.int 0), none, none]) dX3_takesInserting_25 (by decide) rfl ?_
  exact K1
theorem t_X3_takesInserting_27 {x1 : Int32} {x2 : Int32} {x3 : Int32} {x4 : Int32} {x5 : Int32} {x6 : Int32} {x7 : Int32} 
    (g1 : ((v_X3_others x2) ≤ x7) → g_X3_restBehind M x1 x2 x2 x4)
    (g2 : (¬ ((v_X3_others x2) ≤ x7)) → g_X3_did M x7)
    (g3 : (¬ ((v_X3_others x2) ≤ x7)) → vp_in x7 160)
    (g4 : (¬ ((v_X3_others x2) ≤ x7)) → g_X3_step M x3 (v_X3_did M x7) x1)
    (g5 : (¬ ((v_X3_others x2) ≤ x7)) → g_X3_restBehind M x1 x7 x2 x4)
    (g6 : (¬ ((v_X3_others x2) ≤ x7)) → g_X3_step M (v_X3_did M x7) x3 x1)
    (K1 : ((v_X3_others x2) ≤ x7) → Q (.returned (some (.int (imin x5 (x6 + (v_X3_restBehind M x1 x2 x2 x4)))))) M)
    (K2 : (¬ ((v_X3_others x2) ≤ x7)) → Fw l D ad kA mX3_takesInserting 27 [some (.ref (ad 17)), some (.int x1), some (.int x2), some (.int x3), some (.int x4), some (.int (imin x5 (((gI M 21 x7.toNatClampNeg) + (v_X3_step M x3 (v_X3_did M x7) x1)) + (v_X3_restBehind M x1 x7 x2 x4)))), some (.int (imin x6 ((gI M 21 x7.toNatClampNeg) + (v_X3_step M (v_X3_did M x7) x3 x1)))), some (.int (x7 + 1)), none, none] [] M Q) : Fw l D ad kA mX3_takesInserting 27 [some (.ref (ad 17)), some (.int x1), some (.int x2), some (.int x3), some (.int x4), some (.int x5), some (.int x6), some (.int x7), none, none] [] M Q := by
  refine r_iload dX3_takesInserting_27 rfl ?_
  refine r_iload_n dX3_takesInserting_29 rfl ?_
  refine r_callS (As := [.int x2]) (rest := [.int x7]) dX3_takesInserting_30 mk_X3_106 ms_X3_others rm_X3_takesInserting_X3_others rfl rfl (Nat.le_of_ble_eq_true rfl) (ct_X3_others (⟨_, rfl, ?_⟩))
  refine r_icmp_ge (tgt := 111) dX3_takesInserting_33 (by decide) (fun c1 => ?_) (fun c1 => ?_)
  · skip
    refine r_iload dX3_takesInserting_111 rfl ?_
    refine r_iload dX3_takesInserting_113 rfl ?_
    refine r_aload_n dX3_takesInserting_115 rfl ?_
    refine r_iload_n dX3_takesInserting_116 rfl ?_
    refine r_iload_n dX3_takesInserting_117 rfl ?_
    refine r_iload_n dX3_takesInserting_118 rfl ?_
    refine r_iload dX3_takesInserting_119 rfl ?_
    refine r_callV (x := 17) (As := [.int x1, .int x2, .int x2, .int x4]) (rest := [.int x6, .int x5]) dX3_takesInserting_121 mk_X3_116 mv_X3_restBehind rm_X3_takesInserting_X3_restBehind rfl rfl (by decide +kernel) (Nat.le_of_ble_eq_true rfl) (ct_X3_restBehind (g1 c1) (⟨_, rfl, ?_⟩))
    refine r_iadd dX3_takesInserting_124 ?_
    refine q_mmin dX3_takesInserting_125 mk_X3_103 (by decide) (Nat.le_of_ble_eq_true rfl) ?_
    exact r_iret dX3_takesInserting_128 rfl (K1 c1)
  · skip
    refine r_aload_n dX3_takesInserting_36 rfl ?_
    refine r_iload dX3_takesInserting_37 rfl ?_
    refine r_callV (x := 17) (As := [.int x7]) (rest := []) dX3_takesInserting_39 mk_X3_100 mv_X3_did rm_X3_takesInserting_X3_did rfl rfl (by decide +kernel) (Nat.le_of_ble_eq_true rfl) (ct_X3_did (g2 c1) (⟨_, rfl, ?_⟩))
    refine q_istore (lo' := [some (.ref (ad 17)), some (.int x1), some (.int x2), some (.int x3), some (.int x4), some (.int x5), some (.int x6), some (.int x7), some (.int (v_X3_did M x7)), none]) dX3_takesInserting_42 (by decide) rfl ?_
    refine r_aload_n dX3_takesInserting_44 rfl ?_
    refine r_getR dX3_takesInserting_45 fs_17_8 fk_X3_21 ?_
    refine r_iload dX3_takesInserting_48 rfl ?_
    refine r_iald dX3_takesInserting_50 as_21 (g3 c1) ?_
    refine r_aload_n dX3_takesInserting_51 rfl ?_
    refine r_iload_n dX3_takesInserting_52 rfl ?_
    refine r_iload dX3_takesInserting_53 rfl ?_
    refine r_iload_n dX3_takesInserting_55 rfl ?_
    refine r_callV (x := 17) (As := [.int x3, .int (v_X3_did M x7), .int x1]) (rest := [.int (gI M 21 x7.toNatClampNeg)]) dX3_takesInserting_56 mk_X3_109 mv_X3_step rm_X3_takesInserting_X3_step rfl rfl (by decide +kernel) (Nat.le_of_ble_eq_true rfl) (ct_X3_step (g4 c1) (⟨_, rfl, ?_⟩))
    refine r_iadd dX3_takesInserting_59 ?_
    refine q_istore (lo' := [some (.ref (ad 17)), some (.int x1), some (.int x2), some (.int x3), some (.int x4), some (.int x5), some (.int x6), some (.int x7), some (.int (v_X3_did M x7)), some (.int ((gI M 21 x7.toNatClampNeg) + (v_X3_step M x3 (v_X3_did M x7) x1)))]) dX3_takesInserting_60 (by decide) rfl ?_
    refine r_iload dX3_takesInserting_62 rfl ?_
    refine r_iload dX3_takesInserting_64 rfl ?_
    refine r_aload_n dX3_takesInserting_66 rfl ?_
    refine r_iload_n dX3_takesInserting_67 rfl ?_
    refine r_iload dX3_takesInserting_68 rfl ?_
    refine r_iload_n dX3_takesInserting_70 rfl ?_
    refine r_iload dX3_takesInserting_71 rfl ?_
    refine r_callV (x := 17) (As := [.int x1, .int x7, .int x2, .int x4]) (rest := [.int ((gI M 21 x7.toNatClampNeg) + (v_X3_step M x3 (v_X3_did M x7) x1)), .int x5]) dX3_takesInserting_73 mk_X3_116 mv_X3_restBehind rm_X3_takesInserting_X3_restBehind rfl rfl (by decide +kernel) (Nat.le_of_ble_eq_true rfl) (ct_X3_restBehind (g5 c1) (⟨_, rfl, ?_⟩))
    refine r_iadd dX3_takesInserting_76 ?_
    refine q_mmin dX3_takesInserting_77 mk_X3_103 (by decide) (Nat.le_of_ble_eq_true rfl) ?_
    refine q_istore (lo' := [some (.ref (ad 17)), some (.int x1), some (.int x2), some (.int x3), some (.int x4), some (.int (imin x5 (((gI M 21 x7.toNatClampNeg) + (v_X3_step M x3 (v_X3_did M x7) x1)) + (v_X3_restBehind M x1 x7 x2 x4)))), some (.int x6), some (.int x7), some (.int (v_X3_did M x7)), some (.int ((gI M 21 x7.toNatClampNeg) + (v_X3_step M x3 (v_X3_did M x7) x1)))]) dX3_takesInserting_80 (by decide) rfl ?_
    refine r_iload dX3_takesInserting_82 rfl ?_
    refine r_aload_n dX3_takesInserting_84 rfl ?_
    refine r_getR dX3_takesInserting_85 fs_17_8 fk_X3_21 ?_
    refine r_iload dX3_takesInserting_88 rfl ?_
    refine r_iald dX3_takesInserting_90 as_21 (g3 c1) ?_
    refine r_aload_n dX3_takesInserting_91 rfl ?_
    refine r_iload dX3_takesInserting_92 rfl ?_
    refine r_iload_n dX3_takesInserting_94 rfl ?_
    refine r_iload_n dX3_takesInserting_95 rfl ?_
    refine r_callV (x := 17) (As := [.int (v_X3_did M x7), .int x3, .int x1]) (rest := [.int (gI M 21 x7.toNatClampNeg), .int x6]) dX3_takesInserting_96 mk_X3_109 mv_X3_step rm_X3_takesInserting_X3_step rfl rfl (by decide +kernel) (Nat.le_of_ble_eq_true rfl) (ct_X3_step (g6 c1) (⟨_, rfl, ?_⟩))
    refine r_iadd dX3_takesInserting_99 ?_
    refine q_mmin dX3_takesInserting_100 mk_X3_103 (by decide) (Nat.le_of_ble_eq_true rfl) ?_
    refine q_istore (lo' := [some (.ref (ad 17)), some (.int x1), some (.int x2), some (.int x3), some (.int x4), some (.int (imin x5 (((gI M 21 x7.toNatClampNeg) + (v_X3_step M x3 (v_X3_did M x7) x1)) + (v_X3_restBehind M x1 x7 x2 x4)))), some (.int (imin x6 ((gI M 21 x7.toNatClampNeg) + (v_X3_step M (v_X3_did M x7) x3 x1)))), some (.int x7), some (.int (v_X3_did M x7)), some (.int ((gI M 21 x7.toNatClampNeg) + (v_X3_step M x3 (v_X3_did M x7) x1)))]) dX3_takesInserting_103 (by decide) rfl ?_
    refine q_iinc (v := x7 + 1) (lo' := [some (.ref (ad 17)), some (.int x1), some (.int x2), some (.int x3), some (.int x4), some (.int (imin x5 (((gI M 21 x7.toNatClampNeg) + (v_X3_step M x3 (v_X3_did M x7) x1)) + (v_X3_restBehind M x1 x7 x2 x4)))), some (.int (imin x6 ((gI M 21 x7.toNatClampNeg) + (v_X3_step M (v_X3_did M x7) x3 x1)))), some (.int (x7 + 1)), some (.int (v_X3_did M x7)), some (.int ((gI M 21 x7.toNatClampNeg) + (v_X3_step M x3 (v_X3_did M x7) x1)))]) dX3_takesInserting_105 rfl (congrArg (fun q => x7 + q) kI_1) (by decide) rfl ?_
    refine r_goto (tgt := 27) dX3_takesInserting_108 (by decide) ?_
    exact q_weak (lo' := [some (.ref (ad 17)), some (.int x1), some (.int x2), some (.int x3), some (.int x4), some (.int (imin x5 (((gI M 21 x7.toNatClampNeg) + (v_X3_step M x3 (v_X3_did M x7) x1)) + (v_X3_restBehind M x1 x7 x2 x4)))), some (.int (imin x6 ((gI M 21 x7.toNatClampNeg) + (v_X3_step M (v_X3_did M x7) x3 x1)))), some (.int (x7 + 1)), none, none]) ⟨rfl, rfl, rfl, rfl, rfl, rfl, rfl, rfl, trivial⟩ (K2 c1)
theorem en_X3_takesInserting {x1 : Int32} {x2 : Int32} (K : Fw l D ad kA mX3_takesInserting 0 [some (.ref (ad 17)), some (.int x1), some (.int x2), none, none, none, none, none, none, none] [] M Q) : Cal l D ad kA mX3_takesInserting [.ref (ad 17), .int x1, .int x2] M Q := Cal.of (by decide) rfl rfl (Nat.le_of_ble_eq_true rfl) K
theorem t_X3_takesOf_0 {z1 : Int64} 
    (K1 : Cal l D ad kA mX3_gather [.ref (ad 17), .long z1] M (fun oc M2 => oc = .returned none ∧ Fw l D ad kA mX3_takesOf 5 [some (.ref (ad 17)), none, none] [] M2 Q)) : Fw l D ad kA mX3_takesOf 0 [some (.ref (ad 17)), some (.long z1), none] [] M Q := by
  refine r_aload_n dX3_takesOf_0 rfl ?_
  refine r_lload_n dX3_takesOf_1 rfl ?_
  exact r_callV (x := 17) (As := [.long z1]) (rest := []) dX3_takesOf_2 mk_X3_36 mv_X3_gather rm_X3_takesOf_X3_gather rfl rfl (by decide +kernel) (Nat.le_of_ble_eq_true rfl) (cal_v (lo' := [some (.ref (ad 17)), none, none]) ⟨rfl, trivial⟩ K1)
theorem t_X3_takesOf_5  
    (K1 : Cal l D ad kA mX3_weighRest [.ref (ad 17)] M (fun oc M2 => ∃ r : Int32, oc = .returned (some (.int r)) ∧ Fw l D ad kA mX3_takesOf 9 [none, none, none] [.int r] M2 Q)) : Fw l D ad kA mX3_takesOf 5 [some (.ref (ad 17)), none, none] [] M Q := by
  refine r_aload_n dX3_takesOf_5 rfl ?_
  exact r_callV (x := 17) (As := []) (rest := []) dX3_takesOf_6 mk_X3_40 mv_X3_weighRest rm_X3_takesOf_X3_weighRest rfl rfl (by decide +kernel) (Nat.le_of_ble_eq_true rfl) (cal_i (lo' := [none, none, none]) trivial K1)
theorem t_X3_takesOf_9 {s1 : Int32} 
    (K1 : Q (.returned (some (.int s1))) M) : Fw l D ad kA mX3_takesOf 9 [none, none, none] [.int s1] M Q := by
  exact r_iret dX3_takesOf_9 rfl K1
theorem en_X3_takesOf {z1 : Int64} (K : Fw l D ad kA mX3_takesOf 0 [some (.ref (ad 17)), some (.long z1), none] [] M Q) : Cal l D ad kA mX3_takesOf [.ref (ad 17), .long z1] M Q := Cal.of (by decide) rfl rfl (Nat.le_of_ble_eq_true rfl) K
theorem t_X3_choose_0 {z1 : Int64} 
    (K1 : Cal l D ad kA mX3_takesOf [.ref (ad 17), .long z1] M (fun oc M2 => ∃ r : Int32, oc = .returned (some (.int r)) ∧ Fw l D ad kA mX3_choose 5 [some (.ref (ad 17)), none, none, none] [.int r] M2 Q)) : Fw l D ad kA mX3_choose 0 [some (.ref (ad 17)), some (.long z1), none, none] [] M Q := by
  refine r_aload_n dX3_choose_0 rfl ?_
  refine r_lload_n dX3_choose_1 rfl ?_
  exact r_callV (x := 17) (As := [.long z1]) (rest := []) dX3_choose_2 mk_X3_44 mv_X3_takesOf rm_X3_choose_X3_takesOf rfl rfl (by decide +kernel) (Nat.le_of_ble_eq_true rfl) (cal_i (lo' := [some (.ref (ad 17)), none, none, none]) ⟨rfl, trivial⟩ K1)
theorem t_X3_choose_5 {s1 : Int32} 
    (K1 : (16777216 ≤ s1) → Q (.returned (some (.int s1))) M)
    (K2 : (¬ (16777216 ≤ s1)) → Cal l D ad kA mX3_keepHands [.ref (ad 17)] M (fun oc M2 => oc = .returned none ∧ Fw l D ad kA mX3_choose 16 [none, none, none, some (.int s1)] [] M2 Q)) : Fw l D ad kA mX3_choose 5 [some (.ref (ad 17)), none, none, none] [.int s1] M Q := by
  refine q_istore_n (lo' := [some (.ref (ad 17)), none, none, some (.int s1)]) dX3_choose_5 (by decide) rfl ?_
  refine r_iload_n dX3_choose_6 rfl ?_
  refine r_ldc (v := 16777216) dX3_choose_7 co_X3_48 ?_
  refine r_icmp_ge (tgt := 16) dX3_choose_9 (by decide) (fun c1 => ?_) (fun c1 => ?_)
  · skip
    refine r_iload_n dX3_choose_16 rfl ?_
    exact r_iret dX3_choose_17 rfl (K1 c1)
  · skip
    refine r_aload_n dX3_choose_12 rfl ?_
    exact r_callV (x := 17) (As := []) (rest := []) dX3_choose_13 mk_X3_49 mv_X3_keepHands rm_X3_choose_X3_keepHands rfl rfl (by decide +kernel) (Nat.le_of_ble_eq_true rfl) (cal_v (lo' := [none, none, none, some (.int s1)]) ⟨rfl, trivial⟩ (K2 c1))
theorem t_X3_choose_16 {x3 : Int32} 
    (K1 : Q (.returned (some (.int x3))) M) : Fw l D ad kA mX3_choose 16 [none, none, none, some (.int x3)] [] M Q := by
  refine r_iload_n dX3_choose_16 rfl ?_
  exact r_iret dX3_choose_17 rfl K1
theorem en_X3_choose {z1 : Int64} (K : Fw l D ad kA mX3_choose 0 [some (.ref (ad 17)), some (.long z1), none, none] [] M Q) : Cal l D ad kA mX3_choose [.ref (ad 17), .long z1] M Q := Cal.of (by decide) rfl rfl (Nat.le_of_ble_eq_true rfl) K
theorem t_X3_weighWithout_0 {z1 : Int64} 
    (K1 : Cal l D ad kA mX3_takesOf [.ref (ad 17), .long z1] M (fun oc M2 => ∃ r : Int32, oc = .returned (some (.int r)) ∧ Fw l D ad kA mX3_weighWithout 5 [some (.ref (ad 17)), none, none, some (.ref (ad 29)), none] [.int r] M2 Q)) : Fw l D ad kA mX3_weighWithout 0 [some (.ref (ad 17)), some (.long z1), none, some (.ref (ad 29)), none] [] M Q := by
  refine r_aload_n dX3_weighWithout_0 rfl ?_
  refine r_lload_n dX3_weighWithout_1 rfl ?_
  exact r_callV (x := 17) (As := [.long z1]) (rest := []) dX3_weighWithout_2 mk_X3_44 mv_X3_takesOf rm_X3_weighWithout_X3_takesOf rfl rfl (by decide +kernel) (Nat.le_of_ble_eq_true rfl) (cal_i (lo' := [some (.ref (ad 17)), none, none, some (.ref (ad 29)), none]) ⟨rfl, rfl, trivial⟩ K1)
theorem t_X3_weighWithout_5 {s1 : Int32} 
    (K1 : Fw l D ad kA mX3_weighWithout 16 [some (.ref (ad 17)), none, none, some (.ref (ad 29)), some (.int 0)] [] (sI M 21 (0 : Int32).toNatClampNeg 0) Q) : Fw l D ad kA mX3_weighWithout 5 [some (.ref (ad 17)), none, none, some (.ref (ad 29)), none] [.int s1] M Q := by
  refine r_pop dX3_weighWithout_5 rfl ?_
  refine r_aload_n dX3_weighWithout_6 rfl ?_
  refine r_getR dX3_weighWithout_7 fs_17_8 fk_X3_21 ?_
  refine r_iconst (v := 0) dX3_weighWithout_10 kI_0 ?_
  refine r_iconst (v := 0) dX3_weighWithout_11 kI_0 ?_
  refine r_iast dX3_weighWithout_12 as_21 (by unfold vp_in; decide) ?_
  refine r_iconst (v := 0) dX3_weighWithout_13 kI_0 ?_
  refine q_istore (lo' := [some (.ref (ad 17)), none, none, some (.ref (ad 29)), some (.int 0)]) dX3_weighWithout_14 (by decide) rfl ?_
  exact K1
theorem t_X3_weighWithout_16 {x4 : Int32} 
    (g1 : (¬ ((gI M 17 5) ≤ x4)) → vp_in x4 160)
    (K1 : ((gI M 17 5) ≤ x4) → Q (.returned none) M)
    (K2 : (¬ ((gI M 17 5) ≤ x4)) → Cal l D ad kA mX3_takesSkipping [.ref (ad 17), .int x4] M (fun oc M2 => ∃ r : Int32, oc = .returned (some (.int r)) ∧ Fw l D ad kA mX3_weighWithout 39 [some (.ref (ad 17)), none, none, some (.ref (ad 29)), some (.int x4)] [.int r, .int (gI M 19 x4.toNatClampNeg), .ref (ad 29)] M2 Q)) : Fw l D ad kA mX3_weighWithout 16 [some (.ref (ad 17)), none, none, some (.ref (ad 29)), some (.int x4)] [] M Q := by
  refine r_iload dX3_weighWithout_16 rfl ?_
  refine r_aload_n dX3_weighWithout_18 rfl ?_
  refine r_getI dX3_weighWithout_19 fs_17_5 fk_X3_52 ?_
  refine r_icmp_ge (tgt := 52) dX3_weighWithout_22 (by decide) (fun c1 => ?_) (fun c1 => ?_)
  · skip
    exact r_vret dX3_weighWithout_52 rfl (K1 c1)
  · skip
    refine r_aload_n dX3_weighWithout_25 rfl ?_
    refine r_aload_n dX3_weighWithout_26 rfl ?_
    refine r_getR dX3_weighWithout_27 fs_17_4 fk_X3_15 ?_
    refine r_iload dX3_weighWithout_30 rfl ?_
    refine r_iald dX3_weighWithout_32 as_19 (g1 c1) ?_
    refine r_aload_n dX3_weighWithout_33 rfl ?_
    refine r_iload dX3_weighWithout_34 rfl ?_
    exact r_callV (x := 17) (As := [.int x4]) (rest := [.int (gI M 19 x4.toNatClampNeg), .ref (ad 29)]) dX3_weighWithout_36 mk_X3_56 mv_X3_takesSkipping rm_X3_weighWithout_X3_takesSkipping rfl rfl (by decide +kernel) (Nat.le_of_ble_eq_true rfl) (cal_i (lo' := [some (.ref (ad 17)), none, none, some (.ref (ad 29)), some (.int x4)]) ⟨rfl, rfl, rfl, trivial⟩ (K2 c1))
theorem t_X3_weighWithout_39 {x4 : Int32} {s3 : Int32} {s2 : Int32} 
    (g1 : vp_in s2 160)
    (K1 : Cal l D ad kA mX3_stepForth [.ref (ad 17), .int x4] (sI M 29 s2.toNatClampNeg s3) (fun oc M2 => oc = .returned none ∧ Fw l D ad kA mX3_weighWithout 46 [some (.ref (ad 17)), none, none, some (.ref (ad 29)), some (.int x4)] [] M2 Q)) : Fw l D ad kA mX3_weighWithout 39 [some (.ref (ad 17)), none, none, some (.ref (ad 29)), some (.int x4)] [.int s3, .int s2, .ref (ad 29)] M Q := by
  refine r_iast dX3_weighWithout_39 as_29 g1 ?_
  refine r_aload_n dX3_weighWithout_40 rfl ?_
  refine r_iload dX3_weighWithout_41 rfl ?_
  exact r_callV (x := 17) (As := [.int x4]) (rest := []) dX3_weighWithout_43 mk_X3_60 mv_X3_stepForth rm_X3_weighWithout_X3_stepForth rfl rfl (by decide +kernel) (Nat.le_of_ble_eq_true rfl) (cal_v (lo' := [some (.ref (ad 17)), none, none, some (.ref (ad 29)), some (.int x4)]) ⟨rfl, rfl, rfl, trivial⟩ K1)
theorem t_X3_weighWithout_46 {x4 : Int32} 
    (K1 : Fw l D ad kA mX3_weighWithout 16 [some (.ref (ad 17)), none, none, some (.ref (ad 29)), some (.int (x4 + 1))] [] M Q) : Fw l D ad kA mX3_weighWithout 46 [some (.ref (ad 17)), none, none, some (.ref (ad 29)), some (.int x4)] [] M Q := by
  refine q_iinc (v := x4 + 1) (lo' := [some (.ref (ad 17)), none, none, some (.ref (ad 29)), some (.int (x4 + 1))]) dX3_weighWithout_46 rfl (congrArg (fun q => x4 + q) kI_1) (by decide) rfl ?_
  refine r_goto (tgt := 16) dX3_weighWithout_49 (by decide) ?_
  exact K1
theorem en_X3_weighWithout {z1 : Int64} (K : Fw l D ad kA mX3_weighWithout 0 [some (.ref (ad 17)), some (.long z1), none, some (.ref (ad 29)), none] [] M Q) : Cal l D ad kA mX3_weighWithout [.ref (ad 17), .long z1, .ref (ad 29)] M Q := Cal.of (by decide) rfl rfl (Nat.le_of_ble_eq_true rfl) K
theorem t_X3_weighWith_0 {z1 : Int64} {z3 : Int64} {t : Nat} (ht : shL[t]? = some (.inl (0, 160)))
    (K1 : Cal l D ad kA mX3_takesOf [.ref (ad 17), .long z1] M (fun oc M2 => ∃ r : Int32, oc = .returned (some (.int r)) ∧ Fw l D ad kA mX3_weighWith 5 [some (.ref (ad 17)), none, none, some (.long z3), none, some (.ref (ad t)), none, none] [.int r] M2 Q)) : Fw l D ad kA mX3_weighWith 0 [some (.ref (ad 17)), some (.long z1), none, some (.long z3), none, some (.ref (ad t)), none, none] [] M Q := by
  refine r_aload_n dX3_weighWith_0 rfl ?_
  refine r_lload_n dX3_weighWith_1 rfl ?_
  exact r_callV (x := 17) (As := [.long z1]) (rest := []) dX3_weighWith_2 mk_X3_44 mv_X3_takesOf rm_X3_weighWith_X3_takesOf rfl rfl (by decide +kernel) (Nat.le_of_ble_eq_true rfl) (cal_i (lo' := [some (.ref (ad 17)), none, none, some (.long z3), none, some (.ref (ad t)), none, none]) ⟨rfl, rfl, rfl, trivial⟩ K1)
theorem t_X3_weighWith_5 {z3 : Int64} {t : Nat} {s1 : Int32} (ht : shL[t]? = some (.inl (0, 160)))
    (K1 : Fw l D ad kA mX3_weighWith 19 [some (.ref (ad 17)), none, none, some (.long z3), none, some (.ref (ad t)), some (.int 0), some (.int 0)] [] (sI M 21 (0 : Int32).toNatClampNeg 0) Q) : Fw l D ad kA mX3_weighWith 5 [some (.ref (ad 17)), none, none, some (.long z3), none, some (.ref (ad t)), none, none] [.int s1] M Q := by
  refine r_pop dX3_weighWith_5 rfl ?_
  refine r_aload_n dX3_weighWith_6 rfl ?_
  refine r_getR dX3_weighWith_7 fs_17_8 fk_X3_21 ?_
  refine r_iconst (v := 0) dX3_weighWith_10 kI_0 ?_
  refine r_iconst (v := 0) dX3_weighWith_11 kI_0 ?_
  refine r_iast dX3_weighWith_12 as_21 (by unfold vp_in; decide) ?_
  refine r_iconst (v := 0) dX3_weighWith_13 kI_0 ?_
  refine q_istore (lo' := [some (.ref (ad 17)), none, none, some (.long z3), none, some (.ref (ad t)), some (.int 0), none]) dX3_weighWith_14 (by decide) rfl ?_
  refine r_iconst (v := 0) dX3_weighWith_16 kI_0 ?_
  refine q_istore (lo' := [some (.ref (ad 17)), none, none, some (.long z3), none, some (.ref (ad t)), some (.int 0), some (.int 0)]) dX3_weighWith_17 (by decide) rfl ?_
  exact K1
theorem t_X3_weighWith_19 {z3 : Int64} {t : Nat} {x6 : Int32} {x7 : Int32} (ht : shL[t]? = some (.inl (0, 160)))
    (g1 : (¬ ((gI M 9 4) ≤ x7)) → ((gI M 17 5) ≤ x6) → g_X9_isOn M z3 x7)
    (g2 : (¬ ((gI M 9 4) ≤ x7)) → (¬ ((gI M 17 5) ≤ x6)) → vp_in x6 160)
    (g3 : (¬ ((gI M 9 4) ≤ x7)) → (¬ ((gI M 17 5) ≤ x6)) → (¬ ((gI M 19 x6.toNatClampNeg) = x7)) → g_X9_isOn M z3 x7)
    (K1 : ((gI M 9 4) ≤ x7) → Q (.returned none) M)
    (K2 : (¬ ((gI M 9 4) ≤ x7)) → ((gI M 17 5) ≤ x6) → ((v_X9_isOn M z3 x7) = 0) → Fw l D ad kA mX3_weighWith 19 [some (.ref (ad 17)), none, none, some (.long z3), none, some (.ref (ad t)), some (.int x6), some (.int (x7 + 1))] [] M Q)
    (K3 : (¬ ((gI M 9 4) ≤ x7)) → ((gI M 17 5) ≤ x6) → (¬ ((v_X9_isOn M z3 x7) = 0)) → Cal l D ad kA mX3_takesInserting [.ref (ad 17), .int x7, .int x6] M (fun oc M2 => ∃ r : Int32, oc = .returned (some (.int r)) ∧ Fw l D ad kA mX3_weighWith 89 [some (.ref (ad 17)), none, none, some (.long z3), none, some (.ref (ad t)), some (.int x6), some (.int x7)] [.int r, .int x7, .ref (ad t)] M2 Q))
    (K4 : (¬ ((gI M 9 4) ≤ x7)) → (¬ ((gI M 17 5) ≤ x6)) → (¬ ((gI M 19 x6.toNatClampNeg) = x7)) → ((v_X9_isOn M z3 x7) = 0) → Fw l D ad kA mX3_weighWith 19 [some (.ref (ad 17)), none, none, some (.long z3), none, some (.ref (ad t)), some (.int x6), some (.int (x7 + 1))] [] M Q)
    (K5 : (¬ ((gI M 9 4) ≤ x7)) → (¬ ((gI M 17 5) ≤ x6)) → (¬ ((gI M 19 x6.toNatClampNeg) = x7)) → (¬ ((v_X9_isOn M z3 x7) = 0)) → Cal l D ad kA mX3_takesInserting [.ref (ad 17), .int x7, .int x6] M (fun oc M2 => ∃ r : Int32, oc = .returned (some (.int r)) ∧ Fw l D ad kA mX3_weighWith 89 [some (.ref (ad 17)), none, none, some (.long z3), none, some (.ref (ad t)), some (.int x6), some (.int x7)] [.int r, .int x7, .ref (ad t)] M2 Q))
    (K6 : (¬ ((gI M 9 4) ≤ x7)) → (¬ ((gI M 17 5) ≤ x6)) → ((gI M 19 x6.toNatClampNeg) = x7) → Cal l D ad kA mX3_stepForth [.ref (ad 17), .int x6] M (fun oc M2 => oc = .returned none ∧ Fw l D ad kA mX3_weighWith 58 [some (.ref (ad 17)), none, none, some (.long z3), none, some (.ref (ad t)), some (.int x6), some (.int x7)] [] M2 Q)) : Fw l D ad kA mX3_weighWith 19 [some (.ref (ad 17)), none, none, some (.long z3), none, some (.ref (ad t)), some (.int x6), some (.int x7)] [] M Q := by
  refine r_iload dX3_weighWith_19 rfl ?_
  refine r_aload_n dX3_weighWith_21 rfl ?_
  refine r_getR dX3_weighWith_22 fs_17_0 fk_X3_24 ?_
  refine r_getI dX3_weighWith_25 fs_9_4 fk_X3_64 ?_
  refine r_icmp_ge (tgt := 96) dX3_weighWith_28 (by decide) (fun c1 => ?_) (fun c1 => ?_)
  · skip
    exact r_vret dX3_weighWith_96 rfl (K1 c1)
  · skip
    refine r_iload dX3_weighWith_31 rfl ?_
    refine r_aload_n dX3_weighWith_33 rfl ?_
    refine r_getI dX3_weighWith_34 fs_17_5 fk_X3_52 ?_
    refine r_icmp_ge (tgt := 64) dX3_weighWith_37 (by decide) (fun c2 => ?_) (fun c2 => ?_)
    · skip
      refine r_aload_n dX3_weighWith_64 rfl ?_
      refine r_getR dX3_weighWith_65 fs_17_0 fk_X3_24 ?_
      refine r_lload_n dX3_weighWith_68 rfl ?_
      refine r_iload dX3_weighWith_69 rfl ?_
      refine r_callV (x := 9) (As := [.long z3, .int x7]) (rest := []) dX3_weighWith_71 mk_X3_67 mv_X9_isOn rm_X3_weighWith_X9_isOn rfl rfl (by decide +kernel) (Nat.le_of_ble_eq_true rfl) (ct_X9_isOn (g1 c1 c2) (⟨_, rfl, ?_⟩))
      refine r_if_eq (tgt := 90) dX3_weighWith_74 (by decide) (fun c3 => ?_) (fun c3 => ?_)
      · skip
        refine q_iinc (v := x7 + 1) (lo' := [some (.ref (ad 17)), none, none, some (.long z3), none, some (.ref (ad t)), some (.int x6), some (.int (x7 + 1))]) dX3_weighWith_90 rfl (congrArg (fun q => x7 + q) kI_1) (by decide) rfl ?_
        refine r_goto (tgt := 19) dX3_weighWith_93 (by decide) ?_
        exact (K2 c1 c2 c3)
      · skip
        refine r_aload dX3_weighWith_77 rfl ?_
        refine r_iload dX3_weighWith_79 rfl ?_
        refine r_aload_n dX3_weighWith_81 rfl ?_
        refine r_iload dX3_weighWith_82 rfl ?_
        refine r_iload dX3_weighWith_84 rfl ?_
        exact r_callV (x := 17) (As := [.int x7, .int x6]) (rest := [.int x7, .ref (ad t)]) dX3_weighWith_86 mk_X3_71 mv_X3_takesInserting rm_X3_weighWith_X3_takesInserting rfl rfl (by decide +kernel) (Nat.le_of_ble_eq_true rfl) (cal_i (lo' := [some (.ref (ad 17)), none, none, some (.long z3), none, some (.ref (ad t)), some (.int x6), some (.int x7)]) ⟨rfl, rfl, rfl, rfl, rfl, trivial⟩ (K3 c1 c2 c3))
    · skip
      refine r_aload_n dX3_weighWith_40 rfl ?_
      refine r_getR dX3_weighWith_41 fs_17_4 fk_X3_15 ?_
      refine r_iload dX3_weighWith_44 rfl ?_
      refine r_iald dX3_weighWith_46 as_19 (g2 c1 c2) ?_
      refine r_iload dX3_weighWith_47 rfl ?_
      refine r_icmp_ne (tgt := 64) dX3_weighWith_49 (by decide) (fun c4 => ?_) (fun c4 => ?_)
      · skip
        refine r_aload_n dX3_weighWith_64 rfl ?_
        refine r_getR dX3_weighWith_65 fs_17_0 fk_X3_24 ?_
        refine r_lload_n dX3_weighWith_68 rfl ?_
        refine r_iload dX3_weighWith_69 rfl ?_
        refine r_callV (x := 9) (As := [.long z3, .int x7]) (rest := []) dX3_weighWith_71 mk_X3_67 mv_X9_isOn rm_X3_weighWith_X9_isOn rfl rfl (by decide +kernel) (Nat.le_of_ble_eq_true rfl) (ct_X9_isOn (g3 c1 c2 c4) (⟨_, rfl, ?_⟩))
        refine r_if_eq (tgt := 90) dX3_weighWith_74 (by decide) (fun c5 => ?_) (fun c5 => ?_)
        · skip
          refine q_iinc (v := x7 + 1) (lo' := [some (.ref (ad 17)), none, none, some (.long z3), none, some (.ref (ad t)), some (.int x6), some (.int (x7 + 1))]) dX3_weighWith_90 rfl (congrArg (fun q => x7 + q) kI_1) (by decide) rfl ?_
          refine r_goto (tgt := 19) dX3_weighWith_93 (by decide) ?_
          exact (K4 c1 c2 c4 c5)
        · skip
          refine r_aload dX3_weighWith_77 rfl ?_
          refine r_iload dX3_weighWith_79 rfl ?_
          refine r_aload_n dX3_weighWith_81 rfl ?_
          refine r_iload dX3_weighWith_82 rfl ?_
          refine r_iload dX3_weighWith_84 rfl ?_
          exact r_callV (x := 17) (As := [.int x7, .int x6]) (rest := [.int x7, .ref (ad t)]) dX3_weighWith_86 mk_X3_71 mv_X3_takesInserting rm_X3_weighWith_X3_takesInserting rfl rfl (by decide +kernel) (Nat.le_of_ble_eq_true rfl) (cal_i (lo' := [some (.ref (ad 17)), none, none, some (.long z3), none, some (.ref (ad t)), some (.int x6), some (.int x7)]) ⟨rfl, rfl, rfl, rfl, rfl, trivial⟩ (K5 c1 c2 c4 c5))
      · skip
        refine r_aload_n dX3_weighWith_52 rfl ?_
        refine r_iload dX3_weighWith_53 rfl ?_
        exact r_callV (x := 17) (As := [.int x6]) (rest := []) dX3_weighWith_55 mk_X3_60 mv_X3_stepForth rm_X3_weighWith_X3_stepForth rfl rfl (by decide +kernel) (Nat.le_of_ble_eq_true rfl) (cal_v (lo' := [some (.ref (ad 17)), none, none, some (.long z3), none, some (.ref (ad t)), some (.int x6), some (.int x7)]) ⟨rfl, rfl, rfl, rfl, rfl, trivial⟩ (K6 c1 c2 c4))
theorem t_X3_weighWith_89 {z3 : Int64} {t : Nat} {x6 : Int32} {x7 : Int32} {s3 : Int32} {s2 : Int32} (ht : shL[t]? = some (.inl (0, 160)))
    (g1 : vp_in s2 160)
    (K1 : Fw l D ad kA mX3_weighWith 19 [some (.ref (ad 17)), none, none, some (.long z3), none, some (.ref (ad t)), some (.int x6), some (.int (x7 + 1))] [] (sI M t s2.toNatClampNeg s3) Q) : Fw l D ad kA mX3_weighWith 89 [some (.ref (ad 17)), none, none, some (.long z3), none, some (.ref (ad t)), some (.int x6), some (.int x7)] [.int s3, .int s2, .ref (ad t)] M Q := by
  refine r_iast dX3_weighWith_89 ht g1 ?_
  refine q_iinc (v := x7 + 1) (lo' := [some (.ref (ad 17)), none, none, some (.long z3), none, some (.ref (ad t)), some (.int x6), some (.int (x7 + 1))]) dX3_weighWith_90 rfl (congrArg (fun q => x7 + q) kI_1) (by decide) rfl ?_
  refine r_goto (tgt := 19) dX3_weighWith_93 (by decide) ?_
  exact K1
theorem t_X3_weighWith_58 {z3 : Int64} {t : Nat} {x6 : Int32} {x7 : Int32} (ht : shL[t]? = some (.inl (0, 160)))
    (K1 : Fw l D ad kA mX3_weighWith 19 [some (.ref (ad 17)), none, none, some (.long z3), none, some (.ref (ad t)), some (.int (x6 + 1)), some (.int (x7 + 1))] [] M Q) : Fw l D ad kA mX3_weighWith 58 [some (.ref (ad 17)), none, none, some (.long z3), none, some (.ref (ad t)), some (.int x6), some (.int x7)] [] M Q := by
  refine q_iinc (v := x6 + 1) (lo' := [some (.ref (ad 17)), none, none, some (.long z3), none, some (.ref (ad t)), some (.int (x6 + 1)), some (.int x7)]) dX3_weighWith_58 rfl (congrArg (fun q => x6 + q) kI_1) (by decide) rfl ?_
  refine r_goto (tgt := 90) dX3_weighWith_61 (by decide) ?_
  refine q_iinc (v := x7 + 1) (lo' := [some (.ref (ad 17)), none, none, some (.long z3), none, some (.ref (ad t)), some (.int (x6 + 1)), some (.int (x7 + 1))]) dX3_weighWith_90 rfl (congrArg (fun q => x7 + q) kI_1) (by decide) rfl ?_
  refine r_goto (tgt := 19) dX3_weighWith_93 (by decide) ?_
  exact K1
theorem en_X3_weighWith {z1 : Int64} {z3 : Int64} {t : Nat} (K : Fw l D ad kA mX3_weighWith 0 [some (.ref (ad 17)), some (.long z1), none, some (.long z3), none, some (.ref (ad t)), none, none] [] M Q) : Cal l D ad kA mX3_weighWith [.ref (ad 17), .long z1, .long z3, .ref (ad t)] M Q := Cal.of (by decide) rfl rfl (Nat.le_of_ble_eq_true rfl) K
end W_hands
