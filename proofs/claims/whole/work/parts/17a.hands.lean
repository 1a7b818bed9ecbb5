/-! Hands: decode rows, links, walks from cut to cut (printed by wip/gen) -/
theorem dX3_forget_0 : decode cX3_forget 0 = .ok (.aload_n 0, 1) := by decide +kernel
theorem dX3_forget_1 : decode cX3_forget 1 = .ok (.iconst 0, 1) := by decide +kernel
theorem dX3_forget_2 : decode cX3_forget 2 = .ok (.putfield 32, 3) := by decide +kernel
theorem dX3_forget_5 : decode cX3_forget 5 = .ok (.return_, 1) := by decide +kernel
theorem dX3_place_0 : decode cX3_place 0 = .ok (.iload_n 0, 1) := by decide +kernel
theorem dX3_place_1 : decode cX3_place 1 = .ok (.iload_n 0, 1) := by decide +kernel
theorem dX3_place_2 : decode cX3_place 2 = .ok (.iconst 1, 1) := by decide +kernel
theorem dX3_place_3 : decode cX3_place 3 = .ok (.isub, 1) := by decide +kernel
theorem dX3_place_4 : decode cX3_place 4 = .ok (.imul, 1) := by decide +kernel
theorem dX3_place_5 : decode cX3_place 5 = .ok (.iconst 2, 1) := by decide +kernel
theorem dX3_place_6 : decode cX3_place 6 = .ok (.idiv, 1) := by decide +kernel
theorem dX3_place_7 : decode cX3_place 7 = .ok (.iload_n 1, 1) := by decide +kernel
theorem dX3_place_8 : decode cX3_place 8 = .ok (.iadd, 1) := by decide +kernel
theorem dX3_place_9 : decode cX3_place 9 = .ok (.ireturn, 1) := by decide +kernel
theorem dX3_others_0 : decode cX3_others 0 = .ok (.iconst 1, 1) := by decide +kernel
theorem dX3_others_1 : decode cX3_others 1 = .ok (.iload_n 0, 1) := by decide +kernel
theorem dX3_others_2 : decode cX3_others 2 = .ok (.invokestatic 88, 3) := by decide +kernel
theorem dX3_others_5 : decode cX3_others 5 = .ok (.ireturn, 1) := by decide +kernel
theorem dX3_did_0 : decode cX3_did 0 = .ok (.iload_n 1, 1) := by decide +kernel
theorem dX3_did_1 : decode cX3_did 1 = .ok (.ifCond .gt 7, 3) := by decide +kernel
theorem dX3_did_4 : decode cX3_did 4 = .ok (.iconst (-1), 1) := by decide +kernel
theorem dX3_did_5 : decode cX3_did 5 = .ok (.goto 11, 3) := by decide +kernel
theorem dX3_did_8 : decode cX3_did 8 = .ok (.aload_n 0, 1) := by decide +kernel
theorem dX3_did_9 : decode cX3_did 9 = .ok (.getfield 15, 3) := by decide +kernel
theorem dX3_did_12 : decode cX3_did 12 = .ok (.iload_n 1, 1) := by decide +kernel
theorem dX3_did_13 : decode cX3_did 13 = .ok (.iconst 1, 1) := by decide +kernel
theorem dX3_did_14 : decode cX3_did 14 = .ok (.isub, 1) := by decide +kernel
theorem dX3_did_15 : decode cX3_did 15 = .ok (.iaload, 1) := by decide +kernel
theorem dX3_did_16 : decode cX3_did 16 = .ok (.ireturn, 1) := by decide +kernel
theorem dX3_restOf_0 : decode cX3_restOf 0 = .ok (.iload_n 1, 1) := by decide +kernel
theorem dX3_restOf_1 : decode cX3_restOf 1 = .ok (.aload_n 0, 1) := by decide +kernel
theorem dX3_restOf_2 : decode cX3_restOf 2 = .ok (.getfield 75, 3) := by decide +kernel
theorem dX3_restOf_5 : decode cX3_restOf 5 = .ok (.if_icmp .gt 8, 3) := by decide +kernel
theorem dX3_restOf_8 : decode cX3_restOf 8 = .ok (.ldc 48, 2) := by decide +kernel
theorem dX3_restOf_10 : decode cX3_restOf 10 = .ok (.goto 13, 3) := by decide +kernel
theorem dX3_restOf_13 : decode cX3_restOf 13 = .ok (.aload_n 0, 1) := by decide +kernel
theorem dX3_restOf_14 : decode cX3_restOf 14 = .ok (.getfield 18, 3) := by decide +kernel
theorem dX3_restOf_17 : decode cX3_restOf 17 = .ok (.iload_n 1, 1) := by decide +kernel
theorem dX3_restOf_18 : decode cX3_restOf 18 = .ok (.iload_n 2, 1) := by decide +kernel
theorem dX3_restOf_19 : decode cX3_restOf 19 = .ok (.invokestatic 78, 3) := by decide +kernel
theorem dX3_restOf_22 : decode cX3_restOf 22 = .ok (.iaload, 1) := by decide +kernel
theorem dX3_restOf_23 : decode cX3_restOf 23 = .ok (.ireturn, 1) := by decide +kernel
theorem dX3_holds_0 : decode cX3_holds 0 = .ok (.iload_n 1, 1) := by decide +kernel
theorem dX3_holds_1 : decode cX3_holds 1 = .ok (.iconst (-1), 1) := by decide +kernel
theorem dX3_holds_2 : decode cX3_holds 2 = .ok (.if_icmp .eq 41, 3) := by decide +kernel
theorem dX3_holds_5 : decode cX3_holds 5 = .ok (.aload_n 0, 1) := by decide +kernel
theorem dX3_holds_6 : decode cX3_holds 6 = .ok (.getfield 24, 3) := by decide +kernel
theorem dX3_holds_9 : decode cX3_holds 9 = .ok (.getfield 120, 3) := by decide +kernel
theorem dX3_holds_12 : decode cX3_holds 12 = .ok (.iload_n 1, 1) := by decide +kernel
theorem dX3_holds_13 : decode cX3_holds 13 = .ok (.iaload, 1) := by decide +kernel
theorem dX3_holds_14 : decode cX3_holds 14 = .ok (.iconst 1, 1) := by decide +kernel
theorem dX3_holds_15 : decode cX3_holds 15 = .ok (.if_icmp .eq 28, 3) := by decide +kernel
theorem dX3_holds_18 : decode cX3_holds 18 = .ok (.aload_n 0, 1) := by decide +kernel
theorem dX3_holds_19 : decode cX3_holds 19 = .ok (.getfield 24, 3) := by decide +kernel
theorem dX3_holds_22 : decode cX3_holds 22 = .ok (.getfield 126, 3) := by decide +kernel
theorem dX3_holds_25 : decode cX3_holds 25 = .ok (.iload_n 1, 1) := by decide +kernel
theorem dX3_holds_26 : decode cX3_holds 26 = .ok (.iaload, 1) := by decide +kernel
theorem dX3_holds_27 : decode cX3_holds 27 = .ok (.aload_n 0, 1) := by decide +kernel
theorem dX3_holds_28 : decode cX3_holds 28 = .ok (.getfield 24, 3) := by decide +kernel
theorem dX3_holds_31 : decode cX3_holds 31 = .ok (.getfield 126, 3) := by decide +kernel
theorem dX3_holds_34 : decode cX3_holds 34 = .ok (.iload_n 2, 1) := by decide +kernel
theorem dX3_holds_35 : decode cX3_holds 35 = .ok (.iaload, 1) := by decide +kernel
theorem dX3_holds_36 : decode cX3_holds 36 = .ok (.if_icmp .ne 7, 3) := by decide +kernel
theorem dX3_holds_39 : decode cX3_holds 39 = .ok (.iconst 1, 1) := by decide +kernel
theorem dX3_holds_40 : decode cX3_holds 40 = .ok (.goto 4, 3) := by decide +kernel
theorem dX3_holds_43 : decode cX3_holds 43 = .ok (.iconst 0, 1) := by decide +kernel
theorem dX3_holds_44 : decode cX3_holds 44 = .ok (.ireturn, 1) := by decide +kernel
theorem dX3_move_0 : decode cX3_move 0 = .ok (.iload_n 1, 1) := by decide +kernel
theorem dX3_move_1 : decode cX3_move 1 = .ok (.iconst (-1), 1) := by decide +kernel
theorem dX3_move_2 : decode cX3_move 2 = .ok (.if_icmp .ne 5, 3) := by decide +kernel
theorem dX3_move_5 : decode cX3_move 5 = .ok (.iconst 0, 1) := by decide +kernel
theorem dX3_move_6 : decode cX3_move 6 = .ok (.ireturn, 1) := by decide +kernel
theorem dX3_move_7 : decode cX3_move 7 = .ok (.aload_n 0, 1) := by decide +kernel
theorem dX3_move_8 : decode cX3_move 8 = .ok (.getfield 24, 3) := by decide +kernel
theorem dX3_move_11 : decode cX3_move 11 = .ok (.getfield 120, 3) := by decide +kernel
theorem dX3_move_14 : decode cX3_move 14 = .ok (.iload_n 1, 1) := by decide +kernel
theorem dX3_move_15 : decode cX3_move 15 = .ok (.iaload, 1) := by decide +kernel
theorem dX3_move_16 : decode cX3_move 16 = .ok (.iconst 1, 1) := by decide +kernel
theorem dX3_move_17 : decode cX3_move 17 = .ok (.if_icmp .ne 7, 3) := by decide +kernel
theorem dX3_move_20 : decode cX3_move 20 = .ok (.iconst 1, 1) := by decide +kernel
theorem dX3_move_21 : decode cX3_move 21 = .ok (.goto 4, 3) := by decide +kernel
theorem dX3_move_24 : decode cX3_move 24 = .ok (.iconst 0, 1) := by decide +kernel
theorem dX3_move_25 : decode cX3_move 25 = .ok (.istore_n 3, 1) := by decide +kernel
theorem dX3_move_26 : decode cX3_move 26 = .ok (.aload_n 0, 1) := by decide +kernel
theorem dX3_move_27 : decode cX3_move 27 = .ok (.getfield 24, 3) := by decide +kernel
theorem dX3_move_30 : decode cX3_move 30 = .ok (.getfield 120, 3) := by decide +kernel
theorem dX3_move_33 : decode cX3_move 33 = .ok (.iload_n 2, 1) := by decide +kernel
theorem dX3_move_34 : decode cX3_move 34 = .ok (.iaload, 1) := by decide +kernel
theorem dX3_move_35 : decode cX3_move 35 = .ok (.iconst 1, 1) := by decide +kernel
theorem dX3_move_36 : decode cX3_move 36 = .ok (.if_icmp .ne 7, 3) := by decide +kernel
theorem dX3_move_39 : decode cX3_move 39 = .ok (.iconst 1, 1) := by decide +kernel
theorem dX3_move_40 : decode cX3_move 40 = .ok (.goto 4, 3) := by decide +kernel
theorem dX3_move_43 : decode cX3_move 43 = .ok (.iconst 0, 1) := by decide +kernel
theorem dX3_move_44 : decode cX3_move 44 = .ok (.istore 4, 2) := by decide +kernel
theorem dX3_move_46 : decode cX3_move 46 = .ok (.aload_n 0, 1) := by decide +kernel
theorem dX3_move_47 : decode cX3_move 47 = .ok (.getfield 24, 3) := by decide +kernel
theorem dX3_move_50 : decode cX3_move 50 = .ok (.getfield 123, 3) := by decide +kernel
theorem dX3_move_53 : decode cX3_move 53 = .ok (.iload_n 2, 1) := by decide +kernel
theorem dX3_move_54 : decode cX3_move 54 = .ok (.iaload, 1) := by decide +kernel
theorem dX3_move_55 : decode cX3_move 55 = .ok (.aload_n 0, 1) := by decide +kernel
theorem dX3_move_56 : decode cX3_move 56 = .ok (.getfield 24, 3) := by decide +kernel
theorem dX3_move_59 : decode cX3_move 59 = .ok (.getfield 123, 3) := by decide +kernel
theorem dX3_move_62 : decode cX3_move 62 = .ok (.iload_n 1, 1) := by decide +kernel
theorem dX3_move_63 : decode cX3_move 63 = .ok (.iaload, 1) := by decide +kernel
theorem dX3_move_64 : decode cX3_move 64 = .ok (.isub, 1) := by decide +kernel
theorem dX3_move_65 : decode cX3_move 65 = .ok (.istore 5, 2) := by decide +kernel
theorem dX3_move_67 : decode cX3_move 67 = .ok (.iload_n 3, 1) := by decide +kernel
theorem dX3_move_68 : decode cX3_move 68 = .ok (.ifCond .eq 21, 3) := by decide +kernel
theorem dX3_move_71 : decode cX3_move 71 = .ok (.iload 4, 2) := by decide +kernel
theorem dX3_move_73 : decode cX3_move 73 = .ok (.ifCond .eq 16, 3) := by decide +kernel
theorem dX3_move_76 : decode cX3_move 76 = .ok (.iload 5, 2) := by decide +kernel
theorem dX3_move_78 : decode cX3_move 78 = .ok (.iconst 1, 1) := by decide +kernel
theorem dX3_move_79 : decode cX3_move 79 = .ok (.if_icmp .lt 7, 3) := by decide +kernel
theorem dX3_move_82 : decode cX3_move 82 = .ok (.iconst 0, 1) := by decide +kernel
theorem dX3_move_83 : decode cX3_move 83 = .ok (.goto 5, 3) := by decide +kernel
theorem dX3_move_86 : decode cX3_move 86 = .ok (.ldc 48, 2) := by decide +kernel
theorem dX3_move_88 : decode cX3_move 88 = .ok (.ireturn, 1) := by decide +kernel
theorem dX3_move_89 : decode cX3_move 89 = .ok (.iload_n 3, 1) := by decide +kernel
theorem dX3_move_90 : decode cX3_move 90 = .ok (.ifCond .ne 71, 3) := by decide +kernel
theorem dX3_move_93 : decode cX3_move 93 = .ok (.iload 4, 2) := by decide +kernel
theorem dX3_move_95 : decode cX3_move 95 = .ok (.ifCond .ne 66, 3) := by decide +kernel
theorem dX3_move_98 : decode cX3_move 98 = .ok (.aload_n 0, 1) := by decide +kernel
theorem dX3_move_99 : decode cX3_move 99 = .ok (.getfield 24, 3) := by decide +kernel
theorem dX3_move_102 : decode cX3_move 102 = .ok (.getfield 126, 3) := by decide +kernel
theorem dX3_move_105 : decode cX3_move 105 = .ok (.iload_n 1, 1) := by decide +kernel
theorem dX3_move_106 : decode cX3_move 106 = .ok (.iaload, 1) := by decide +kernel
theorem dX3_move_107 : decode cX3_move 107 = .ok (.aload_n 0, 1) := by decide +kernel
theorem dX3_move_108 : decode cX3_move 108 = .ok (.getfield 24, 3) := by decide +kernel
theorem dX3_move_111 : decode cX3_move 111 = .ok (.getfield 126, 3) := by decide +kernel
theorem dX3_move_114 : decode cX3_move 114 = .ok (.iload_n 2, 1) := by decide +kernel
theorem dX3_move_115 : decode cX3_move 115 = .ok (.iaload, 1) := by decide +kernel
theorem dX3_move_116 : decode cX3_move 116 = .ok (.if_icmp .ne 45, 3) := by decide +kernel
theorem dX3_move_119 : decode cX3_move 119 = .ok (.aload_n 0, 1) := by decide +kernel
theorem dX3_move_120 : decode cX3_move 120 = .ok (.getfield 24, 3) := by decide +kernel
theorem dX3_move_123 : decode cX3_move 123 = .ok (.getfield 120, 3) := by decide +kernel
theorem dX3_move_126 : decode cX3_move 126 = .ok (.iload_n 1, 1) := by decide +kernel
theorem dX3_move_127 : decode cX3_move 127 = .ok (.iaload, 1) := by decide +kernel
theorem dX3_move_128 : decode cX3_move 128 = .ok (.iconst 2, 1) := by decide +kernel
theorem dX3_move_129 : decode cX3_move 129 = .ok (.if_icmp .ne 15, 3) := by decide +kernel
theorem dX3_move_132 : decode cX3_move 132 = .ok (.aload_n 0, 1) := by decide +kernel
theorem dX3_move_133 : decode cX3_move 133 = .ok (.getfield 24, 3) := by decide +kernel
theorem dX3_move_136 : decode cX3_move 136 = .ok (.getfield 129, 3) := by decide +kernel
theorem dX3_move_139 : decode cX3_move 139 = .ok (.iload_n 1, 1) := by decide +kernel
theorem dX3_move_140 : decode cX3_move 140 = .ok (.iaload, 1) := by decide +kernel
theorem dX3_move_141 : decode cX3_move 141 = .ok (.goto 4, 3) := by decide +kernel
theorem dX3_move_144 : decode cX3_move 144 = .ok (.iconst 1, 1) := by decide +kernel
theorem dX3_move_145 : decode cX3_move 145 = .ok (.istore 6, 2) := by decide +kernel
theorem dX3_move_147 : decode cX3_move 147 = .ok (.iload 5, 2) := by decide +kernel
theorem dX3_move_149 : decode cX3_move 149 = .ok (.iload 6, 2) := by decide +kernel
theorem dX3_move_151 : decode cX3_move 151 = .ok (.if_icmp .lt 7, 3) := by decide +kernel
theorem dX3_move_154 : decode cX3_move 154 = .ok (.iconst 0, 1) := by decide +kernel
theorem dX3_move_155 : decode cX3_move 155 = .ok (.goto 5, 3) := by decide +kernel
theorem dX3_move_158 : decode cX3_move 158 = .ok (.ldc 48, 2) := by decide +kernel
theorem dX3_move_160 : decode cX3_move 160 = .ok (.ireturn, 1) := by decide +kernel
theorem dX3_move_161 : decode cX3_move 161 = .ok (.iload_n 3, 1) := by decide +kernel
theorem dX3_move_162 : decode cX3_move 162 = .ok (.ifCond .eq 7, 3) := by decide +kernel
theorem dX3_move_165 : decode cX3_move 165 = .ok (.iconst 1, 1) := by decide +kernel
theorem dX3_move_166 : decode cX3_move 166 = .ok (.goto 12, 3) := by decide +kernel
theorem dX3_move_169 : decode cX3_move 169 = .ok (.aload_n 0, 1) := by decide +kernel
theorem dX3_move_170 : decode cX3_move 170 = .ok (.getfield 24, 3) := by decide +kernel
theorem dX3_move_173 : decode cX3_move 173 = .ok (.getfield 129, 3) := by decide +kernel
theorem dX3_move_176 : decode cX3_move 176 = .ok (.iload_n 1, 1) := by decide +kernel
theorem dX3_move_177 : decode cX3_move 177 = .ok (.iaload, 1) := by decide +kernel
theorem dX3_move_178 : decode cX3_move 178 = .ok (.aload_n 0, 1) := by decide +kernel
theorem dX3_move_179 : decode cX3_move 179 = .ok (.getfield 28, 3) := by decide +kernel
theorem dX3_move_182 : decode cX3_move 182 = .ok (.getfield 132, 3) := by decide +kernel
theorem dX3_move_185 : decode cX3_move 185 = .ok (.iconst 0, 1) := by decide +kernel
theorem dX3_move_186 : decode cX3_move 186 = .ok (.iaload, 1) := by decide +kernel
theorem dX3_move_187 : decode cX3_move 187 = .ok (.iadd, 1) := by decide +kernel
theorem dX3_move_188 : decode cX3_move 188 = .ok (.istore 6, 2) := by decide +kernel
theorem dX3_move_190 : decode cX3_move 190 = .ok (.iload_n 3, 1) := by decide +kernel
theorem dX3_move_191 : decode cX3_move 191 = .ok (.ifCond .ne 8, 3) := by decide +kernel
theorem dX3_move_194 : decode cX3_move 194 = .ok (.iload 4, 2) := by decide +kernel
theorem dX3_move_196 : decode cX3_move 196 = .ok (.ifCond .eq 17, 3) := by decide +kernel
theorem dX3_move_199 : decode cX3_move 199 = .ok (.iload 6, 2) := by decide +kernel
theorem dX3_move_201 : decode cX3_move 201 = .ok (.aload_n 0, 1) := by decide +kernel
theorem dX3_move_202 : decode cX3_move 202 = .ok (.getfield 28, 3) := by decide +kernel
theorem dX3_move_205 : decode cX3_move 205 = .ok (.getfield 132, 3) := by decide +kernel
theorem dX3_move_208 : decode cX3_move 208 = .ok (.iconst 3, 1) := by decide +kernel
theorem dX3_move_209 : decode cX3_move 209 = .ok (.iaload, 1) := by decide +kernel
theorem dX3_move_210 : decode cX3_move 210 = .ok (.iadd, 1) := by decide +kernel
theorem dX3_move_211 : decode cX3_move 211 = .ok (.istore 6, 2) := by decide +kernel
theorem dX3_move_213 : decode cX3_move 213 = .ok (.iload 5, 2) := by decide +kernel
theorem dX3_move_215 : decode cX3_move 215 = .ok (.iload 6, 2) := by decide +kernel
theorem dX3_move_217 : decode cX3_move 217 = .ok (.if_icmp .lt 7, 3) := by decide +kernel
theorem dX3_move_220 : decode cX3_move 220 = .ok (.iconst 1, 1) := by decide +kernel
theorem dX3_move_221 : decode cX3_move 221 = .ok (.goto 5, 3) := by decide +kernel
theorem dX3_move_224 : decode cX3_move 224 = .ok (.ldc 48, 2) := by decide +kernel
theorem dX3_move_226 : decode cX3_move 226 = .ok (.ireturn, 1) := by decide +kernel
abbrev mX3_forget : MI := (yX3_forget, cX3_forget, 1, none, 1, 21, [])
abbrev mX3_place : MI := (yX3_place, cX3_place, 2, some .int, 1, 21, [])
abbrev mX3_others : MI := (yX3_others, cX3_others, 1, some .int, 1, 21, [])
abbrev mX3_did : MI := (yX3_did, cX3_did, 2, some .int, 1, 21, [])
abbrev mX3_restOf : MI := (yX3_restOf, cX3_restOf, 3, some .int, 2, 42, [])
abbrev mX3_holds : MI := (yX3_holds, cX3_holds, 3, some .boolean, 1, 21, [])
abbrev mX3_move : MI := (yX3_move, cX3_move, 7, some .int, 1, 21, [])
theorem co_X3_48 : Cond.constant RX3 48 16777216 ∈ lw_w := lw_in (i := 752) (by decide +kernel) (by decide +kernel)
theorem fk_X3_15 : Fk RX3 15 3 4 := ⟨RX3, TX3, 9, tyX3, rfl, inX3, by decide, lw_in (i := 187) (by decide +kernel) (by decide +kernel), tyX3_ok, nmX3⟩
theorem fk_X3_18 : Fk RX3 18 3 6 := ⟨RX3, TX3, 9, tyX3, rfl, inX3, by decide, lw_in (i := 189) (by decide +kernel) (by decide +kernel), tyX3_ok, nmX3⟩
theorem fk_X3_24 : Fk RX3 24 3 0 := ⟨RX3, TX3, 9, tyX3, rfl, inX3, by decide, lw_in (i := 181) (by decide +kernel) (by decide +kernel), tyX3_ok, nmX3⟩
theorem fk_X3_28 : Fk RX3 28 3 1 := ⟨RX3, TX3, 9, tyX3, rfl, inX3, by decide, lw_in (i := 182) (by decide +kernel) (by decide +kernel), tyX3_ok, nmX3⟩
theorem fk_X3_32 : Fk RX3 32 3 3 := ⟨RX3, TX3, 9, tyX3, rfl, inX3, by decide, lw_in (i := 185) (by decide +kernel) (by decide +kernel), tyX3_ok, nmX3⟩
theorem fk_X3_75 : Fk RX3 75 3 7 := ⟨RX3, TX3, 9, tyX3, rfl, inX3, by decide, lw_in (i := 190) (by decide +kernel) (by decide +kernel), tyX3_ok, nmX3⟩
theorem fk_X3_120 : Fk RX3 120 9 3 := ⟨RX9, TX9, 5, tyX9, rfl, inX9, by decide, lw_in (i := 104) (by decide +kernel) (by decide +kernel), tyX9_ok, nmX9⟩
theorem fk_X3_123 : Fk RX3 123 9 0 := ⟨RX9, TX9, 5, tyX9, rfl, inX9, by decide, lw_in (i := 88) (by decide +kernel) (by decide +kernel), tyX9_ok, nmX9⟩
theorem fk_X3_126 : Fk RX3 126 9 1 := ⟨RX9, TX9, 5, tyX9, rfl, inX9, by decide, lw_in (i := 95) (by decide +kernel) (by decide +kernel), tyX9_ok, nmX9⟩
theorem fk_X3_129 : Fk RX3 129 9 2 := ⟨RX9, TX9, 5, tyX9, rfl, inX9, by decide, lw_in (i := 100) (by decide +kernel) (by decide +kernel), tyX9_ok, nmX9⟩
theorem fk_X3_132 : Fk RX3 132 6 0 := ⟨RX6, TX6, 5, tyX6, rfl, inX6, by decide, lw_in (i := 159) (by decide +kernel) (by decide +kernel), tyX6_ok, nmX6⟩
theorem fp_X3_3 : Fp 3 3 .boolean := ⟨RX3, TX3, 9, rfl, rfl, by decide +kernel⟩
theorem ms_X3_place : Cond.static mX3_place.y ∈ lw_w := lw_in (i := 742) (by decide +kernel) (by decide +kernel)
theorem mk_X3_78 : Mk RX3 78 mX3_place 2 := ⟨lw_in (i := 741) (by decide +kernel) (by decide +kernel), lw_in (i := 7) (by decide +kernel) (by decide +kernel), lw_in (i := 743) (by decide +kernel) (by decide +kernel), by decide +kernel⟩
theorem mk_X3_88 : Cond.methodLink RX3 88 Lib.Math.max.name ∈ lw_w := lw_in (i := 882) (by decide +kernel) (by decide +kernel)
theorem rm_X3_restOf_X3_place : Rm mX3_restOf mX3_place := ⟨by decide, by decide⟩
section W_hands
variable {l : Launch} {D : va_G} {ad : Nat → Nat} {kA : Nat → ClassId} {M : Mem} {Q : Outcome → Mem → Prop}
theorem t_X3_forget_0  
    (K1 : Q (.returned none) (sI M 17 3 0)) : Fw l D ad kA mX3_forget 0 [some (.ref (ad 17))] [] M Q := by
  refine r_aload_n dX3_forget_0 rfl ?_
  refine r_iconst (v := 0) dX3_forget_1 kI_0 ?_
  refine r_putZ dX3_forget_2 fs_17_3 fk_X3_32 fp_X3_3 (Or.inl rfl) ?_
  exact r_vret dX3_forget_5 rfl K1
theorem en_X3_forget  (K : Fw l D ad kA mX3_forget 0 [some (.ref (ad 17))] [] M Q) : Cal l D ad kA mX3_forget [.ref (ad 17)] M Q := Cal.of (by decide) rfl rfl (Nat.le_of_ble_eq_true rfl) K
def v_X3_place (x0 : Int32) (x1 : Int32) : Int32 := ((x0 * (x0 - 1)) / 2) + x1
theorem ct_X3_place {x0 : Int32} {x1 : Int32}  (h : Q (.returned (some (.int (v_X3_place x0 x1)))) M) : Cal l D ad kA mX3_place [.int x0, .int x1] M Q := by
  refine Cal.of (lo := [some (.int x0), some (.int x1)]) (by decide) rfl rfl (Nat.le_of_ble_eq_true rfl) ?_
  refine r_iload_n dX3_place_0 rfl ?_
  refine r_iload_n dX3_place_1 rfl ?_
  refine r_iconst (v := 1) dX3_place_2 kI_1 ?_
  refine r_isub dX3_place_3 ?_
  refine r_imul dX3_place_4 ?_
  refine r_iconst (v := 2) dX3_place_5 kI_2 ?_
  refine r_idiv dX3_place_6 (by decide) ?_
  refine r_iload_n dX3_place_7 rfl ?_
  refine r_iadd dX3_place_8 ?_
  exact r_iret dX3_place_9 rfl h
def v_X3_others (x0 : Int32) : Int32 := imax 1 x0
theorem ct_X3_others {x0 : Int32}  (h : Q (.returned (some (.int (v_X3_others x0)))) M) : Cal l D ad kA mX3_others [.int x0] M Q := by
  refine Cal.of (lo := [some (.int x0)]) (by decide) rfl rfl (Nat.le_of_ble_eq_true rfl) ?_
  refine r_iconst (v := 1) dX3_others_0 kI_1 ?_
  refine r_iload_n dX3_others_1 rfl ?_
  refine q_mmax dX3_others_2 mk_X3_88 (by decide) (Nat.le_of_ble_eq_true rfl) ?_
  exact r_iret dX3_others_5 rfl h
def v_X3_did (M : Mem) (x1 : Int32) : Int32 := if 0 < x1 then gI M 19 (x1 - 1).toNatClampNeg else (-1)
def g_X3_did (M : Mem) (x1 : Int32) : Prop := ((0 < x1) → vp_in (x1 - 1) 160)
theorem ct_X3_did {x1 : Int32}  (g : g_X3_did M x1) (h : Q (.returned (some (.int (v_X3_did M x1)))) M) : Cal l D ad kA mX3_did [.ref (ad 17), .int x1] M Q := by
  refine Cal.of (lo := [some (.ref (ad 17)), some (.int x1)]) (by decide) rfl rfl (Nat.le_of_ble_eq_true rfl) ?_
  have g1 := g
  refine r_iload_n dX3_did_0 rfl ?_
  suffices hJ1 : Fw l D ad kA mX3_did 16 [none, none] [.int (if 0 < x1 then gI M 19 (x1 - 1).toNatClampNeg else (-1))] M Q by
    refine r_if_gt (tgt := 8) dX3_did_1 (by decide) (fun c1 => ?_) (fun c1 => ?_)
    · skip
      refine r_aload_n dX3_did_8 rfl ?_
      refine r_getR dX3_did_9 fs_17_4 fk_X3_15 ?_
      refine r_iload_n dX3_did_12 rfl ?_
      refine r_iconst (v := 1) dX3_did_13 kI_1 ?_
      refine r_isub dX3_did_14 ?_
      refine r_iald dX3_did_15 as_19 (g1 c1) ?_
      exact q_weak (lo' := [none, none]) trivial (by have h9 := hJ1; simp only [if_pos c1] at h9; first | exact h9 | (simp only [if_pos c1]; exact h9))
    · skip
      refine r_iconst (v := (-1)) dX3_did_4 kI_m1 ?_
      refine r_goto (tgt := 16) dX3_did_5 (by decide) ?_
      exact q_weak (lo' := [none, none]) trivial (by have h9 := hJ1; simp only [if_neg c1] at h9; first | exact h9 | (simp only [if_neg c1]; exact h9))
  exact r_iret dX3_did_16 rfl h
def v_X3_restOf (M : Mem) (x1 : Int32) (x2 : Int32) : Int32 := if (gI M 17 7) < x1 then gI M 20 (v_X3_place x1 x2).toNatClampNeg else 16777216
def g_X3_restOf (M : Mem) (x1 : Int32) (x2 : Int32) : Prop := (((gI M 17 7) < x1) → vp_in (v_X3_place x1 x2) 12880)
theorem ct_X3_restOf {x1 : Int32} {x2 : Int32}  (g : g_X3_restOf M x1 x2) (h : Q (.returned (some (.int (v_X3_restOf M x1 x2)))) M) : Cal l D ad kA mX3_restOf [.ref (ad 17), .int x1, .int x2] M Q := by
  refine Cal.of (lo := [some (.ref (ad 17)), some (.int x1), some (.int x2)]) (by decide) rfl rfl (Nat.le_of_ble_eq_true rfl) ?_
  have g1 := g
  refine r_iload_n dX3_restOf_0 rfl ?_
  refine r_aload_n dX3_restOf_1 rfl ?_
  refine r_getI dX3_restOf_2 fs_17_7 fk_X3_75 ?_
  suffices hJ1 : Fw l D ad kA mX3_restOf 23 [none, none, none] [.int (if (gI M 17 7) < x1 then gI M 20 (v_X3_place x1 x2).toNatClampNeg else 16777216)] M Q by
    refine r_icmp_gt (tgt := 13) dX3_restOf_5 (by decide) (fun c1 => ?_) (fun c1 => ?_)
    · skip
      refine r_aload_n dX3_restOf_13 rfl ?_
      refine r_getR dX3_restOf_14 fs_17_6 fk_X3_18 ?_
      refine r_iload_n dX3_restOf_17 rfl ?_
      refine r_iload_n dX3_restOf_18 rfl ?_
      refine r_callS (As := [.int x1, .int x2]) (rest := [.ref (ad 20)]) dX3_restOf_19 mk_X3_78 ms_X3_place rm_X3_restOf_X3_place rfl rfl (Nat.le_of_ble_eq_true rfl) (ct_X3_place (⟨_, rfl, ?_⟩))
      refine r_iald dX3_restOf_22 as_20 (g1 c1) ?_
      exact q_weak (lo' := [none, none, none]) trivial (by have h9 := hJ1; simp only [if_pos c1] at h9; first | exact h9 | (simp only [if_pos c1]; exact h9))
    · skip
      refine r_ldc (v := 16777216) dX3_restOf_8 co_X3_48 ?_
      refine r_goto (tgt := 23) dX3_restOf_10 (by decide) ?_
      exact q_weak (lo' := [none, none, none]) trivial (by have h9 := hJ1; simp only [if_neg c1] at h9; first | exact h9 | (simp only [if_neg c1]; exact h9))
  exact r_iret dX3_restOf_23 rfl h
def v_X3_holds (M : Mem) (x1 : Int32) (x2 : Int32) : Int32 := if x1 = (-1) then 0 else if (gI M 13 x1.toNatClampNeg) = 1 then 0 else if (gI M 11 x1.toNatClampNeg) = (gI M 11 x2.toNatClampNeg) then 1 else 0
def g_X3_holds (M : Mem) (x1 : Int32) (x2 : Int32) : Prop := ((¬ (x1 = (-1))) → vp_in x1 160) ∧ ((¬ (x1 = (-1))) → (¬ ((gI M 13 x1.toNatClampNeg) = 1)) → vp_in x2 160)
theorem ct_X3_holds {x1 : Int32} {x2 : Int32}  (g : g_X3_holds M x1 x2) (h : Q (.returned (some (.int (v_X3_holds M x1 x2)))) M) : Cal l D ad kA mX3_holds [.ref (ad 17), .int x1, .int x2] M Q := by
  refine Cal.of (lo := [some (.ref (ad 17)), some (.int x1), some (.int x2)]) (by decide) rfl rfl (Nat.le_of_ble_eq_true rfl) ?_
  obtain ⟨g1, g2⟩ := g
  refine r_iload_n dX3_holds_0 rfl ?_
  refine r_iconst (v := (-1)) dX3_holds_1 kI_m1 ?_
  suffices hJ1 : Fw l D ad kA mX3_holds 44 [none, none, none] [.int (if x1 = (-1) then 0 else if (gI M 13 x1.toNatClampNeg) = 1 then 0 else if (gI M 11 x1.toNatClampNeg) = (gI M 11 x2.toNatClampNeg) then 1 else 0)] M Q by
    refine r_icmp_eq (tgt := 43) dX3_holds_2 (by decide) (fun c1 => ?_) (fun c1 => ?_)
    · skip
      refine r_iconst (v := 0) dX3_holds_43 kI_0 ?_
      exact q_weak (lo' := [none, none, none]) trivial (by have h9 := hJ1; simp only [if_pos c1] at h9; first | exact h9 | (simp only [if_pos c1]; exact h9))
    · skip
      refine r_aload_n dX3_holds_5 rfl ?_
      refine r_getR dX3_holds_6 fs_17_0 fk_X3_24 ?_
      refine r_getR dX3_holds_9 fs_9_3 fk_X3_120 ?_
      refine r_iload_n dX3_holds_12 rfl ?_
      refine r_iald dX3_holds_13 as_13 (g1 c1) ?_
      refine r_iconst (v := 1) dX3_holds_14 kI_1 ?_
      refine r_icmp_eq (tgt := 43) dX3_holds_15 (by decide) (fun c2 => ?_) (fun c2 => ?_)
      · skip
        refine r_iconst (v := 0) dX3_holds_43 kI_0 ?_
        exact q_weak (lo' := [none, none, none]) trivial (by have h9 := hJ1; simp only [if_neg c1, if_pos c2] at h9; first | exact h9 | (simp only [if_neg c1, if_pos c2]; exact h9))
      · skip
        refine r_aload_n dX3_holds_18 rfl ?_
        refine r_getR dX3_holds_19 fs_17_0 fk_X3_24 ?_
        refine r_getR dX3_holds_22 fs_9_1 fk_X3_126 ?_
        refine r_iload_n dX3_holds_25 rfl ?_
        refine r_iald dX3_holds_26 as_11 (g1 c1) ?_
        refine r_aload_n dX3_holds_27 rfl ?_
        refine r_getR dX3_holds_28 fs_17_0 fk_X3_24 ?_
        refine r_getR dX3_holds_31 fs_9_1 fk_X3_126 ?_
        refine r_iload_n dX3_holds_34 rfl ?_
        refine r_iald dX3_holds_35 as_11 (g2 c1 c2) ?_
        refine r_icmp_ne (tgt := 43) dX3_holds_36 (by decide) (fun c3 => ?_) (fun c3 => ?_)
        · skip
          refine r_iconst (v := 0) dX3_holds_43 kI_0 ?_
          exact q_weak (lo' := [none, none, none]) trivial (by have h9 := hJ1; simp only [if_neg c1, if_neg c2, if_neg c3] at h9; first | exact h9 | (simp only [if_neg c1, if_neg c2, if_neg c3]; exact h9))
        · skip
          refine r_iconst (v := 1) dX3_holds_39 kI_1 ?_
          refine r_goto (tgt := 44) dX3_holds_40 (by decide) ?_
          exact q_weak (lo' := [none, none, none]) trivial (by have h9 := hJ1; simp only [if_neg c1, if_neg c2, if_pos c3] at h9; first | exact h9 | (simp only [if_neg c1, if_neg c2, if_pos c3]; exact h9))
  exact r_zret dX3_holds_44 rfl (nar_z (ite01 (Or.inl rfl) (ite01 (Or.inl rfl) (ite01 (Or.inr rfl) (Or.inl rfl))))).1 h
theorem z_X3_holds {M : Mem} {x1 : Int32} {x2 : Int32} : v_X3_holds M x1 x2 = 0 ∨ v_X3_holds M x1 x2 = 1 := (ite01 (Or.inl rfl) (ite01 (Or.inl rfl) (ite01 (Or.inr rfl) (Or.inl rfl))))
theorem t_X3_move_0 {x1 : Int32} {x2 : Int32} 
    (g1 : (¬ (x1 = (-1))) → vp_in x1 160)
    (g2 : (¬ (x1 = (-1))) → vp_in x2 160)
    (K1 : (¬ (x1 = (-1))) → Fw l D ad kA mX3_move 67 [some (.ref (ad 17)), some (.int x1), some (.int x2), some (.int (if (gI M 13 x1.toNatClampNeg) = 1 then 1 else 0)), some (.int (if (gI M 13 x2.toNatClampNeg) = 1 then 1 else 0)), some (.int ((gI M 10 x2.toNatClampNeg) - (gI M 10 x1.toNatClampNeg))), none] [] M Q)
    (K2 : (x1 = (-1)) → Q (.returned (some (.int 0))) M) : Fw l D ad kA mX3_move 0 [some (.ref (ad 17)), some (.int x1), some (.int x2), none, none, none, none] [] M Q := by
  refine r_iload_n dX3_move_0 rfl ?_
  refine r_iconst (v := (-1)) dX3_move_1 kI_m1 ?_
  refine r_icmp_ne (tgt := 7) dX3_move_2 (by decide) (fun c1 => ?_) (fun c1 => ?_)
  · skip
    refine r_aload_n dX3_move_7 rfl ?_
    refine r_getR dX3_move_8 fs_17_0 fk_X3_24 ?_
    refine r_getR dX3_move_11 fs_9_3 fk_X3_120 ?_
    refine r_iload_n dX3_move_14 rfl ?_
    refine r_iald dX3_move_15 as_13 (g1 c1) ?_
    refine r_iconst (v := 1) dX3_move_16 kI_1 ?_
    suffices hJ1 : Fw l D ad kA mX3_move 25 [some (.ref (ad 17)), some (.int x1), some (.int x2), none, none, none, none] [.int (if (gI M 13 x1.toNatClampNeg) = 1 then 1 else 0)] M Q by
      refine r_icmp_ne (tgt := 24) dX3_move_17 (by decide) (fun c2 => ?_) (fun c2 => ?_)
      · skip
        refine r_iconst (v := 0) dX3_move_24 kI_0 ?_
        exact q_weak (lo' := [some (.ref (ad 17)), some (.int x1), some (.int x2), none, none, none, none]) ⟨rfl, rfl, rfl, trivial⟩ (by have h9 := hJ1; simp only [if_neg c2] at h9; first | exact h9 | (simp only [if_neg c2]; exact h9))
      · skip
        refine r_iconst (v := 1) dX3_move_20 kI_1 ?_
        refine r_goto (tgt := 25) dX3_move_21 (by decide) ?_
        exact q_weak (lo' := [some (.ref (ad 17)), some (.int x1), some (.int x2), none, none, none, none]) ⟨rfl, rfl, rfl, trivial⟩ (by have h9 := hJ1; simp only [if_pos c2] at h9; first | exact h9 | (simp only [if_pos c2]; exact h9))
    refine q_istore_n (lo' := [some (.ref (ad 17)), some (.int x1), some (.int x2), some (.int (if (gI M 13 x1.toNatClampNeg) = 1 then 1 else 0)), none, none, none]) dX3_move_25 (by decide) rfl ?_
    refine r_aload_n dX3_move_26 rfl ?_
    refine r_getR dX3_move_27 fs_17_0 fk_X3_24 ?_
    refine r_getR dX3_move_30 fs_9_3 fk_X3_120 ?_
    refine r_iload_n dX3_move_33 rfl ?_
    refine r_iald dX3_move_34 as_13 (g2 c1) ?_
    refine r_iconst (v := 1) dX3_move_35 kI_1 ?_
    suffices hJ2 : Fw l D ad kA mX3_move 44 [some (.ref (ad 17)), some (.int x1), some (.int x2), some (.int (if (gI M 13 x1.toNatClampNeg) = 1 then 1 else 0)), none, none, none] [.int (if (gI M 13 x2.toNatClampNeg) = 1 then 1 else 0)] M Q by
      refine r_icmp_ne (tgt := 43) dX3_move_36 (by decide) (fun c3 => ?_) (fun c3 => ?_)
      · skip
        refine r_iconst (v := 0) dX3_move_43 kI_0 ?_
        exact q_weak (lo' := [some (.ref (ad 17)), some (.int x1), some (.int x2), some (.int (if (gI M 13 x1.toNatClampNeg) = 1 then 1 else 0)), none, none, none]) ⟨rfl, rfl, rfl, rfl, trivial⟩ (by have h9 := hJ2; simp only [if_neg c3] at h9; first | exact h9 | (simp only [if_neg c3]; exact h9))
      · skip
        refine r_iconst (v := 1) dX3_move_39 kI_1 ?_
        refine r_goto (tgt := 44) dX3_move_40 (by decide) ?_
        exact q_weak (lo' := [some (.ref (ad 17)), some (.int x1), some (.int x2), some (.int (if (gI M 13 x1.toNatClampNeg) = 1 then 1 else 0)), none, none, none]) ⟨rfl, rfl, rfl, rfl, trivial⟩ (by have h9 := hJ2; simp only [if_pos c3] at h9; first | exact h9 | (simp only [if_pos c3]; exact h9))
    refine q_istore (lo' := [some (.ref (ad 17)), some (.int x1), some (.int x2), some (.int (if (gI M 13 x1.toNatClampNeg) = 1 then 1 else 0)), some (.int (if (gI M 13 x2.toNatClampNeg) = 1 then 1 else 0)), none, none]) dX3_move_44 (by decide) rfl ?_
    refine r_aload_n dX3_move_46 rfl ?_
    refine r_getR dX3_move_47 fs_17_0 fk_X3_24 ?_
    refine r_getR dX3_move_50 fs_9_0 fk_X3_123 ?_
    refine r_iload_n dX3_move_53 rfl ?_
    refine r_iald dX3_move_54 as_10 (g2 c1) ?_
    refine r_aload_n dX3_move_55 rfl ?_
    refine r_getR dX3_move_56 fs_17_0 fk_X3_24 ?_
    refine r_getR dX3_move_59 fs_9_0 fk_X3_123 ?_
    refine r_iload_n dX3_move_62 rfl ?_
    refine r_iald dX3_move_63 as_10 (g1 c1) ?_
    refine r_isub dX3_move_64 ?_
    refine q_istore (lo' := [some (.ref (ad 17)), some (.int x1), some (.int x2), some (.int (if (gI M 13 x1.toNatClampNeg) = 1 then 1 else 0)), some (.int (if (gI M 13 x2.toNatClampNeg) = 1 then 1 else 0)), some (.int ((gI M 10 x2.toNatClampNeg) - (gI M 10 x1.toNatClampNeg))), none]) dX3_move_65 (by decide) rfl ?_
    exact (K1 c1)
  · skip
    refine r_iconst (v := 0) dX3_move_5 kI_0 ?_
    exact r_iret dX3_move_6 rfl (K2 c1)
theorem t_X3_move_67 {x1 : Int32} {x2 : Int32} {x3 : Int32} {x4 : Int32} {x5 : Int32} 
    (g1 : (x3 = 0) → (x4 = 0) → vp_in x1 160)
    (g2 : (x3 = 0) → (x4 = 0) → vp_in x2 160)
    (K1 : (x3 = 0) → (¬ (x4 = 0)) → Fw l D ad kA mX3_move 161 [some (.ref (ad 17)), some (.int x1), none, some (.int x3), some (.int x4), some (.int x5), none] [] M Q)
    (K2 : (x3 = 0) → (x4 = 0) → (¬ ((gI M 11 x1.toNatClampNeg) = (gI M 11 x2.toNatClampNeg))) → Fw l D ad kA mX3_move 161 [some (.ref (ad 17)), some (.int x1), none, some (.int x3), some (.int x4), some (.int x5), none] [] M Q)
    (K3 : (x3 = 0) → (x4 = 0) → ((gI M 11 x1.toNatClampNeg) = (gI M 11 x2.toNatClampNeg)) → Q (.returned (some (.int (if x5 < (if (gI M 13 x1.toNatClampNeg) = 2 then gI M 12 x1.toNatClampNeg else 1 : Int32) then 16777216 else 0)))) M)
    (K4 : (¬ (x3 = 0)) → (x4 = 0) → Fw l D ad kA mX3_move 161 [some (.ref (ad 17)), some (.int x1), none, some (.int x3), some (.int x4), some (.int x5), none] [] M Q)
    (K5 : (¬ (x3 = 0)) → (¬ (x4 = 0)) → Q (.returned (some (.int (if x5 < 1 then 16777216 else 0)))) M) : Fw l D ad kA mX3_move 67 [some (.ref (ad 17)), some (.int x1), some (.int x2), some (.int x3), some (.int x4), some (.int x5), none] [] M Q := by
  refine r_iload_n dX3_move_67 rfl ?_
  refine r_if_eq (tgt := 89) dX3_move_68 (by decide) (fun c1 => ?_) (fun c1 => ?_)
  · skip
    refine r_iload_n dX3_move_89 rfl ?_
    refine r_if_ne (tgt := 161) dX3_move_90 (by decide) (fun q => absurd c1 q) (fun _ => ?_)
    refine r_iload dX3_move_93 rfl ?_
    refine r_if_ne (tgt := 161) dX3_move_95 (by decide) (fun c2 => ?_) (fun c2 => ?_)
    · skip
      exact q_weak (lo' := [some (.ref (ad 17)), some (.int x1), none, some (.int x3), some (.int x4), some (.int x5), none]) ⟨rfl, rfl, rfl, rfl, rfl, trivial⟩ (K1 c1 c2)
    · skip
      refine r_aload_n dX3_move_98 rfl ?_
      refine r_getR dX3_move_99 fs_17_0 fk_X3_24 ?_
      refine r_getR dX3_move_102 fs_9_1 fk_X3_126 ?_
      refine r_iload_n dX3_move_105 rfl ?_
      refine r_iald dX3_move_106 as_11 (g1 c1 c2) ?_
      refine r_aload_n dX3_move_107 rfl ?_
      refine r_getR dX3_move_108 fs_17_0 fk_X3_24 ?_
      refine r_getR dX3_move_111 fs_9_1 fk_X3_126 ?_
      refine r_iload_n dX3_move_114 rfl ?_
      refine r_iald dX3_move_115 as_11 (g2 c1 c2) ?_
      refine r_icmp_ne (tgt := 161) dX3_move_116 (by decide) (fun c3 => ?_) (fun c3 => ?_)
      · skip
        exact q_weak (lo' := [some (.ref (ad 17)), some (.int x1), none, some (.int x3), some (.int x4), some (.int x5), none]) ⟨rfl, rfl, rfl, rfl, rfl, trivial⟩ (K2 c1 c2 c3)
      · skip
        refine r_aload_n dX3_move_119 rfl ?_
        refine r_getR dX3_move_120 fs_17_0 fk_X3_24 ?_
        refine r_getR dX3_move_123 fs_9_3 fk_X3_120 ?_
        refine r_iload_n dX3_move_126 rfl ?_
        refine r_iald dX3_move_127 as_13 (g1 c1 c2) ?_
        refine r_iconst (v := 2) dX3_move_128 kI_2 ?_
        suffices hJ1 : Fw l D ad kA mX3_move 145 [none, none, none, none, none, some (.int x5), none] [.int (if (gI M 13 x1.toNatClampNeg) = 2 then gI M 12 x1.toNatClampNeg else 1)] M Q by
          refine r_icmp_ne (tgt := 144) dX3_move_129 (by decide) (fun c4 => ?_) (fun c4 => ?_)
          · skip
            refine r_iconst (v := 1) dX3_move_144 kI_1 ?_
            exact q_weak (lo' := [none, none, none, none, none, some (.int x5), none]) ⟨rfl, trivial⟩ (by have h9 := hJ1; simp only [if_neg c4] at h9; first | exact h9 | (simp only [if_neg c4]; exact h9))
          · skip
            refine r_aload_n dX3_move_132 rfl ?_
            refine r_getR dX3_move_133 fs_17_0 fk_X3_24 ?_
            refine r_getR dX3_move_136 fs_9_2 fk_X3_129 ?_
            refine r_iload_n dX3_move_139 rfl ?_
            refine r_iald dX3_move_140 as_12 (g1 c1 c2) ?_
            refine r_goto (tgt := 145) dX3_move_141 (by decide) ?_
            exact q_weak (lo' := [none, none, none, none, none, some (.int x5), none]) ⟨rfl, trivial⟩ (by have h9 := hJ1; simp only [if_pos c4] at h9; first | exact h9 | (simp only [if_pos c4]; exact h9))
        refine q_istore (lo' := [none, none, none, none, none, some (.int x5), some (.int (if (gI M 13 x1.toNatClampNeg) = 2 then gI M 12 x1.toNatClampNeg else 1))]) dX3_move_145 (by decide) rfl ?_
        refine r_iload dX3_move_147 rfl ?_
        refine r_iload dX3_move_149 rfl ?_
        suffices hJ2 : Fw l D ad kA mX3_move 160 [none, none, none, none, none, none, none] [.int (if x5 < (if (gI M 13 x1.toNatClampNeg) = 2 then gI M 12 x1.toNatClampNeg else 1 : Int32) then 16777216 else 0)] M Q by
          refine r_icmp_lt (tgt := 158) dX3_move_151 (by decide) (fun c5 => ?_) (fun c5 => ?_)
          · skip
            refine r_ldc (v := 16777216) dX3_move_158 co_X3_48 ?_
            exact q_weak (lo' := [none, none, none, none, none, none, none]) trivial (by have h9 := hJ2; simp only [if_pos c5] at h9; first | exact h9 | (simp only [if_pos c5]; exact h9))
          · skip
            refine r_iconst (v := 0) dX3_move_154 kI_0 ?_
            refine r_goto (tgt := 160) dX3_move_155 (by decide) ?_
            exact q_weak (lo' := [none, none, none, none, none, none, none]) trivial (by have h9 := hJ2; simp only [if_neg c5] at h9; first | exact h9 | (simp only [if_neg c5]; exact h9))
        exact r_iret dX3_move_160 rfl (K3 c1 c2 c3)
  · skip
    refine r_iload dX3_move_71 rfl ?_
    refine r_if_eq (tgt := 89) dX3_move_73 (by decide) (fun c6 => ?_) (fun c6 => ?_)
    · skip
      refine r_iload_n dX3_move_89 rfl ?_
      refine r_if_ne (tgt := 161) dX3_move_90 (by decide) (fun _ => ?_) (fun q => absurd q c1)
      exact q_weak (lo' := [some (.ref (ad 17)), some (.int x1), none, some (.int x3), some (.int x4), some (.int x5), none]) ⟨rfl, rfl, rfl, rfl, rfl, trivial⟩ (K4 c1 c6)
    · skip
      refine r_iload dX3_move_76 rfl ?_
      refine r_iconst (v := 1) dX3_move_78 kI_1 ?_
      suffices hJ3 : Fw l D ad kA mX3_move 88 [none, none, none, none, none, none, none] [.int (if x5 < 1 then 16777216 else 0)] M Q by
        refine r_icmp_lt (tgt := 86) dX3_move_79 (by decide) (fun c7 => ?_) (fun c7 => ?_)
        · skip
          refine r_ldc (v := 16777216) dX3_move_86 co_X3_48 ?_
          exact q_weak (lo' := [none, none, none, none, none, none, none]) trivial (by have h9 := hJ3; simp only [if_pos c7] at h9; first | exact h9 | (simp only [if_pos c7]; exact h9))
        · skip
          refine r_iconst (v := 0) dX3_move_82 kI_0 ?_
          refine r_goto (tgt := 88) dX3_move_83 (by decide) ?_
          exact q_weak (lo' := [none, none, none, none, none, none, none]) trivial (by have h9 := hJ3; simp only [if_neg c7] at h9; first | exact h9 | (simp only [if_neg c7]; exact h9))
      exact r_iret dX3_move_88 rfl (K5 c1 c6)
theorem t_X3_move_161 {x1 : Int32} {x3 : Int32} {x4 : Int32} {x5 : Int32} 
    (g1 : (x3 = 0) → vp_in x1 160)
    (K1 : Fw l D ad kA mX3_move 190 [some (.ref (ad 17)), none, none, some (.int x3), some (.int x4), some (.int x5), some (.int ((if x3 = 0 then gI M 12 x1.toNatClampNeg else 1) + (gI M 15 (0 : Int32).toNatClampNeg)))] [] M Q) : Fw l D ad kA mX3_move 161 [some (.ref (ad 17)), some (.int x1), none, some (.int x3), some (.int x4), some (.int x5), none] [] M Q := by
  refine r_iload_n dX3_move_161 rfl ?_
  suffices hJ1 : Fw l D ad kA mX3_move 178 [some (.ref (ad 17)), none, none, some (.int x3), some (.int x4), some (.int x5), none] [.int (if x3 = 0 then gI M 12 x1.toNatClampNeg else 1)] M Q by
    refine r_if_eq (tgt := 169) dX3_move_162 (by decide) (fun c1 => ?_) (fun c1 => ?_)
    · skip
      refine r_aload_n dX3_move_169 rfl ?_
      refine r_getR dX3_move_170 fs_17_0 fk_X3_24 ?_
      refine r_getR dX3_move_173 fs_9_2 fk_X3_129 ?_
      refine r_iload_n dX3_move_176 rfl ?_
      refine r_iald dX3_move_177 as_12 (g1 c1) ?_
      exact q_weak (lo' := [some (.ref (ad 17)), none, none, some (.int x3), some (.int x4), some (.int x5), none]) ⟨rfl, rfl, rfl, rfl, trivial⟩ (by have h9 := hJ1; simp only [if_pos c1] at h9; first | exact h9 | (simp only [if_pos c1]; exact h9))
    · skip
      refine r_iconst (v := 1) dX3_move_165 kI_1 ?_
      refine r_goto (tgt := 178) dX3_move_166 (by decide) ?_
      exact q_weak (lo' := [some (.ref (ad 17)), none, none, some (.int x3), some (.int x4), some (.int x5), none]) ⟨rfl, rfl, rfl, rfl, trivial⟩ (by have h9 := hJ1; simp only [if_neg c1] at h9; first | exact h9 | (simp only [if_neg c1]; exact h9))
  refine r_aload_n dX3_move_178 rfl ?_
  refine r_getR dX3_move_179 fs_17_1 fk_X3_28 ?_
  refine r_getR dX3_move_182 fs_14_0 fk_X3_132 ?_
  refine r_iconst (v := 0) dX3_move_185 kI_0 ?_
  refine r_iald dX3_move_186 as_15 (by unfold vp_in; decide) ?_
  refine r_iadd dX3_move_187 ?_
  refine q_istore (lo' := [some (.ref (ad 17)), none, none, some (.int x3), some (.int x4), some (.int x5), some (.int ((if x3 = 0 then gI M 12 x1.toNatClampNeg else 1) + (gI M 15 (0 : Int32).toNatClampNeg)))]) dX3_move_188 (by decide) rfl ?_
  exact K1
theorem t_X3_move_190 {x3 : Int32} {x4 : Int32} {x5 : Int32} {x6 : Int32} 
    (K1 : Q (.returned (some (.int (if x5 < (if x3 = 0 then if x4 = 0 then x6 else x6 + (gI M 15 (3 : Int32).toNatClampNeg) else x6 + (gI M 15 (3 : Int32).toNatClampNeg) : Int32) then 16777216 else 1)))) M) : Fw l D ad kA mX3_move 190 [some (.ref (ad 17)), none, none, some (.int x3), some (.int x4), some (.int x5), some (.int x6)] [] M Q := by
  refine r_iload_n dX3_move_190 rfl ?_
  suffices hJ1 : Fw l D ad kA mX3_move 213 [none, none, none, none, none, some (.int x5), some (.int (if x3 = 0 then if x4 = 0 then x6 else x6 + (gI M 15 (3 : Int32).toNatClampNeg) else x6 + (gI M 15 (3 : Int32).toNatClampNeg)))] [] M Q by
    refine r_if_ne (tgt := 199) dX3_move_191 (by decide) (fun c1 => ?_) (fun c1 => ?_)
    · skip
      refine r_iload dX3_move_199 rfl ?_
      refine r_aload_n dX3_move_201 rfl ?_
      refine r_getR dX3_move_202 fs_17_1 fk_X3_28 ?_
      refine r_getR dX3_move_205 fs_14_0 fk_X3_132 ?_
      refine r_iconst (v := 3) dX3_move_208 kI_3 ?_
      refine r_iald dX3_move_209 as_15 (by unfold vp_in; decide) ?_
      refine r_iadd dX3_move_210 ?_
      refine q_istore (lo' := [some (.ref (ad 17)), none, none, some (.int x3), some (.int x4), some (.int x5), some (.int (x6 + (gI M 15 (3 : Int32).toNatClampNeg)))]) dX3_move_211 (by decide) rfl ?_
      exact q_weak (lo' := [none, none, none, none, none, some (.int x5), some (.int (x6 + (gI M 15 (3 : Int32).toNatClampNeg)))]) ⟨rfl, rfl, trivial⟩ (by have h9 := hJ1; simp only [if_neg c1] at h9; first | exact h9 | (simp only [if_neg c1]; exact h9))
    · skip
      refine r_iload dX3_move_194 rfl ?_
      refine r_if_eq (tgt := 213) dX3_move_196 (by decide) (fun c2 => ?_) (fun c2 => ?_)
      · skip
        exact q_weak (lo' := [none, none, none, none, none, some (.int x5), some (.int x6)]) ⟨rfl, rfl, trivial⟩ (by have h9 := hJ1; simp only [if_pos c1, if_pos c2] at h9; first | exact h9 | (simp only [if_pos c1, if_pos c2]; exact h9))
      · skip
        refine r_iload dX3_move_199 rfl ?_
        refine r_aload_n dX3_move_201 rfl ?_
        refine r_getR dX3_move_202 fs_17_1 fk_X3_28 ?_
        refine r_getR dX3_move_205 fs_14_0 fk_X3_132 ?_
        refine r_iconst (v := 3) dX3_move_208 kI_3 ?_
        refine r_iald dX3_move_209 as_15 (by unfold vp_in; decide) ?_
        refine r_iadd dX3_move_210 ?_
        refine q_istore (lo' := [some (.ref (ad 17)), none, none, some (.int x3), some (.int x4), some (.int x5), some (.int (x6 + (gI M 15 (3 : Int32).toNatClampNeg)))]) dX3_move_211 (by decide) rfl ?_
        exact q_weak (lo' := [none, none, none, none, none, some (.int x5), some (.int (x6 + (gI M 15 (3 : Int32).toNatClampNeg)))]) ⟨rfl, rfl, trivial⟩ (by have h9 := hJ1; simp only [if_pos c1, if_neg c2] at h9; first | exact h9 | (simp only [if_pos c1, if_neg c2]; exact h9))
  refine r_iload dX3_move_213 rfl ?_
  refine r_iload dX3_move_215 rfl ?_
  suffices hJ2 : Fw l D ad kA mX3_move 226 [none, none, none, none, none, none, none] [.int (if x5 < (if x3 = 0 then if x4 = 0 then x6 else x6 + (gI M 15 (3 : Int32).toNatClampNeg) else x6 + (gI M 15 (3 : Int32).toNatClampNeg) : Int32) then 16777216 else 1)] M Q by
    refine r_icmp_lt (tgt := 224) dX3_move_217 (by decide) (fun c3 => ?_) (fun c3 => ?_)
    · skip
      refine r_ldc (v := 16777216) dX3_move_224 co_X3_48 ?_
      exact q_weak (lo' := [none, none, none, none, none, none, none]) trivial (by have h9 := hJ2; simp only [if_pos c3] at h9; first | exact h9 | (simp only [if_pos c3]; exact h9))
    · skip
      refine r_iconst (v := 1) dX3_move_220 kI_1 ?_
      refine r_goto (tgt := 226) dX3_move_221 (by decide) ?_
      exact q_weak (lo' := [none, none, none, none, none, none, none]) trivial (by have h9 := hJ2; simp only [if_neg c3] at h9; first | exact h9 | (simp only [if_neg c3]; exact h9))
  exact r_iret dX3_move_226 rfl K1
theorem en_X3_move {x1 : Int32} {x2 : Int32} (K : Fw l D ad kA mX3_move 0 [some (.ref (ad 17)), some (.int x1), some (.int x2), none, none, none, none] [] M Q) : Cal l D ad kA mX3_move [.ref (ad 17), .int x1, .int x2] M Q := Cal.of (by decide) rfl rfl (Nat.le_of_ble_eq_true rfl) K
end W_hands
