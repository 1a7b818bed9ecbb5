/-! Hands: decode rows, links, walks from cut to cut (printed by wip/gen) -/
theorem dX3_step_0 : decode cX3_step 0 = .ok (.aload_n 0, 1) := by decide +kernel
theorem dX3_step_1 : decode cX3_step 1 = .ok (.iload_n 2, 1) := by decide +kernel
theorem dX3_step_2 : decode cX3_step 2 = .ok (.iload_n 3, 1) := by decide +kernel
theorem dX3_step_3 : decode cX3_step 3 = .ok (.invokevirtual 96, 3) := by decide +kernel
theorem dX3_step_6 : decode cX3_step 6 = .ok (.ifCond .eq 8, 3) := by decide +kernel
theorem dX3_step_9 : decode cX3_step 9 = .ok (.ldc 48, 2) := by decide +kernel
theorem dX3_step_11 : decode cX3_step 11 = .ok (.goto 9, 3) := by decide +kernel
theorem dX3_step_14 : decode cX3_step 14 = .ok (.aload_n 0, 1) := by decide +kernel
theorem dX3_step_15 : decode cX3_step 15 = .ok (.iload_n 1, 1) := by decide +kernel
theorem dX3_step_16 : decode cX3_step 16 = .ok (.iload_n 3, 1) := by decide +kernel
theorem dX3_step_17 : decode cX3_step 17 = .ok (.invokevirtual 93, 3) := by decide +kernel
theorem dX3_step_20 : decode cX3_step 20 = .ok (.ireturn, 1) := by decide +kernel
theorem dX3_gather_0 : decode cX3_gather 0 = .ok (.aload_n 0, 1) := by decide +kernel
theorem dX3_gather_1 : decode cX3_gather 1 = .ok (.iconst 0, 1) := by decide +kernel
theorem dX3_gather_2 : decode cX3_gather 2 = .ok (.putfield 52, 3) := by decide +kernel
theorem dX3_gather_5 : decode cX3_gather 5 = .ok (.iconst 0, 1) := by decide +kernel
theorem dX3_gather_6 : decode cX3_gather 6 = .ok (.istore_n 3, 1) := by decide +kernel
theorem dX3_gather_7 : decode cX3_gather 7 = .ok (.iload_n 3, 1) := by decide +kernel
theorem dX3_gather_8 : decode cX3_gather 8 = .ok (.aload_n 0, 1) := by decide +kernel
theorem dX3_gather_9 : decode cX3_gather 9 = .ok (.getfield 24, 3) := by decide +kernel
theorem dX3_gather_12 : decode cX3_gather 12 = .ok (.getfield 64, 3) := by decide +kernel
theorem dX3_gather_15 : decode cX3_gather 15 = .ok (.if_icmp .ge 41, 3) := by decide +kernel
theorem dX3_gather_18 : decode cX3_gather 18 = .ok (.aload_n 0, 1) := by decide +kernel
theorem dX3_gather_19 : decode cX3_gather 19 = .ok (.getfield 24, 3) := by decide +kernel
theorem dX3_gather_22 : decode cX3_gather 22 = .ok (.lload_n 1, 1) := by decide +kernel
theorem dX3_gather_23 : decode cX3_gather 23 = .ok (.iload_n 3, 1) := by decide +kernel
theorem dX3_gather_24 : decode cX3_gather 24 = .ok (.invokevirtual 67, 3) := by decide +kernel
theorem dX3_gather_27 : decode cX3_gather 27 = .ok (.ifCond .eq 23, 3) := by decide +kernel
theorem dX3_gather_30 : decode cX3_gather 30 = .ok (.aload_n 0, 1) := by decide +kernel
theorem dX3_gather_31 : decode cX3_gather 31 = .ok (.getfield 15, 3) := by decide +kernel
theorem dX3_gather_34 : decode cX3_gather 34 = .ok (.aload_n 0, 1) := by decide +kernel
theorem dX3_gather_35 : decode cX3_gather 35 = .ok (.getfield 52, 3) := by decide +kernel
theorem dX3_gather_38 : decode cX3_gather 38 = .ok (.iload_n 3, 1) := by decide +kernel
theorem dX3_gather_39 : decode cX3_gather 39 = .ok (.iastore, 1) := by decide +kernel
theorem dX3_gather_40 : decode cX3_gather 40 = .ok (.aload_n 0, 1) := by decide +kernel
theorem dX3_gather_41 : decode cX3_gather 41 = .ok (.dup, 1) := by decide +kernel
theorem dX3_gather_42 : decode cX3_gather 42 = .ok (.getfield 52, 3) := by decide +kernel
theorem dX3_gather_45 : decode cX3_gather 45 = .ok (.iconst 1, 1) := by decide +kernel
theorem dX3_gather_46 : decode cX3_gather 46 = .ok (.iadd, 1) := by decide +kernel
theorem dX3_gather_47 : decode cX3_gather 47 = .ok (.putfield 52, 3) := by decide +kernel
theorem dX3_gather_50 : decode cX3_gather 50 = .ok (.iinc 3 1, 3) := by decide +kernel
theorem dX3_gather_53 : decode cX3_gather 53 = .ok (.goto (-46), 3) := by decide +kernel
theorem dX3_gather_56 : decode cX3_gather 56 = .ok (.return_, 1) := by decide +kernel
theorem dX3_stepBack_0 : decode cX3_stepBack 0 = .ok (.aload_n 0, 1) := by decide +kernel
theorem dX3_stepBack_1 : decode cX3_stepBack 1 = .ok (.getfield 15, 3) := by decide +kernel
theorem dX3_stepBack_4 : decode cX3_stepBack 4 = .ok (.iload_n 1, 1) := by decide +kernel
theorem dX3_stepBack_5 : decode cX3_stepBack 5 = .ok (.iaload, 1) := by decide +kernel
theorem dX3_stepBack_6 : decode cX3_stepBack 6 = .ok (.istore_n 2, 1) := by decide +kernel
theorem dX3_stepBack_7 : decode cX3_stepBack 7 = .ok (.aload_n 0, 1) := by decide +kernel
theorem dX3_stepBack_8 : decode cX3_stepBack 8 = .ok (.getfield 15, 3) := by decide +kernel
theorem dX3_stepBack_11 : decode cX3_stepBack 11 = .ok (.iload_n 1, 1) := by decide +kernel
theorem dX3_stepBack_12 : decode cX3_stepBack 12 = .ok (.iconst 1, 1) := by decide +kernel
theorem dX3_stepBack_13 : decode cX3_stepBack 13 = .ok (.isub, 1) := by decide +kernel
theorem dX3_stepBack_14 : decode cX3_stepBack 14 = .ok (.iaload, 1) := by decide +kernel
theorem dX3_stepBack_15 : decode cX3_stepBack 15 = .ok (.istore_n 3, 1) := by decide +kernel
theorem dX3_stepBack_16 : decode cX3_stepBack 16 = .ok (.iload_n 1, 1) := by decide +kernel
theorem dX3_stepBack_17 : decode cX3_stepBack 17 = .ok (.iconst 0, 1) := by decide +kernel
theorem dX3_stepBack_18 : decode cX3_stepBack 18 = .ok (.invokestatic 78, 3) := by decide +kernel
theorem dX3_stepBack_21 : decode cX3_stepBack 21 = .ok (.istore 4, 2) := by decide +kernel
theorem dX3_stepBack_23 : decode cX3_stepBack 23 = .ok (.iload_n 1, 1) := by decide +kernel
theorem dX3_stepBack_24 : decode cX3_stepBack 24 = .ok (.iconst 1, 1) := by decide +kernel
theorem dX3_stepBack_25 : decode cX3_stepBack 25 = .ok (.iadd, 1) := by decide +kernel
theorem dX3_stepBack_26 : decode cX3_stepBack 26 = .ok (.iconst 0, 1) := by decide +kernel
theorem dX3_stepBack_27 : decode cX3_stepBack 27 = .ok (.invokestatic 78, 3) := by decide +kernel
theorem dX3_stepBack_30 : decode cX3_stepBack 30 = .ok (.istore 5, 2) := by decide +kernel
theorem dX3_stepBack_32 : decode cX3_stepBack 32 = .ok (.aload_n 0, 1) := by decide +kernel
theorem dX3_stepBack_33 : decode cX3_stepBack 33 = .ok (.iload_n 3, 1) := by decide +kernel
theorem dX3_stepBack_34 : decode cX3_stepBack 34 = .ok (.iload_n 2, 1) := by decide +kernel
theorem dX3_stepBack_35 : decode cX3_stepBack 35 = .ok (.invokevirtual 93, 3) := by decide +kernel
theorem dX3_stepBack_38 : decode cX3_stepBack 38 = .ok (.istore 6, 2) := by decide +kernel
theorem dX3_stepBack_40 : decode cX3_stepBack 40 = .ok (.aload_n 0, 1) := by decide +kernel
theorem dX3_stepBack_41 : decode cX3_stepBack 41 = .ok (.iload_n 3, 1) := by decide +kernel
theorem dX3_stepBack_42 : decode cX3_stepBack 42 = .ok (.iload_n 2, 1) := by decide +kernel
theorem dX3_stepBack_43 : decode cX3_stepBack 43 = .ok (.invokevirtual 96, 3) := by decide +kernel
theorem dX3_stepBack_46 : decode cX3_stepBack 46 = .ok (.ifCond .eq 8, 3) := by decide +kernel
theorem dX3_stepBack_49 : decode cX3_stepBack 49 = .ok (.ldc 48, 2) := by decide +kernel
theorem dX3_stepBack_51 : decode cX3_stepBack 51 = .ok (.goto 12, 3) := by decide +kernel
theorem dX3_stepBack_54 : decode cX3_stepBack 54 = .ok (.aload_n 0, 1) := by decide +kernel
theorem dX3_stepBack_55 : decode cX3_stepBack 55 = .ok (.getfield 18, 3) := by decide +kernel
theorem dX3_stepBack_58 : decode cX3_stepBack 58 = .ok (.iload 5, 2) := by decide +kernel
theorem dX3_stepBack_60 : decode cX3_stepBack 60 = .ok (.iload_n 1, 1) := by decide +kernel
theorem dX3_stepBack_61 : decode cX3_stepBack 61 = .ok (.iadd, 1) := by decide +kernel
theorem dX3_stepBack_62 : decode cX3_stepBack 62 = .ok (.iaload, 1) := by decide +kernel
theorem dX3_stepBack_63 : decode cX3_stepBack 63 = .ok (.istore 7, 2) := by decide +kernel
theorem dX3_stepBack_65 : decode cX3_stepBack 65 = .ok (.iconst 0, 1) := by decide +kernel
theorem dX3_stepBack_66 : decode cX3_stepBack 66 = .ok (.istore 8, 2) := by decide +kernel
theorem dX3_stepBack_68 : decode cX3_stepBack 68 = .ok (.iconst 0, 1) := by decide +kernel
theorem dX3_stepBack_69 : decode cX3_stepBack 69 = .ok (.istore 9, 2) := by decide +kernel
theorem dX3_stepBack_71 : decode cX3_stepBack 71 = .ok (.iload 9, 2) := by decide +kernel
theorem dX3_stepBack_73 : decode cX3_stepBack 73 = .ok (.iload_n 1, 1) := by decide +kernel
theorem dX3_stepBack_74 : decode cX3_stepBack 74 = .ok (.if_icmp .ge 116, 3) := by decide +kernel
theorem dX3_stepBack_77 : decode cX3_stepBack 77 = .ok (.aload_n 0, 1) := by decide +kernel
theorem dX3_stepBack_78 : decode cX3_stepBack 78 = .ok (.iload 9, 2) := by decide +kernel
theorem dX3_stepBack_80 : decode cX3_stepBack 80 = .ok (.invokevirtual 100, 3) := by decide +kernel
theorem dX3_stepBack_83 : decode cX3_stepBack 83 = .ok (.istore 10, 2) := by decide +kernel
theorem dX3_stepBack_85 : decode cX3_stepBack 85 = .ok (.aload_n 0, 1) := by decide +kernel
theorem dX3_stepBack_86 : decode cX3_stepBack 86 = .ok (.iload 10, 2) := by decide +kernel
theorem dX3_stepBack_88 : decode cX3_stepBack 88 = .ok (.iload_n 2, 1) := by decide +kernel
theorem dX3_stepBack_89 : decode cX3_stepBack 89 = .ok (.invokevirtual 96, 3) := by decide +kernel
theorem dX3_stepBack_92 : decode cX3_stepBack 92 = .ok (.ifCond .eq 8, 3) := by decide +kernel
theorem dX3_stepBack_95 : decode cX3_stepBack 95 = .ok (.ldc 48, 2) := by decide +kernel
theorem dX3_stepBack_97 : decode cX3_stepBack 97 = .ok (.goto 16, 3) := by decide +kernel
theorem dX3_stepBack_100 : decode cX3_stepBack 100 = .ok (.iload 6, 2) := by decide +kernel
theorem dX3_stepBack_102 : decode cX3_stepBack 102 = .ok (.aload_n 0, 1) := by decide +kernel
theorem dX3_stepBack_103 : decode cX3_stepBack 103 = .ok (.getfield 18, 3) := by decide +kernel
theorem dX3_stepBack_106 : decode cX3_stepBack 106 = .ok (.iload 5, 2) := by decide +kernel
theorem dX3_stepBack_108 : decode cX3_stepBack 108 = .ok (.iload 9, 2) := by decide +kernel
theorem dX3_stepBack_110 : decode cX3_stepBack 110 = .ok (.iadd, 1) := by decide +kernel
theorem dX3_stepBack_111 : decode cX3_stepBack 111 = .ok (.iaload, 1) := by decide +kernel
theorem dX3_stepBack_112 : decode cX3_stepBack 112 = .ok (.iadd, 1) := by decide +kernel
theorem dX3_stepBack_113 : decode cX3_stepBack 113 = .ok (.istore 11, 2) := by decide +kernel
theorem dX3_stepBack_115 : decode cX3_stepBack 115 = .ok (.iload 7, 2) := by decide +kernel
theorem dX3_stepBack_117 : decode cX3_stepBack 117 = .ok (.ldc 48, 2) := by decide +kernel
theorem dX3_stepBack_119 : decode cX3_stepBack 119 = .ok (.if_icmp .lt 8, 3) := by decide +kernel
theorem dX3_stepBack_122 : decode cX3_stepBack 122 = .ok (.ldc 48, 2) := by decide +kernel
theorem dX3_stepBack_124 : decode cX3_stepBack 124 = .ok (.goto 13, 3) := by decide +kernel
theorem dX3_stepBack_127 : decode cX3_stepBack 127 = .ok (.iload 7, 2) := by decide +kernel
theorem dX3_stepBack_129 : decode cX3_stepBack 129 = .ok (.aload_n 0, 1) := by decide +kernel
theorem dX3_stepBack_130 : decode cX3_stepBack 130 = .ok (.iload 10, 2) := by decide +kernel
theorem dX3_stepBack_132 : decode cX3_stepBack 132 = .ok (.iload_n 2, 1) := by decide +kernel
theorem dX3_stepBack_133 : decode cX3_stepBack 133 = .ok (.invokevirtual 93, 3) := by decide +kernel
theorem dX3_stepBack_136 : decode cX3_stepBack 136 = .ok (.iadd, 1) := by decide +kernel
theorem dX3_stepBack_137 : decode cX3_stepBack 137 = .ok (.istore 12, 2) := by decide +kernel
theorem dX3_stepBack_139 : decode cX3_stepBack 139 = .ok (.ldc 48, 2) := by decide +kernel
theorem dX3_stepBack_141 : decode cX3_stepBack 141 = .ok (.iload 11, 2) := by decide +kernel
theorem dX3_stepBack_143 : decode cX3_stepBack 143 = .ok (.iload 12, 2) := by decide +kernel
theorem dX3_stepBack_145 : decode cX3_stepBack 145 = .ok (.invokestatic 103, 3) := by decide +kernel
theorem dX3_stepBack_148 : decode cX3_stepBack 148 = .ok (.invokestatic 103, 3) := by decide +kernel
theorem dX3_stepBack_151 : decode cX3_stepBack 151 = .ok (.istore 13, 2) := by decide +kernel
theorem dX3_stepBack_153 : decode cX3_stepBack 153 = .ok (.aload_n 0, 1) := by decide +kernel
theorem dX3_stepBack_154 : decode cX3_stepBack 154 = .ok (.getfield 18, 3) := by decide +kernel
theorem dX3_stepBack_157 : decode cX3_stepBack 157 = .ok (.iload 4, 2) := by decide +kernel
theorem dX3_stepBack_159 : decode cX3_stepBack 159 = .ok (.iload 9, 2) := by decide +kernel
theorem dX3_stepBack_161 : decode cX3_stepBack 161 = .ok (.iadd, 1) := by decide +kernel
theorem dX3_stepBack_162 : decode cX3_stepBack 162 = .ok (.iload 13, 2) := by decide +kernel
theorem dX3_stepBack_164 : decode cX3_stepBack 164 = .ok (.iastore, 1) := by decide +kernel
theorem dX3_stepBack_165 : decode cX3_stepBack 165 = .ok (.iload 8, 2) := by decide +kernel
theorem dX3_stepBack_167 : decode cX3_stepBack 167 = .ok (.ifCond .ne 10, 3) := by decide +kernel
theorem dX3_stepBack_170 : decode cX3_stepBack 170 = .ok (.iload 13, 2) := by decide +kernel
theorem dX3_stepBack_172 : decode cX3_stepBack 172 = .ok (.ldc 48, 2) := by decide +kernel
theorem dX3_stepBack_174 : decode cX3_stepBack 174 = .ok (.if_icmp .ge 7, 3) := by decide +kernel
theorem dX3_stepBack_177 : decode cX3_stepBack 177 = .ok (.iconst 1, 1) := by decide +kernel
theorem dX3_stepBack_178 : decode cX3_stepBack 178 = .ok (.goto 4, 3) := by decide +kernel
theorem dX3_stepBack_181 : decode cX3_stepBack 181 = .ok (.iconst 0, 1) := by decide +kernel
theorem dX3_stepBack_182 : decode cX3_stepBack 182 = .ok (.istore 8, 2) := by decide +kernel
theorem dX3_stepBack_184 : decode cX3_stepBack 184 = .ok (.iinc 9 1, 3) := by decide +kernel
theorem dX3_stepBack_187 : decode cX3_stepBack 187 = .ok (.goto (-116), 3) := by decide +kernel
theorem dX3_stepBack_190 : decode cX3_stepBack 190 = .ok (.iload 8, 2) := by decide +kernel
theorem dX3_stepBack_192 : decode cX3_stepBack 192 = .ok (.ireturn, 1) := by decide +kernel
theorem dX3_weighRest_0 : decode cX3_weighRest 0 = .ok (.aload_n 0, 1) := by decide +kernel
theorem dX3_weighRest_1 : decode cX3_weighRest 1 = .ok (.iconst 0, 1) := by decide +kernel
theorem dX3_weighRest_2 : decode cX3_weighRest 2 = .ok (.putfield 75, 3) := by decide +kernel
theorem dX3_weighRest_5 : decode cX3_weighRest 5 = .ok (.iconst 0, 1) := by decide +kernel
theorem dX3_weighRest_6 : decode cX3_weighRest 6 = .ok (.istore_n 1, 1) := by decide +kernel
theorem dX3_weighRest_7 : decode cX3_weighRest 7 = .ok (.iload_n 1, 1) := by decide +kernel
theorem dX3_weighRest_8 : decode cX3_weighRest 8 = .ok (.aload_n 0, 1) := by decide +kernel
theorem dX3_weighRest_9 : decode cX3_weighRest 9 = .ok (.getfield 52, 3) := by decide +kernel
theorem dX3_weighRest_12 : decode cX3_weighRest 12 = .ok (.if_icmp .ge 23, 3) := by decide +kernel
theorem dX3_weighRest_15 : decode cX3_weighRest 15 = .ok (.aload_n 0, 1) := by decide +kernel
theorem dX3_weighRest_16 : decode cX3_weighRest 16 = .ok (.getfield 18, 3) := by decide +kernel
theorem dX3_weighRest_19 : decode cX3_weighRest 19 = .ok (.aload_n 0, 1) := by decide +kernel
theorem dX3_weighRest_20 : decode cX3_weighRest 20 = .ok (.getfield 52, 3) := by decide +kernel
theorem dX3_weighRest_23 : decode cX3_weighRest 23 = .ok (.iload_n 1, 1) := by decide +kernel
theorem dX3_weighRest_24 : decode cX3_weighRest 24 = .ok (.invokestatic 78, 3) := by decide +kernel
theorem dX3_weighRest_27 : decode cX3_weighRest 27 = .ok (.iconst 0, 1) := by decide +kernel
theorem dX3_weighRest_28 : decode cX3_weighRest 28 = .ok (.iastore, 1) := by decide +kernel
theorem dX3_weighRest_29 : decode cX3_weighRest 29 = .ok (.iinc 1 1, 3) := by decide +kernel
theorem dX3_weighRest_32 : decode cX3_weighRest 32 = .ok (.goto (-25), 3) := by decide +kernel
theorem dX3_weighRest_35 : decode cX3_weighRest 35 = .ok (.aload_n 0, 1) := by decide +kernel
theorem dX3_weighRest_36 : decode cX3_weighRest 36 = .ok (.getfield 52, 3) := by decide +kernel
theorem dX3_weighRest_39 : decode cX3_weighRest 39 = .ok (.iconst 1, 1) := by decide +kernel
theorem dX3_weighRest_40 : decode cX3_weighRest 40 = .ok (.isub, 1) := by decide +kernel
theorem dX3_weighRest_41 : decode cX3_weighRest 41 = .ok (.istore_n 1, 1) := by decide +kernel
theorem dX3_weighRest_42 : decode cX3_weighRest 42 = .ok (.iload_n 1, 1) := by decide +kernel
theorem dX3_weighRest_43 : decode cX3_weighRest 43 = .ok (.ifCond .le 29, 3) := by decide +kernel
theorem dX3_weighRest_46 : decode cX3_weighRest 46 = .ok (.aload_n 0, 1) := by decide +kernel
theorem dX3_weighRest_47 : decode cX3_weighRest 47 = .ok (.getfield 75, 3) := by decide +kernel
theorem dX3_weighRest_50 : decode cX3_weighRest 50 = .ok (.ifCond .ne 22, 3) := by decide +kernel
theorem dX3_weighRest_53 : decode cX3_weighRest 53 = .ok (.aload_n 0, 1) := by decide +kernel
theorem dX3_weighRest_54 : decode cX3_weighRest 54 = .ok (.iload_n 1, 1) := by decide +kernel
theorem dX3_weighRest_55 : decode cX3_weighRest 55 = .ok (.invokevirtual 81, 3) := by decide +kernel
theorem dX3_weighRest_58 : decode cX3_weighRest 58 = .ok (.ifCond .ne 8, 3) := by decide +kernel
theorem dX3_weighRest_61 : decode cX3_weighRest 61 = .ok (.aload_n 0, 1) := by decide +kernel
theorem dX3_weighRest_62 : decode cX3_weighRest 62 = .ok (.iload_n 1, 1) := by decide +kernel
theorem dX3_weighRest_63 : decode cX3_weighRest 63 = .ok (.putfield 75, 3) := by decide +kernel
theorem dX3_weighRest_66 : decode cX3_weighRest 66 = .ok (.iinc 1 (-1), 3) := by decide +kernel
theorem dX3_weighRest_69 : decode cX3_weighRest 69 = .ok (.goto (-27), 3) := by decide +kernel
theorem dX3_weighRest_72 : decode cX3_weighRest 72 = .ok (.aload_n 0, 1) := by decide +kernel
theorem dX3_weighRest_73 : decode cX3_weighRest 73 = .ok (.getfield 52, 3) := by decide +kernel
theorem dX3_weighRest_76 : decode cX3_weighRest 76 = .ok (.ifCond .ne 7, 3) := by decide +kernel
theorem dX3_weighRest_79 : decode cX3_weighRest 79 = .ok (.iconst 0, 1) := by decide +kernel
theorem dX3_weighRest_80 : decode cX3_weighRest 80 = .ok (.goto 9, 3) := by decide +kernel
theorem dX3_weighRest_83 : decode cX3_weighRest 83 = .ok (.aload_n 0, 1) := by decide +kernel
theorem dX3_weighRest_84 : decode cX3_weighRest 84 = .ok (.iconst 1, 1) := by decide +kernel
theorem dX3_weighRest_85 : decode cX3_weighRest 85 = .ok (.iconst 0, 1) := by decide +kernel
theorem dX3_weighRest_86 : decode cX3_weighRest 86 = .ok (.invokevirtual 85, 3) := by decide +kernel
theorem dX3_weighRest_89 : decode cX3_weighRest 89 = .ok (.ireturn, 1) := by decide +kernel
theorem dX3_swapsFor_0 : decode cX3_swapsFor 0 = .ok (.aload_n 0, 1) := by decide +kernel
theorem dX3_swapsFor_1 : decode cX3_swapsFor 1 = .ok (.getfield 15, 3) := by decide +kernel
theorem dX3_swapsFor_4 : decode cX3_swapsFor 4 = .ok (.iload_n 2, 1) := by decide +kernel
theorem dX3_swapsFor_5 : decode cX3_swapsFor 5 = .ok (.iaload, 1) := by decide +kernel
theorem dX3_swapsFor_6 : decode cX3_swapsFor 6 = .ok (.istore 4, 2) := by decide +kernel
theorem dX3_swapsFor_8 : decode cX3_swapsFor 8 = .ok (.aload_n 0, 1) := by decide +kernel
theorem dX3_swapsFor_9 : decode cX3_swapsFor 9 = .ok (.getfield 15, 3) := by decide +kernel
theorem dX3_swapsFor_12 : decode cX3_swapsFor 12 = .ok (.iload_n 2, 1) := by decide +kernel
theorem dX3_swapsFor_13 : decode cX3_swapsFor 13 = .ok (.iconst 1, 1) := by decide +kernel
theorem dX3_swapsFor_14 : decode cX3_swapsFor 14 = .ok (.isub, 1) := by decide +kernel
theorem dX3_swapsFor_15 : decode cX3_swapsFor 15 = .ok (.iaload, 1) := by decide +kernel
theorem dX3_swapsFor_16 : decode cX3_swapsFor 16 = .ok (.istore 5, 2) := by decide +kernel
theorem dX3_swapsFor_18 : decode cX3_swapsFor 18 = .ok (.aload_n 0, 1) := by decide +kernel
theorem dX3_swapsFor_19 : decode cX3_swapsFor 19 = .ok (.iload_n 3, 1) := by decide +kernel
theorem dX3_swapsFor_20 : decode cX3_swapsFor 20 = .ok (.invokevirtual 100, 3) := by decide +kernel
theorem dX3_swapsFor_23 : decode cX3_swapsFor 23 = .ok (.istore 6, 2) := by decide +kernel
theorem dX3_swapsFor_25 : decode cX3_swapsFor 25 = .ok (.aload_n 0, 1) := by decide +kernel
theorem dX3_swapsFor_26 : decode cX3_swapsFor 26 = .ok (.iload_n 2, 1) := by decide +kernel
theorem dX3_swapsFor_27 : decode cX3_swapsFor 27 = .ok (.iload_n 3, 1) := by decide +kernel
theorem dX3_swapsFor_28 : decode cX3_swapsFor 28 = .ok (.invokevirtual 85, 3) := by decide +kernel
theorem dX3_swapsFor_31 : decode cX3_swapsFor 31 = .ok (.istore 7, 2) := by decide +kernel
theorem dX3_swapsFor_33 : decode cX3_swapsFor 33 = .ok (.iload_n 1, 1) := by decide +kernel
theorem dX3_swapsFor_34 : decode cX3_swapsFor 34 = .ok (.ifCond .ne 33, 3) := by decide +kernel
theorem dX3_swapsFor_37 : decode cX3_swapsFor 37 = .ok (.aload_n 0, 1) := by decide +kernel
theorem dX3_swapsFor_38 : decode cX3_swapsFor 38 = .ok (.iload 5, 2) := by decide +kernel
theorem dX3_swapsFor_40 : decode cX3_swapsFor 40 = .ok (.iload 6, 2) := by decide +kernel
theorem dX3_swapsFor_42 : decode cX3_swapsFor 42 = .ok (.iload 4, 2) := by decide +kernel
theorem dX3_swapsFor_44 : decode cX3_swapsFor 44 = .ok (.invokevirtual 109, 3) := by decide +kernel
theorem dX3_swapsFor_47 : decode cX3_swapsFor 47 = .ok (.aload_n 0, 1) := by decide +kernel
theorem dX3_swapsFor_48 : decode cX3_swapsFor 48 = .ok (.iload_n 2, 1) := by decide +kernel
theorem dX3_swapsFor_49 : decode cX3_swapsFor 49 = .ok (.iconst 1, 1) := by decide +kernel
theorem dX3_swapsFor_50 : decode cX3_swapsFor 50 = .ok (.iadd, 1) := by decide +kernel
theorem dX3_swapsFor_51 : decode cX3_swapsFor 51 = .ok (.iload_n 3, 1) := by decide +kernel
theorem dX3_swapsFor_52 : decode cX3_swapsFor 52 = .ok (.invokevirtual 85, 3) := by decide +kernel
theorem dX3_swapsFor_55 : decode cX3_swapsFor 55 = .ok (.iadd, 1) := by decide +kernel
theorem dX3_swapsFor_56 : decode cX3_swapsFor 56 = .ok (.iload 7, 2) := by decide +kernel
theorem dX3_swapsFor_58 : decode cX3_swapsFor 58 = .ok (.if_icmp .eq 7, 3) := by decide +kernel
theorem dX3_swapsFor_61 : decode cX3_swapsFor 61 = .ok (.iconst 1, 1) := by decide +kernel
theorem dX3_swapsFor_62 : decode cX3_swapsFor 62 = .ok (.goto 4, 3) := by decide +kernel
theorem dX3_swapsFor_65 : decode cX3_swapsFor 65 = .ok (.iconst 0, 1) := by decide +kernel
theorem dX3_swapsFor_66 : decode cX3_swapsFor 66 = .ok (.ireturn, 1) := by decide +kernel
theorem dX3_swapsFor_67 : decode cX3_swapsFor 67 = .ok (.aload_n 0, 1) := by decide +kernel
theorem dX3_swapsFor_68 : decode cX3_swapsFor 68 = .ok (.iload 6, 2) := by decide +kernel
theorem dX3_swapsFor_70 : decode cX3_swapsFor 70 = .ok (.iload 5, 2) := by decide +kernel
theorem dX3_swapsFor_72 : decode cX3_swapsFor 72 = .ok (.iload 4, 2) := by decide +kernel
theorem dX3_swapsFor_74 : decode cX3_swapsFor 74 = .ok (.invokevirtual 109, 3) := by decide +kernel
theorem dX3_swapsFor_77 : decode cX3_swapsFor 77 = .ok (.aload_n 0, 1) := by decide +kernel
theorem dX3_swapsFor_78 : decode cX3_swapsFor 78 = .ok (.iload_n 2, 1) := by decide +kernel
theorem dX3_swapsFor_79 : decode cX3_swapsFor 79 = .ok (.iconst 1, 1) := by decide +kernel
theorem dX3_swapsFor_80 : decode cX3_swapsFor 80 = .ok (.iadd, 1) := by decide +kernel
theorem dX3_swapsFor_81 : decode cX3_swapsFor 81 = .ok (.iload_n 2, 1) := by decide +kernel
theorem dX3_swapsFor_82 : decode cX3_swapsFor 82 = .ok (.invokevirtual 85, 3) := by decide +kernel
theorem dX3_swapsFor_85 : decode cX3_swapsFor 85 = .ok (.iadd, 1) := by decide +kernel
theorem dX3_swapsFor_86 : decode cX3_swapsFor 86 = .ok (.iload 7, 2) := by decide +kernel
theorem dX3_swapsFor_88 : decode cX3_swapsFor 88 = .ok (.if_icmp .ne 7, 3) := by decide +kernel
theorem dX3_swapsFor_91 : decode cX3_swapsFor 91 = .ok (.iconst 1, 1) := by decide +kernel
theorem dX3_swapsFor_92 : decode cX3_swapsFor 92 = .ok (.goto 4, 3) := by decide +kernel
theorem dX3_swapsFor_95 : decode cX3_swapsFor 95 = .ok (.iconst 0, 1) := by decide +kernel
theorem dX3_swapsFor_96 : decode cX3_swapsFor 96 = .ok (.ireturn, 1) := by decide +kernel
theorem dX3_keepHands_0 : decode cX3_keepHands 0 = .ok (.iconst 0, 1) := by decide +kernel
theorem dX3_keepHands_1 : decode cX3_keepHands 1 = .ok (.istore_n 1, 1) := by decide +kernel
theorem dX3_keepHands_2 : decode cX3_keepHands 2 = .ok (.iload_n 1, 1) := by decide +kernel
theorem dX3_keepHands_3 : decode cX3_keepHands 3 = .ok (.sipush 160, 3) := by decide +kernel
theorem dX3_keepHands_6 : decode cX3_keepHands 6 = .ok (.if_icmp .ge 16, 3) := by decide +kernel
theorem dX3_keepHands_9 : decode cX3_keepHands 9 = .ok (.aload_n 0, 1) := by decide +kernel
theorem dX3_keepHands_10 : decode cX3_keepHands 10 = .ok (.getfield 9, 3) := by decide +kernel
theorem dX3_keepHands_13 : decode cX3_keepHands 13 = .ok (.iload_n 1, 1) := by decide +kernel
theorem dX3_keepHands_14 : decode cX3_keepHands 14 = .ok (.iconst (-1), 1) := by decide +kernel
theorem dX3_keepHands_15 : decode cX3_keepHands 15 = .ok (.iastore, 1) := by decide +kernel
theorem dX3_keepHands_16 : decode cX3_keepHands 16 = .ok (.iinc 1 1, 3) := by decide +kernel
theorem dX3_keepHands_19 : decode cX3_keepHands 19 = .ok (.goto (-17), 3) := by decide +kernel
theorem dX3_keepHands_22 : decode cX3_keepHands 22 = .ok (.aload_n 0, 1) := by decide +kernel
theorem dX3_keepHands_23 : decode cX3_keepHands 23 = .ok (.iconst 1, 1) := by decide +kernel
theorem dX3_keepHands_24 : decode cX3_keepHands 24 = .ok (.putfield 32, 3) := by decide +kernel
theorem dX3_keepHands_27 : decode cX3_keepHands 27 = .ok (.iconst 0, 1) := by decide +kernel
theorem dX3_keepHands_28 : decode cX3_keepHands 28 = .ok (.istore_n 1, 1) := by decide +kernel
theorem dX3_keepHands_29 : decode cX3_keepHands 29 = .ok (.iconst 0, 1) := by decide +kernel
theorem dX3_keepHands_30 : decode cX3_keepHands 30 = .ok (.istore_n 2, 1) := by decide +kernel
theorem dX3_keepHands_31 : decode cX3_keepHands 31 = .ok (.iconst 0, 1) := by decide +kernel
theorem dX3_keepHands_32 : decode cX3_keepHands 32 = .ok (.istore_n 3, 1) := by decide +kernel
theorem dX3_keepHands_33 : decode cX3_keepHands 33 = .ok (.iload_n 3, 1) := by decide +kernel
theorem dX3_keepHands_34 : decode cX3_keepHands 34 = .ok (.aload_n 0, 1) := by decide +kernel
theorem dX3_keepHands_35 : decode cX3_keepHands 35 = .ok (.getfield 52, 3) := by decide +kernel
theorem dX3_keepHands_38 : decode cX3_keepHands 38 = .ok (.if_icmp .ge 41, 3) := by decide +kernel
theorem dX3_keepHands_41 : decode cX3_keepHands 41 = .ok (.iload_n 3, 1) := by decide +kernel
theorem dX3_keepHands_42 : decode cX3_keepHands 42 = .ok (.ifCond .le 19, 3) := by decide +kernel
theorem dX3_keepHands_45 : decode cX3_keepHands 45 = .ok (.aload_n 0, 1) := by decide +kernel
theorem dX3_keepHands_46 : decode cX3_keepHands 46 = .ok (.iload_n 1, 1) := by decide +kernel
theorem dX3_keepHands_47 : decode cX3_keepHands 47 = .ok (.iload_n 3, 1) := by decide +kernel
theorem dX3_keepHands_48 : decode cX3_keepHands 48 = .ok (.iload_n 2, 1) := by decide +kernel
theorem dX3_keepHands_49 : decode cX3_keepHands 49 = .ok (.invokevirtual 137, 3) := by decide +kernel
theorem dX3_keepHands_52 : decode cX3_keepHands 52 = .ok (.ifCond .eq 9, 3) := by decide +kernel
theorem dX3_keepHands_55 : decode cX3_keepHands 55 = .ok (.iconst 1, 1) := by decide +kernel
theorem dX3_keepHands_56 : decode cX3_keepHands 56 = .ok (.iload_n 1, 1) := by decide +kernel
theorem dX3_keepHands_57 : decode cX3_keepHands 57 = .ok (.isub, 1) := by decide +kernel
theorem dX3_keepHands_58 : decode cX3_keepHands 58 = .ok (.istore_n 1, 1) := by decide +kernel
theorem dX3_keepHands_59 : decode cX3_keepHands 59 = .ok (.iload_n 3, 1) := by decide +kernel
theorem dX3_keepHands_60 : decode cX3_keepHands 60 = .ok (.istore_n 2, 1) := by decide +kernel
theorem dX3_keepHands_61 : decode cX3_keepHands 61 = .ok (.aload_n 0, 1) := by decide +kernel
theorem dX3_keepHands_62 : decode cX3_keepHands 62 = .ok (.getfield 9, 3) := by decide +kernel
theorem dX3_keepHands_65 : decode cX3_keepHands 65 = .ok (.aload_n 0, 1) := by decide +kernel
theorem dX3_keepHands_66 : decode cX3_keepHands 66 = .ok (.getfield 15, 3) := by decide +kernel
theorem dX3_keepHands_69 : decode cX3_keepHands 69 = .ok (.iload_n 3, 1) := by decide +kernel
theorem dX3_keepHands_70 : decode cX3_keepHands 70 = .ok (.iaload, 1) := by decide +kernel
theorem dX3_keepHands_71 : decode cX3_keepHands 71 = .ok (.iload_n 1, 1) := by decide +kernel
theorem dX3_keepHands_72 : decode cX3_keepHands 72 = .ok (.iastore, 1) := by decide +kernel
theorem dX3_keepHands_73 : decode cX3_keepHands 73 = .ok (.iinc 3 1, 3) := by decide +kernel
theorem dX3_keepHands_76 : decode cX3_keepHands 76 = .ok (.goto (-43), 3) := by decide +kernel
theorem dX3_keepHands_79 : decode cX3_keepHands 79 = .ok (.return_, 1) := by decide +kernel
abbrev mX3_step : MI := (yX3_step, cX3_step, 4, some .int, 2, 47, [])
abbrev mX3_gather : MI := (yX3_gather, cX3_gather, 4, none, 2, 44, [])
abbrev mX3_stepBack : MI := (yX3_stepBack, cX3_stepBack, 14, some .boolean, 2, 47, [])
abbrev mX3_weighRest : MI := (yX3_weighRest, cX3_weighRest, 2, some .int, 3, 80, [])
abbrev mX3_swapsFor : MI := (yX3_swapsFor, cX3_swapsFor, 8, some .boolean, 3, 70, [])
abbrev mX3_keepHands : MI := (yX3_keepHands, cX3_keepHands, 4, none, 4, 97, [])
theorem fk_X3_9 : Fk RX3 9 3 2 := ⟨RX3, TX3, 9, tyX3, rfl, inX3, by decide, lw_in (i := 183) (by decide +kernel) (by decide +kernel), tyX3_ok, nmX3⟩
theorem fk_X3_52 : Fk RX3 52 3 5 := ⟨RX3, TX3, 9, tyX3, rfl, inX3, by decide, lw_in (i := 188) (by decide +kernel) (by decide +kernel), tyX3_ok, nmX3⟩
theorem fk_X3_64 : Fk RX3 64 9 4 := ⟨RX9, TX9, 5, tyX9, rfl, inX9, by decide, lw_in (i := 112) (by decide +kernel) (by decide +kernel), tyX9_ok, nmX9⟩
theorem fp_X3_5 : Fp 3 5 .int := ⟨RX3, TX3, 9, rfl, rfl, by decide +kernel⟩
theorem fp_X3_7 : Fp 3 7 .int := ⟨RX3, TX3, 9, rfl, rfl, by decide +kernel⟩
theorem mv_X3_did : MkV mX3_did := ⟨lw_in (i := 759) (by decide +kernel) (by decide +kernel), lw_se (i := 18) (by decide +kernel) (by decide +kernel)⟩
theorem mv_X3_holds : MkV mX3_holds := ⟨lw_in (i := 755) (by decide +kernel) (by decide +kernel), lw_se (i := 17) (by decide +kernel) (by decide +kernel)⟩
theorem mv_X3_move : MkV mX3_move := ⟨lw_in (i := 750) (by decide +kernel) (by decide +kernel), lw_se (i := 16) (by decide +kernel) (by decide +kernel)⟩
theorem mv_X3_restOf : MkV mX3_restOf := ⟨lw_in (i := 764) (by decide +kernel) (by decide +kernel), lw_se (i := 19) (by decide +kernel) (by decide +kernel)⟩
theorem mv_X3_step : MkV mX3_step := ⟨lw_in (i := 776) (by decide +kernel) (by decide +kernel), lw_se (i := 22) (by decide +kernel) (by decide +kernel)⟩
theorem mv_X3_stepBack : MkV mX3_stepBack := ⟨lw_in (i := 746) (by decide +kernel) (by decide +kernel), lw_se (i := 15) (by decide +kernel) (by decide +kernel)⟩
theorem mv_X3_swapsFor : MkV mX3_swapsFor := ⟨lw_in (i := 772) (by decide +kernel) (by decide +kernel), lw_se (i := 21) (by decide +kernel) (by decide +kernel)⟩
theorem mv_X9_isOn : MkV mX9_isOn := ⟨lw_in (i := 734) (by decide +kernel) (by decide +kernel), lw_in (i := 735) (by decide +kernel) (by decide +kernel)⟩
theorem mk_X3_67 : Mk RX3 67 mX9_isOn 2 := ⟨lw_in (i := 733) (by decide +kernel) (by decide +kernel), lw_in (i := 4) (by decide +kernel) (by decide +kernel), lw_in (i := 736) (by decide +kernel) (by decide +kernel), by decide +kernel⟩
theorem mk_X3_81 : Mk RX3 81 mX3_stepBack 1 := ⟨lw_in (i := 744) (by decide +kernel) (by decide +kernel), lw_in (i := 7) (by decide +kernel) (by decide +kernel), lw_in (i := 747) (by decide +kernel) (by decide +kernel), by decide +kernel⟩
theorem mk_X3_85 : Mk RX3 85 mX3_restOf 2 := ⟨lw_in (i := 762) (by decide +kernel) (by decide +kernel), lw_in (i := 7) (by decide +kernel) (by decide +kernel), lw_in (i := 765) (by decide +kernel) (by decide +kernel), by decide +kernel⟩
theorem mk_X3_93 : Mk RX3 93 mX3_move 2 := ⟨lw_in (i := 748) (by decide +kernel) (by decide +kernel), lw_in (i := 7) (by decide +kernel) (by decide +kernel), lw_in (i := 751) (by decide +kernel) (by decide +kernel), by decide +kernel⟩
theorem mk_X3_96 : Mk RX3 96 mX3_holds 2 := ⟨lw_in (i := 753) (by decide +kernel) (by decide +kernel), lw_in (i := 7) (by decide +kernel) (by decide +kernel), lw_in (i := 756) (by decide +kernel) (by decide +kernel), by decide +kernel⟩
theorem mk_X3_100 : Mk RX3 100 mX3_did 1 := ⟨lw_in (i := 757) (by decide +kernel) (by decide +kernel), lw_in (i := 7) (by decide +kernel) (by decide +kernel), lw_in (i := 760) (by decide +kernel) (by decide +kernel), by decide +kernel⟩
theorem mk_X3_103 : Cond.methodLink RX3 103 Lib.Math.min.name ∈ lw_w := lw_in (i := 761) (by decide +kernel) (by decide +kernel)
theorem mk_X3_109 : Mk RX3 109 mX3_step 3 := ⟨lw_in (i := 774) (by decide +kernel) (by decide +kernel), lw_in (i := 7) (by decide +kernel) (by decide +kernel), lw_in (i := 777) (by decide +kernel) (by decide +kernel), by decide +kernel⟩
theorem mk_X3_137 : Mk RX3 137 mX3_swapsFor 3 := ⟨lw_in (i := 770) (by decide +kernel) (by decide +kernel), lw_in (i := 7) (by decide +kernel) (by decide +kernel), lw_in (i := 773) (by decide +kernel) (by decide +kernel), by decide +kernel⟩
theorem rm_X3_gather_X9_isOn : Rm mX3_gather mX9_isOn := ⟨by decide, by decide⟩
theorem rm_X3_keepHands_X3_swapsFor : Rm mX3_keepHands mX3_swapsFor := ⟨by decide, by decide⟩
theorem rm_X3_step_X3_holds : Rm mX3_step mX3_holds := ⟨by decide, by decide⟩
theorem rm_X3_step_X3_move : Rm mX3_step mX3_move := ⟨by decide, by decide⟩
theorem rm_X3_stepBack_X3_did : Rm mX3_stepBack mX3_did := ⟨by decide, by decide⟩
theorem rm_X3_stepBack_X3_holds : Rm mX3_stepBack mX3_holds := ⟨by decide, by decide⟩
theorem rm_X3_stepBack_X3_move : Rm mX3_stepBack mX3_move := ⟨by decide, by decide⟩
theorem rm_X3_stepBack_X3_place : Rm mX3_stepBack mX3_place := ⟨by decide, by decide⟩
theorem rm_X3_swapsFor_X3_did : Rm mX3_swapsFor mX3_did := ⟨by decide, by decide⟩
theorem rm_X3_swapsFor_X3_restOf : Rm mX3_swapsFor mX3_restOf := ⟨by decide, by decide⟩
theorem rm_X3_swapsFor_X3_step : Rm mX3_swapsFor mX3_step := ⟨by decide, by decide⟩
theorem rm_X3_weighRest_X3_place : Rm mX3_weighRest mX3_place := ⟨by decide, by decide⟩
theorem rm_X3_weighRest_X3_restOf : Rm mX3_weighRest mX3_restOf := ⟨by decide, by decide⟩
theorem rm_X3_weighRest_X3_stepBack : Rm mX3_weighRest mX3_stepBack := ⟨by decide, by decide⟩
section W_hands
variable {l : Launch} {D : va_G} {ad : Nat → Nat} {kA : Nat → ClassId} {M : Mem} {Q : Outcome → Mem → Prop}
def v_X3_step (M : Mem) (x1 : Int32) (x2 : Int32) (x3 : Int32) : Int32 := if (v_X3_holds M x2 x3) = 0 then v_X3_move M x1 x3 else 16777216
def g_X3_step (M : Mem) (x1 : Int32) (x2 : Int32) (x3 : Int32) : Prop := (g_X3_holds M x2 x3) ∧ (((v_X3_holds M x2 x3) = 0) → g_X3_move M x1 x3)
theorem ct_X3_step {x1 : Int32} {x2 : Int32} {x3 : Int32}  (g : g_X3_step M x1 x2 x3) (h : Q (.returned (some (.int (v_X3_step M x1 x2 x3)))) M) : Cal l D ad kA mX3_step [.ref (ad 17), .int x1, .int x2, .int x3] M Q := by
  refine Cal.of (lo := [some (.ref (ad 17)), some (.int x1), some (.int x2), some (.int x3)]) (by decide) rfl rfl (Nat.le_of_ble_eq_true rfl) ?_
  obtain ⟨g1, g2⟩ := g
  refine r_aload_n dX3_step_0 rfl ?_
  refine r_iload_n dX3_step_1 rfl ?_
  refine r_iload_n dX3_step_2 rfl ?_
  refine r_callV (x := 17) (As := [.int x2, .int x3]) (rest := []) dX3_step_3 mk_X3_96 mv_X3_holds rm_X3_step_X3_holds rfl rfl (by decide +kernel) (Nat.le_of_ble_eq_true rfl) (ct_X3_holds g1 (⟨_, rfl, ?_⟩))
  suffices hJ1 : Fw l D ad kA mX3_step 20 [none, none, none, none] [.int (if (v_X3_holds M x2 x3) = 0 then v_X3_move M x1 x3 else 16777216)] M Q by
    refine r_if_eq (tgt := 14) dX3_step_6 (by decide) (fun c1 => ?_) (fun c1 => ?_)
    · skip
      refine r_aload_n dX3_step_14 rfl ?_
      refine r_iload_n dX3_step_15 rfl ?_
      refine r_iload_n dX3_step_16 rfl ?_
      refine r_callV (x := 17) (As := [.int x1, .int x3]) (rest := []) dX3_step_17 mk_X3_93 mv_X3_move rm_X3_step_X3_move rfl rfl (by decide +kernel) (Nat.le_of_ble_eq_true rfl) (ct_X3_move (g2 c1) (⟨_, rfl, ?_⟩))
      exact q_weak (lo' := [none, none, none, none]) trivial (by have h9 := hJ1; simp only [if_pos c1] at h9; first | exact h9 | (simp only [if_pos c1]; exact h9))
    · skip
      refine r_ldc (v := 16777216) dX3_step_9 co_X3_48 ?_
      refine r_goto (tgt := 20) dX3_step_11 (by decide) ?_
      exact q_weak (lo' := [none, none, none, none]) trivial (by have h9 := hJ1; simp only [if_neg c1] at h9; first | exact h9 | (simp only [if_neg c1]; exact h9))
  exact r_iret dX3_step_20 rfl h
theorem t_X3_gather_0 {z1 : Int64} 
    (K1 : Fw l D ad kA mX3_gather 7 [some (.ref (ad 17)), some (.long z1), none, some (.int 0)] [] (sI M 17 5 0) Q) : Fw l D ad kA mX3_gather 0 [some (.ref (ad 17)), some (.long z1), none, none] [] M Q := by
  refine r_aload_n dX3_gather_0 rfl ?_
  refine r_iconst (v := 0) dX3_gather_1 kI_0 ?_
  refine r_putI dX3_gather_2 fs_17_5 fk_X3_52 fp_X3_5 ?_
  refine r_iconst (v := 0) dX3_gather_5 kI_0 ?_
  refine q_istore_n (lo' := [some (.ref (ad 17)), some (.long z1), none, some (.int 0)]) dX3_gather_6 (by decide) rfl ?_
  exact K1
theorem t_X3_gather_7 {z1 : Int64} {x3 : Int32} 
    (g1 : (¬ ((gI M 9 4) ≤ x3)) → g_X9_isOn M z1 x3)
    (g2 : (¬ ((gI M 9 4) ≤ x3)) → (¬ ((v_X9_isOn M z1 x3) = 0)) → vp_in (gI M 17 5) 160)
    (K1 : ((gI M 9 4) ≤ x3) → Q (.returned none) M)
    (K2 : (¬ ((gI M 9 4) ≤ x3)) → ((v_X9_isOn M z1 x3) = 0) → Fw l D ad kA mX3_gather 7 [some (.ref (ad 17)), some (.long z1), none, some (.int (x3 + 1))] [] M Q)
    (K3 : (¬ ((gI M 9 4) ≤ x3)) → (¬ ((v_X9_isOn M z1 x3) = 0)) → Fw l D ad kA mX3_gather 7 [some (.ref (ad 17)), some (.long z1), none, some (.int (x3 + 1))] [] (sI (sI M 19 (gI M 17 5).toNatClampNeg x3) 17 5 ((gI M 17 5) + 1)) Q) : Fw l D ad kA mX3_gather 7 [some (.ref (ad 17)), some (.long z1), none, some (.int x3)] [] M Q := by
  refine r_iload_n dX3_gather_7 rfl ?_
  refine r_aload_n dX3_gather_8 rfl ?_
  refine r_getR dX3_gather_9 fs_17_0 fk_X3_24 ?_
  refine r_getI dX3_gather_12 fs_9_4 fk_X3_64 ?_
  refine r_icmp_ge (tgt := 56) dX3_gather_15 (by decide) (fun c1 => ?_) (fun c1 => ?_)
  · skip
    exact r_vret dX3_gather_56 rfl (K1 c1)
  · skip
    refine r_aload_n dX3_gather_18 rfl ?_
    refine r_getR dX3_gather_19 fs_17_0 fk_X3_24 ?_
    refine r_lload_n dX3_gather_22 rfl ?_
    refine r_iload_n dX3_gather_23 rfl ?_
    refine r_callV (x := 9) (As := [.long z1, .int x3]) (rest := []) dX3_gather_24 mk_X3_67 mv_X9_isOn rm_X3_gather_X9_isOn rfl rfl (by decide +kernel) (Nat.le_of_ble_eq_true rfl) (ct_X9_isOn (g1 c1) (⟨_, rfl, ?_⟩))
    refine r_if_eq (tgt := 50) dX3_gather_27 (by decide) (fun c2 => ?_) (fun c2 => ?_)
    · skip
      refine q_iinc (v := x3 + 1) (lo' := [some (.ref (ad 17)), some (.long z1), none, some (.int (x3 + 1))]) dX3_gather_50 rfl (congrArg (fun q => x3 + q) kI_1) (by decide) rfl ?_
      refine r_goto (tgt := 7) dX3_gather_53 (by decide) ?_
      exact (K2 c1 c2)
    · skip
      refine r_aload_n dX3_gather_30 rfl ?_
      refine r_getR dX3_gather_31 fs_17_4 fk_X3_15 ?_
      refine r_aload_n dX3_gather_34 rfl ?_
      refine r_getI dX3_gather_35 fs_17_5 fk_X3_52 ?_
      refine r_iload_n dX3_gather_38 rfl ?_
      refine r_iast dX3_gather_39 as_19 (g2 c1 c2) ?_
      refine r_aload_n dX3_gather_40 rfl ?_
      refine r_dup dX3_gather_41 rfl ?_
      refine q_getI (v := gI M 17 5) dX3_gather_42 fs_17_5 fk_X3_52 rfl ?_
      refine r_iconst (v := 1) dX3_gather_45 kI_1 ?_
      refine r_iadd dX3_gather_46 ?_
      refine r_putI dX3_gather_47 fs_17_5 fk_X3_52 fp_X3_5 ?_
      refine q_iinc (v := x3 + 1) (lo' := [some (.ref (ad 17)), some (.long z1), none, some (.int (x3 + 1))]) dX3_gather_50 rfl (congrArg (fun q => x3 + q) kI_1) (by decide) rfl ?_
      refine r_goto (tgt := 7) dX3_gather_53 (by decide) ?_
      exact (K3 c1 c2)
theorem en_X3_gather {z1 : Int64} (K : Fw l D ad kA mX3_gather 0 [some (.ref (ad 17)), some (.long z1), none, none] [] M Q) : Cal l D ad kA mX3_gather [.ref (ad 17), .long z1] M Q := Cal.of (by decide) rfl rfl (Nat.le_of_ble_eq_true rfl) K
theorem t_X3_stepBack_0 {x1 : Int32} 
    (g1 : vp_in x1 160)
    (g2 : vp_in (x1 - 1) 160)
    (g3 : g_X3_move M (gI M 19 (x1 - 1).toNatClampNeg) (gI M 19 x1.toNatClampNeg))
    (g4 : g_X3_holds M (gI M 19 (x1 - 1).toNatClampNeg) (gI M 19 x1.toNatClampNeg))
    (g5 : ((v_X3_holds M (gI M 19 (x1 - 1).toNatClampNeg) (gI M 19 x1.toNatClampNeg)) = 0) → vp_in ((v_X3_place (x1 + 1) 0) + x1) 12880)
    (K1 : Fw l D ad kA mX3_stepBack 71 [some (.ref (ad 17)), some (.int x1), some (.int (gI M 19 x1.toNatClampNeg)), none, some (.int (v_X3_place x1 0)), some (.int (v_X3_place (x1 + 1) 0)), some (.int (v_X3_move M (gI M 19 (x1 - 1).toNatClampNeg) (gI M 19 x1.toNatClampNeg))), some (.int (if (v_X3_holds M (gI M 19 (x1 - 1).toNatClampNeg) (gI M 19 x1.toNatClampNeg)) = 0 then gI M 20 ((v_X3_place (x1 + 1) 0) + x1).toNatClampNeg else 16777216)), some (.int 0), some (.int 0), none, none, none, none] [] M Q) : Fw l D ad kA mX3_stepBack 0 [some (.ref (ad 17)), some (.int x1), none, none, none, none, none, none, none, none, none, none, none, none] [] M Q := by
  refine r_aload_n dX3_stepBack_0 rfl ?_
  refine r_getR dX3_stepBack_1 fs_17_4 fk_X3_15 ?_
  refine r_iload_n dX3_stepBack_4 rfl ?_
  refine r_iald dX3_stepBack_5 as_19 g1 ?_
  refine q_istore_n (lo' := [some (.ref (ad 17)), some (.int x1), some (.int (gI M 19 x1.toNatClampNeg)), none, none, none, none, none, none, none, none, none, none, none]) dX3_stepBack_6 (by decide) rfl ?_
  refine r_aload_n dX3_stepBack_7 rfl ?_
  refine r_getR dX3_stepBack_8 fs_17_4 fk_X3_15 ?_
  refine r_iload_n dX3_stepBack_11 rfl ?_
  refine r_iconst (v := 1) dX3_stepBack_12 kI_1 ?_
  refine r_isub dX3_stepBack_13 ?_
  refine r_iald dX3_stepBack_14 as_19 g2 ?_
  refine q_istore_n (lo' := [some (.ref (ad 17)), some (.int x1), some (.int (gI M 19 x1.toNatClampNeg)), some (.int (gI M 19 (x1 - 1).toNatClampNeg)), none, none, none, none, none, none, none, none, none, none]) dX3_stepBack_15 (by decide) rfl ?_
  refine r_iload_n dX3_stepBack_16 rfl ?_
  refine r_iconst (v := 0) dX3_stepBack_17 kI_0 ?_
  refine r_callS (As := [.int x1, .int 0]) (rest := []) dX3_stepBack_18 mk_X3_78 ms_X3_place rm_X3_stepBack_X3_place rfl rfl (Nat.le_of_ble_eq_true rfl) (ct_X3_place (⟨_, rfl, ?_⟩))
  refine q_istore (lo' := [some (.ref (ad 17)), some (.int x1), some (.int (gI M 19 x1.toNatClampNeg)), some (.int (gI M 19 (x1 - 1).toNatClampNeg)), some (.int (v_X3_place x1 0)), none, none, none, none, none, none, none, none, none]) dX3_stepBack_21 (by decide) rfl ?_
  refine r_iload_n dX3_stepBack_23 rfl ?_
  refine r_iconst (v := 1) dX3_stepBack_24 kI_1 ?_
  refine r_iadd dX3_stepBack_25 ?_
  refine r_iconst (v := 0) dX3_stepBack_26 kI_0 ?_
  refine r_callS (As := [.int (x1 + 1), .int 0]) (rest := []) dX3_stepBack_27 mk_X3_78 ms_X3_place rm_X3_stepBack_X3_place rfl rfl (Nat.le_of_ble_eq_true rfl) (ct_X3_place (⟨_, rfl, ?_⟩))
  refine q_istore (lo' := [some (.ref (ad 17)), some (.int x1), some (.int (gI M 19 x1.toNatClampNeg)), some (.int (gI M 19 (x1 - 1).toNatClampNeg)), some (.int (v_X3_place x1 0)), some (.int (v_X3_place (x1 + 1) 0)), none, none, none, none, none, none, none, none]) dX3_stepBack_30 (by decide) rfl ?_
  refine r_aload_n dX3_stepBack_32 rfl ?_
  refine r_iload_n dX3_stepBack_33 rfl ?_
  refine r_iload_n dX3_stepBack_34 rfl ?_
  refine r_callV (x := 17) (As := [.int (gI M 19 (x1 - 1).toNatClampNeg), .int (gI M 19 x1.toNatClampNeg)]) (rest := []) dX3_stepBack_35 mk_X3_93 mv_X3_move rm_X3_stepBack_X3_move rfl rfl (by decide +kernel) (Nat.le_of_ble_eq_true rfl) (ct_X3_move g3 (⟨_, rfl, ?_⟩))
  refine q_istore (lo' := [some (.ref (ad 17)), some (.int x1), some (.int (gI M 19 x1.toNatClampNeg)), some (.int (gI M 19 (x1 - 1).toNatClampNeg)), some (.int (v_X3_place x1 0)), some (.int (v_X3_place (x1 + 1) 0)), some (.int (v_X3_move M (gI M 19 (x1 - 1).toNatClampNeg) (gI M 19 x1.toNatClampNeg))), none, none, none, none, none, none, none]) dX3_stepBack_38 (by decide) rfl ?_
  refine r_aload_n dX3_stepBack_40 rfl ?_
  refine r_iload_n dX3_stepBack_41 rfl ?_
  refine r_iload_n dX3_stepBack_42 rfl ?_
  refine r_callV (x := 17) (As := [.int (gI M 19 (x1 - 1).toNatClampNeg), .int (gI M 19 x1.toNatClampNeg)]) (rest := []) dX3_stepBack_43 mk_X3_96 mv_X3_holds rm_X3_stepBack_X3_holds rfl rfl (by decide +kernel) (Nat.le_of_ble_eq_true rfl) (ct_X3_holds g4 (⟨_, rfl, ?_⟩))
  suffices hJ1 : Fw l D ad kA mX3_stepBack 63 [some (.ref (ad 17)), some (.int x1), some (.int (gI M 19 x1.toNatClampNeg)), none, some (.int (v_X3_place x1 0)), some (.int (v_X3_place (x1 + 1) 0)), some (.int (v_X3_move M (gI M 19 (x1 - 1).toNatClampNeg) (gI M 19 x1.toNatClampNeg))), none, none, none, none, none, none, none] [.int (if (v_X3_holds M (gI M 19 (x1 - 1).toNatClampNeg) (gI M 19 x1.toNatClampNeg)) = 0 then gI M 20 ((v_X3_place (x1 + 1) 0) + x1).toNatClampNeg else 16777216)] M Q by
    refine r_if_eq (tgt := 54) dX3_stepBack_46 (by decide) (fun c1 => ?_) (fun c1 => ?_)
    · skip
      refine r_aload_n dX3_stepBack_54 rfl ?_
      refine r_getR dX3_stepBack_55 fs_17_6 fk_X3_18 ?_
      refine r_iload dX3_stepBack_58 rfl ?_
      refine r_iload_n dX3_stepBack_60 rfl ?_
      refine r_iadd dX3_stepBack_61 ?_
      refine r_iald dX3_stepBack_62 as_20 (g5 c1) ?_
      exact q_weak (lo' := [some (.ref (ad 17)), some (.int x1), some (.int (gI M 19 x1.toNatClampNeg)), none, some (.int (v_X3_place x1 0)), some (.int (v_X3_place (x1 + 1) 0)), some (.int (v_X3_move M (gI M 19 (x1 - 1).toNatClampNeg) (gI M 19 x1.toNatClampNeg))), none, none, none, none, none, none, none]) ⟨rfl, rfl, rfl, rfl, rfl, rfl, trivial⟩ (by have h9 := hJ1; simp only [if_pos c1] at h9; first | exact h9 | (simp only [if_pos c1]; exact h9))
    · skip
      refine r_ldc (v := 16777216) dX3_stepBack_49 co_X3_48 ?_
      refine r_goto (tgt := 63) dX3_stepBack_51 (by decide) ?_
      exact q_weak (lo' := [some (.ref (ad 17)), some (.int x1), some (.int (gI M 19 x1.toNatClampNeg)), none, some (.int (v_X3_place x1 0)), some (.int (v_X3_place (x1 + 1) 0)), some (.int (v_X3_move M (gI M 19 (x1 - 1).toNatClampNeg) (gI M 19 x1.toNatClampNeg))), none, none, none, none, none, none, none]) ⟨rfl, rfl, rfl, rfl, rfl, rfl, trivial⟩ (by have h9 := hJ1; simp only [if_neg c1] at h9; first | exact h9 | (simp only [if_neg c1]; exact h9))
  refine q_istore (lo' := [some (.ref (ad 17)), some (.int x1), some (.int (gI M 19 x1.toNatClampNeg)), none, some (.int (v_X3_place x1 0)), some (.int (v_X3_place (x1 + 1) 0)), some (.int (v_X3_move M (gI M 19 (x1 - 1).toNatClampNeg) (gI M 19 x1.toNatClampNeg))), some (.int (if (v_X3_holds M (gI M 19 (x1 - 1).toNatClampNeg) (gI M 19 x1.toNatClampNeg)) = 0 then gI M 20 ((v_X3_place (x1 + 1) 0) + x1).toNatClampNeg else 16777216)), none, none, none, none, none, none]) dX3_stepBack_63 (by decide) rfl ?_
  refine r_iconst (v := 0) dX3_stepBack_65 kI_0 ?_
  refine q_istore (lo' := [some (.ref (ad 17)), some (.int x1), some (.int (gI M 19 x1.toNatClampNeg)), none, some (.int (v_X3_place x1 0)), some (.int (v_X3_place (x1 + 1) 0)), some (.int (v_X3_move M (gI M 19 (x1 - 1).toNatClampNeg) (gI M 19 x1.toNatClampNeg))), some (.int (if (v_X3_holds M (gI M 19 (x1 - 1).toNatClampNeg) (gI M 19 x1.toNatClampNeg)) = 0 then gI M 20 ((v_X3_place (x1 + 1) 0) + x1).toNatClampNeg else 16777216)), some (.int 0), none, none, none, none, none]) dX3_stepBack_66 (by decide) rfl ?_
  refine r_iconst (v := 0) dX3_stepBack_68 kI_0 ?_
  refine q_istore (lo' := [some (.ref (ad 17)), some (.int x1), some (.int (gI M 19 x1.toNatClampNeg)), none, some (.int (v_X3_place x1 0)), some (.int (v_X3_place (x1 + 1) 0)), some (.int (v_X3_move M (gI M 19 (x1 - 1).toNatClampNeg) (gI M 19 x1.toNatClampNeg))), some (.int (if (v_X3_holds M (gI M 19 (x1 - 1).toNatClampNeg) (gI M 19 x1.toNatClampNeg)) = 0 then gI M 20 ((v_X3_place (x1 + 1) 0) + x1).toNatClampNeg else 16777216)), some (.int 0), some (.int 0), none, none, none, none]) dX3_stepBack_69 (by decide) rfl ?_
  exact K1
theorem t_X3_stepBack_71 {x1 : Int32} {x2 : Int32} {x4 : Int32} {x5 : Int32} {x6 : Int32} {x7 : Int32} {x8 : Int32} {x9 : Int32} 
    (g1 : (x1 ≤ x9) → x8 = 0 ∨ x8 = 1)
    (g2 : (¬ (x1 ≤ x9)) → g_X3_did M x9)
    (g3 : (¬ (x1 ≤ x9)) → g_X3_holds M (v_X3_did M x9) x2)
    (g4 : (¬ (x1 ≤ x9)) → ((v_X3_holds M (v_X3_did M x9) x2) = 0) → vp_in (x5 + x9) 12880)
    (g5 : (¬ (x1 ≤ x9)) → (x7 < 16777216) → g_X3_move M (v_X3_did M x9) x2)
    (g6 : (¬ (x1 ≤ x9)) → vp_in (x4 + x9) 12880)
    (K1 : (x1 ≤ x9) → Q (.returned (some (.int x8))) M)
    (K2 : (¬ (x1 ≤ x9)) → Fw l D ad kA mX3_stepBack 71 [some (.ref (ad 17)), some (.int x1), some (.int x2), none, some (.int x4), some (.int x5), some (.int x6), some (.int x7), some (.int (if x8 = 0 then if 16777216 ≤ (imin 16777216 (imin (if (v_X3_holds M (v_X3_did M x9) x2) = 0 then x6 + (gI M 20 (x5 + x9).toNatClampNeg) else 16777216) (if x7 < 16777216 then x7 + (v_X3_move M (v_X3_did M x9) x2) else 16777216))) then 0 else 1 else 1)), some (.int (x9 + 1)), none, none, none, none] [] (sI M 20 (x4 + x9).toNatClampNeg (imin 16777216 (imin (if (v_X3_holds M (v_X3_did M x9) x2) = 0 then x6 + (gI M 20 (x5 + x9).toNatClampNeg) else 16777216) (if x7 < 16777216 then x7 + (v_X3_move M (v_X3_did M x9) x2) else 16777216)))) Q) : Fw l D ad kA mX3_stepBack 71 [some (.ref (ad 17)), some (.int x1), some (.int x2), none, some (.int x4), some (.int x5), some (.int x6), some (.int x7), some (.int x8), some (.int x9), none, none, none, none] [] M Q := by
  refine r_iload dX3_stepBack_71 rfl ?_
  refine r_iload_n dX3_stepBack_73 rfl ?_
  refine r_icmp_ge (tgt := 190) dX3_stepBack_74 (by decide) (fun c1 => ?_) (fun c1 => ?_)
  · skip
    refine r_iload dX3_stepBack_190 rfl ?_
    exact r_zret dX3_stepBack_192 rfl (nar_z (g1 c1)).1 (K1 c1)
  · skip
    refine r_aload_n dX3_stepBack_77 rfl ?_
    refine r_iload dX3_stepBack_78 rfl ?_
    refine r_callV (x := 17) (As := [.int x9]) (rest := []) dX3_stepBack_80 mk_X3_100 mv_X3_did rm_X3_stepBack_X3_did rfl rfl (by decide +kernel) (Nat.le_of_ble_eq_true rfl) (ct_X3_did (g2 c1) (⟨_, rfl, ?_⟩))
    refine q_istore (lo' := [some (.ref (ad 17)), some (.int x1), some (.int x2), none, some (.int x4), some (.int x5), some (.int x6), some (.int x7), some (.int x8), some (.int x9), some (.int (v_X3_did M x9)), none, none, none]) dX3_stepBack_83 (by decide) rfl ?_
    refine r_aload_n dX3_stepBack_85 rfl ?_
    refine r_iload dX3_stepBack_86 rfl ?_
    refine r_iload_n dX3_stepBack_88 rfl ?_
    refine r_callV (x := 17) (As := [.int (v_X3_did M x9), .int x2]) (rest := []) dX3_stepBack_89 mk_X3_96 mv_X3_holds rm_X3_stepBack_X3_holds rfl rfl (by decide +kernel) (Nat.le_of_ble_eq_true rfl) (ct_X3_holds (g3 c1) (⟨_, rfl, ?_⟩))
    suffices hJ1 : Fw l D ad kA mX3_stepBack 113 [some (.ref (ad 17)), some (.int x1), some (.int x2), none, some (.int x4), some (.int x5), some (.int x6), some (.int x7), some (.int x8), some (.int x9), some (.int (v_X3_did M x9)), none, none, none] [.int (if (v_X3_holds M (v_X3_did M x9) x2) = 0 then x6 + (gI M 20 (x5 + x9).toNatClampNeg) else 16777216)] M Q by
      refine r_if_eq (tgt := 100) dX3_stepBack_92 (by decide) (fun c2 => ?_) (fun c2 => ?_)
      · skip
        refine r_iload dX3_stepBack_100 rfl ?_
        refine r_aload_n dX3_stepBack_102 rfl ?_
        refine r_getR dX3_stepBack_103 fs_17_6 fk_X3_18 ?_
        refine r_iload dX3_stepBack_106 rfl ?_
        refine r_iload dX3_stepBack_108 rfl ?_
        refine r_iadd dX3_stepBack_110 ?_
        refine r_iald dX3_stepBack_111 as_20 (g4 c1 c2) ?_
        refine r_iadd dX3_stepBack_112 ?_
        exact q_weak (lo' := [some (.ref (ad 17)), some (.int x1), some (.int x2), none, some (.int x4), some (.int x5), some (.int x6), some (.int x7), some (.int x8), some (.int x9), some (.int (v_X3_did M x9)), none, none, none]) ⟨rfl, rfl, rfl, rfl, rfl, rfl, rfl, rfl, rfl, rfl, trivial⟩ (by have h9 := hJ1; simp only [if_pos c2] at h9; first | exact h9 | (simp only [if_pos c2]; exact h9))
      · skip
        refine r_ldc (v := 16777216) dX3_stepBack_95 co_X3_48 ?_
        refine r_goto (tgt := 113) dX3_stepBack_97 (by decide) ?_
        exact q_weak (lo' := [some (.ref (ad 17)), some (.int x1), some (.int x2), none, some (.int x4), some (.int x5), some (.int x6), some (.int x7), some (.int x8), some (.int x9), some (.int (v_X3_did M x9)), none, none, none]) ⟨rfl, rfl, rfl, rfl, rfl, rfl, rfl, rfl, rfl, rfl, trivial⟩ (by have h9 := hJ1; simp only [if_neg c2] at h9; first | exact h9 | (simp only [if_neg c2]; exact h9))
    refine q_istore (lo' := [some (.ref (ad 17)), some (.int x1), some (.int x2), none, some (.int x4), some (.int x5), some (.int x6), some (.int x7), some (.int x8), some (.int x9), some (.int (v_X3_did M x9)), some (.int (if (v_X3_holds M (v_X3_did M x9) x2) = 0 then x6 + (gI M 20 (x5 + x9).toNatClampNeg) else 16777216)), none, none]) dX3_stepBack_113 (by decide) rfl ?_
    refine r_iload dX3_stepBack_115 rfl ?_
    refine r_ldc (v := 16777216) dX3_stepBack_117 co_X3_48 ?_
    suffices hJ2 : Fw l D ad kA mX3_stepBack 137 [some (.ref (ad 17)), some (.int x1), some (.int x2), none, some (.int x4), some (.int x5), some (.int x6), some (.int x7), some (.int x8), some (.int x9), none, some (.int (if (v_X3_holds M (v_X3_did M x9) x2) = 0 then x6 + (gI M 20 (x5 + x9).toNatClampNeg) else 16777216)), none, none] [.int (if x7 < 16777216 then x7 + (v_X3_move M (v_X3_did M x9) x2) else 16777216)] M Q by
      refine r_icmp_lt (tgt := 127) dX3_stepBack_119 (by decide) (fun c3 => ?_) (fun c3 => ?_)
      · skip
        refine r_iload dX3_stepBack_127 rfl ?_
        refine r_aload_n dX3_stepBack_129 rfl ?_
        refine r_iload dX3_stepBack_130 rfl ?_
        refine r_iload_n dX3_stepBack_132 rfl ?_
        refine r_callV (x := 17) (As := [.int (v_X3_did M x9), .int x2]) (rest := [.int x7]) dX3_stepBack_133 mk_X3_93 mv_X3_move rm_X3_stepBack_X3_move rfl rfl (by decide +kernel) (Nat.le_of_ble_eq_true rfl) (ct_X3_move (g5 c1 c3) (⟨_, rfl, ?_⟩))
        refine r_iadd dX3_stepBack_136 ?_
        exact q_weak (lo' := [some (.ref (ad 17)), some (.int x1), some (.int x2), none, some (.int x4), some (.int x5), some (.int x6), some (.int x7), some (.int x8), some (.int x9), none, some (.int (if (v_X3_holds M (v_X3_did M x9) x2) = 0 then x6 + (gI M 20 (x5 + x9).toNatClampNeg) else 16777216)), none, none]) ⟨rfl, rfl, rfl, rfl, rfl, rfl, rfl, rfl, rfl, rfl, trivial⟩ (by have h9 := hJ2; simp only [if_pos c3] at h9; first | exact h9 | (simp only [if_pos c3]; exact h9))
      · skip
        refine r_ldc (v := 16777216) dX3_stepBack_122 co_X3_48 ?_
        refine r_goto (tgt := 137) dX3_stepBack_124 (by decide) ?_
        exact q_weak (lo' := [some (.ref (ad 17)), some (.int x1), some (.int x2), none, some (.int x4), some (.int x5), some (.int x6), some (.int x7), some (.int x8), some (.int x9), none, some (.int (if (v_X3_holds M (v_X3_did M x9) x2) = 0 then x6 + (gI M 20 (x5 + x9).toNatClampNeg) else 16777216)), none, none]) ⟨rfl, rfl, rfl, rfl, rfl, rfl, rfl, rfl, rfl, rfl, trivial⟩ (by have h9 := hJ2; simp only [if_neg c3] at h9; first | exact h9 | (simp only [if_neg c3]; exact h9))
    refine q_istore (lo' := [some (.ref (ad 17)), some (.int x1), some (.int x2), none, some (.int x4), some (.int x5), some (.int x6), some (.int x7), some (.int x8), some (.int x9), none, some (.int (if (v_X3_holds M (v_X3_did M x9) x2) = 0 then x6 + (gI M 20 (x5 + x9).toNatClampNeg) else 16777216)), some (.int (if x7 < 16777216 then x7 + (v_X3_move M (v_X3_did M x9) x2) else 16777216)), none]) dX3_stepBack_137 (by decide) rfl ?_
    refine r_ldc (v := 16777216) dX3_stepBack_139 co_X3_48 ?_
    refine r_iload dX3_stepBack_141 rfl ?_
    refine r_iload dX3_stepBack_143 rfl ?_
    refine q_mmin dX3_stepBack_145 mk_X3_103 (by decide) (Nat.le_of_ble_eq_true rfl) ?_
    refine q_mmin dX3_stepBack_148 mk_X3_103 (by decide) (Nat.le_of_ble_eq_true rfl) ?_
    refine q_istore (lo' := [some (.ref (ad 17)), some (.int x1), some (.int x2), none, some (.int x4), some (.int x5), some (.int x6), some (.int x7), some (.int x8), some (.int x9), none, some (.int (if (v_X3_holds M (v_X3_did M x9) x2) = 0 then x6 + (gI M 20 (x5 + x9).toNatClampNeg) else 16777216)), some (.int (if x7 < 16777216 then x7 + (v_X3_move M (v_X3_did M x9) x2) else 16777216)), some (.int (imin 16777216 (imin (if (v_X3_holds M (v_X3_did M x9) x2) = 0 then x6 + (gI M 20 (x5 + x9).toNatClampNeg) else 16777216) (if x7 < 16777216 then x7 + (v_X3_move M (v_X3_did M x9) x2) else 16777216))))]) dX3_stepBack_151 (by decide) rfl ?_
    refine r_aload_n dX3_stepBack_153 rfl ?_
    refine r_getR dX3_stepBack_154 fs_17_6 fk_X3_18 ?_
    refine r_iload dX3_stepBack_157 rfl ?_
    refine r_iload dX3_stepBack_159 rfl ?_
    refine r_iadd dX3_stepBack_161 ?_
    refine r_iload dX3_stepBack_162 rfl ?_
    refine r_iast dX3_stepBack_164 as_20 (g6 c1) ?_
    refine r_iload dX3_stepBack_165 rfl ?_
    suffices hJ3 : Fw l D ad kA mX3_stepBack 182 [some (.ref (ad 17)), some (.int x1), some (.int x2), none, some (.int x4), some (.int x5), some (.int x6), some (.int x7), none, some (.int x9), none, none, none, none] [.int (if x8 = 0 then if 16777216 ≤ (imin 16777216 (imin (if (v_X3_holds M (v_X3_did M x9) x2) = 0 then x6 + (gI M 20 (x5 + x9).toNatClampNeg) else 16777216) (if x7 < 16777216 then x7 + (v_X3_move M (v_X3_did M x9) x2) else 16777216))) then 0 else 1 else 1)] (sI M 20 (x4 + x9).toNatClampNeg (imin 16777216 (imin (if (v_X3_holds M (v_X3_did M x9) x2) = 0 then x6 + (gI M 20 (x5 + x9).toNatClampNeg) else 16777216) (if x7 < 16777216 then x7 + (v_X3_move M (v_X3_did M x9) x2) else 16777216)))) Q by
      refine r_if_ne (tgt := 177) dX3_stepBack_167 (by decide) (fun c4 => ?_) (fun c4 => ?_)
      · skip
        refine r_iconst (v := 1) dX3_stepBack_177 kI_1 ?_
        refine r_goto (tgt := 182) dX3_stepBack_178 (by decide) ?_
        exact q_weak (lo' := [some (.ref (ad 17)), some (.int x1), some (.int x2), none, some (.int x4), some (.int x5), some (.int x6), some (.int x7), none, some (.int x9), none, none, none, none]) ⟨rfl, rfl, rfl, rfl, rfl, rfl, rfl, rfl, trivial⟩ (by have h9 := hJ3; simp only [if_neg c4] at h9; first | exact h9 | (simp only [if_neg c4]; exact h9))
      · skip
        refine r_iload dX3_stepBack_170 rfl ?_
        refine r_ldc (v := 16777216) dX3_stepBack_172 co_X3_48 ?_
        refine r_icmp_ge (tgt := 181) dX3_stepBack_174 (by decide) (fun c5 => ?_) (fun c5 => ?_)
        · skip
          refine r_iconst (v := 0) dX3_stepBack_181 kI_0 ?_
          exact q_weak (lo' := [some (.ref (ad 17)), some (.int x1), some (.int x2), none, some (.int x4), some (.int x5), some (.int x6), some (.int x7), none, some (.int x9), none, none, none, none]) ⟨rfl, rfl, rfl, rfl, rfl, rfl, rfl, rfl, trivial⟩ (by have h9 := hJ3; simp only [if_pos c4, if_pos c5] at h9; first | exact h9 | (simp only [if_pos c4, if_pos c5]; exact h9))
        · skip
          refine r_iconst (v := 1) dX3_stepBack_177 kI_1 ?_
          refine r_goto (tgt := 182) dX3_stepBack_178 (by decide) ?_
          exact q_weak (lo' := [some (.ref (ad 17)), some (.int x1), some (.int x2), none, some (.int x4), some (.int x5), some (.int x6), some (.int x7), none, some (.int x9), none, none, none, none]) ⟨rfl, rfl, rfl, rfl, rfl, rfl, rfl, rfl, trivial⟩ (by have h9 := hJ3; simp only [if_pos c4, if_neg c5] at h9; first | exact h9 | (simp only [if_pos c4, if_neg c5]; exact h9))
    refine q_istore (lo' := [some (.ref (ad 17)), some (.int x1), some (.int x2), none, some (.int x4), some (.int x5), some (.int x6), some (.int x7), some (.int (if x8 = 0 then if 16777216 ≤ (imin 16777216 (imin (if (v_X3_holds M (v_X3_did M x9) x2) = 0 then x6 + (gI M 20 (x5 + x9).toNatClampNeg) else 16777216) (if x7 < 16777216 then x7 + (v_X3_move M (v_X3_did M x9) x2) else 16777216))) then 0 else 1 else 1)), some (.int x9), none, none, none, none]) dX3_stepBack_182 (by decide) rfl ?_
    refine q_iinc (v := x9 + 1) (lo' := [some (.ref (ad 17)), some (.int x1), some (.int x2), none, some (.int x4), some (.int x5), some (.int x6), some (.int x7), some (.int (if x8 = 0 then if 16777216 ≤ (imin 16777216 (imin (if (v_X3_holds M (v_X3_did M x9) x2) = 0 then x6 + (gI M 20 (x5 + x9).toNatClampNeg) else 16777216) (if x7 < 16777216 then x7 + (v_X3_move M (v_X3_did M x9) x2) else 16777216))) then 0 else 1 else 1)), some (.int (x9 + 1)), none, none, none, none]) dX3_stepBack_184 rfl (congrArg (fun q => x9 + q) kI_1) (by decide) rfl ?_
    refine r_goto (tgt := 71) dX3_stepBack_187 (by decide) ?_
    exact (K2 c1)
theorem en_X3_stepBack {x1 : Int32} (K : Fw l D ad kA mX3_stepBack 0 [some (.ref (ad 17)), some (.int x1), none, none, none, none, none, none, none, none, none, none, none, none] [] M Q) : Cal l D ad kA mX3_stepBack [.ref (ad 17), .int x1] M Q := Cal.of (by decide) rfl rfl (Nat.le_of_ble_eq_true rfl) K
theorem t_X3_weighRest_0  
    (K1 : Fw l D ad kA mX3_weighRest 7 [some (.ref (ad 17)), some (.int 0)] [] (sI M 17 7 0) Q) : Fw l D ad kA mX3_weighRest 0 [some (.ref (ad 17)), none] [] M Q := by
  refine r_aload_n dX3_weighRest_0 rfl ?_
  refine r_iconst (v := 0) dX3_weighRest_1 kI_0 ?_
  refine r_putI dX3_weighRest_2 fs_17_7 fk_X3_75 fp_X3_7 ?_
  refine r_iconst (v := 0) dX3_weighRest_5 kI_0 ?_
  refine q_istore_n (lo' := [some (.ref (ad 17)), some (.int 0)]) dX3_weighRest_6 (by decide) rfl ?_
  exact K1
theorem t_X3_weighRest_7 {x1 : Int32} 
    (g1 : (¬ ((gI M 17 5) ≤ x1)) → vp_in (v_X3_place (gI M 17 5) x1) 12880)
    (K1 : ((gI M 17 5) ≤ x1) → Fw l D ad kA mX3_weighRest 42 [some (.ref (ad 17)), some (.int ((gI M 17 5) - 1))] [] M Q)
    (K2 : (¬ ((gI M 17 5) ≤ x1)) → Fw l D ad kA mX3_weighRest 7 [some (.ref (ad 17)), some (.int (x1 + 1))] [] (sI M 20 (v_X3_place (gI M 17 5) x1).toNatClampNeg 0) Q) : Fw l D ad kA mX3_weighRest 7 [some (.ref (ad 17)), some (.int x1)] [] M Q := by
  refine r_iload_n dX3_weighRest_7 rfl ?_
  refine r_aload_n dX3_weighRest_8 rfl ?_
  refine r_getI dX3_weighRest_9 fs_17_5 fk_X3_52 ?_
  refine r_icmp_ge (tgt := 35) dX3_weighRest_12 (by decide) (fun c1 => ?_) (fun c1 => ?_)
  · skip
    refine r_aload_n dX3_weighRest_35 rfl ?_
    refine r_getI dX3_weighRest_36 fs_17_5 fk_X3_52 ?_
    refine r_iconst (v := 1) dX3_weighRest_39 kI_1 ?_
    refine r_isub dX3_weighRest_40 ?_
    refine q_istore_n (lo' := [some (.ref (ad 17)), some (.int ((gI M 17 5) - 1))]) dX3_weighRest_41 (by decide) rfl ?_
    exact (K1 c1)
  · skip
    refine r_aload_n dX3_weighRest_15 rfl ?_
    refine r_getR dX3_weighRest_16 fs_17_6 fk_X3_18 ?_
    refine r_aload_n dX3_weighRest_19 rfl ?_
    refine r_getI dX3_weighRest_20 fs_17_5 fk_X3_52 ?_
    refine r_iload_n dX3_weighRest_23 rfl ?_
    refine r_callS (As := [.int (gI M 17 5), .int x1]) (rest := [.ref (ad 20)]) dX3_weighRest_24 mk_X3_78 ms_X3_place rm_X3_weighRest_X3_place rfl rfl (Nat.le_of_ble_eq_true rfl) (ct_X3_place (⟨_, rfl, ?_⟩))
    refine r_iconst (v := 0) dX3_weighRest_27 kI_0 ?_
    refine r_iast dX3_weighRest_28 as_20 (g1 c1) ?_
    refine q_iinc (v := x1 + 1) (lo' := [some (.ref (ad 17)), some (.int (x1 + 1))]) dX3_weighRest_29 rfl (congrArg (fun q => x1 + q) kI_1) (by decide) rfl ?_
    refine r_goto (tgt := 7) dX3_weighRest_32 (by decide) ?_
    exact (K2 c1)
theorem t_X3_weighRest_42 {x1 : Int32} 
    (g1 : (x1 ≤ 0) → (¬ ((gI M 17 5) = 0)) → g_X3_restOf M 1 0)
    (g2 : (¬ (x1 ≤ 0)) → (¬ ((gI M 17 7) = 0)) → (¬ ((gI M 17 5) = 0)) → g_X3_restOf M 1 0)
    (K1 : (x1 ≤ 0) → Q (.returned (some (.int (if (gI M 17 5) = 0 then 0 else v_X3_restOf M 1 0)))) M)
    (K2 : (¬ (x1 ≤ 0)) → (¬ ((gI M 17 7) = 0)) → Q (.returned (some (.int (if (gI M 17 5) = 0 then 0 else v_X3_restOf M 1 0)))) M)
    (K3 : (¬ (x1 ≤ 0)) → ((gI M 17 7) = 0) → Cal l D ad kA mX3_stepBack [.ref (ad 17), .int x1] M (fun oc M2 => ∃ r : Int32, oc = .returned (some (.int r)) ∧ Fw l D ad kA mX3_weighRest 58 [some (.ref (ad 17)), some (.int x1)] [.int r] M2 Q)) : Fw l D ad kA mX3_weighRest 42 [some (.ref (ad 17)), some (.int x1)] [] M Q := by
  refine r_iload_n dX3_weighRest_42 rfl ?_
  refine r_if_le (tgt := 72) dX3_weighRest_43 (by decide) (fun c1 => ?_) (fun c1 => ?_)
  · skip
    refine r_aload_n dX3_weighRest_72 rfl ?_
    refine r_getI dX3_weighRest_73 fs_17_5 fk_X3_52 ?_
    suffices hJ1 : Fw l D ad kA mX3_weighRest 89 [none, none] [.int (if (gI M 17 5) = 0 then 0 else v_X3_restOf M 1 0)] M Q by
      refine r_if_ne (tgt := 83) dX3_weighRest_76 (by decide) (fun c2 => ?_) (fun c2 => ?_)
      · skip
        refine r_aload_n dX3_weighRest_83 rfl ?_
        refine r_iconst (v := 1) dX3_weighRest_84 kI_1 ?_
        refine r_iconst (v := 0) dX3_weighRest_85 kI_0 ?_
        refine r_callV (x := 17) (As := [.int 1, .int 0]) (rest := []) dX3_weighRest_86 mk_X3_85 mv_X3_restOf rm_X3_weighRest_X3_restOf rfl rfl (by decide +kernel) (Nat.le_of_ble_eq_true rfl) (ct_X3_restOf (g1 c1 c2) (⟨_, rfl, ?_⟩))
        exact q_weak (lo' := [none, none]) trivial (by have h9 := hJ1; simp only [if_neg c2] at h9; first | exact h9 | (simp only [if_neg c2]; exact h9))
      · skip
        refine r_iconst (v := 0) dX3_weighRest_79 kI_0 ?_
        refine r_goto (tgt := 89) dX3_weighRest_80 (by decide) ?_
        exact q_weak (lo' := [none, none]) trivial (by have h9 := hJ1; simp only [if_pos c2] at h9; first | exact h9 | (simp only [if_pos c2]; exact h9))
    exact r_iret dX3_weighRest_89 rfl (K1 c1)
  · skip
    refine r_aload_n dX3_weighRest_46 rfl ?_
    refine r_getI dX3_weighRest_47 fs_17_7 fk_X3_75 ?_
    refine r_if_ne (tgt := 72) dX3_weighRest_50 (by decide) (fun c3 => ?_) (fun c3 => ?_)
    · skip
      refine r_aload_n dX3_weighRest_72 rfl ?_
      refine r_getI dX3_weighRest_73 fs_17_5 fk_X3_52 ?_
      suffices hJ2 : Fw l D ad kA mX3_weighRest 89 [none, none] [.int (if (gI M 17 5) = 0 then 0 else v_X3_restOf M 1 0)] M Q by
        refine r_if_ne (tgt := 83) dX3_weighRest_76 (by decide) (fun c4 => ?_) (fun c4 => ?_)
        · skip
          refine r_aload_n dX3_weighRest_83 rfl ?_
          refine r_iconst (v := 1) dX3_weighRest_84 kI_1 ?_
          refine r_iconst (v := 0) dX3_weighRest_85 kI_0 ?_
          refine r_callV (x := 17) (As := [.int 1, .int 0]) (rest := []) dX3_weighRest_86 mk_X3_85 mv_X3_restOf rm_X3_weighRest_X3_restOf rfl rfl (by decide +kernel) (Nat.le_of_ble_eq_true rfl) (ct_X3_restOf (g2 c1 c3 c4) (⟨_, rfl, ?_⟩))
          exact q_weak (lo' := [none, none]) trivial (by have h9 := hJ2; simp only [if_neg c4] at h9; first | exact h9 | (simp only [if_neg c4]; exact h9))
        · skip
          refine r_iconst (v := 0) dX3_weighRest_79 kI_0 ?_
          refine r_goto (tgt := 89) dX3_weighRest_80 (by decide) ?_
          exact q_weak (lo' := [none, none]) trivial (by have h9 := hJ2; simp only [if_pos c4] at h9; first | exact h9 | (simp only [if_pos c4]; exact h9))
      exact r_iret dX3_weighRest_89 rfl (K2 c1 c3)
    · skip
      refine r_aload_n dX3_weighRest_53 rfl ?_
      refine r_iload_n dX3_weighRest_54 rfl ?_
      exact r_callV (x := 17) (As := [.int x1]) (rest := []) dX3_weighRest_55 mk_X3_81 mv_X3_stepBack rm_X3_weighRest_X3_stepBack rfl rfl (by decide +kernel) (Nat.le_of_ble_eq_true rfl) (cal_i (lo' := [some (.ref (ad 17)), some (.int x1)]) ⟨rfl, rfl, trivial⟩ (K3 c1 c3))
theorem t_X3_weighRest_58 {x1 : Int32} {s1 : Int32} 
    (K1 : (¬ (s1 = 0)) → Fw l D ad kA mX3_weighRest 42 [some (.ref (ad 17)), some (.int (x1 + (-1)))] [] M Q)
    (K2 : (s1 = 0) → Fw l D ad kA mX3_weighRest 42 [some (.ref (ad 17)), some (.int (x1 + (-1)))] [] (sI M 17 7 x1) Q) : Fw l D ad kA mX3_weighRest 58 [some (.ref (ad 17)), some (.int x1)] [.int s1] M Q := by
  refine r_if_ne (tgt := 66) dX3_weighRest_58 (by decide) (fun c1 => ?_) (fun c1 => ?_)
  · skip
    refine q_iinc (v := x1 + (-1)) (lo' := [some (.ref (ad 17)), some (.int (x1 + (-1)))]) dX3_weighRest_66 rfl (congrArg (fun q => x1 + q) kI_m1) (by decide) rfl ?_
    refine r_goto (tgt := 42) dX3_weighRest_69 (by decide) ?_
    exact (K1 c1)
  · skip
    refine r_aload_n dX3_weighRest_61 rfl ?_
    refine r_iload_n dX3_weighRest_62 rfl ?_
    refine r_putI dX3_weighRest_63 fs_17_7 fk_X3_75 fp_X3_7 ?_
    refine q_iinc (v := x1 + (-1)) (lo' := [some (.ref (ad 17)), some (.int (x1 + (-1)))]) dX3_weighRest_66 rfl (congrArg (fun q => x1 + q) kI_m1) (by decide) rfl ?_
    refine r_goto (tgt := 42) dX3_weighRest_69 (by decide) ?_
    exact (K2 c1)
theorem en_X3_weighRest  (K : Fw l D ad kA mX3_weighRest 0 [some (.ref (ad 17)), none] [] M Q) : Cal l D ad kA mX3_weighRest [.ref (ad 17)] M Q := Cal.of (by decide) rfl rfl (Nat.le_of_ble_eq_true rfl) K
def v_X3_swapsFor (M : Mem) (x1 : Int32) (x2 : Int32) (x3 : Int32) : Int32 := if x1 = 0 then if ((v_X3_step M (gI M 19 (x2 - 1).toNatClampNeg) (v_X3_did M x3) (gI M 19 x2.toNatClampNeg)) + (v_X3_restOf M (x2 + 1) x3)) = (v_X3_restOf M x2 x3) then 0 else 1 else if ((v_X3_step M (v_X3_did M x3) (gI M 19 (x2 - 1).toNatClampNeg) (gI M 19 x2.toNatClampNeg)) + (v_X3_restOf M (x2 + 1) x2)) = (v_X3_restOf M x2 x3) then 1 else 0
def g_X3_swapsFor (M : Mem) (x1 : Int32) (x2 : Int32) (x3 : Int32) : Prop := (vp_in x2 160) ∧ (vp_in (x2 - 1) 160) ∧ (g_X3_did M x3) ∧ (g_X3_restOf M x2 x3) ∧ ((¬ (x1 = 0)) → g_X3_step M (v_X3_did M x3) (gI M 19 (x2 - 1).toNatClampNeg) (gI M 19 x2.toNatClampNeg)) ∧ ((¬ (x1 = 0)) → g_X3_restOf M (x2 + 1) x2) ∧ ((x1 = 0) → g_X3_step M (gI M 19 (x2 - 1).toNatClampNeg) (v_X3_did M x3) (gI M 19 x2.toNatClampNeg)) ∧ ((x1 = 0) → g_X3_restOf M (x2 + 1) x3)
theorem ct_X3_swapsFor {x1 : Int32} {x2 : Int32} {x3 : Int32}  (g : g_X3_swapsFor M x1 x2 x3) (h : Q (.returned (some (.int (v_X3_swapsFor M x1 x2 x3)))) M) : Cal l D ad kA mX3_swapsFor [.ref (ad 17), .int x1, .int x2, .int x3] M Q := by
  refine Cal.of (lo := [some (.ref (ad 17)), some (.int x1), some (.int x2), some (.int x3), none, none, none, none]) (by decide) rfl rfl (Nat.le_of_ble_eq_true rfl) ?_
  obtain ⟨g1, g2, g3, g4, g5, g6, g7, g8⟩ := g
  refine r_aload_n dX3_swapsFor_0 rfl ?_
  refine r_getR dX3_swapsFor_1 fs_17_4 fk_X3_15 ?_
  refine r_iload_n dX3_swapsFor_4 rfl ?_
  refine r_iald dX3_swapsFor_5 as_19 g1 ?_
  refine q_istore (lo' := [some (.ref (ad 17)), some (.int x1), some (.int x2), some (.int x3), some (.int (gI M 19 x2.toNatClampNeg)), none, none, none]) dX3_swapsFor_6 (by decide) rfl ?_
  refine r_aload_n dX3_swapsFor_8 rfl ?_
  refine r_getR dX3_swapsFor_9 fs_17_4 fk_X3_15 ?_
  refine r_iload_n dX3_swapsFor_12 rfl ?_
  refine r_iconst (v := 1) dX3_swapsFor_13 kI_1 ?_
  refine r_isub dX3_swapsFor_14 ?_
  refine r_iald dX3_swapsFor_15 as_19 g2 ?_
  refine q_istore (lo' := [some (.ref (ad 17)), some (.int x1), some (.int x2), some (.int x3), some (.int (gI M 19 x2.toNatClampNeg)), some (.int (gI M 19 (x2 - 1).toNatClampNeg)), none, none]) dX3_swapsFor_16 (by decide) rfl ?_
  refine r_aload_n dX3_swapsFor_18 rfl ?_
  refine r_iload_n dX3_swapsFor_19 rfl ?_
  refine r_callV (x := 17) (As := [.int x3]) (rest := []) dX3_swapsFor_20 mk_X3_100 mv_X3_did rm_X3_swapsFor_X3_did rfl rfl (by decide +kernel) (Nat.le_of_ble_eq_true rfl) (ct_X3_did g3 (⟨_, rfl, ?_⟩))
  refine q_istore (lo' := [some (.ref (ad 17)), some (.int x1), some (.int x2), some (.int x3), some (.int (gI M 19 x2.toNatClampNeg)), some (.int (gI M 19 (x2 - 1).toNatClampNeg)), some (.int (v_X3_did M x3)), none]) dX3_swapsFor_23 (by decide) rfl ?_
  refine r_aload_n dX3_swapsFor_25 rfl ?_
  refine r_iload_n dX3_swapsFor_26 rfl ?_
  refine r_iload_n dX3_swapsFor_27 rfl ?_
  refine r_callV (x := 17) (As := [.int x2, .int x3]) (rest := []) dX3_swapsFor_28 mk_X3_85 mv_X3_restOf rm_X3_swapsFor_X3_restOf rfl rfl (by decide +kernel) (Nat.le_of_ble_eq_true rfl) (ct_X3_restOf g4 (⟨_, rfl, ?_⟩))
  refine q_istore (lo' := [some (.ref (ad 17)), some (.int x1), some (.int x2), some (.int x3), some (.int (gI M 19 x2.toNatClampNeg)), some (.int (gI M 19 (x2 - 1).toNatClampNeg)), some (.int (v_X3_did M x3)), some (.int (v_X3_restOf M x2 x3))]) dX3_swapsFor_31 (by decide) rfl ?_
  refine r_iload_n dX3_swapsFor_33 rfl ?_
  refine r_if_ne (tgt := 67) dX3_swapsFor_34 (by decide) (fun c1 => ?_) (fun c1 => ?_)
  · skip
    refine r_aload_n dX3_swapsFor_67 rfl ?_
    refine r_iload dX3_swapsFor_68 rfl ?_
    refine r_iload dX3_swapsFor_70 rfl ?_
    refine r_iload dX3_swapsFor_72 rfl ?_
    refine r_callV (x := 17) (As := [.int (v_X3_did M x3), .int (gI M 19 (x2 - 1).toNatClampNeg), .int (gI M 19 x2.toNatClampNeg)]) (rest := []) dX3_swapsFor_74 mk_X3_109 mv_X3_step rm_X3_swapsFor_X3_step rfl rfl (by decide +kernel) (Nat.le_of_ble_eq_true rfl) (ct_X3_step (g5 c1) (⟨_, rfl, ?_⟩))
    refine r_aload_n dX3_swapsFor_77 rfl ?_
    refine r_iload_n dX3_swapsFor_78 rfl ?_
    refine r_iconst (v := 1) dX3_swapsFor_79 kI_1 ?_
    refine r_iadd dX3_swapsFor_80 ?_
    refine r_iload_n dX3_swapsFor_81 rfl ?_
    refine r_callV (x := 17) (As := [.int (x2 + 1), .int x2]) (rest := [.int (v_X3_step M (v_X3_did M x3) (gI M 19 (x2 - 1).toNatClampNeg) (gI M 19 x2.toNatClampNeg))]) dX3_swapsFor_82 mk_X3_85 mv_X3_restOf rm_X3_swapsFor_X3_restOf rfl rfl (by decide +kernel) (Nat.le_of_ble_eq_true rfl) (ct_X3_restOf (g6 c1) (⟨_, rfl, ?_⟩))
    refine r_iadd dX3_swapsFor_85 ?_
    refine r_iload dX3_swapsFor_86 rfl ?_
    suffices hJ1 : Fw l D ad kA mX3_swapsFor 96 [none, none, none, none, none, none, none, none] [.int (if ((v_X3_step M (v_X3_did M x3) (gI M 19 (x2 - 1).toNatClampNeg) (gI M 19 x2.toNatClampNeg)) + (v_X3_restOf M (x2 + 1) x2)) = (v_X3_restOf M x2 x3) then 1 else 0)] M Q by
      refine r_icmp_ne (tgt := 95) dX3_swapsFor_88 (by decide) (fun c2 => ?_) (fun c2 => ?_)
      · skip
        refine r_iconst (v := 0) dX3_swapsFor_95 kI_0 ?_
        exact q_weak (lo' := [none, none, none, none, none, none, none, none]) trivial (by have h9 := hJ1; simp only [if_neg c2] at h9; first | exact h9 | (simp only [if_neg c2]; exact h9))
      · skip
        refine r_iconst (v := 1) dX3_swapsFor_91 kI_1 ?_
        refine r_goto (tgt := 96) dX3_swapsFor_92 (by decide) ?_
        exact q_weak (lo' := [none, none, none, none, none, none, none, none]) trivial (by have h9 := hJ1; simp only [if_pos c2] at h9; first | exact h9 | (simp only [if_pos c2]; exact h9))
    exact r_zret dX3_swapsFor_96 rfl (nar_z (ite01 (Or.inr rfl) (Or.inl rfl))).1 (by have h9 := h; simp only [v_X3_swapsFor, if_neg c1] at h9; first | exact h9 | (simp only [if_neg c1]; exact h9))
  · skip
    refine r_aload_n dX3_swapsFor_37 rfl ?_
    refine r_iload dX3_swapsFor_38 rfl ?_
    refine r_iload dX3_swapsFor_40 rfl ?_
    refine r_iload dX3_swapsFor_42 rfl ?_
    refine r_callV (x := 17) (As := [.int (gI M 19 (x2 - 1).toNatClampNeg), .int (v_X3_did M x3), .int (gI M 19 x2.toNatClampNeg)]) (rest := []) dX3_swapsFor_44 mk_X3_109 mv_X3_step rm_X3_swapsFor_X3_step rfl rfl (by decide +kernel) (Nat.le_of_ble_eq_true rfl) (ct_X3_step (g7 c1) (⟨_, rfl, ?_⟩))
    refine r_aload_n dX3_swapsFor_47 rfl ?_
    refine r_iload_n dX3_swapsFor_48 rfl ?_
    refine r_iconst (v := 1) dX3_swapsFor_49 kI_1 ?_
    refine r_iadd dX3_swapsFor_50 ?_
    refine r_iload_n dX3_swapsFor_51 rfl ?_
    refine r_callV (x := 17) (As := [.int (x2 + 1), .int x3]) (rest := [.int (v_X3_step M (gI M 19 (x2 - 1).toNatClampNeg) (v_X3_did M x3) (gI M 19 x2.toNatClampNeg))]) dX3_swapsFor_52 mk_X3_85 mv_X3_restOf rm_X3_swapsFor_X3_restOf rfl rfl (by decide +kernel) (Nat.le_of_ble_eq_true rfl) (ct_X3_restOf (g8 c1) (⟨_, rfl, ?_⟩))
    refine r_iadd dX3_swapsFor_55 ?_
    refine r_iload dX3_swapsFor_56 rfl ?_
    suffices hJ2 : Fw l D ad kA mX3_swapsFor 66 [none, none, none, none, none, none, none, none] [.int (if ((v_X3_step M (gI M 19 (x2 - 1).toNatClampNeg) (v_X3_did M x3) (gI M 19 x2.toNatClampNeg)) + (v_X3_restOf M (x2 + 1) x3)) = (v_X3_restOf M x2 x3) then 0 else 1)] M Q by
      refine r_icmp_eq (tgt := 65) dX3_swapsFor_58 (by decide) (fun c3 => ?_) (fun c3 => ?_)
      · skip
        refine r_iconst (v := 0) dX3_swapsFor_65 kI_0 ?_
        exact q_weak (lo' := [none, none, none, none, none, none, none, none]) trivial (by have h9 := hJ2; simp only [if_pos c3] at h9; first | exact h9 | (simp only [if_pos c3]; exact h9))
      · skip
        refine r_iconst (v := 1) dX3_swapsFor_61 kI_1 ?_
        refine r_goto (tgt := 66) dX3_swapsFor_62 (by decide) ?_
        exact q_weak (lo' := [none, none, none, none, none, none, none, none]) trivial (by have h9 := hJ2; simp only [if_neg c3] at h9; first | exact h9 | (simp only [if_neg c3]; exact h9))
    exact r_zret dX3_swapsFor_66 rfl (nar_z (ite01 (Or.inl rfl) (Or.inr rfl))).1 (by have h9 := h; simp only [v_X3_swapsFor, if_pos c1] at h9; first | exact h9 | (simp only [if_pos c1]; exact h9))
theorem z_X3_swapsFor {M : Mem} {x1 : Int32} {x2 : Int32} {x3 : Int32} : v_X3_swapsFor M x1 x2 x3 = 0 ∨ v_X3_swapsFor M x1 x2 x3 = 1 := (ite01 (ite01 (Or.inl rfl) (Or.inr rfl)) (ite01 (Or.inr rfl) (Or.inl rfl)))
theorem t_X3_keepHands_0  
    (K1 : Fw l D ad kA mX3_keepHands 2 [some (.ref (ad 17)), some (.int 0), none, none] [] M Q) : Fw l D ad kA mX3_keepHands 0 [some (.ref (ad 17)), none, none, none] [] M Q := by
  refine r_iconst (v := 0) dX3_keepHands_0 kI_0 ?_
  refine q_istore_n (lo' := [some (.ref (ad 17)), some (.int 0), none, none]) dX3_keepHands_1 (by decide) rfl ?_
  exact K1
theorem t_X3_keepHands_2 {x1 : Int32} 
    (g1 : (¬ (160 ≤ x1)) → vp_in x1 160)
    (K1 : (160 ≤ x1) → Fw l D ad kA mX3_keepHands 33 [some (.ref (ad 17)), some (.int 0), some (.int 0), some (.int 0)] [] (sI M 17 3 1) Q)
    (K2 : (¬ (160 ≤ x1)) → Fw l D ad kA mX3_keepHands 2 [some (.ref (ad 17)), some (.int (x1 + 1)), none, none] [] (sI M 18 x1.toNatClampNeg (-1)) Q) : Fw l D ad kA mX3_keepHands 2 [some (.ref (ad 17)), some (.int x1), none, none] [] M Q := by
  refine r_iload_n dX3_keepHands_2 rfl ?_
  refine r_sipush (v := 160) dX3_keepHands_3 kS_160 ?_
  refine r_icmp_ge (tgt := 22) dX3_keepHands_6 (by decide) (fun c1 => ?_) (fun c1 => ?_)
  · skip
    refine r_aload_n dX3_keepHands_22 rfl ?_
    refine r_iconst (v := 1) dX3_keepHands_23 kI_1 ?_
    refine r_putZ dX3_keepHands_24 fs_17_3 fk_X3_32 fp_X3_3 (Or.inr rfl) ?_
    refine r_iconst (v := 0) dX3_keepHands_27 kI_0 ?_
    refine q_istore_n (lo' := [some (.ref (ad 17)), some (.int 0), none, none]) dX3_keepHands_28 (by decide) rfl ?_
    refine r_iconst (v := 0) dX3_keepHands_29 kI_0 ?_
    refine q_istore_n (lo' := [some (.ref (ad 17)), some (.int 0), some (.int 0), none]) dX3_keepHands_30 (by decide) rfl ?_
    refine r_iconst (v := 0) dX3_keepHands_31 kI_0 ?_
    refine q_istore_n (lo' := [some (.ref (ad 17)), some (.int 0), some (.int 0), some (.int 0)]) dX3_keepHands_32 (by decide) rfl ?_
    exact (K1 c1)
  · skip
    refine r_aload_n dX3_keepHands_9 rfl ?_
    refine r_getR dX3_keepHands_10 fs_17_2 fk_X3_9 ?_
    refine r_iload_n dX3_keepHands_13 rfl ?_
    refine r_iconst (v := (-1)) dX3_keepHands_14 kI_m1 ?_
    refine r_iast dX3_keepHands_15 as_18 (g1 c1) ?_
    refine q_iinc (v := x1 + 1) (lo' := [some (.ref (ad 17)), some (.int (x1 + 1)), none, none]) dX3_keepHands_16 rfl (congrArg (fun q => x1 + q) kI_1) (by decide) rfl ?_
    refine r_goto (tgt := 2) dX3_keepHands_19 (by decide) ?_
    exact (K2 c1)
theorem t_X3_keepHands_33 {x1 : Int32} {x2 : Int32} {x3 : Int32} 
    (g1 : (¬ ((gI M 17 5) ≤ x3)) → (¬ (x3 ≤ 0)) → g_X3_swapsFor M x1 x3 x2)
    (g2 : (¬ ((gI M 17 5) ≤ x3)) → vp_in x3 160)
    (g3 : (¬ ((gI M 17 5) ≤ x3)) → vp_in (gI M 19 x3.toNatClampNeg) 160)
    (K1 : ((gI M 17 5) ≤ x3) → Q (.returned none) M)
    (K2 : (¬ ((gI M 17 5) ≤ x3)) → Fw l D ad kA mX3_keepHands 33 [some (.ref (ad 17)), some (.int (if x3 ≤ 0 then x1 else if (v_X3_swapsFor M x1 x3 x2) = 0 then x1 else 1 - x1)), some (.int (if x3 ≤ 0 then x2 else if (v_X3_swapsFor M x1 x3 x2) = 0 then x2 else x3)), some (.int (x3 + 1))] [] (sI M 18 (gI M 19 x3.toNatClampNeg).toNatClampNeg (if x3 ≤ 0 then x1 else if (v_X3_swapsFor M x1 x3 x2) = 0 then x1 else 1 - x1)) Q) : Fw l D ad kA mX3_keepHands 33 [some (.ref (ad 17)), some (.int x1), some (.int x2), some (.int x3)] [] M Q := by
  refine r_iload_n dX3_keepHands_33 rfl ?_
  refine r_aload_n dX3_keepHands_34 rfl ?_
  refine r_getI dX3_keepHands_35 fs_17_5 fk_X3_52 ?_
  refine r_icmp_ge (tgt := 79) dX3_keepHands_38 (by decide) (fun c1 => ?_) (fun c1 => ?_)
  · skip
    exact r_vret dX3_keepHands_79 rfl (K1 c1)
  · skip
    refine r_iload_n dX3_keepHands_41 rfl ?_
    suffices hJ1 : Fw l D ad kA mX3_keepHands 61 [some (.ref (ad 17)), some (.int (if x3 ≤ 0 then x1 else if (v_X3_swapsFor M x1 x3 x2) = 0 then x1 else 1 - x1)), some (.int (if x3 ≤ 0 then x2 else if (v_X3_swapsFor M x1 x3 x2) = 0 then x2 else x3)), some (.int x3)] [] M Q by
      refine r_if_le (tgt := 61) dX3_keepHands_42 (by decide) (fun c2 => ?_) (fun c2 => ?_)
      · skip
        exact q_weak (lo' := [some (.ref (ad 17)), some (.int x1), some (.int x2), some (.int x3)]) ⟨rfl, rfl, rfl, rfl, trivial⟩ (by have h9 := hJ1; simp only [if_pos c2] at h9; first | exact h9 | (simp only [if_pos c2]; exact h9))
      · skip
        refine r_aload_n dX3_keepHands_45 rfl ?_
        refine r_iload_n dX3_keepHands_46 rfl ?_
        refine r_iload_n dX3_keepHands_47 rfl ?_
        refine r_iload_n dX3_keepHands_48 rfl ?_
        refine r_callV (x := 17) (As := [.int x1, .int x3, .int x2]) (rest := []) dX3_keepHands_49 mk_X3_137 mv_X3_swapsFor rm_X3_keepHands_X3_swapsFor rfl rfl (by decide +kernel) (Nat.le_of_ble_eq_true rfl) (ct_X3_swapsFor (g1 c1 c2) (⟨_, rfl, ?_⟩))
        refine r_if_eq (tgt := 61) dX3_keepHands_52 (by decide) (fun c3 => ?_) (fun c3 => ?_)
        · skip
          exact q_weak (lo' := [some (.ref (ad 17)), some (.int x1), some (.int x2), some (.int x3)]) ⟨rfl, rfl, rfl, rfl, trivial⟩ (by have h9 := hJ1; simp only [if_neg c2, if_pos c3] at h9; first | exact h9 | (simp only [if_neg c2, if_pos c3]; exact h9))
        · skip
          refine r_iconst (v := 1) dX3_keepHands_55 kI_1 ?_
          refine r_iload_n dX3_keepHands_56 rfl ?_
          refine r_isub dX3_keepHands_57 ?_
          refine q_istore_n (lo' := [some (.ref (ad 17)), some (.int (1 - x1)), some (.int x2), some (.int x3)]) dX3_keepHands_58 (by decide) rfl ?_
          refine r_iload_n dX3_keepHands_59 rfl ?_
          refine q_istore_n (lo' := [some (.ref (ad 17)), some (.int (1 - x1)), some (.int x3), some (.int x3)]) dX3_keepHands_60 (by decide) rfl ?_
          exact q_weak (lo' := [some (.ref (ad 17)), some (.int (1 - x1)), some (.int x3), some (.int x3)]) ⟨rfl, rfl, rfl, rfl, trivial⟩ (by have h9 := hJ1; simp only [if_neg c2, if_neg c3] at h9; first | exact h9 | (simp only [if_neg c2, if_neg c3]; exact h9))
    refine r_aload_n dX3_keepHands_61 rfl ?_
    refine r_getR dX3_keepHands_62 fs_17_2 fk_X3_9 ?_
    refine r_aload_n dX3_keepHands_65 rfl ?_
    refine r_getR dX3_keepHands_66 fs_17_4 fk_X3_15 ?_
    refine r_iload_n dX3_keepHands_69 rfl ?_
    refine r_iald dX3_keepHands_70 as_19 (g2 c1) ?_
    refine r_iload_n dX3_keepHands_71 rfl ?_
    refine r_iast dX3_keepHands_72 as_18 (g3 c1) ?_
    refine q_iinc (v := x3 + 1) (lo' := [some (.ref (ad 17)), some (.int (if x3 ≤ 0 then x1 else if (v_X3_swapsFor M x1 x3 x2) = 0 then x1 else 1 - x1)), some (.int (if x3 ≤ 0 then x2 else if (v_X3_swapsFor M x1 x3 x2) = 0 then x2 else x3)), some (.int (x3 + 1))]) dX3_keepHands_73 rfl (congrArg (fun q => x3 + q) kI_1) (by decide) rfl ?_
    refine r_goto (tgt := 33) dX3_keepHands_76 (by decide) ?_
    exact (K2 c1)
theorem en_X3_keepHands  (K : Fw l D ad kA mX3_keepHands 0 [some (.ref (ad 17)), none, none, none] [] M Q) : Cal l D ad kA mX3_keepHands [.ref (ad 17)] M Q := Cal.of (by decide) rfl rfl (Nat.le_of_ble_eq_true rfl) K
end W_hands
