/-! Bits, Listening: decode rows, links, walks from cut to cut (printed by wip/gen) -/
theorem dX1_put_0 : decode cX1_put 0 = .ok (.iload_n 1, 1) := by decide +kernel
theorem dX1_put_1 : decode cX1_put 1 = .ok (.iconst 3, 1) := by decide +kernel
theorem dX1_put_2 : decode cX1_put 2 = .ok (.imul, 1) := by decide +kernel
theorem dX1_put_3 : decode cX1_put 3 = .ok (.iload_n 2, 1) := by decide +kernel
theorem dX1_put_4 : decode cX1_put 4 = .ok (.bipush 6, 2) := by decide +kernel
theorem dX1_put_6 : decode cX1_put 6 = .ok (.ishr, 1) := by decide +kernel
theorem dX1_put_7 : decode cX1_put 7 = .ok (.iadd, 1) := by decide +kernel
theorem dX1_put_8 : decode cX1_put 8 = .ok (.istore 4, 2) := by decide +kernel
theorem dX1_put_10 : decode cX1_put 10 = .ok (.iload 4, 2) := by decide +kernel
theorem dX1_put_12 : decode cX1_put 12 = .ok (.ifCond .lt 13, 3) := by decide +kernel
theorem dX1_put_15 : decode cX1_put 15 = .ok (.iload 4, 2) := by decide +kernel
theorem dX1_put_17 : decode cX1_put 17 = .ok (.aload_n 0, 1) := by decide +kernel
theorem dX1_put_18 : decode cX1_put 18 = .ok (.getfield 11, 3) := by decide +kernel
theorem dX1_put_21 : decode cX1_put 21 = .ok (.arraylength, 1) := by decide +kernel
theorem dX1_put_22 : decode cX1_put 22 = .ok (.if_icmp .lt 4, 3) := by decide +kernel
theorem dX1_put_25 : decode cX1_put 25 = .ok (.return_, 1) := by decide +kernel
theorem dX1_put_26 : decode cX1_put 26 = .ok (.lconst 1, 1) := by decide +kernel
theorem dX1_put_27 : decode cX1_put 27 = .ok (.iload_n 2, 1) := by decide +kernel
theorem dX1_put_28 : decode cX1_put 28 = .ok (.bipush 63, 2) := by decide +kernel
theorem dX1_put_30 : decode cX1_put 30 = .ok (.iand, 1) := by decide +kernel
theorem dX1_put_31 : decode cX1_put 31 = .ok (.lshl, 1) := by decide +kernel
theorem dX1_put_32 : decode cX1_put 32 = .ok (.lstore 5, 2) := by decide +kernel
theorem dX1_put_34 : decode cX1_put 34 = .ok (.aload_n 0, 1) := by decide +kernel
theorem dX1_put_35 : decode cX1_put 35 = .ok (.getfield 11, 3) := by decide +kernel
theorem dX1_put_38 : decode cX1_put 38 = .ok (.iload 4, 2) := by decide +kernel
theorem dX1_put_40 : decode cX1_put 40 = .ok (.iload_n 3, 1) := by decide +kernel
theorem dX1_put_41 : decode cX1_put 41 = .ok (.ifCond .eq 16, 3) := by decide +kernel
theorem dX1_put_44 : decode cX1_put 44 = .ok (.aload_n 0, 1) := by decide +kernel
theorem dX1_put_45 : decode cX1_put 45 = .ok (.getfield 11, 3) := by decide +kernel
theorem dX1_put_48 : decode cX1_put 48 = .ok (.iload 4, 2) := by decide +kernel
theorem dX1_put_50 : decode cX1_put 50 = .ok (.laload, 1) := by decide +kernel
theorem dX1_put_51 : decode cX1_put 51 = .ok (.lload 5, 2) := by decide +kernel
theorem dX1_put_53 : decode cX1_put 53 = .ok (.lor, 1) := by decide +kernel
theorem dX1_put_54 : decode cX1_put 54 = .ok (.goto 17, 3) := by decide +kernel
theorem dX1_put_57 : decode cX1_put 57 = .ok (.aload_n 0, 1) := by decide +kernel
theorem dX1_put_58 : decode cX1_put 58 = .ok (.getfield 11, 3) := by decide +kernel
theorem dX1_put_61 : decode cX1_put 61 = .ok (.iload 4, 2) := by decide +kernel
theorem dX1_put_63 : decode cX1_put 63 = .ok (.laload, 1) := by decide +kernel
theorem dX1_put_64 : decode cX1_put 64 = .ok (.lload 5, 2) := by decide +kernel
theorem dX1_put_66 : decode cX1_put 66 = .ok (.ldc2_w 15, 3) := by decide +kernel
theorem dX1_put_69 : decode cX1_put 69 = .ok (.lxor, 1) := by decide +kernel
theorem dX1_put_70 : decode cX1_put 70 = .ok (.land, 1) := by decide +kernel
theorem dX1_put_71 : decode cX1_put 71 = .ok (.lastore, 1) := by decide +kernel
theorem dX1_put_72 : decode cX1_put 72 = .ok (.return_, 1) := by decide +kernel
theorem dX1_has_0 : decode cX1_has 0 = .ok (.iload_n 1, 1) := by decide +kernel
theorem dX1_has_1 : decode cX1_has 1 = .ok (.iconst 3, 1) := by decide +kernel
theorem dX1_has_2 : decode cX1_has 2 = .ok (.imul, 1) := by decide +kernel
theorem dX1_has_3 : decode cX1_has 3 = .ok (.iload_n 2, 1) := by decide +kernel
theorem dX1_has_4 : decode cX1_has 4 = .ok (.bipush 6, 2) := by decide +kernel
theorem dX1_has_6 : decode cX1_has 6 = .ok (.ishr, 1) := by decide +kernel
theorem dX1_has_7 : decode cX1_has 7 = .ok (.iadd, 1) := by decide +kernel
theorem dX1_has_8 : decode cX1_has 8 = .ok (.istore_n 3, 1) := by decide +kernel
theorem dX1_has_9 : decode cX1_has 9 = .ok (.iload_n 3, 1) := by decide +kernel
theorem dX1_has_10 : decode cX1_has 10 = .ok (.ifCond .lt 34, 3) := by decide +kernel
theorem dX1_has_13 : decode cX1_has 13 = .ok (.iload_n 3, 1) := by decide +kernel
theorem dX1_has_14 : decode cX1_has 14 = .ok (.aload_n 0, 1) := by decide +kernel
theorem dX1_has_15 : decode cX1_has 15 = .ok (.getfield 11, 3) := by decide +kernel
theorem dX1_has_18 : decode cX1_has 18 = .ok (.arraylength, 1) := by decide +kernel
theorem dX1_has_19 : decode cX1_has 19 = .ok (.if_icmp .ge 25, 3) := by decide +kernel
theorem dX1_has_22 : decode cX1_has 22 = .ok (.aload_n 0, 1) := by decide +kernel
theorem dX1_has_23 : decode cX1_has 23 = .ok (.getfield 11, 3) := by decide +kernel
theorem dX1_has_26 : decode cX1_has 26 = .ok (.iload_n 3, 1) := by decide +kernel
theorem dX1_has_27 : decode cX1_has 27 = .ok (.laload, 1) := by decide +kernel
theorem dX1_has_28 : decode cX1_has 28 = .ok (.iload_n 2, 1) := by decide +kernel
theorem dX1_has_29 : decode cX1_has 29 = .ok (.bipush 63, 2) := by decide +kernel
theorem dX1_has_31 : decode cX1_has 31 = .ok (.iand, 1) := by decide +kernel
theorem dX1_has_32 : decode cX1_has 32 = .ok (.lushr, 1) := by decide +kernel
theorem dX1_has_33 : decode cX1_has 33 = .ok (.lconst 1, 1) := by decide +kernel
theorem dX1_has_34 : decode cX1_has 34 = .ok (.land, 1) := by decide +kernel
theorem dX1_has_35 : decode cX1_has 35 = .ok (.lconst 0, 1) := by decide +kernel
theorem dX1_has_36 : decode cX1_has 36 = .ok (.lcmp, 1) := by decide +kernel
theorem dX1_has_37 : decode cX1_has 37 = .ok (.ifCond .eq 7, 3) := by decide +kernel
theorem dX1_has_40 : decode cX1_has 40 = .ok (.iconst 1, 1) := by decide +kernel
theorem dX1_has_41 : decode cX1_has 41 = .ok (.goto 4, 3) := by decide +kernel
theorem dX1_has_44 : decode cX1_has 44 = .ok (.iconst 0, 1) := by decide +kernel
theorem dX1_has_45 : decode cX1_has 45 = .ok (.ireturn, 1) := by decide +kernel
theorem dX5_forget_0 : decode cX5_forget 0 = .ok (.aload_n 0, 1) := by decide +kernel
theorem dX5_forget_1 : decode cX5_forget 1 = .ok (.iconst 0, 1) := by decide +kernel
theorem dX5_forget_2 : decode cX5_forget 2 = .ok (.putfield 38, 3) := by decide +kernel
theorem dX5_forget_5 : decode cX5_forget 5 = .ok (.return_, 1) := by decide +kernel
theorem dX5_pairPoints_0 : decode cX5_pairPoints 0 = .ok (.aload_n 2, 1) := by decide +kernel
theorem dX5_pairPoints_1 : decode cX5_pairPoints 1 = .ok (.getfield 70, 3) := by decide +kernel
theorem dX5_pairPoints_4 : decode cX5_pairPoints 4 = .ok (.iload_n 3, 1) := by decide +kernel
theorem dX5_pairPoints_5 : decode cX5_pairPoints 5 = .ok (.iaload, 1) := by decide +kernel
theorem dX5_pairPoints_6 : decode cX5_pairPoints 6 = .ok (.aload_n 0, 1) := by decide +kernel
theorem dX5_pairPoints_7 : decode cX5_pairPoints 7 = .ok (.getfield 34, 3) := by decide +kernel
theorem dX5_pairPoints_10 : decode cX5_pairPoints 10 = .ok (.getfield 70, 3) := by decide +kernel
theorem dX5_pairPoints_13 : decode cX5_pairPoints 13 = .ok (.iload_n 1, 1) := by decide +kernel
theorem dX5_pairPoints_14 : decode cX5_pairPoints 14 = .ok (.iaload, 1) := by decide +kernel
theorem dX5_pairPoints_15 : decode cX5_pairPoints 15 = .ok (.isub, 1) := by decide +kernel
theorem dX5_pairPoints_16 : decode cX5_pairPoints 16 = .ok (.invokestatic 73, 3) := by decide +kernel
theorem dX5_pairPoints_19 : decode cX5_pairPoints 19 = .ok (.istore 4, 2) := by decide +kernel
theorem dX5_pairPoints_21 : decode cX5_pairPoints 21 = .ok (.aload_n 2, 1) := by decide +kernel
theorem dX5_pairPoints_22 : decode cX5_pairPoints 22 = .ok (.getfield 77, 3) := by decide +kernel
theorem dX5_pairPoints_25 : decode cX5_pairPoints 25 = .ok (.iload_n 3, 1) := by decide +kernel
theorem dX5_pairPoints_26 : decode cX5_pairPoints 26 = .ok (.iaload, 1) := by decide +kernel
theorem dX5_pairPoints_27 : decode cX5_pairPoints 27 = .ok (.aload_n 0, 1) := by decide +kernel
theorem dX5_pairPoints_28 : decode cX5_pairPoints 28 = .ok (.getfield 34, 3) := by decide +kernel
theorem dX5_pairPoints_31 : decode cX5_pairPoints 31 = .ok (.getfield 77, 3) := by decide +kernel
theorem dX5_pairPoints_34 : decode cX5_pairPoints 34 = .ok (.iload_n 1, 1) := by decide +kernel
theorem dX5_pairPoints_35 : decode cX5_pairPoints 35 = .ok (.iaload, 1) := by decide +kernel
theorem dX5_pairPoints_36 : decode cX5_pairPoints 36 = .ok (.if_icmp .ne 17, 3) := by decide +kernel
theorem dX5_pairPoints_39 : decode cX5_pairPoints 39 = .ok (.iload 4, 2) := by decide +kernel
theorem dX5_pairPoints_41 : decode cX5_pairPoints 41 = .ok (.iconst 2, 1) := by decide +kernel
theorem dX5_pairPoints_42 : decode cX5_pairPoints 42 = .ok (.if_icmp .gt 8, 3) := by decide +kernel
theorem dX5_pairPoints_45 : decode cX5_pairPoints 45 = .ok (.iload 4, 2) := by decide +kernel
theorem dX5_pairPoints_47 : decode cX5_pairPoints 47 = .ok (.goto 5, 3) := by decide +kernel
theorem dX5_pairPoints_50 : decode cX5_pairPoints 50 = .ok (.ldc 55, 2) := by decide +kernel
theorem dX5_pairPoints_52 : decode cX5_pairPoints 52 = .ok (.ireturn, 1) := by decide +kernel
theorem dX5_pairPoints_53 : decode cX5_pairPoints 53 = .ok (.iload 4, 2) := by decide +kernel
theorem dX5_pairPoints_55 : decode cX5_pairPoints 55 = .ok (.ifCond .ne 7, 3) := by decide +kernel
theorem dX5_pairPoints_58 : decode cX5_pairPoints 58 = .ok (.iconst 2, 1) := by decide +kernel
theorem dX5_pairPoints_59 : decode cX5_pairPoints 59 = .ok (.goto 5, 3) := by decide +kernel
theorem dX5_pairPoints_62 : decode cX5_pairPoints 62 = .ok (.ldc 55, 2) := by decide +kernel
theorem dX5_pairPoints_64 : decode cX5_pairPoints 64 = .ok (.ireturn, 1) := by decide +kernel
theorem dX5_weigh_0 : decode cX5_weigh 0 = .ok (.aload_n 0, 1) := by decide +kernel
theorem dX5_weigh_1 : decode cX5_weigh 1 = .ok (.getfield 34, 3) := by decide +kernel
theorem dX5_weigh_4 : decode cX5_weigh 4 = .ok (.getfield 49, 3) := by decide +kernel
theorem dX5_weigh_7 : decode cX5_weigh 7 = .ok (.istore_n 2, 1) := by decide +kernel
theorem dX5_weigh_8 : decode cX5_weigh 8 = .ok (.iload_n 2, 1) := by decide +kernel
theorem dX5_weigh_9 : decode cX5_weigh 9 = .ok (.ifCond .lt 243, 3) := by decide +kernel
theorem dX5_weigh_12 : decode cX5_weigh 12 = .ok (.ldc 55, 2) := by decide +kernel
theorem dX5_weigh_14 : decode cX5_weigh 14 = .ok (.istore_n 3, 1) := by decide +kernel
theorem dX5_weigh_15 : decode cX5_weigh 15 = .ok (.aload_n 1, 1) := by decide +kernel
theorem dX5_weigh_16 : decode cX5_weigh 16 = .ok (.getfield 49, 3) := by decide +kernel
theorem dX5_weigh_19 : decode cX5_weigh 19 = .ok (.istore 4, 2) := by decide +kernel
theorem dX5_weigh_21 : decode cX5_weigh 21 = .ok (.iload 4, 2) := by decide +kernel
theorem dX5_weigh_23 : decode cX5_weigh 23 = .ok (.ifCond .lt 223, 3) := by decide +kernel
theorem dX5_weigh_26 : decode cX5_weigh 26 = .ok (.iload_n 2, 1) := by decide +kernel
theorem dX5_weigh_27 : decode cX5_weigh 27 = .ok (.aload_n 0, 1) := by decide +kernel
theorem dX5_weigh_28 : decode cX5_weigh 28 = .ok (.getfield 34, 3) := by decide +kernel
theorem dX5_weigh_31 : decode cX5_weigh 31 = .ok (.getfield 49, 3) := by decide +kernel
theorem dX5_weigh_34 : decode cX5_weigh 34 = .ok (.if_icmp .ge 13, 3) := by decide +kernel
theorem dX5_weigh_37 : decode cX5_weigh 37 = .ok (.aload_n 0, 1) := by decide +kernel
theorem dX5_weigh_38 : decode cX5_weigh 38 = .ok (.getfield 21, 3) := by decide +kernel
theorem dX5_weigh_41 : decode cX5_weigh 41 = .ok (.iload 4, 2) := by decide +kernel
theorem dX5_weigh_43 : decode cX5_weigh 43 = .ok (.iaload, 1) := by decide +kernel
theorem dX5_weigh_44 : decode cX5_weigh 44 = .ok (.goto 5, 3) := by decide +kernel
theorem dX5_weigh_47 : decode cX5_weigh 47 = .ok (.ldc 55, 2) := by decide +kernel
theorem dX5_weigh_49 : decode cX5_weigh 49 = .ok (.istore 5, 2) := by decide +kernel
theorem dX5_weigh_51 : decode cX5_weigh 51 = .ok (.iload 4, 2) := by decide +kernel
theorem dX5_weigh_53 : decode cX5_weigh 53 = .ok (.aload_n 1, 1) := by decide +kernel
theorem dX5_weigh_54 : decode cX5_weigh 54 = .ok (.getfield 49, 3) := by decide +kernel
theorem dX5_weigh_57 : decode cX5_weigh 57 = .ok (.if_icmp .ge 15, 3) := by decide +kernel
theorem dX5_weigh_60 : decode cX5_weigh 60 = .ok (.aload_n 0, 1) := by decide +kernel
theorem dX5_weigh_61 : decode cX5_weigh 61 = .ok (.getfield 21, 3) := by decide +kernel
theorem dX5_weigh_64 : decode cX5_weigh 64 = .ok (.iload 4, 2) := by decide +kernel
theorem dX5_weigh_66 : decode cX5_weigh 66 = .ok (.iconst 1, 1) := by decide +kernel
theorem dX5_weigh_67 : decode cX5_weigh 67 = .ok (.iadd, 1) := by decide +kernel
theorem dX5_weigh_68 : decode cX5_weigh 68 = .ok (.iaload, 1) := by decide +kernel
theorem dX5_weigh_69 : decode cX5_weigh 69 = .ok (.goto 5, 3) := by decide +kernel
theorem dX5_weigh_72 : decode cX5_weigh 72 = .ok (.ldc 55, 2) := by decide +kernel
theorem dX5_weigh_74 : decode cX5_weigh 74 = .ok (.istore 6, 2) := by decide +kernel
theorem dX5_weigh_76 : decode cX5_weigh 76 = .ok (.iload_n 2, 1) := by decide +kernel
theorem dX5_weigh_77 : decode cX5_weigh 77 = .ok (.aload_n 0, 1) := by decide +kernel
theorem dX5_weigh_78 : decode cX5_weigh 78 = .ok (.getfield 34, 3) := by decide +kernel
theorem dX5_weigh_81 : decode cX5_weigh 81 = .ok (.getfield 49, 3) := by decide +kernel
theorem dX5_weigh_84 : decode cX5_weigh 84 = .ok (.if_icmp .ge 16, 3) := by decide +kernel
theorem dX5_weigh_87 : decode cX5_weigh 87 = .ok (.iload 4, 2) := by decide +kernel
theorem dX5_weigh_89 : decode cX5_weigh 89 = .ok (.aload_n 1, 1) := by decide +kernel
theorem dX5_weigh_90 : decode cX5_weigh 90 = .ok (.getfield 49, 3) := by decide +kernel
theorem dX5_weigh_93 : decode cX5_weigh 93 = .ok (.if_icmp .ge 7, 3) := by decide +kernel
theorem dX5_weigh_96 : decode cX5_weigh 96 = .ok (.iconst 1, 1) := by decide +kernel
theorem dX5_weigh_97 : decode cX5_weigh 97 = .ok (.goto 4, 3) := by decide +kernel
theorem dX5_weigh_100 : decode cX5_weigh 100 = .ok (.iconst 0, 1) := by decide +kernel
theorem dX5_weigh_101 : decode cX5_weigh 101 = .ok (.istore 7, 2) := by decide +kernel
theorem dX5_weigh_103 : decode cX5_weigh 103 = .ok (.iload 7, 2) := by decide +kernel
theorem dX5_weigh_105 : decode cX5_weigh 105 = .ok (.ifCond .eq 16, 3) := by decide +kernel
theorem dX5_weigh_108 : decode cX5_weigh 108 = .ok (.iload_n 3, 1) := by decide +kernel
theorem dX5_weigh_109 : decode cX5_weigh 109 = .ok (.aload_n 0, 1) := by decide +kernel
theorem dX5_weigh_110 : decode cX5_weigh 110 = .ok (.iload_n 2, 1) := by decide +kernel
theorem dX5_weigh_111 : decode cX5_weigh 111 = .ok (.aload_n 1, 1) := by decide +kernel
theorem dX5_weigh_112 : decode cX5_weigh 112 = .ok (.iload 4, 2) := by decide +kernel
theorem dX5_weigh_114 : decode cX5_weigh 114 = .ok (.invokevirtual 56, 3) := by decide +kernel
theorem dX5_weigh_117 : decode cX5_weigh 117 = .ok (.iadd, 1) := by decide +kernel
theorem dX5_weigh_118 : decode cX5_weigh 118 = .ok (.goto 5, 3) := by decide +kernel
theorem dX5_weigh_121 : decode cX5_weigh 121 = .ok (.ldc 55, 2) := by decide +kernel
theorem dX5_weigh_123 : decode cX5_weigh 123 = .ok (.istore 8, 2) := by decide +kernel
theorem dX5_weigh_125 : decode cX5_weigh 125 = .ok (.iload 8, 2) := by decide +kernel
theorem dX5_weigh_127 : decode cX5_weigh 127 = .ok (.iconst 3, 1) := by decide +kernel
theorem dX5_weigh_128 : decode cX5_weigh 128 = .ok (.iload 5, 2) := by decide +kernel
theorem dX5_weigh_130 : decode cX5_weigh 130 = .ok (.iload 6, 2) := by decide +kernel
theorem dX5_weigh_132 : decode cX5_weigh 132 = .ok (.invokestatic 60, 3) := by decide +kernel
theorem dX5_weigh_135 : decode cX5_weigh 135 = .ok (.iadd, 1) := by decide +kernel
theorem dX5_weigh_136 : decode cX5_weigh 136 = .ok (.invokestatic 60, 3) := by decide +kernel
theorem dX5_weigh_139 : decode cX5_weigh 139 = .ok (.istore 9, 2) := by decide +kernel
theorem dX5_weigh_141 : decode cX5_weigh 141 = .ok (.iload_n 2, 1) := by decide +kernel
theorem dX5_weigh_142 : decode cX5_weigh 142 = .ok (.aload_n 0, 1) := by decide +kernel
theorem dX5_weigh_143 : decode cX5_weigh 143 = .ok (.getfield 34, 3) := by decide +kernel
theorem dX5_weigh_146 : decode cX5_weigh 146 = .ok (.getfield 49, 3) := by decide +kernel
theorem dX5_weigh_149 : decode cX5_weigh 149 = .ok (.if_icmp .ne 16, 3) := by decide +kernel
theorem dX5_weigh_152 : decode cX5_weigh 152 = .ok (.iload 4, 2) := by decide +kernel
theorem dX5_weigh_154 : decode cX5_weigh 154 = .ok (.aload_n 1, 1) := by decide +kernel
theorem dX5_weigh_155 : decode cX5_weigh 155 = .ok (.getfield 49, 3) := by decide +kernel
theorem dX5_weigh_158 : decode cX5_weigh 158 = .ok (.if_icmp .ne 7, 3) := by decide +kernel
theorem dX5_weigh_161 : decode cX5_weigh 161 = .ok (.iconst 1, 1) := by decide +kernel
theorem dX5_weigh_162 : decode cX5_weigh 162 = .ok (.goto 4, 3) := by decide +kernel
theorem dX5_weigh_165 : decode cX5_weigh 165 = .ok (.iconst 0, 1) := by decide +kernel
theorem dX5_weigh_166 : decode cX5_weigh 166 = .ok (.istore 10, 2) := by decide +kernel
theorem dX5_weigh_168 : decode cX5_weigh 168 = .ok (.aload_n 0, 1) := by decide +kernel
theorem dX5_weigh_169 : decode cX5_weigh 169 = .ok (.getfield 27, 3) := by decide +kernel
theorem dX5_weigh_172 : decode cX5_weigh 172 = .ok (.iload_n 2, 1) := by decide +kernel
theorem dX5_weigh_173 : decode cX5_weigh 173 = .ok (.iload 4, 2) := by decide +kernel
theorem dX5_weigh_175 : decode cX5_weigh 175 = .ok (.iload 8, 2) := by decide +kernel
theorem dX5_weigh_177 : decode cX5_weigh 177 = .ok (.iload 9, 2) := by decide +kernel
theorem dX5_weigh_179 : decode cX5_weigh 179 = .ok (.if_icmp .ne 7, 3) := by decide +kernel
theorem dX5_weigh_182 : decode cX5_weigh 182 = .ok (.iconst 1, 1) := by decide +kernel
theorem dX5_weigh_183 : decode cX5_weigh 183 = .ok (.goto 4, 3) := by decide +kernel
theorem dX5_weigh_186 : decode cX5_weigh 186 = .ok (.iconst 0, 1) := by decide +kernel
theorem dX5_weigh_187 : decode cX5_weigh 187 = .ok (.invokevirtual 66, 3) := by decide +kernel
theorem dX5_weigh_190 : decode cX5_weigh 190 = .ok (.aload_n 0, 1) := by decide +kernel
theorem dX5_weigh_191 : decode cX5_weigh 191 = .ok (.getfield 31, 3) := by decide +kernel
theorem dX5_weigh_194 : decode cX5_weigh 194 = .ok (.iload_n 2, 1) := by decide +kernel
theorem dX5_weigh_195 : decode cX5_weigh 195 = .ok (.iload 4, 2) := by decide +kernel
theorem dX5_weigh_197 : decode cX5_weigh 197 = .ok (.iload 5, 2) := by decide +kernel
theorem dX5_weigh_199 : decode cX5_weigh 199 = .ok (.iconst 3, 1) := by decide +kernel
theorem dX5_weigh_200 : decode cX5_weigh 200 = .ok (.iadd, 1) := by decide +kernel
theorem dX5_weigh_201 : decode cX5_weigh 201 = .ok (.iload 9, 2) := by decide +kernel
theorem dX5_weigh_203 : decode cX5_weigh 203 = .ok (.if_icmp .ne 7, 3) := by decide +kernel
theorem dX5_weigh_206 : decode cX5_weigh 206 = .ok (.iconst 1, 1) := by decide +kernel
theorem dX5_weigh_207 : decode cX5_weigh 207 = .ok (.goto 4, 3) := by decide +kernel
theorem dX5_weigh_210 : decode cX5_weigh 210 = .ok (.iconst 0, 1) := by decide +kernel
theorem dX5_weigh_211 : decode cX5_weigh 211 = .ok (.invokevirtual 66, 3) := by decide +kernel
theorem dX5_weigh_214 : decode cX5_weigh 214 = .ok (.aload_n 0, 1) := by decide +kernel
theorem dX5_weigh_215 : decode cX5_weigh 215 = .ok (.getfield 21, 3) := by decide +kernel
theorem dX5_weigh_218 : decode cX5_weigh 218 = .ok (.iload 4, 2) := by decide +kernel
theorem dX5_weigh_220 : decode cX5_weigh 220 = .ok (.iaload, 1) := by decide +kernel
theorem dX5_weigh_221 : decode cX5_weigh 221 = .ok (.istore_n 3, 1) := by decide +kernel
theorem dX5_weigh_222 : decode cX5_weigh 222 = .ok (.aload_n 0, 1) := by decide +kernel
theorem dX5_weigh_223 : decode cX5_weigh 223 = .ok (.getfield 21, 3) := by decide +kernel
theorem dX5_weigh_226 : decode cX5_weigh 226 = .ok (.iload 4, 2) := by decide +kernel
theorem dX5_weigh_228 : decode cX5_weigh 228 = .ok (.iload 10, 2) := by decide +kernel
theorem dX5_weigh_230 : decode cX5_weigh 230 = .ok (.ifCond .eq 7, 3) := by decide +kernel
theorem dX5_weigh_233 : decode cX5_weigh 233 = .ok (.iconst 0, 1) := by decide +kernel
theorem dX5_weigh_234 : decode cX5_weigh 234 = .ok (.goto 5, 3) := by decide +kernel
theorem dX5_weigh_237 : decode cX5_weigh 237 = .ok (.iload 9, 2) := by decide +kernel
theorem dX5_weigh_239 : decode cX5_weigh 239 = .ok (.iastore, 1) := by decide +kernel
theorem dX5_weigh_240 : decode cX5_weigh 240 = .ok (.iinc 4 (-1), 3) := by decide +kernel
theorem dX5_weigh_243 : decode cX5_weigh 243 = .ok (.goto (-222), 3) := by decide +kernel
theorem dX5_weigh_246 : decode cX5_weigh 246 = .ok (.iinc 2 (-1), 3) := by decide +kernel
theorem dX5_weigh_249 : decode cX5_weigh 249 = .ok (.goto (-241), 3) := by decide +kernel
theorem dX5_weigh_252 : decode cX5_weigh 252 = .ok (.return_, 1) := by decide +kernel
theorem dX5_walk_0 : decode cX5_walk 0 = .ok (.iconst 0, 1) := by decide +kernel
theorem dX5_walk_1 : decode cX5_walk 1 = .ok (.istore_n 2, 1) := by decide +kernel
theorem dX5_walk_2 : decode cX5_walk 2 = .ok (.iload_n 2, 1) := by decide +kernel
theorem dX5_walk_3 : decode cX5_walk 3 = .ok (.bipush 48, 2) := by decide +kernel
theorem dX5_walk_5 : decode cX5_walk 5 = .ok (.if_icmp .ge 16, 3) := by decide +kernel
theorem dX5_walk_8 : decode cX5_walk 8 = .ok (.aload_n 0, 1) := by decide +kernel
theorem dX5_walk_9 : decode cX5_walk 9 = .ok (.getfield 18, 3) := by decide +kernel
theorem dX5_walk_12 : decode cX5_walk 12 = .ok (.iload_n 2, 1) := by decide +kernel
theorem dX5_walk_13 : decode cX5_walk 13 = .ok (.iconst 0, 1) := by decide +kernel
theorem dX5_walk_14 : decode cX5_walk 14 = .ok (.iastore, 1) := by decide +kernel
theorem dX5_walk_15 : decode cX5_walk 15 = .ok (.iinc 2 1, 3) := by decide +kernel
theorem dX5_walk_18 : decode cX5_walk 18 = .ok (.goto (-16), 3) := by decide +kernel
theorem dX5_walk_21 : decode cX5_walk 21 = .ok (.aload_n 0, 1) := by decide +kernel
theorem dX5_walk_22 : decode cX5_walk 22 = .ok (.iconst 0, 1) := by decide +kernel
theorem dX5_walk_23 : decode cX5_walk 23 = .ok (.putfield 80, 3) := by decide +kernel
theorem dX5_walk_26 : decode cX5_walk 26 = .ok (.iconst 0, 1) := by decide +kernel
theorem dX5_walk_27 : decode cX5_walk 27 = .ok (.istore_n 2, 1) := by decide +kernel
theorem dX5_walk_28 : decode cX5_walk 28 = .ok (.iconst 0, 1) := by decide +kernel
theorem dX5_walk_29 : decode cX5_walk 29 = .ok (.istore_n 3, 1) := by decide +kernel
theorem dX5_walk_30 : decode cX5_walk 30 = .ok (.iconst 0, 1) := by decide +kernel
theorem dX5_walk_31 : decode cX5_walk 31 = .ok (.istore 4, 2) := by decide +kernel
theorem dX5_walk_33 : decode cX5_walk 33 = .ok (.iload 4, 2) := by decide +kernel
theorem dX5_walk_35 : decode cX5_walk 35 = .ok (.sipush 320, 3) := by decide +kernel
theorem dX5_walk_38 : decode cX5_walk 38 = .ok (.if_icmp .ge 196, 3) := by decide +kernel
theorem dX5_walk_41 : decode cX5_walk 41 = .ok (.iload_n 2, 1) := by decide +kernel
theorem dX5_walk_42 : decode cX5_walk 42 = .ok (.aload_n 0, 1) := by decide +kernel
theorem dX5_walk_43 : decode cX5_walk 43 = .ok (.getfield 34, 3) := by decide +kernel
theorem dX5_walk_46 : decode cX5_walk 46 = .ok (.getfield 49, 3) := by decide +kernel
theorem dX5_walk_49 : decode cX5_walk 49 = .ok (.if_icmp .lt 11, 3) := by decide +kernel
theorem dX5_walk_52 : decode cX5_walk 52 = .ok (.iload_n 3, 1) := by decide +kernel
theorem dX5_walk_53 : decode cX5_walk 53 = .ok (.aload_n 1, 1) := by decide +kernel
theorem dX5_walk_54 : decode cX5_walk 54 = .ok (.getfield 49, 3) := by decide +kernel
theorem dX5_walk_57 : decode cX5_walk 57 = .ok (.if_icmp .ge 177, 3) := by decide +kernel
theorem dX5_walk_60 : decode cX5_walk 60 = .ok (.iload_n 2, 1) := by decide +kernel
theorem dX5_walk_61 : decode cX5_walk 61 = .ok (.aload_n 0, 1) := by decide +kernel
theorem dX5_walk_62 : decode cX5_walk 62 = .ok (.getfield 34, 3) := by decide +kernel
theorem dX5_walk_65 : decode cX5_walk 65 = .ok (.getfield 49, 3) := by decide +kernel
theorem dX5_walk_68 : decode cX5_walk 68 = .ok (.if_icmp .ge 7, 3) := by decide +kernel
theorem dX5_walk_71 : decode cX5_walk 71 = .ok (.iconst 1, 1) := by decide +kernel
theorem dX5_walk_72 : decode cX5_walk 72 = .ok (.goto 4, 3) := by decide +kernel
theorem dX5_walk_75 : decode cX5_walk 75 = .ok (.iconst 0, 1) := by decide +kernel
theorem dX5_walk_76 : decode cX5_walk 76 = .ok (.istore 5, 2) := by decide +kernel
theorem dX5_walk_78 : decode cX5_walk 78 = .ok (.iload_n 3, 1) := by decide +kernel
theorem dX5_walk_79 : decode cX5_walk 79 = .ok (.aload_n 1, 1) := by decide +kernel
theorem dX5_walk_80 : decode cX5_walk 80 = .ok (.getfield 49, 3) := by decide +kernel
theorem dX5_walk_83 : decode cX5_walk 83 = .ok (.if_icmp .ge 7, 3) := by decide +kernel
theorem dX5_walk_86 : decode cX5_walk 86 = .ok (.iconst 1, 1) := by decide +kernel
theorem dX5_walk_87 : decode cX5_walk 87 = .ok (.goto 4, 3) := by decide +kernel
theorem dX5_walk_90 : decode cX5_walk 90 = .ok (.iconst 0, 1) := by decide +kernel
theorem dX5_walk_91 : decode cX5_walk 91 = .ok (.istore 6, 2) := by decide +kernel
theorem dX5_walk_93 : decode cX5_walk 93 = .ok (.iload 5, 2) := by decide +kernel
theorem dX5_walk_95 : decode cX5_walk 95 = .ok (.ifCond .eq 63, 3) := by decide +kernel
theorem dX5_walk_98 : decode cX5_walk 98 = .ok (.iload 6, 2) := by decide +kernel
theorem dX5_walk_100 : decode cX5_walk 100 = .ok (.ifCond .eq 58, 3) := by decide +kernel
theorem dX5_walk_103 : decode cX5_walk 103 = .ok (.aload_n 0, 1) := by decide +kernel
theorem dX5_walk_104 : decode cX5_walk 104 = .ok (.getfield 27, 3) := by decide +kernel
theorem dX5_walk_107 : decode cX5_walk 107 = .ok (.iload_n 2, 1) := by decide +kernel
theorem dX5_walk_108 : decode cX5_walk 108 = .ok (.iload_n 3, 1) := by decide +kernel
theorem dX5_walk_109 : decode cX5_walk 109 = .ok (.invokevirtual 83, 3) := by decide +kernel
theorem dX5_walk_112 : decode cX5_walk 112 = .ok (.ifCond .eq 46, 3) := by decide +kernel
theorem dX5_walk_115 : decode cX5_walk 115 = .ok (.aload_n 0, 1) := by decide +kernel
theorem dX5_walk_116 : decode cX5_walk 116 = .ok (.getfield 15, 3) := by decide +kernel
theorem dX5_walk_119 : decode cX5_walk 119 = .ok (.iload_n 2, 1) := by decide +kernel
theorem dX5_walk_120 : decode cX5_walk 120 = .ok (.aload_n 1, 1) := by decide +kernel
theorem dX5_walk_121 : decode cX5_walk 121 = .ok (.getfield 77, 3) := by decide +kernel
theorem dX5_walk_124 : decode cX5_walk 124 = .ok (.iload_n 3, 1) := by decide +kernel
theorem dX5_walk_125 : decode cX5_walk 125 = .ok (.iaload, 1) := by decide +kernel
theorem dX5_walk_126 : decode cX5_walk 126 = .ok (.iastore, 1) := by decide +kernel
theorem dX5_walk_127 : decode cX5_walk 127 = .ok (.aload_n 0, 1) := by decide +kernel
theorem dX5_walk_128 : decode cX5_walk 128 = .ok (.getfield 9, 3) := by decide +kernel
theorem dX5_walk_131 : decode cX5_walk 131 = .ok (.iload_n 2, 1) := by decide +kernel
theorem dX5_walk_132 : decode cX5_walk 132 = .ok (.aload_n 1, 1) := by decide +kernel
theorem dX5_walk_133 : decode cX5_walk 133 = .ok (.getfield 70, 3) := by decide +kernel
theorem dX5_walk_136 : decode cX5_walk 136 = .ok (.iload_n 3, 1) := by decide +kernel
theorem dX5_walk_137 : decode cX5_walk 137 = .ok (.iaload, 1) := by decide +kernel
theorem dX5_walk_138 : decode cX5_walk 138 = .ok (.aload_n 0, 1) := by decide +kernel
theorem dX5_walk_139 : decode cX5_walk 139 = .ok (.getfield 34, 3) := by decide +kernel
theorem dX5_walk_142 : decode cX5_walk 142 = .ok (.getfield 70, 3) := by decide +kernel
theorem dX5_walk_145 : decode cX5_walk 145 = .ok (.iload_n 2, 1) := by decide +kernel
theorem dX5_walk_146 : decode cX5_walk 146 = .ok (.iaload, 1) := by decide +kernel
theorem dX5_walk_147 : decode cX5_walk 147 = .ok (.isub, 1) := by decide +kernel
theorem dX5_walk_148 : decode cX5_walk 148 = .ok (.iastore, 1) := by decide +kernel
theorem dX5_walk_149 : decode cX5_walk 149 = .ok (.iinc 2 1, 3) := by decide +kernel
theorem dX5_walk_152 : decode cX5_walk 152 = .ok (.iinc 3 1, 3) := by decide +kernel
theorem dX5_walk_155 : decode cX5_walk 155 = .ok (.goto 73, 3) := by decide +kernel
theorem dX5_walk_158 : decode cX5_walk 158 = .ok (.iload 5, 2) := by decide +kernel
theorem dX5_walk_160 : decode cX5_walk 160 = .ok (.ifCond .eq 15, 3) := by decide +kernel
theorem dX5_walk_163 : decode cX5_walk 163 = .ok (.aload_n 0, 1) := by decide +kernel
theorem dX5_walk_164 : decode cX5_walk 164 = .ok (.getfield 31, 3) := by decide +kernel
theorem dX5_walk_167 : decode cX5_walk 167 = .ok (.iload_n 2, 1) := by decide +kernel
theorem dX5_walk_168 : decode cX5_walk 168 = .ok (.iload_n 3, 1) := by decide +kernel
theorem dX5_walk_169 : decode cX5_walk 169 = .ok (.invokevirtual 83, 3) := by decide +kernel
theorem dX5_walk_172 : decode cX5_walk 172 = .ok (.ifCond .ne 8, 3) := by decide +kernel
theorem dX5_walk_175 : decode cX5_walk 175 = .ok (.iload 6, 2) := by decide +kernel
theorem dX5_walk_177 : decode cX5_walk 177 = .ok (.ifCond .ne 23, 3) := by decide +kernel
theorem dX5_walk_180 : decode cX5_walk 180 = .ok (.aload_n 0, 1) := by decide +kernel
theorem dX5_walk_181 : decode cX5_walk 181 = .ok (.getfield 15, 3) := by decide +kernel
theorem dX5_walk_184 : decode cX5_walk 184 = .ok (.iload_n 2, 1) := by decide +kernel
theorem dX5_walk_185 : decode cX5_walk 185 = .ok (.iconst (-1), 1) := by decide +kernel
theorem dX5_walk_186 : decode cX5_walk 186 = .ok (.iastore, 1) := by decide +kernel
theorem dX5_walk_187 : decode cX5_walk 187 = .ok (.aload_n 0, 1) := by decide +kernel
theorem dX5_walk_188 : decode cX5_walk 188 = .ok (.getfield 9, 3) := by decide +kernel
theorem dX5_walk_191 : decode cX5_walk 191 = .ok (.iload_n 2, 1) := by decide +kernel
theorem dX5_walk_192 : decode cX5_walk 192 = .ok (.iconst 0, 1) := by decide +kernel
theorem dX5_walk_193 : decode cX5_walk 193 = .ok (.iastore, 1) := by decide +kernel
theorem dX5_walk_194 : decode cX5_walk 194 = .ok (.iinc 2 1, 3) := by decide +kernel
theorem dX5_walk_197 : decode cX5_walk 197 = .ok (.goto 31, 3) := by decide +kernel
theorem dX5_walk_200 : decode cX5_walk 200 = .ok (.aload_n 0, 1) := by decide +kernel
theorem dX5_walk_201 : decode cX5_walk 201 = .ok (.getfield 18, 3) := by decide +kernel
theorem dX5_walk_204 : decode cX5_walk 204 = .ok (.aload_n 1, 1) := by decide +kernel
theorem dX5_walk_205 : decode cX5_walk 205 = .ok (.getfield 77, 3) := by decide +kernel
theorem dX5_walk_208 : decode cX5_walk 208 = .ok (.iload_n 3, 1) := by decide +kernel
theorem dX5_walk_209 : decode cX5_walk 209 = .ok (.iaload, 1) := by decide +kernel
theorem dX5_walk_210 : decode cX5_walk 210 = .ok (.dup2, 1) := by decide +kernel
theorem dX5_walk_211 : decode cX5_walk 211 = .ok (.iaload, 1) := by decide +kernel
theorem dX5_walk_212 : decode cX5_walk 212 = .ok (.iconst 1, 1) := by decide +kernel
theorem dX5_walk_213 : decode cX5_walk 213 = .ok (.iadd, 1) := by decide +kernel
theorem dX5_walk_214 : decode cX5_walk 214 = .ok (.iastore, 1) := by decide +kernel
theorem dX5_walk_215 : decode cX5_walk 215 = .ok (.aload_n 0, 1) := by decide +kernel
theorem dX5_walk_216 : decode cX5_walk 216 = .ok (.dup, 1) := by decide +kernel
theorem dX5_walk_217 : decode cX5_walk 217 = .ok (.getfield 80, 3) := by decide +kernel
theorem dX5_walk_220 : decode cX5_walk 220 = .ok (.iconst 1, 1) := by decide +kernel
theorem dX5_walk_221 : decode cX5_walk 221 = .ok (.iadd, 1) := by decide +kernel
theorem dX5_walk_222 : decode cX5_walk 222 = .ok (.putfield 80, 3) := by decide +kernel
theorem dX5_walk_225 : decode cX5_walk 225 = .ok (.iinc 3 1, 3) := by decide +kernel
theorem dX5_walk_228 : decode cX5_walk 228 = .ok (.iinc 4 1, 3) := by decide +kernel
theorem dX5_walk_231 : decode cX5_walk 231 = .ok (.goto (-198), 3) := by decide +kernel
theorem dX5_walk_234 : decode cX5_walk 234 = .ok (.return_, 1) := by decide +kernel
theorem dX5_lay_0 : decode cX5_lay 0 = .ok (.aload_n 0, 1) := by decide +kernel
theorem dX5_lay_1 : decode cX5_lay 1 = .ok (.aload_n 1, 1) := by decide +kernel
theorem dX5_lay_2 : decode cX5_lay 2 = .ok (.invokevirtual 42, 3) := by decide +kernel
theorem dX5_lay_5 : decode cX5_lay 5 = .ok (.aload_n 0, 1) := by decide +kernel
theorem dX5_lay_6 : decode cX5_lay 6 = .ok (.aload_n 1, 1) := by decide +kernel
theorem dX5_lay_7 : decode cX5_lay 7 = .ok (.invokevirtual 46, 3) := by decide +kernel
theorem dX5_lay_10 : decode cX5_lay 10 = .ok (.aload_n 0, 1) := by decide +kernel
theorem dX5_lay_11 : decode cX5_lay 11 = .ok (.iconst 1, 1) := by decide +kernel
theorem dX5_lay_12 : decode cX5_lay 12 = .ok (.putfield 38, 3) := by decide +kernel
theorem dX5_lay_15 : decode cX5_lay 15 = .ok (.aload_n 0, 1) := by decide +kernel
theorem dX5_lay_16 : decode cX5_lay 16 = .ok (.getfield 21, 3) := by decide +kernel
theorem dX5_lay_19 : decode cX5_lay 19 = .ok (.iconst 0, 1) := by decide +kernel
theorem dX5_lay_20 : decode cX5_lay 20 = .ok (.iaload, 1) := by decide +kernel
theorem dX5_lay_21 : decode cX5_lay 21 = .ok (.ireturn, 1) := by decide +kernel
theorem dX5_pointsOf_0 : decode cX5_pointsOf 0 = .ok (.aload_n 0, 1) := by decide +kernel
theorem dX5_pointsOf_1 : decode cX5_pointsOf 1 = .ok (.getfield 15, 3) := by decide +kernel
theorem dX5_pointsOf_4 : decode cX5_pointsOf 4 = .ok (.iload_n 1, 1) := by decide +kernel
theorem dX5_pointsOf_5 : decode cX5_pointsOf 5 = .ok (.iaload, 1) := by decide +kernel
theorem dX5_pointsOf_6 : decode cX5_pointsOf 6 = .ok (.iconst (-1), 1) := by decide +kernel
theorem dX5_pointsOf_7 : decode cX5_pointsOf 7 = .ok (.if_icmp .ne 5, 3) := by decide +kernel
theorem dX5_pointsOf_10 : decode cX5_pointsOf 10 = .ok (.iconst 3, 1) := by decide +kernel
theorem dX5_pointsOf_11 : decode cX5_pointsOf 11 = .ok (.ireturn, 1) := by decide +kernel
theorem dX5_pointsOf_12 : decode cX5_pointsOf 12 = .ok (.aload_n 0, 1) := by decide +kernel
theorem dX5_pointsOf_13 : decode cX5_pointsOf 13 = .ok (.getfield 15, 3) := by decide +kernel
theorem dX5_pointsOf_16 : decode cX5_pointsOf 16 = .ok (.iload_n 1, 1) := by decide +kernel
theorem dX5_pointsOf_17 : decode cX5_pointsOf 17 = .ok (.iaload, 1) := by decide +kernel
theorem dX5_pointsOf_18 : decode cX5_pointsOf 18 = .ok (.aload_n 0, 1) := by decide +kernel
theorem dX5_pointsOf_19 : decode cX5_pointsOf 19 = .ok (.getfield 34, 3) := by decide +kernel
theorem dX5_pointsOf_22 : decode cX5_pointsOf 22 = .ok (.getfield 77, 3) := by decide +kernel
theorem dX5_pointsOf_25 : decode cX5_pointsOf 25 = .ok (.iload_n 1, 1) := by decide +kernel
theorem dX5_pointsOf_26 : decode cX5_pointsOf 26 = .ok (.iaload, 1) := by decide +kernel
theorem dX5_pointsOf_27 : decode cX5_pointsOf 27 = .ok (.if_icmp .ne 15, 3) := by decide +kernel
theorem dX5_pointsOf_30 : decode cX5_pointsOf 30 = .ok (.aload_n 0, 1) := by decide +kernel
theorem dX5_pointsOf_31 : decode cX5_pointsOf 31 = .ok (.getfield 9, 3) := by decide +kernel
theorem dX5_pointsOf_34 : decode cX5_pointsOf 34 = .ok (.iload_n 1, 1) := by decide +kernel
theorem dX5_pointsOf_35 : decode cX5_pointsOf 35 = .ok (.iaload, 1) := by decide +kernel
theorem dX5_pointsOf_36 : decode cX5_pointsOf 36 = .ok (.invokestatic 73, 3) := by decide +kernel
theorem dX5_pointsOf_39 : decode cX5_pointsOf 39 = .ok (.goto 4, 3) := by decide +kernel
theorem dX5_pointsOf_42 : decode cX5_pointsOf 42 = .ok (.iconst 2, 1) := by decide +kernel
theorem dX5_pointsOf_43 : decode cX5_pointsOf 43 = .ok (.ireturn, 1) := by decide +kernel
theorem dX5_pointsOn_0 : decode cX5_pointsOn 0 = .ok (.iconst 0, 1) := by decide +kernel
theorem dX5_pointsOn_1 : decode cX5_pointsOn 1 = .ok (.istore_n 3, 1) := by decide +kernel
theorem dX5_pointsOn_2 : decode cX5_pointsOn 2 = .ok (.iconst 0, 1) := by decide +kernel
theorem dX5_pointsOn_3 : decode cX5_pointsOn 3 = .ok (.istore 4, 2) := by decide +kernel
theorem dX5_pointsOn_5 : decode cX5_pointsOn 5 = .ok (.iload 4, 2) := by decide +kernel
theorem dX5_pointsOn_7 : decode cX5_pointsOn 7 = .ok (.aload_n 0, 1) := by decide +kernel
theorem dX5_pointsOn_8 : decode cX5_pointsOn 8 = .ok (.getfield 34, 3) := by decide +kernel
theorem dX5_pointsOn_11 : decode cX5_pointsOn 11 = .ok (.getfield 49, 3) := by decide +kernel
theorem dX5_pointsOn_14 : decode cX5_pointsOn 14 = .ok (.if_icmp .ge 31, 3) := by decide +kernel
theorem dX5_pointsOn_17 : decode cX5_pointsOn 17 = .ok (.aload_n 0, 1) := by decide +kernel
theorem dX5_pointsOn_18 : decode cX5_pointsOn 18 = .ok (.getfield 34, 3) := by decide +kernel
theorem dX5_pointsOn_21 : decode cX5_pointsOn 21 = .ok (.lload_n 1, 1) := by decide +kernel
theorem dX5_pointsOn_22 : decode cX5_pointsOn 22 = .ok (.iload 4, 2) := by decide +kernel
theorem dX5_pointsOn_24 : decode cX5_pointsOn 24 = .ok (.invokevirtual 87, 3) := by decide +kernel
theorem dX5_pointsOn_27 : decode cX5_pointsOn 27 = .ok (.ifCond .eq 12, 3) := by decide +kernel
theorem dX5_pointsOn_30 : decode cX5_pointsOn 30 = .ok (.iload_n 3, 1) := by decide +kernel
theorem dX5_pointsOn_31 : decode cX5_pointsOn 31 = .ok (.aload_n 0, 1) := by decide +kernel
theorem dX5_pointsOn_32 : decode cX5_pointsOn 32 = .ok (.iload 4, 2) := by decide +kernel
theorem dX5_pointsOn_34 : decode cX5_pointsOn 34 = .ok (.invokevirtual 91, 3) := by decide +kernel
theorem dX5_pointsOn_37 : decode cX5_pointsOn 37 = .ok (.iadd, 1) := by decide +kernel
theorem dX5_pointsOn_38 : decode cX5_pointsOn 38 = .ok (.istore_n 3, 1) := by decide +kernel
theorem dX5_pointsOn_39 : decode cX5_pointsOn 39 = .ok (.iinc 4 1, 3) := by decide +kernel
theorem dX5_pointsOn_42 : decode cX5_pointsOn 42 = .ok (.goto (-37), 3) := by decide +kernel
theorem dX5_pointsOn_45 : decode cX5_pointsOn 45 = .ok (.iconst 0, 1) := by decide +kernel
theorem dX5_pointsOn_46 : decode cX5_pointsOn 46 = .ok (.istore 4, 2) := by decide +kernel
theorem dX5_pointsOn_48 : decode cX5_pointsOn 48 = .ok (.iload 4, 2) := by decide +kernel
theorem dX5_pointsOn_50 : decode cX5_pointsOn 50 = .ok (.bipush 48, 2) := by decide +kernel
theorem dX5_pointsOn_52 : decode cX5_pointsOn 52 = .ok (.if_icmp .ge 32, 3) := by decide +kernel
theorem dX5_pointsOn_55 : decode cX5_pointsOn 55 = .ok (.lload_n 1, 1) := by decide +kernel
theorem dX5_pointsOn_56 : decode cX5_pointsOn 56 = .ok (.iload 4, 2) := by decide +kernel
theorem dX5_pointsOn_58 : decode cX5_pointsOn 58 = .ok (.lushr, 1) := by decide +kernel
theorem dX5_pointsOn_59 : decode cX5_pointsOn 59 = .ok (.lconst 1, 1) := by decide +kernel
theorem dX5_pointsOn_60 : decode cX5_pointsOn 60 = .ok (.land, 1) := by decide +kernel
theorem dX5_pointsOn_61 : decode cX5_pointsOn 61 = .ok (.lconst 0, 1) := by decide +kernel
theorem dX5_pointsOn_62 : decode cX5_pointsOn 62 = .ok (.lcmp, 1) := by decide +kernel
theorem dX5_pointsOn_63 : decode cX5_pointsOn 63 = .ok (.ifCond .eq 15, 3) := by decide +kernel
theorem dX5_pointsOn_66 : decode cX5_pointsOn 66 = .ok (.iload_n 3, 1) := by decide +kernel
theorem dX5_pointsOn_67 : decode cX5_pointsOn 67 = .ok (.aload_n 0, 1) := by decide +kernel
theorem dX5_pointsOn_68 : decode cX5_pointsOn 68 = .ok (.getfield 18, 3) := by decide +kernel
theorem dX5_pointsOn_71 : decode cX5_pointsOn 71 = .ok (.iload 4, 2) := by decide +kernel
theorem dX5_pointsOn_73 : decode cX5_pointsOn 73 = .ok (.iaload, 1) := by decide +kernel
theorem dX5_pointsOn_74 : decode cX5_pointsOn 74 = .ok (.iconst 3, 1) := by decide +kernel
theorem dX5_pointsOn_75 : decode cX5_pointsOn 75 = .ok (.imul, 1) := by decide +kernel
theorem dX5_pointsOn_76 : decode cX5_pointsOn 76 = .ok (.iadd, 1) := by decide +kernel
theorem dX5_pointsOn_77 : decode cX5_pointsOn 77 = .ok (.istore_n 3, 1) := by decide +kernel
theorem dX5_pointsOn_78 : decode cX5_pointsOn 78 = .ok (.iinc 4 1, 3) := by decide +kernel
theorem dX5_pointsOn_81 : decode cX5_pointsOn 81 = .ok (.goto (-33), 3) := by decide +kernel
theorem dX5_pointsOn_84 : decode cX5_pointsOn 84 = .ok (.iload_n 3, 1) := by decide +kernel
theorem dX5_pointsOn_85 : decode cX5_pointsOn 85 = .ok (.ireturn, 1) := by decide +kernel
abbrev mX1_put_40 : MI := (yX1_put, cX1_put, 7, none, 1, 21, [])
abbrev mX1_put_42 : MI := (yX1_put, cX1_put, 7, none, 1, 21, [])
abbrev mX1_has_40 : MI := (yX1_has, cX1_has, 4, some .boolean, 1, 21, [])
abbrev mX1_has_42 : MI := (yX1_has, cX1_has, 4, some .boolean, 1, 21, [])
abbrev mX5_forget : MI := (yX5_forget, cX5_forget, 1, none, 1, 21, [])
abbrev mX5_pairPoints : MI := (yX5_pairPoints, cX5_pairPoints, 5, some .int, 1, 21, [])
abbrev mX5_weigh : MI := (yX5_weigh, cX5_weigh, 11, none, 2, 47, [])
abbrev mX5_walk : MI := (yX5_walk, cX5_walk, 7, none, 2, 44, [])
abbrev mX5_lay : MI := (yX5_lay, cX5_lay, 2, some .int, 3, 77, [])
abbrev mX5_pointsOf : MI := (yX5_pointsOf, cX5_pointsOf, 2, some .int, 1, 21, [])
abbrev mX5_pointsOn : MI := (yX5_pointsOn, cX5_pointsOn, 5, some .int, 2, 44, [])
theorem kB_63 : (Int8.ofInt 63).toInt32 = 63 := by decide
theorem kS_320 : (Int16.ofInt 320).toInt32 = 320 := by decide
theorem co_X1_15 : Cond.constantLong RX1 15 (-1) ∈ lw_w := lw_in (i := 975) (by decide +kernel) (by decide +kernel)
theorem co_X5_55 : Cond.constant RX5 55 16777216 ∈ lw_w := lw_in (i := 964) (by decide +kernel) (by decide +kernel)
theorem fk_X1_11 : Fk RX1 11 1 0 := ⟨RX1, TX1, 1, tyX1, rfl, inX1, by decide, lw_in (i := 334) (by decide +kernel) (by decide +kernel), tyX1_ok, nmX1⟩
theorem fk_X5_9 : Fk RX5 9 5 1 := ⟨RX5, TX5, 9, tyX5, rfl, inX5, by decide, lw_in (i := 340) (by decide +kernel) (by decide +kernel), tyX5_ok, nmX5⟩
theorem fk_X5_15 : Fk RX5 15 5 2 := ⟨RX5, TX5, 9, tyX5, rfl, inX5, by decide, lw_in (i := 342) (by decide +kernel) (by decide +kernel), tyX5_ok, nmX5⟩
theorem fk_X5_18 : Fk RX5 18 5 5 := ⟨RX5, TX5, 9, tyX5, rfl, inX5, by decide, lw_in (i := 348) (by decide +kernel) (by decide +kernel), tyX5_ok, nmX5⟩
theorem fk_X5_21 : Fk RX5 21 5 6 := ⟨RX5, TX5, 9, tyX5, rfl, inX5, by decide, lw_in (i := 349) (by decide +kernel) (by decide +kernel), tyX5_ok, nmX5⟩
theorem fk_X5_27 : Fk RX5 27 5 7 := ⟨RX5, TX5, 9, tyX5, rfl, inX5, by decide, lw_in (i := 350) (by decide +kernel) (by decide +kernel), tyX5_ok, nmX5⟩
theorem fk_X5_31 : Fk RX5 31 5 8 := ⟨RX5, TX5, 9, tyX5, rfl, inX5, by decide, lw_in (i := 351) (by decide +kernel) (by decide +kernel), tyX5_ok, nmX5⟩
theorem fk_X5_34 : Fk RX5 34 5 0 := ⟨RX5, TX5, 9, tyX5, rfl, inX5, by decide, lw_in (i := 339) (by decide +kernel) (by decide +kernel), tyX5_ok, nmX5⟩
theorem fk_X5_38 : Fk RX5 38 5 4 := ⟨RX5, TX5, 9, tyX5, rfl, inX5, by decide, lw_in (i := 346) (by decide +kernel) (by decide +kernel), tyX5_ok, nmX5⟩
theorem fk_X5_49 : Fk RX5 49 9 4 := ⟨RX9, TX9, 5, tyX9, rfl, inX9, by decide, lw_in (i := 109) (by decide +kernel) (by decide +kernel), tyX9_ok, nmX9⟩
theorem fk_X5_70 : Fk RX5 70 9 0 := ⟨RX9, TX9, 5, tyX9, rfl, inX9, by decide, lw_in (i := 86) (by decide +kernel) (by decide +kernel), tyX9_ok, nmX9⟩
theorem fk_X5_77 : Fk RX5 77 9 1 := ⟨RX9, TX9, 5, tyX9, rfl, inX9, by decide, lw_in (i := 92) (by decide +kernel) (by decide +kernel), tyX9_ok, nmX9⟩
theorem fk_X5_80 : Fk RX5 80 5 3 := ⟨RX5, TX5, 9, tyX5, rfl, inX5, by decide, lw_in (i := 344) (by decide +kernel) (by decide +kernel), tyX5_ok, nmX5⟩
theorem fp_X5_3 : Fp 5 3 .int := ⟨RX5, TX5, 9, rfl, rfl, by decide +kernel⟩
theorem fp_X5_4 : Fp 5 4 .boolean := ⟨RX5, TX5, 9, rfl, rfl, by decide +kernel⟩
theorem mv_X1_has_40 : MkV mX1_has_40 := ⟨lw_in (i := 981) (by decide +kernel) (by decide +kernel), lw_in (i := 982) (by decide +kernel) (by decide +kernel)⟩
theorem mv_X1_has_42 : MkV mX1_has_42 := ⟨lw_in (i := 981) (by decide +kernel) (by decide +kernel), lw_in (i := 982) (by decide +kernel) (by decide +kernel)⟩
theorem mv_X1_put_40 : MkV mX1_put_40 := ⟨lw_in (i := 972) (by decide +kernel) (by decide +kernel), lw_in (i := 973) (by decide +kernel) (by decide +kernel)⟩
theorem mv_X1_put_42 : MkV mX1_put_42 := ⟨lw_in (i := 972) (by decide +kernel) (by decide +kernel), lw_in (i := 973) (by decide +kernel) (by decide +kernel)⟩
theorem mv_X5_pairPoints : MkV mX5_pairPoints := ⟨lw_in (i := 967) (by decide +kernel) (by decide +kernel), lw_se (i := 40) (by decide +kernel) (by decide +kernel)⟩
theorem mv_X5_pointsOf : MkV mX5_pointsOf := ⟨lw_in (i := 1003) (by decide +kernel) (by decide +kernel), lw_se (i := 42) (by decide +kernel) (by decide +kernel)⟩
theorem mv_X5_walk : MkV mX5_walk := ⟨lw_in (i := 978) (by decide +kernel) (by decide +kernel), lw_se (i := 41) (by decide +kernel) (by decide +kernel)⟩
theorem mv_X5_weigh : MkV mX5_weigh := ⟨lw_in (i := 962) (by decide +kernel) (by decide +kernel), lw_se (i := 39) (by decide +kernel) (by decide +kernel)⟩
theorem mk_X5_42 : Mk RX5 42 mX5_weigh 1 := ⟨lw_in (i := 960) (by decide +kernel) (by decide +kernel), lw_in (i := 11) (by decide +kernel) (by decide +kernel), lw_in (i := 963) (by decide +kernel) (by decide +kernel), by decide +kernel⟩
theorem mk_X5_46 : Mk RX5 46 mX5_walk 1 := ⟨lw_in (i := 976) (by decide +kernel) (by decide +kernel), lw_in (i := 11) (by decide +kernel) (by decide +kernel), lw_in (i := 979) (by decide +kernel) (by decide +kernel), by decide +kernel⟩
theorem mk_X5_56 : Mk RX5 56 mX5_pairPoints 3 := ⟨lw_in (i := 965) (by decide +kernel) (by decide +kernel), lw_in (i := 11) (by decide +kernel) (by decide +kernel), lw_in (i := 968) (by decide +kernel) (by decide +kernel), by decide +kernel⟩
theorem mk_X5_60 : Cond.methodLink RX5 60 Lib.Math.min.name ∈ lw_w := lw_in (i := 970) (by decide +kernel) (by decide +kernel)
theorem mk_X5_66 : Mk RX5 66 mX1_put_40 3 := ⟨lw_in (i := 971) (by decide +kernel) (by decide +kernel), lw_in (i := 12) (by decide +kernel) (by decide +kernel), lw_in (i := 974) (by decide +kernel) (by decide +kernel), by decide +kernel⟩
theorem mk_X5_73 : Cond.methodLink RX5 73 Lib.Math.abs.name ∈ lw_w := lw_in (i := 969) (by decide +kernel) (by decide +kernel)
theorem mk_X5_83 : Mk RX5 83 mX1_has_40 2 := ⟨lw_in (i := 980) (by decide +kernel) (by decide +kernel), lw_in (i := 12) (by decide +kernel) (by decide +kernel), lw_in (i := 983) (by decide +kernel) (by decide +kernel), by decide +kernel⟩
theorem mk_X5_87 : Mk RX5 87 mX9_isOn 2 := ⟨lw_in (i := 1000) (by decide +kernel) (by decide +kernel), lw_in (i := 4) (by decide +kernel) (by decide +kernel), lw_in (i := 736) (by decide +kernel) (by decide +kernel), by decide +kernel⟩
theorem mk_X5_91 : Mk RX5 91 mX5_pointsOf 1 := ⟨lw_in (i := 1001) (by decide +kernel) (by decide +kernel), lw_in (i := 11) (by decide +kernel) (by decide +kernel), lw_in (i := 1004) (by decide +kernel) (by decide +kernel), by decide +kernel⟩
theorem rm_X5_lay_X5_walk : Rm mX5_lay mX5_walk := ⟨by decide, by decide⟩
theorem rm_X5_lay_X5_weigh : Rm mX5_lay mX5_weigh := ⟨by decide, by decide⟩
theorem rm_X5_pointsOn_X5_pointsOf : Rm mX5_pointsOn mX5_pointsOf := ⟨by decide, by decide⟩
theorem rm_X5_pointsOn_X9_isOn : Rm mX5_pointsOn mX9_isOn := ⟨by decide, by decide⟩
theorem rm_X5_walk_X1_has_40 : Rm mX5_walk mX1_has_40 := ⟨by decide, by decide⟩
theorem rm_X5_walk_X1_has_42 : Rm mX5_walk mX1_has_42 := ⟨by decide, by decide⟩
theorem rm_X5_weigh_X1_put_40 : Rm mX5_weigh mX1_put_40 := ⟨by decide, by decide⟩
theorem rm_X5_weigh_X1_put_42 : Rm mX5_weigh mX1_put_42 := ⟨by decide, by decide⟩
theorem rm_X5_weigh_X5_pairPoints : Rm mX5_weigh mX5_pairPoints := ⟨by decide, by decide⟩
section W_listening
variable {l : Launch} {D : va_G} {ad : Nat → Nat} {kA : Nat → ClassId} {M : Mem} {Q : Outcome → Mem → Prop}
theorem t_X1_put_40_0 {x1 : Int32} {x2 : Int32} {x3 : Int32} 
    (g1 : (¬ (((x1 * 3) + (x2 >>> ((6 : Int32) &&& 31))) < 0)) → (((x1 * 3) + (x2 >>> ((6 : Int32) &&& 31))) < 483) → (x3 = 0) → vp_in ((x1 * 3) + (x2 >>> ((6 : Int32) &&& 31))) 483)
    (g2 : (¬ (((x1 * 3) + (x2 >>> ((6 : Int32) &&& 31))) < 0)) → (((x1 * 3) + (x2 >>> ((6 : Int32) &&& 31))) < 483) → (¬ (x3 = 0)) → vp_in ((x1 * 3) + (x2 >>> ((6 : Int32) &&& 31))) 483)
    (g3 : (¬ (((x1 * 3) + (x2 >>> ((6 : Int32) &&& 31))) < 0)) → (((x1 * 3) + (x2 >>> ((6 : Int32) &&& 31))) < 483) → vp_in ((x1 * 3) + (x2 >>> ((6 : Int32) &&& 31))) 483)
    (K1 : (((x1 * 3) + (x2 >>> ((6 : Int32) &&& 31))) < 0) → Q (.returned none) M)
    (K2 : (¬ (((x1 * 3) + (x2 >>> ((6 : Int32) &&& 31))) < 0)) → (((x1 * 3) + (x2 >>> ((6 : Int32) &&& 31))) < 483) → Q (.returned none) (sL M 41 ((x1 * 3) + (x2 >>> ((6 : Int32) &&& 31))).toNatClampNeg (if x3 = 0 then (gL M 41 ((x1 * 3) + (x2 >>> ((6 : Int32) &&& 31))).toNatClampNeg) &&& ((lshl 1 (x2 &&& 63)) ^^^ (-1)) else (gL M 41 ((x1 * 3) + (x2 >>> ((6 : Int32) &&& 31))).toNatClampNeg) ||| (lshl 1 (x2 &&& 63)))))
    (K3 : (¬ (((x1 * 3) + (x2 >>> ((6 : Int32) &&& 31))) < 0)) → (¬ (((x1 * 3) + (x2 >>> ((6 : Int32) &&& 31))) < 483)) → Q (.returned none) M) : Fw l D ad kA mX1_put_40 0 [some (.ref (ad 40)), some (.int x1), some (.int x2), some (.int x3), none, none, none] [] M Q := by
  refine r_iload_n dX1_put_0 rfl ?_
  refine r_iconst (v := 3) dX1_put_1 kI_3 ?_
  refine r_imul dX1_put_2 ?_
  refine r_iload_n dX1_put_3 rfl ?_
  refine r_bipush (v := 6) dX1_put_4 kB_6 ?_
  refine r_ishr dX1_put_6 ?_
  refine r_iadd dX1_put_7 ?_
  refine q_istore (lo' := [some (.ref (ad 40)), some (.int x1), some (.int x2), some (.int x3), some (.int ((x1 * 3) + (x2 >>> ((6 : Int32) &&& 31)))), none, none]) dX1_put_8 (by decide) rfl ?_
  refine r_iload dX1_put_10 rfl ?_
  refine r_if_lt (tgt := 25) dX1_put_12 (by decide) (fun c1 => ?_) (fun c1 => ?_)
  · skip
    exact r_vret dX1_put_25 rfl (K1 c1)
  · skip
    refine r_iload dX1_put_15 rfl ?_
    refine r_aload_n dX1_put_17 rfl ?_
    refine r_getR dX1_put_18 fs_40_0 fk_X1_11 ?_
    refine r_alen (v := 483) dX1_put_21 as_41 (by decide) (by decide) ?_
    refine r_icmp_lt (tgt := 26) dX1_put_22 (by decide) (fun c2 => ?_) (fun c2 => ?_)
    · skip
      refine r_lconst (v := 1) dX1_put_26 kL_1 ?_
      refine r_iload_n dX1_put_27 rfl ?_
      refine r_bipush (v := 63) dX1_put_28 kB_63 ?_
      refine r_iand dX1_put_30 ?_
      refine q_lshl dX1_put_31 ?_
      refine q_lstore (lo' := [some (.ref (ad 40)), some (.int x1), some (.int x2), some (.int x3), some (.int ((x1 * 3) + (x2 >>> ((6 : Int32) &&& 31)))), some (.long (lshl 1 (x2 &&& 63))), none]) dX1_put_32 (by decide) rfl ?_
      refine r_aload_n dX1_put_34 rfl ?_
      refine r_getR dX1_put_35 fs_40_0 fk_X1_11 ?_
      refine r_iload dX1_put_38 rfl ?_
      refine r_iload_n dX1_put_40 rfl ?_
      suffices hJ1 : Fw l D ad kA mX1_put_40 71 [none, none, none, none, none, none, none] [.long (if x3 = 0 then (gL M 41 ((x1 * 3) + (x2 >>> ((6 : Int32) &&& 31))).toNatClampNeg) &&& ((lshl 1 (x2 &&& 63)) ^^^ (-1)) else (gL M 41 ((x1 * 3) + (x2 >>> ((6 : Int32) &&& 31))).toNatClampNeg) ||| (lshl 1 (x2 &&& 63))), .int ((x1 * 3) + (x2 >>> ((6 : Int32) &&& 31))), .ref (ad 41)] M Q by
        refine r_if_eq (tgt := 57) dX1_put_41 (by decide) (fun c3 => ?_) (fun c3 => ?_)
        · skip
          refine r_aload_n dX1_put_57 rfl ?_
          refine r_getR dX1_put_58 fs_40_0 fk_X1_11 ?_
          refine r_iload dX1_put_61 rfl ?_
          refine r_lald dX1_put_63 as_41 (g1 c1 c2 c3) ?_
          refine r_lload dX1_put_64 rfl ?_
          refine r_ldc2 (v := (-1)) dX1_put_66 co_X1_15 ?_
          refine r_lxor dX1_put_69 ?_
          refine r_land dX1_put_70 ?_
          exact q_weak (lo' := [none, none, none, none, none, none, none]) trivial (by have h9 := hJ1; simp only [if_pos c3] at h9; first | exact h9 | (simp only [if_pos c3]; exact h9))
        · skip
          refine r_aload_n dX1_put_44 rfl ?_
          refine r_getR dX1_put_45 fs_40_0 fk_X1_11 ?_
          refine r_iload dX1_put_48 rfl ?_
          refine r_lald dX1_put_50 as_41 (g2 c1 c2 c3) ?_
          refine r_lload dX1_put_51 rfl ?_
          refine r_lor dX1_put_53 ?_
          refine r_goto (tgt := 71) dX1_put_54 (by decide) ?_
          exact q_weak (lo' := [none, none, none, none, none, none, none]) trivial (by have h9 := hJ1; simp only [if_neg c3] at h9; first | exact h9 | (simp only [if_neg c3]; exact h9))
      refine r_last dX1_put_71 as_41 (g3 c1 c2) ?_
      exact r_vret dX1_put_72 rfl (K2 c1 c2)
    · skip
      exact r_vret dX1_put_25 rfl (K3 c1 c2)
theorem en_X1_put_40 {x1 : Int32} {x2 : Int32} {x3 : Int32} (K : Fw l D ad kA mX1_put_40 0 [some (.ref (ad 40)), some (.int x1), some (.int x2), some (.int x3), none, none, none] [] M Q) : Cal l D ad kA mX1_put_40 [.ref (ad 40), .int x1, .int x2, .int x3] M Q := Cal.of (by decide) rfl rfl (Nat.le_of_ble_eq_true rfl) K
theorem t_X1_put_42_0 {x1 : Int32} {x2 : Int32} {x3 : Int32} 
    (g1 : (¬ (((x1 * 3) + (x2 >>> ((6 : Int32) &&& 31))) < 0)) → (((x1 * 3) + (x2 >>> ((6 : Int32) &&& 31))) < 483) → (x3 = 0) → vp_in ((x1 * 3) + (x2 >>> ((6 : Int32) &&& 31))) 483)
    (g2 : (¬ (((x1 * 3) + (x2 >>> ((6 : Int32) &&& 31))) < 0)) → (((x1 * 3) + (x2 >>> ((6 : Int32) &&& 31))) < 483) → (¬ (x3 = 0)) → vp_in ((x1 * 3) + (x2 >>> ((6 : Int32) &&& 31))) 483)
    (g3 : (¬ (((x1 * 3) + (x2 >>> ((6 : Int32) &&& 31))) < 0)) → (((x1 * 3) + (x2 >>> ((6 : Int32) &&& 31))) < 483) → vp_in ((x1 * 3) + (x2 >>> ((6 : Int32) &&& 31))) 483)
    (K1 : (((x1 * 3) + (x2 >>> ((6 : Int32) &&& 31))) < 0) → Q (.returned none) M)
    (K2 : (¬ (((x1 * 3) + (x2 >>> ((6 : Int32) &&& 31))) < 0)) → (((x1 * 3) + (x2 >>> ((6 : Int32) &&& 31))) < 483) → Q (.returned none) (sL M 43 ((x1 * 3) + (x2 >>> ((6 : Int32) &&& 31))).toNatClampNeg (if x3 = 0 then (gL M 43 ((x1 * 3) + (x2 >>> ((6 : Int32) &&& 31))).toNatClampNeg) &&& ((lshl 1 (x2 &&& 63)) ^^^ (-1)) else (gL M 43 ((x1 * 3) + (x2 >>> ((6 : Int32) &&& 31))).toNatClampNeg) ||| (lshl 1 (x2 &&& 63)))))
    (K3 : (¬ (((x1 * 3) + (x2 >>> ((6 : Int32) &&& 31))) < 0)) → (¬ (((x1 * 3) + (x2 >>> ((6 : Int32) &&& 31))) < 483)) → Q (.returned none) M) : Fw l D ad kA mX1_put_42 0 [some (.ref (ad 42)), some (.int x1), some (.int x2), some (.int x3), none, none, none] [] M Q := by
  refine r_iload_n dX1_put_0 rfl ?_
  refine r_iconst (v := 3) dX1_put_1 kI_3 ?_
  refine r_imul dX1_put_2 ?_
  refine r_iload_n dX1_put_3 rfl ?_
  refine r_bipush (v := 6) dX1_put_4 kB_6 ?_
  refine r_ishr dX1_put_6 ?_
  refine r_iadd dX1_put_7 ?_
  refine q_istore (lo' := [some (.ref (ad 42)), some (.int x1), some (.int x2), some (.int x3), some (.int ((x1 * 3) + (x2 >>> ((6 : Int32) &&& 31)))), none, none]) dX1_put_8 (by decide) rfl ?_
  refine r_iload dX1_put_10 rfl ?_
  refine r_if_lt (tgt := 25) dX1_put_12 (by decide) (fun c1 => ?_) (fun c1 => ?_)
  · skip
    exact r_vret dX1_put_25 rfl (K1 c1)
  · skip
    refine r_iload dX1_put_15 rfl ?_
    refine r_aload_n dX1_put_17 rfl ?_
    refine r_getR dX1_put_18 fs_42_0 fk_X1_11 ?_
    refine r_alen (v := 483) dX1_put_21 as_43 (by decide) (by decide) ?_
    refine r_icmp_lt (tgt := 26) dX1_put_22 (by decide) (fun c2 => ?_) (fun c2 => ?_)
    · skip
      refine r_lconst (v := 1) dX1_put_26 kL_1 ?_
      refine r_iload_n dX1_put_27 rfl ?_
      refine r_bipush (v := 63) dX1_put_28 kB_63 ?_
      refine r_iand dX1_put_30 ?_
      refine q_lshl dX1_put_31 ?_
      refine q_lstore (lo' := [some (.ref (ad 42)), some (.int x1), some (.int x2), some (.int x3), some (.int ((x1 * 3) + (x2 >>> ((6 : Int32) &&& 31)))), some (.long (lshl 1 (x2 &&& 63))), none]) dX1_put_32 (by decide) rfl ?_
      refine r_aload_n dX1_put_34 rfl ?_
      refine r_getR dX1_put_35 fs_42_0 fk_X1_11 ?_
      refine r_iload dX1_put_38 rfl ?_
      refine r_iload_n dX1_put_40 rfl ?_
      suffices hJ1 : Fw l D ad kA mX1_put_42 71 [none, none, none, none, none, none, none] [.long (if x3 = 0 then (gL M 43 ((x1 * 3) + (x2 >>> ((6 : Int32) &&& 31))).toNatClampNeg) &&& ((lshl 1 (x2 &&& 63)) ^^^ (-1)) else (gL M 43 ((x1 * 3) + (x2 >>> ((6 : Int32) &&& 31))).toNatClampNeg) ||| (lshl 1 (x2 &&& 63))), .int ((x1 * 3) + (x2 >>> ((6 : Int32) &&& 31))), .ref (ad 43)] M Q by
        refine r_if_eq (tgt := 57) dX1_put_41 (by decide) (fun c3 => ?_) (fun c3 => ?_)
        · skip
          refine r_aload_n dX1_put_57 rfl ?_
          refine r_getR dX1_put_58 fs_42_0 fk_X1_11 ?_
          refine r_iload dX1_put_61 rfl ?_
          refine r_lald dX1_put_63 as_43 (g1 c1 c2 c3) ?_
          refine r_lload dX1_put_64 rfl ?_
          refine r_ldc2 (v := (-1)) dX1_put_66 co_X1_15 ?_
          refine r_lxor dX1_put_69 ?_
          refine r_land dX1_put_70 ?_
          exact q_weak (lo' := [none, none, none, none, none, none, none]) trivial (by have h9 := hJ1; simp only [if_pos c3] at h9; first | exact h9 | (simp only [if_pos c3]; exact h9))
        · skip
          refine r_aload_n dX1_put_44 rfl ?_
          refine r_getR dX1_put_45 fs_42_0 fk_X1_11 ?_
          refine r_iload dX1_put_48 rfl ?_
          refine r_lald dX1_put_50 as_43 (g2 c1 c2 c3) ?_
          refine r_lload dX1_put_51 rfl ?_
          refine r_lor dX1_put_53 ?_
          refine r_goto (tgt := 71) dX1_put_54 (by decide) ?_
          exact q_weak (lo' := [none, none, none, none, none, none, none]) trivial (by have h9 := hJ1; simp only [if_neg c3] at h9; first | exact h9 | (simp only [if_neg c3]; exact h9))
      refine r_last dX1_put_71 as_43 (g3 c1 c2) ?_
      exact r_vret dX1_put_72 rfl (K2 c1 c2)
    · skip
      exact r_vret dX1_put_25 rfl (K3 c1 c2)
theorem en_X1_put_42 {x1 : Int32} {x2 : Int32} {x3 : Int32} (K : Fw l D ad kA mX1_put_42 0 [some (.ref (ad 42)), some (.int x1), some (.int x2), some (.int x3), none, none, none] [] M Q) : Cal l D ad kA mX1_put_42 [.ref (ad 42), .int x1, .int x2, .int x3] M Q := Cal.of (by decide) rfl rfl (Nat.le_of_ble_eq_true rfl) K
def v_X1_has_40 (M : Mem) (x1 : Int32) (x2 : Int32) : Int32 := if ((x1 * 3) + (x2 >>> ((6 : Int32) &&& 31))) < 0 then 0 else if 483 ≤ ((x1 * 3) + (x2 >>> ((6 : Int32) &&& 31))) then 0 else if (lg_cmp ((lushr (gL M 41 ((x1 * 3) + (x2 >>> ((6 : Int32) &&& 31))).toNatClampNeg) (x2 &&& 63)) &&& 1) 0) = 0 then 0 else 1
def g_X1_has_40 (M : Mem) (x1 : Int32) (x2 : Int32) : Prop := ((¬ (((x1 * 3) + (x2 >>> ((6 : Int32) &&& 31))) < 0)) → (¬ (483 ≤ ((x1 * 3) + (x2 >>> ((6 : Int32) &&& 31))))) → vp_in ((x1 * 3) + (x2 >>> ((6 : Int32) &&& 31))) 483)
theorem ct_X1_has_40 {x1 : Int32} {x2 : Int32}  (g : g_X1_has_40 M x1 x2) (h : Q (.returned (some (.int (v_X1_has_40 M x1 x2)))) M) : Cal l D ad kA mX1_has_40 [.ref (ad 40), .int x1, .int x2] M Q := by
  refine Cal.of (lo := [some (.ref (ad 40)), some (.int x1), some (.int x2), none]) (by decide) rfl rfl (Nat.le_of_ble_eq_true rfl) ?_
  have g1 := g
  refine r_iload_n dX1_has_0 rfl ?_
  refine r_iconst (v := 3) dX1_has_1 kI_3 ?_
  refine r_imul dX1_has_2 ?_
  refine r_iload_n dX1_has_3 rfl ?_
  refine r_bipush (v := 6) dX1_has_4 kB_6 ?_
  refine r_ishr dX1_has_6 ?_
  refine r_iadd dX1_has_7 ?_
  refine q_istore_n (lo' := [some (.ref (ad 40)), some (.int x1), some (.int x2), some (.int ((x1 * 3) + (x2 >>> ((6 : Int32) &&& 31))))]) dX1_has_8 (by decide) rfl ?_
  refine r_iload_n dX1_has_9 rfl ?_
  suffices hJ1 : Fw l D ad kA mX1_has_40 45 [none, none, none, none] [.int (if ((x1 * 3) + (x2 >>> ((6 : Int32) &&& 31))) < 0 then 0 else if 483 ≤ ((x1 * 3) + (x2 >>> ((6 : Int32) &&& 31))) then 0 else if (lg_cmp ((lushr (gL M 41 ((x1 * 3) + (x2 >>> ((6 : Int32) &&& 31))).toNatClampNeg) (x2 &&& 63)) &&& 1) 0) = 0 then 0 else 1)] M Q by
    refine r_if_lt (tgt := 44) dX1_has_10 (by decide) (fun c1 => ?_) (fun c1 => ?_)
    · skip
      refine r_iconst (v := 0) dX1_has_44 kI_0 ?_
      exact q_weak (lo' := [none, none, none, none]) trivial (by have h9 := hJ1; simp only [if_pos c1] at h9; first | exact h9 | (simp only [if_pos c1]; exact h9))
    · skip
      refine r_iload_n dX1_has_13 rfl ?_
      refine r_aload_n dX1_has_14 rfl ?_
      refine r_getR dX1_has_15 fs_40_0 fk_X1_11 ?_
      refine r_alen (v := 483) dX1_has_18 as_41 (by decide) (by decide) ?_
      refine r_icmp_ge (tgt := 44) dX1_has_19 (by decide) (fun c2 => ?_) (fun c2 => ?_)
      · skip
        refine r_iconst (v := 0) dX1_has_44 kI_0 ?_
        exact q_weak (lo' := [none, none, none, none]) trivial (by have h9 := hJ1; simp only [if_neg c1, if_pos c2] at h9; first | exact h9 | (simp only [if_neg c1, if_pos c2]; exact h9))
      · skip
        refine r_aload_n dX1_has_22 rfl ?_
        refine r_getR dX1_has_23 fs_40_0 fk_X1_11 ?_
        refine r_iload_n dX1_has_26 rfl ?_
        refine r_lald dX1_has_27 as_41 (g1 c1 c2) ?_
        refine r_iload_n dX1_has_28 rfl ?_
        refine r_bipush (v := 63) dX1_has_29 kB_63 ?_
        refine r_iand dX1_has_31 ?_
        refine q_lushr dX1_has_32 ?_
        refine r_lconst (v := 1) dX1_has_33 kL_1 ?_
        refine r_land dX1_has_34 ?_
        refine r_lconst (v := 0) dX1_has_35 kL_0 ?_
        refine r_lcmp dX1_has_36 ?_
        refine r_if_eq (tgt := 44) dX1_has_37 (by decide) (fun c3 => ?_) (fun c3 => ?_)
        · skip
          refine r_iconst (v := 0) dX1_has_44 kI_0 ?_
          exact q_weak (lo' := [none, none, none, none]) trivial (by have h9 := hJ1; simp only [if_neg c1, if_neg c2, if_pos c3] at h9; first | exact h9 | (simp only [if_neg c1, if_neg c2, if_pos c3]; exact h9))
        · skip
          refine r_iconst (v := 1) dX1_has_40 kI_1 ?_
          refine r_goto (tgt := 45) dX1_has_41 (by decide) ?_
          exact q_weak (lo' := [none, none, none, none]) trivial (by have h9 := hJ1; simp only [if_neg c1, if_neg c2, if_neg c3] at h9; first | exact h9 | (simp only [if_neg c1, if_neg c2, if_neg c3]; exact h9))
  exact r_zret dX1_has_45 rfl (nar_z (ite01 (Or.inl rfl) (ite01 (Or.inl rfl) (ite01 (Or.inl rfl) (Or.inr rfl))))).1 h
theorem z_X1_has_40 {M : Mem} {x1 : Int32} {x2 : Int32} : v_X1_has_40 M x1 x2 = 0 ∨ v_X1_has_40 M x1 x2 = 1 := (ite01 (Or.inl rfl) (ite01 (Or.inl rfl) (ite01 (Or.inl rfl) (Or.inr rfl))))
def v_X1_has_42 (M : Mem) (x1 : Int32) (x2 : Int32) : Int32 := if ((x1 * 3) + (x2 >>> ((6 : Int32) &&& 31))) < 0 then 0 else if 483 ≤ ((x1 * 3) + (x2 >>> ((6 : Int32) &&& 31))) then 0 else if (lg_cmp ((lushr (gL M 43 ((x1 * 3) + (x2 >>> ((6 : Int32) &&& 31))).toNatClampNeg) (x2 &&& 63)) &&& 1) 0) = 0 then 0 else 1
def g_X1_has_42 (M : Mem) (x1 : Int32) (x2 : Int32) : Prop := ((¬ (((x1 * 3) + (x2 >>> ((6 : Int32) &&& 31))) < 0)) → (¬ (483 ≤ ((x1 * 3) + (x2 >>> ((6 : Int32) &&& 31))))) → vp_in ((x1 * 3) + (x2 >>> ((6 : Int32) &&& 31))) 483)
theorem ct_X1_has_42 {x1 : Int32} {x2 : Int32}  (g : g_X1_has_42 M x1 x2) (h : Q (.returned (some (.int (v_X1_has_42 M x1 x2)))) M) : Cal l D ad kA mX1_has_42 [.ref (ad 42), .int x1, .int x2] M Q := by
  refine Cal.of (lo := [some (.ref (ad 42)), some (.int x1), some (.int x2), none]) (by decide) rfl rfl (Nat.le_of_ble_eq_true rfl) ?_
  have g1 := g
  refine r_iload_n dX1_has_0 rfl ?_
  refine r_iconst (v := 3) dX1_has_1 kI_3 ?_
  refine r_imul dX1_has_2 ?_
  refine r_iload_n dX1_has_3 rfl ?_
  refine r_bipush (v := 6) dX1_has_4 kB_6 ?_
  refine r_ishr dX1_has_6 ?_
  refine r_iadd dX1_has_7 ?_
  refine q_istore_n (lo' := [some (.ref (ad 42)), some (.int x1), some (.int x2), some (.int ((x1 * 3) + (x2 >>> ((6 : Int32) &&& 31))))]) dX1_has_8 (by decide) rfl ?_
  refine r_iload_n dX1_has_9 rfl ?_
  suffices hJ1 : Fw l D ad kA mX1_has_42 45 [none, none, none, none] [.int (if ((x1 * 3) + (x2 >>> ((6 : Int32) &&& 31))) < 0 then 0 else if 483 ≤ ((x1 * 3) + (x2 >>> ((6 : Int32) &&& 31))) then 0 else if (lg_cmp ((lushr (gL M 43 ((x1 * 3) + (x2 >>> ((6 : Int32) &&& 31))).toNatClampNeg) (x2 &&& 63)) &&& 1) 0) = 0 then 0 else 1)] M Q by
    refine r_if_lt (tgt := 44) dX1_has_10 (by decide) (fun c1 => ?_) (fun c1 => ?_)
    · skip
      refine r_iconst (v := 0) dX1_has_44 kI_0 ?_
      exact q_weak (lo' := [none, none, none, none]) trivial (by have h9 := hJ1; simp only [if_pos c1] at h9; first | exact h9 | (simp only [if_pos c1]; exact h9))
    · skip
      refine r_iload_n dX1_has_13 rfl ?_
      refine r_aload_n dX1_has_14 rfl ?_
      refine r_getR dX1_has_15 fs_42_0 fk_X1_11 ?_
      refine r_alen (v := 483) dX1_has_18 as_43 (by decide) (by decide) ?_
      refine r_icmp_ge (tgt := 44) dX1_has_19 (by decide) (fun c2 => ?_) (fun c2 => ?_)
      · skip
        refine r_iconst (v := 0) dX1_has_44 kI_0 ?_
        exact q_weak (lo' := [none, none, none, none]) trivial (by have h9 := hJ1; simp only [if_neg c1, if_pos c2] at h9; first | exact h9 | (simp only [if_neg c1, if_pos c2]; exact h9))
      · skip
        refine r_aload_n dX1_has_22 rfl ?_
        refine r_getR dX1_has_23 fs_42_0 fk_X1_11 ?_
        refine r_iload_n dX1_has_26 rfl ?_
        refine r_lald dX1_has_27 as_43 (g1 c1 c2) ?_
        refine r_iload_n dX1_has_28 rfl ?_
        refine r_bipush (v := 63) dX1_has_29 kB_63 ?_
        refine r_iand dX1_has_31 ?_
        refine q_lushr dX1_has_32 ?_
        refine r_lconst (v := 1) dX1_has_33 kL_1 ?_
        refine r_land dX1_has_34 ?_
        refine r_lconst (v := 0) dX1_has_35 kL_0 ?_
        refine r_lcmp dX1_has_36 ?_
        refine r_if_eq (tgt := 44) dX1_has_37 (by decide) (fun c3 => ?_) (fun c3 => ?_)
        · skip
          refine r_iconst (v := 0) dX1_has_44 kI_0 ?_
          exact q_weak (lo' := [none, none, none, none]) trivial (by have h9 := hJ1; simp only [if_neg c1, if_neg c2, if_pos c3] at h9; first | exact h9 | (simp only [if_neg c1, if_neg c2, if_pos c3]; exact h9))
        · skip
          refine r_iconst (v := 1) dX1_has_40 kI_1 ?_
          refine r_goto (tgt := 45) dX1_has_41 (by decide) ?_
          exact q_weak (lo' := [none, none, none, none]) trivial (by have h9 := hJ1; simp only [if_neg c1, if_neg c2, if_neg c3] at h9; first | exact h9 | (simp only [if_neg c1, if_neg c2, if_neg c3]; exact h9))
  exact r_zret dX1_has_45 rfl (nar_z (ite01 (Or.inl rfl) (ite01 (Or.inl rfl) (ite01 (Or.inl rfl) (Or.inr rfl))))).1 h
theorem z_X1_has_42 {M : Mem} {x1 : Int32} {x2 : Int32} : v_X1_has_42 M x1 x2 = 0 ∨ v_X1_has_42 M x1 x2 = 1 := (ite01 (Or.inl rfl) (ite01 (Or.inl rfl) (ite01 (Or.inl rfl) (Or.inr rfl))))
theorem t_X5_forget_0  
    (K1 : Q (.returned none) (sI M 35 4 0)) : Fw l D ad kA mX5_forget 0 [some (.ref (ad 35))] [] M Q := by
  refine r_aload_n dX5_forget_0 rfl ?_
  refine r_iconst (v := 0) dX5_forget_1 kI_0 ?_
  refine r_putZ dX5_forget_2 fs_35_4 fk_X5_38 fp_X5_4 (Or.inl rfl) ?_
  exact r_vret dX5_forget_5 rfl K1
theorem en_X5_forget  (K : Fw l D ad kA mX5_forget 0 [some (.ref (ad 35))] [] M Q) : Cal l D ad kA mX5_forget [.ref (ad 35)] M Q := Cal.of (by decide) rfl rfl (Nat.le_of_ble_eq_true rfl) K
def v_X5_pairPoints (M : Mem) (x1 : Int32) (x3 : Int32) : Int32 := if (gI M 6 x3.toNatClampNeg) = (gI M 11 x1.toNatClampNeg) then if 2 < (iabs ((gI M 5 x3.toNatClampNeg) - (gI M 10 x1.toNatClampNeg))) then 16777216 else iabs ((gI M 5 x3.toNatClampNeg) - (gI M 10 x1.toNatClampNeg)) else if (iabs ((gI M 5 x3.toNatClampNeg) - (gI M 10 x1.toNatClampNeg))) = 0 then 2 else 16777216
def g_X5_pairPoints (M : Mem) (x1 : Int32) (x3 : Int32) : Prop := (vp_in x3 160) ∧ (vp_in x1 160)
theorem ct_X5_pairPoints {x1 : Int32} {x3 : Int32}  (g : g_X5_pairPoints M x1 x3) (h : Q (.returned (some (.int (v_X5_pairPoints M x1 x3)))) M) : Cal l D ad kA mX5_pairPoints [.ref (ad 35), .int x1, .ref (ad 4), .int x3] M Q := by
  refine Cal.of (lo := [some (.ref (ad 35)), some (.int x1), some (.ref (ad 4)), some (.int x3), none]) (by decide) rfl rfl (Nat.le_of_ble_eq_true rfl) ?_
  obtain ⟨g1, g2⟩ := g
  refine r_aload_n dX5_pairPoints_0 rfl ?_
  refine r_getR dX5_pairPoints_1 fs_4_0 fk_X5_70 ?_
  refine r_iload_n dX5_pairPoints_4 rfl ?_
  refine r_iald dX5_pairPoints_5 as_5 g1 ?_
  refine r_aload_n dX5_pairPoints_6 rfl ?_
  refine r_getR dX5_pairPoints_7 fs_35_0 fk_X5_34 ?_
  refine r_getR dX5_pairPoints_10 fs_9_0 fk_X5_70 ?_
  refine r_iload_n dX5_pairPoints_13 rfl ?_
  refine r_iald dX5_pairPoints_14 as_10 g2 ?_
  refine r_isub dX5_pairPoints_15 ?_
  refine q_mabs dX5_pairPoints_16 mk_X5_73 (by decide) (Nat.le_of_ble_eq_true rfl) ?_
  refine q_istore (lo' := [some (.ref (ad 35)), some (.int x1), some (.ref (ad 4)), some (.int x3), some (.int (iabs ((gI M 5 x3.toNatClampNeg) - (gI M 10 x1.toNatClampNeg))))]) dX5_pairPoints_19 (by decide) rfl ?_
  refine r_aload_n dX5_pairPoints_21 rfl ?_
  refine r_getR dX5_pairPoints_22 fs_4_1 fk_X5_77 ?_
  refine r_iload_n dX5_pairPoints_25 rfl ?_
  refine r_iald dX5_pairPoints_26 as_6 g1 ?_
  refine r_aload_n dX5_pairPoints_27 rfl ?_
  refine r_getR dX5_pairPoints_28 fs_35_0 fk_X5_34 ?_
  refine r_getR dX5_pairPoints_31 fs_9_1 fk_X5_77 ?_
  refine r_iload_n dX5_pairPoints_34 rfl ?_
  refine r_iald dX5_pairPoints_35 as_11 g2 ?_
  refine r_icmp_ne (tgt := 53) dX5_pairPoints_36 (by decide) (fun c1 => ?_) (fun c1 => ?_)
  · skip
    refine r_iload dX5_pairPoints_53 rfl ?_
    suffices hJ1 : Fw l D ad kA mX5_pairPoints 64 [none, none, none, none, none] [.int (if (iabs ((gI M 5 x3.toNatClampNeg) - (gI M 10 x1.toNatClampNeg))) = 0 then 2 else 16777216)] M Q by
      refine r_if_ne (tgt := 62) dX5_pairPoints_55 (by decide) (fun c2 => ?_) (fun c2 => ?_)
      · skip
        refine r_ldc (v := 16777216) dX5_pairPoints_62 co_X5_55 ?_
        exact q_weak (lo' := [none, none, none, none, none]) trivial (by have h9 := hJ1; simp only [if_neg c2] at h9; first | exact h9 | (simp only [if_neg c2]; exact h9))
      · skip
        refine r_iconst (v := 2) dX5_pairPoints_58 kI_2 ?_
        refine r_goto (tgt := 64) dX5_pairPoints_59 (by decide) ?_
        exact q_weak (lo' := [none, none, none, none, none]) trivial (by have h9 := hJ1; simp only [if_pos c2] at h9; first | exact h9 | (simp only [if_pos c2]; exact h9))
    exact r_iret dX5_pairPoints_64 rfl (by have h9 := h; simp only [v_X5_pairPoints, if_neg c1] at h9; first | exact h9 | (simp only [if_neg c1]; exact h9))
  · skip
    refine r_iload dX5_pairPoints_39 rfl ?_
    refine r_iconst (v := 2) dX5_pairPoints_41 kI_2 ?_
    suffices hJ2 : Fw l D ad kA mX5_pairPoints 52 [none, none, none, none, none] [.int (if 2 < (iabs ((gI M 5 x3.toNatClampNeg) - (gI M 10 x1.toNatClampNeg))) then 16777216 else iabs ((gI M 5 x3.toNatClampNeg) - (gI M 10 x1.toNatClampNeg)))] M Q by
      refine r_icmp_gt (tgt := 50) dX5_pairPoints_42 (by decide) (fun c3 => ?_) (fun c3 => ?_)
      · skip
        refine r_ldc (v := 16777216) dX5_pairPoints_50 co_X5_55 ?_
        exact q_weak (lo' := [none, none, none, none, none]) trivial (by have h9 := hJ2; simp only [if_pos c3] at h9; first | exact h9 | (simp only [if_pos c3]; exact h9))
      · skip
        refine r_iload dX5_pairPoints_45 rfl ?_
        refine r_goto (tgt := 52) dX5_pairPoints_47 (by decide) ?_
        exact q_weak (lo' := [none, none, none, none, none]) trivial (by have h9 := hJ2; simp only [if_neg c3] at h9; first | exact h9 | (simp only [if_neg c3]; exact h9))
    exact r_iret dX5_pairPoints_52 rfl (by have h9 := h; simp only [v_X5_pairPoints, if_pos c1] at h9; first | exact h9 | (simp only [if_pos c1]; exact h9))
theorem t_X5_weigh_0  
    (K1 : Fw l D ad kA mX5_weigh 8 [some (.ref (ad 35)), some (.ref (ad 4)), some (.int (gI M 9 4)), none, none, none, none, none, none, none, none] [] M Q) : Fw l D ad kA mX5_weigh 0 [some (.ref (ad 35)), some (.ref (ad 4)), none, none, none, none, none, none, none, none, none] [] M Q := by
  refine r_aload_n dX5_weigh_0 rfl ?_
  refine r_getR dX5_weigh_1 fs_35_0 fk_X5_34 ?_
  refine r_getI dX5_weigh_4 fs_9_4 fk_X5_49 ?_
  refine q_istore_n (lo' := [some (.ref (ad 35)), some (.ref (ad 4)), some (.int (gI M 9 4)), none, none, none, none, none, none, none, none]) dX5_weigh_7 (by decide) rfl ?_
  exact K1
theorem t_X5_weigh_8 {x2 : Int32} 
    (K1 : (x2 < 0) → Q (.returned none) M)
    (K2 : (¬ (x2 < 0)) → Fw l D ad kA mX5_weigh 21 [some (.ref (ad 35)), some (.ref (ad 4)), some (.int x2), some (.int 16777216), some (.int (gI M 4 4)), none, none, none, none, none, none] [] M Q) : Fw l D ad kA mX5_weigh 8 [some (.ref (ad 35)), some (.ref (ad 4)), some (.int x2), none, none, none, none, none, none, none, none] [] M Q := by
  refine r_iload_n dX5_weigh_8 rfl ?_
  refine r_if_lt (tgt := 252) dX5_weigh_9 (by decide) (fun c1 => ?_) (fun c1 => ?_)
  · skip
    exact r_vret dX5_weigh_252 rfl (K1 c1)
  · skip
    refine r_ldc (v := 16777216) dX5_weigh_12 co_X5_55 ?_
    refine q_istore_n (lo' := [some (.ref (ad 35)), some (.ref (ad 4)), some (.int x2), some (.int 16777216), none, none, none, none, none, none, none]) dX5_weigh_14 (by decide) rfl ?_
    refine r_aload_n dX5_weigh_15 rfl ?_
    refine r_getI dX5_weigh_16 fs_4_4 fk_X5_49 ?_
    refine q_istore (lo' := [some (.ref (ad 35)), some (.ref (ad 4)), some (.int x2), some (.int 16777216), some (.int (gI M 4 4)), none, none, none, none, none, none]) dX5_weigh_19 (by decide) rfl ?_
    exact (K2 c1)
theorem t_X5_weigh_21 {x2 : Int32} {x3 : Int32} {x4 : Int32} 
    (g1 : (¬ (x4 < 0)) → (¬ ((gI M 9 4) ≤ x2)) → vp_in x4 161)
    (g2 : (¬ (x4 < 0)) → (¬ ((gI M 4 4) ≤ x4)) → vp_in (x4 + 1) 161)
    (g3 : (¬ (x4 < 0)) → (¬ ((if (gI M 9 4) ≤ x2 then 0 else if (gI M 4 4) ≤ x4 then 0 else 1 : Int32) = 0)) → g_X5_pairPoints M x2 x4)
    (K1 : (x4 < 0) → Fw l D ad kA mX5_weigh 8 [some (.ref (ad 35)), some (.ref (ad 4)), some (.int (x2 + (-1))), none, none, none, none, none, none, none, none] [] M Q)
    (K2 : (¬ (x4 < 0)) → Cal l D ad kA mX1_put_40 [.ref (ad 40), .int x2, .int x4, .int (if (if (if (gI M 9 4) ≤ x2 then 0 else if (gI M 4 4) ≤ x4 then 0 else 1 : Int32) = 0 then 16777216 else x3 + (v_X5_pairPoints M x2 x4) : Int32) = (imin (if (if (gI M 9 4) ≤ x2 then 0 else if (gI M 4 4) ≤ x4 then 0 else 1 : Int32) = 0 then 16777216 else x3 + (v_X5_pairPoints M x2 x4)) (3 + (imin (if (gI M 9 4) ≤ x2 then 16777216 else gI M 39 x4.toNatClampNeg) (if (gI M 4 4) ≤ x4 then 16777216 else gI M 39 (x4 + 1).toNatClampNeg)))) then 1 else 0)] M (fun oc M2 => oc = .returned none ∧ Fw l D ad kA mX5_weigh 190 [some (.ref (ad 35)), some (.ref (ad 4)), some (.int x2), none, some (.int x4), some (.int (if (gI M 9 4) ≤ x2 then 16777216 else gI M 39 x4.toNatClampNeg)), none, none, none, some (.int (imin (if (if (gI M 9 4) ≤ x2 then 0 else if (gI M 4 4) ≤ x4 then 0 else 1 : Int32) = 0 then 16777216 else x3 + (v_X5_pairPoints M x2 x4)) (3 + (imin (if (gI M 9 4) ≤ x2 then 16777216 else gI M 39 x4.toNatClampNeg) (if (gI M 4 4) ≤ x4 then 16777216 else gI M 39 (x4 + 1).toNatClampNeg))))), some (.int (if x2 = (gI M 9 4) then if x4 = (gI M 4 4) then 1 else 0 else 0))] [] M2 Q)) : Fw l D ad kA mX5_weigh 21 [some (.ref (ad 35)), some (.ref (ad 4)), some (.int x2), some (.int x3), some (.int x4), none, none, none, none, none, none] [] M Q := by
  refine r_iload dX5_weigh_21 rfl ?_
  refine r_if_lt (tgt := 246) dX5_weigh_23 (by decide) (fun c1 => ?_) (fun c1 => ?_)
  · skip
    refine q_iinc (v := x2 + (-1)) (lo' := [some (.ref (ad 35)), some (.ref (ad 4)), some (.int (x2 + (-1))), some (.int x3), some (.int x4), none, none, none, none, none, none]) dX5_weigh_246 rfl (congrArg (fun q => x2 + q) kI_m1) (by decide) rfl ?_
    refine r_goto (tgt := 8) dX5_weigh_249 (by decide) ?_
    exact q_weak (lo' := [some (.ref (ad 35)), some (.ref (ad 4)), some (.int (x2 + (-1))), none, none, none, none, none, none, none, none]) ⟨rfl, rfl, rfl, trivial⟩ (K1 c1)
  · skip
    refine r_iload_n dX5_weigh_26 rfl ?_
    refine r_aload_n dX5_weigh_27 rfl ?_
    refine r_getR dX5_weigh_28 fs_35_0 fk_X5_34 ?_
    refine r_getI dX5_weigh_31 fs_9_4 fk_X5_49 ?_
    suffices hJ1 : Fw l D ad kA mX5_weigh 49 [some (.ref (ad 35)), some (.ref (ad 4)), some (.int x2), some (.int x3), some (.int x4), none, none, none, none, none, none] [.int (if (gI M 9 4) ≤ x2 then 16777216 else gI M 39 x4.toNatClampNeg)] M Q by
      refine r_icmp_ge (tgt := 47) dX5_weigh_34 (by decide) (fun c2 => ?_) (fun c2 => ?_)
      · skip
        refine r_ldc (v := 16777216) dX5_weigh_47 co_X5_55 ?_
        exact q_weak (lo' := [some (.ref (ad 35)), some (.ref (ad 4)), some (.int x2), some (.int x3), some (.int x4), none, none, none, none, none, none]) ⟨rfl, rfl, rfl, rfl, rfl, trivial⟩ (by have h9 := hJ1; simp only [if_pos c2] at h9; first | exact h9 | (simp only [if_pos c2]; exact h9))
      · skip
        refine r_aload_n dX5_weigh_37 rfl ?_
        refine r_getR dX5_weigh_38 fs_35_6 fk_X5_21 ?_
        refine r_iload dX5_weigh_41 rfl ?_
        refine r_iald dX5_weigh_43 as_39 (g1 c1 c2) ?_
        refine r_goto (tgt := 49) dX5_weigh_44 (by decide) ?_
        exact q_weak (lo' := [some (.ref (ad 35)), some (.ref (ad 4)), some (.int x2), some (.int x3), some (.int x4), none, none, none, none, none, none]) ⟨rfl, rfl, rfl, rfl, rfl, trivial⟩ (by have h9 := hJ1; simp only [if_neg c2] at h9; first | exact h9 | (simp only [if_neg c2]; exact h9))
    refine q_istore (lo' := [some (.ref (ad 35)), some (.ref (ad 4)), some (.int x2), some (.int x3), some (.int x4), some (.int (if (gI M 9 4) ≤ x2 then 16777216 else gI M 39 x4.toNatClampNeg)), none, none, none, none, none]) dX5_weigh_49 (by decide) rfl ?_
    refine r_iload dX5_weigh_51 rfl ?_
    refine r_aload_n dX5_weigh_53 rfl ?_
    refine r_getI dX5_weigh_54 fs_4_4 fk_X5_49 ?_
    suffices hJ2 : Fw l D ad kA mX5_weigh 74 [some (.ref (ad 35)), some (.ref (ad 4)), some (.int x2), some (.int x3), some (.int x4), some (.int (if (gI M 9 4) ≤ x2 then 16777216 else gI M 39 x4.toNatClampNeg)), none, none, none, none, none] [.int (if (gI M 4 4) ≤ x4 then 16777216 else gI M 39 (x4 + 1).toNatClampNeg)] M Q by
      refine r_icmp_ge (tgt := 72) dX5_weigh_57 (by decide) (fun c3 => ?_) (fun c3 => ?_)
      · skip
        refine r_ldc (v := 16777216) dX5_weigh_72 co_X5_55 ?_
        exact q_weak (lo' := [some (.ref (ad 35)), some (.ref (ad 4)), some (.int x2), some (.int x3), some (.int x4), some (.int (if (gI M 9 4) ≤ x2 then 16777216 else gI M 39 x4.toNatClampNeg)), none, none, none, none, none]) ⟨rfl, rfl, rfl, rfl, rfl, rfl, trivial⟩ (by have h9 := hJ2; simp only [if_pos c3] at h9; first | exact h9 | (simp only [if_pos c3]; exact h9))
      · skip
        refine r_aload_n dX5_weigh_60 rfl ?_
        refine r_getR dX5_weigh_61 fs_35_6 fk_X5_21 ?_
        refine r_iload dX5_weigh_64 rfl ?_
        refine r_iconst (v := 1) dX5_weigh_66 kI_1 ?_
        refine r_iadd dX5_weigh_67 ?_
        refine r_iald dX5_weigh_68 as_39 (g2 c1 c3) ?_
        refine r_goto (tgt := 74) dX5_weigh_69 (by decide) ?_
        exact q_weak (lo' := [some (.ref (ad 35)), some (.ref (ad 4)), some (.int x2), some (.int x3), some (.int x4), some (.int (if (gI M 9 4) ≤ x2 then 16777216 else gI M 39 x4.toNatClampNeg)), none, none, none, none, none]) ⟨rfl, rfl, rfl, rfl, rfl, rfl, trivial⟩ (by have h9 := hJ2; simp only [if_neg c3] at h9; first | exact h9 | (simp only [if_neg c3]; exact h9))
    refine q_istore (lo' := [some (.ref (ad 35)), some (.ref (ad 4)), some (.int x2), some (.int x3), some (.int x4), some (.int (if (gI M 9 4) ≤ x2 then 16777216 else gI M 39 x4.toNatClampNeg)), some (.int (if (gI M 4 4) ≤ x4 then 16777216 else gI M 39 (x4 + 1).toNatClampNeg)), none, none, none, none]) dX5_weigh_74 (by decide) rfl ?_
    refine r_iload_n dX5_weigh_76 rfl ?_
    refine r_aload_n dX5_weigh_77 rfl ?_
    refine r_getR dX5_weigh_78 fs_35_0 fk_X5_34 ?_
    refine r_getI dX5_weigh_81 fs_9_4 fk_X5_49 ?_
    suffices hJ3 : Fw l D ad kA mX5_weigh 101 [some (.ref (ad 35)), some (.ref (ad 4)), some (.int x2), some (.int x3), some (.int x4), some (.int (if (gI M 9 4) ≤ x2 then 16777216 else gI M 39 x4.toNatClampNeg)), some (.int (if (gI M 4 4) ≤ x4 then 16777216 else gI M 39 (x4 + 1).toNatClampNeg)), none, none, none, none] [.int (if (gI M 9 4) ≤ x2 then 0 else if (gI M 4 4) ≤ x4 then 0 else 1)] M Q by
      refine r_icmp_ge (tgt := 100) dX5_weigh_84 (by decide) (fun c4 => ?_) (fun c4 => ?_)
      · skip
        refine r_iconst (v := 0) dX5_weigh_100 kI_0 ?_
        exact q_weak (lo' := [some (.ref (ad 35)), some (.ref (ad 4)), some (.int x2), some (.int x3), some (.int x4), some (.int (if (gI M 9 4) ≤ x2 then 16777216 else gI M 39 x4.toNatClampNeg)), some (.int (if (gI M 4 4) ≤ x4 then 16777216 else gI M 39 (x4 + 1).toNatClampNeg)), none, none, none, none]) ⟨rfl, rfl, rfl, rfl, rfl, rfl, rfl, trivial⟩ (by have h9 := hJ3; simp only [if_pos c4] at h9; first | exact h9 | (simp only [if_pos c4]; exact h9))
      · skip
        refine r_iload dX5_weigh_87 rfl ?_
        refine r_aload_n dX5_weigh_89 rfl ?_
        refine r_getI dX5_weigh_90 fs_4_4 fk_X5_49 ?_
        refine r_icmp_ge (tgt := 100) dX5_weigh_93 (by decide) (fun c5 => ?_) (fun c5 => ?_)
        · skip
          refine r_iconst (v := 0) dX5_weigh_100 kI_0 ?_
          exact q_weak (lo' := [some (.ref (ad 35)), some (.ref (ad 4)), some (.int x2), some (.int x3), some (.int x4), some (.int (if (gI M 9 4) ≤ x2 then 16777216 else gI M 39 x4.toNatClampNeg)), some (.int (if (gI M 4 4) ≤ x4 then 16777216 else gI M 39 (x4 + 1).toNatClampNeg)), none, none, none, none]) ⟨rfl, rfl, rfl, rfl, rfl, rfl, rfl, trivial⟩ (by have h9 := hJ3; simp only [if_neg c4, if_pos c5] at h9; first | exact h9 | (simp only [if_neg c4, if_pos c5]; exact h9))
        · skip
          refine r_iconst (v := 1) dX5_weigh_96 kI_1 ?_
          refine r_goto (tgt := 101) dX5_weigh_97 (by decide) ?_
          exact q_weak (lo' := [some (.ref (ad 35)), some (.ref (ad 4)), some (.int x2), some (.int x3), some (.int x4), some (.int (if (gI M 9 4) ≤ x2 then 16777216 else gI M 39 x4.toNatClampNeg)), some (.int (if (gI M 4 4) ≤ x4 then 16777216 else gI M 39 (x4 + 1).toNatClampNeg)), none, none, none, none]) ⟨rfl, rfl, rfl, rfl, rfl, rfl, rfl, trivial⟩ (by have h9 := hJ3; simp only [if_neg c4, if_neg c5] at h9; first | exact h9 | (simp only [if_neg c4, if_neg c5]; exact h9))
    refine q_istore (lo' := [some (.ref (ad 35)), some (.ref (ad 4)), some (.int x2), some (.int x3), some (.int x4), some (.int (if (gI M 9 4) ≤ x2 then 16777216 else gI M 39 x4.toNatClampNeg)), some (.int (if (gI M 4 4) ≤ x4 then 16777216 else gI M 39 (x4 + 1).toNatClampNeg)), some (.int (if (gI M 9 4) ≤ x2 then 0 else if (gI M 4 4) ≤ x4 then 0 else 1)), none, none, none]) dX5_weigh_101 (by decide) rfl ?_
    refine r_iload dX5_weigh_103 rfl ?_
    suffices hJ4 : Fw l D ad kA mX5_weigh 123 [some (.ref (ad 35)), some (.ref (ad 4)), some (.int x2), none, some (.int x4), some (.int (if (gI M 9 4) ≤ x2 then 16777216 else gI M 39 x4.toNatClampNeg)), some (.int (if (gI M 4 4) ≤ x4 then 16777216 else gI M 39 (x4 + 1).toNatClampNeg)), none, none, none, none] [.int (if (if (gI M 9 4) ≤ x2 then 0 else if (gI M 4 4) ≤ x4 then 0 else 1 : Int32) = 0 then 16777216 else x3 + (v_X5_pairPoints M x2 x4))] M Q by
      refine r_if_eq (tgt := 121) dX5_weigh_105 (by decide) (fun c6 => ?_) (fun c6 => ?_)
      · skip
        refine r_ldc (v := 16777216) dX5_weigh_121 co_X5_55 ?_
        exact q_weak (lo' := [some (.ref (ad 35)), some (.ref (ad 4)), some (.int x2), none, some (.int x4), some (.int (if (gI M 9 4) ≤ x2 then 16777216 else gI M 39 x4.toNatClampNeg)), some (.int (if (gI M 4 4) ≤ x4 then 16777216 else gI M 39 (x4 + 1).toNatClampNeg)), none, none, none, none]) ⟨rfl, rfl, rfl, rfl, rfl, rfl, trivial⟩ (by have h9 := hJ4; simp only [if_pos c6] at h9; first | exact h9 | (simp only [if_pos c6]; exact h9))
      · skip
        refine r_iload_n dX5_weigh_108 rfl ?_
        refine r_aload_n dX5_weigh_109 rfl ?_
        refine r_iload_n dX5_weigh_110 rfl ?_
        refine r_aload_n dX5_weigh_111 rfl ?_
        refine r_iload dX5_weigh_112 rfl ?_
        refine r_callV (x := 35) (As := [.int x2, .ref (ad 4), .int x4]) (rest := [.int x3]) dX5_weigh_114 mk_X5_56 mv_X5_pairPoints rm_X5_weigh_X5_pairPoints rfl rfl (by decide +kernel) (Nat.le_of_ble_eq_true rfl) (ct_X5_pairPoints (g3 c1 c6) (⟨_, rfl, ?_⟩))
        refine r_iadd dX5_weigh_117 ?_
        refine r_goto (tgt := 123) dX5_weigh_118 (by decide) ?_
        exact q_weak (lo' := [some (.ref (ad 35)), some (.ref (ad 4)), some (.int x2), none, some (.int x4), some (.int (if (gI M 9 4) ≤ x2 then 16777216 else gI M 39 x4.toNatClampNeg)), some (.int (if (gI M 4 4) ≤ x4 then 16777216 else gI M 39 (x4 + 1).toNatClampNeg)), none, none, none, none]) ⟨rfl, rfl, rfl, rfl, rfl, rfl, trivial⟩ (by have h9 := hJ4; simp only [if_neg c6] at h9; first | exact h9 | (simp only [if_neg c6]; exact h9))
    refine q_istore (lo' := [some (.ref (ad 35)), some (.ref (ad 4)), some (.int x2), none, some (.int x4), some (.int (if (gI M 9 4) ≤ x2 then 16777216 else gI M 39 x4.toNatClampNeg)), some (.int (if (gI M 4 4) ≤ x4 then 16777216 else gI M 39 (x4 + 1).toNatClampNeg)), none, some (.int (if (if (gI M 9 4) ≤ x2 then 0 else if (gI M 4 4) ≤ x4 then 0 else 1 : Int32) = 0 then 16777216 else x3 + (v_X5_pairPoints M x2 x4))), none, none]) dX5_weigh_123 (by decide) rfl ?_
    refine r_iload dX5_weigh_125 rfl ?_
    refine r_iconst (v := 3) dX5_weigh_127 kI_3 ?_
    refine r_iload dX5_weigh_128 rfl ?_
    refine r_iload dX5_weigh_130 rfl ?_
    refine q_mmin dX5_weigh_132 mk_X5_60 (by decide) (Nat.le_of_ble_eq_true rfl) ?_
    refine r_iadd dX5_weigh_135 ?_
    refine q_mmin dX5_weigh_136 mk_X5_60 (by decide) (Nat.le_of_ble_eq_true rfl) ?_
    refine q_istore (lo' := [some (.ref (ad 35)), some (.ref (ad 4)), some (.int x2), none, some (.int x4), some (.int (if (gI M 9 4) ≤ x2 then 16777216 else gI M 39 x4.toNatClampNeg)), some (.int (if (gI M 4 4) ≤ x4 then 16777216 else gI M 39 (x4 + 1).toNatClampNeg)), none, some (.int (if (if (gI M 9 4) ≤ x2 then 0 else if (gI M 4 4) ≤ x4 then 0 else 1 : Int32) = 0 then 16777216 else x3 + (v_X5_pairPoints M x2 x4))), some (.int (imin (if (if (gI M 9 4) ≤ x2 then 0 else if (gI M 4 4) ≤ x4 then 0 else 1 : Int32) = 0 then 16777216 else x3 + (v_X5_pairPoints M x2 x4)) (3 + (imin (if (gI M 9 4) ≤ x2 then 16777216 else gI M 39 x4.toNatClampNeg) (if (gI M 4 4) ≤ x4 then 16777216 else gI M 39 (x4 + 1).toNatClampNeg))))), none]) dX5_weigh_139 (by decide) rfl ?_
    refine r_iload_n dX5_weigh_141 rfl ?_
    refine r_aload_n dX5_weigh_142 rfl ?_
    refine r_getR dX5_weigh_143 fs_35_0 fk_X5_34 ?_
    refine r_getI dX5_weigh_146 fs_9_4 fk_X5_49 ?_
    suffices hJ5 : Fw l D ad kA mX5_weigh 166 [some (.ref (ad 35)), some (.ref (ad 4)), some (.int x2), none, some (.int x4), some (.int (if (gI M 9 4) ≤ x2 then 16777216 else gI M 39 x4.toNatClampNeg)), none, none, some (.int (if (if (gI M 9 4) ≤ x2 then 0 else if (gI M 4 4) ≤ x4 then 0 else 1 : Int32) = 0 then 16777216 else x3 + (v_X5_pairPoints M x2 x4))), some (.int (imin (if (if (gI M 9 4) ≤ x2 then 0 else if (gI M 4 4) ≤ x4 then 0 else 1 : Int32) = 0 then 16777216 else x3 + (v_X5_pairPoints M x2 x4)) (3 + (imin (if (gI M 9 4) ≤ x2 then 16777216 else gI M 39 x4.toNatClampNeg) (if (gI M 4 4) ≤ x4 then 16777216 else gI M 39 (x4 + 1).toNatClampNeg))))), none] [.int (if x2 = (gI M 9 4) then if x4 = (gI M 4 4) then 1 else 0 else 0)] M Q by
      refine r_icmp_ne (tgt := 165) dX5_weigh_149 (by decide) (fun c7 => ?_) (fun c7 => ?_)
      · skip
        refine r_iconst (v := 0) dX5_weigh_165 kI_0 ?_
        exact q_weak (lo' := [some (.ref (ad 35)), some (.ref (ad 4)), some (.int x2), none, some (.int x4), some (.int (if (gI M 9 4) ≤ x2 then 16777216 else gI M 39 x4.toNatClampNeg)), none, none, some (.int (if (if (gI M 9 4) ≤ x2 then 0 else if (gI M 4 4) ≤ x4 then 0 else 1 : Int32) = 0 then 16777216 else x3 + (v_X5_pairPoints M x2 x4))), some (.int (imin (if (if (gI M 9 4) ≤ x2 then 0 else if (gI M 4 4) ≤ x4 then 0 else 1 : Int32) = 0 then 16777216 else x3 + (v_X5_pairPoints M x2 x4)) (3 + (imin (if (gI M 9 4) ≤ x2 then 16777216 else gI M 39 x4.toNatClampNeg) (if (gI M 4 4) ≤ x4 then 16777216 else gI M 39 (x4 + 1).toNatClampNeg))))), none]) ⟨rfl, rfl, rfl, rfl, rfl, rfl, rfl, trivial⟩ (by have h9 := hJ5; simp only [if_neg c7] at h9; first | exact h9 | (simp only [if_neg c7]; exact h9))
      · skip
        refine r_iload dX5_weigh_152 rfl ?_
        refine r_aload_n dX5_weigh_154 rfl ?_
        refine r_getI dX5_weigh_155 fs_4_4 fk_X5_49 ?_
        refine r_icmp_ne (tgt := 165) dX5_weigh_158 (by decide) (fun c8 => ?_) (fun c8 => ?_)
        · skip
          refine r_iconst (v := 0) dX5_weigh_165 kI_0 ?_
          exact q_weak (lo' := [some (.ref (ad 35)), some (.ref (ad 4)), some (.int x2), none, some (.int x4), some (.int (if (gI M 9 4) ≤ x2 then 16777216 else gI M 39 x4.toNatClampNeg)), none, none, some (.int (if (if (gI M 9 4) ≤ x2 then 0 else if (gI M 4 4) ≤ x4 then 0 else 1 : Int32) = 0 then 16777216 else x3 + (v_X5_pairPoints M x2 x4))), some (.int (imin (if (if (gI M 9 4) ≤ x2 then 0 else if (gI M 4 4) ≤ x4 then 0 else 1 : Int32) = 0 then 16777216 else x3 + (v_X5_pairPoints M x2 x4)) (3 + (imin (if (gI M 9 4) ≤ x2 then 16777216 else gI M 39 x4.toNatClampNeg) (if (gI M 4 4) ≤ x4 then 16777216 else gI M 39 (x4 + 1).toNatClampNeg))))), none]) ⟨rfl, rfl, rfl, rfl, rfl, rfl, rfl, trivial⟩ (by have h9 := hJ5; simp only [if_pos c7, if_neg c8] at h9; first | exact h9 | (simp only [if_pos c7, if_neg c8]; exact h9))
        · skip
          refine r_iconst (v := 1) dX5_weigh_161 kI_1 ?_
          refine r_goto (tgt := 166) dX5_weigh_162 (by decide) ?_
          exact q_weak (lo' := [some (.ref (ad 35)), some (.ref (ad 4)), some (.int x2), none, some (.int x4), some (.int (if (gI M 9 4) ≤ x2 then 16777216 else gI M 39 x4.toNatClampNeg)), none, none, some (.int (if (if (gI M 9 4) ≤ x2 then 0 else if (gI M 4 4) ≤ x4 then 0 else 1 : Int32) = 0 then 16777216 else x3 + (v_X5_pairPoints M x2 x4))), some (.int (imin (if (if (gI M 9 4) ≤ x2 then 0 else if (gI M 4 4) ≤ x4 then 0 else 1 : Int32) = 0 then 16777216 else x3 + (v_X5_pairPoints M x2 x4)) (3 + (imin (if (gI M 9 4) ≤ x2 then 16777216 else gI M 39 x4.toNatClampNeg) (if (gI M 4 4) ≤ x4 then 16777216 else gI M 39 (x4 + 1).toNatClampNeg))))), none]) ⟨rfl, rfl, rfl, rfl, rfl, rfl, rfl, trivial⟩ (by have h9 := hJ5; simp only [if_pos c7, if_pos c8] at h9; first | exact h9 | (simp only [if_pos c7, if_pos c8]; exact h9))
    refine q_istore (lo' := [some (.ref (ad 35)), some (.ref (ad 4)), some (.int x2), none, some (.int x4), some (.int (if (gI M 9 4) ≤ x2 then 16777216 else gI M 39 x4.toNatClampNeg)), none, none, some (.int (if (if (gI M 9 4) ≤ x2 then 0 else if (gI M 4 4) ≤ x4 then 0 else 1 : Int32) = 0 then 16777216 else x3 + (v_X5_pairPoints M x2 x4))), some (.int (imin (if (if (gI M 9 4) ≤ x2 then 0 else if (gI M 4 4) ≤ x4 then 0 else 1 : Int32) = 0 then 16777216 else x3 + (v_X5_pairPoints M x2 x4)) (3 + (imin (if (gI M 9 4) ≤ x2 then 16777216 else gI M 39 x4.toNatClampNeg) (if (gI M 4 4) ≤ x4 then 16777216 else gI M 39 (x4 + 1).toNatClampNeg))))), some (.int (if x2 = (gI M 9 4) then if x4 = (gI M 4 4) then 1 else 0 else 0))]) dX5_weigh_166 (by decide) rfl ?_
    refine r_aload_n dX5_weigh_168 rfl ?_
    refine r_getR dX5_weigh_169 fs_35_7 fk_X5_27 ?_
    refine r_iload_n dX5_weigh_172 rfl ?_
    refine r_iload dX5_weigh_173 rfl ?_
    refine r_iload dX5_weigh_175 rfl ?_
    refine r_iload dX5_weigh_177 rfl ?_
    suffices hJ6 : Fw l D ad kA mX5_weigh 187 [some (.ref (ad 35)), some (.ref (ad 4)), some (.int x2), none, some (.int x4), some (.int (if (gI M 9 4) ≤ x2 then 16777216 else gI M 39 x4.toNatClampNeg)), none, none, none, some (.int (imin (if (if (gI M 9 4) ≤ x2 then 0 else if (gI M 4 4) ≤ x4 then 0 else 1 : Int32) = 0 then 16777216 else x3 + (v_X5_pairPoints M x2 x4)) (3 + (imin (if (gI M 9 4) ≤ x2 then 16777216 else gI M 39 x4.toNatClampNeg) (if (gI M 4 4) ≤ x4 then 16777216 else gI M 39 (x4 + 1).toNatClampNeg))))), some (.int (if x2 = (gI M 9 4) then if x4 = (gI M 4 4) then 1 else 0 else 0))] [.int (if (if (if (gI M 9 4) ≤ x2 then 0 else if (gI M 4 4) ≤ x4 then 0 else 1 : Int32) = 0 then 16777216 else x3 + (v_X5_pairPoints M x2 x4) : Int32) = (imin (if (if (gI M 9 4) ≤ x2 then 0 else if (gI M 4 4) ≤ x4 then 0 else 1 : Int32) = 0 then 16777216 else x3 + (v_X5_pairPoints M x2 x4)) (3 + (imin (if (gI M 9 4) ≤ x2 then 16777216 else gI M 39 x4.toNatClampNeg) (if (gI M 4 4) ≤ x4 then 16777216 else gI M 39 (x4 + 1).toNatClampNeg)))) then 1 else 0), .int x4, .int x2, .ref (ad 40)] M Q by
      refine r_icmp_ne (tgt := 186) dX5_weigh_179 (by decide) (fun c9 => ?_) (fun c9 => ?_)
      · skip
        refine r_iconst (v := 0) dX5_weigh_186 kI_0 ?_
        exact q_weak (lo' := [some (.ref (ad 35)), some (.ref (ad 4)), some (.int x2), none, some (.int x4), some (.int (if (gI M 9 4) ≤ x2 then 16777216 else gI M 39 x4.toNatClampNeg)), none, none, none, some (.int (imin (if (if (gI M 9 4) ≤ x2 then 0 else if (gI M 4 4) ≤ x4 then 0 else 1 : Int32) = 0 then 16777216 else x3 + (v_X5_pairPoints M x2 x4)) (3 + (imin (if (gI M 9 4) ≤ x2 then 16777216 else gI M 39 x4.toNatClampNeg) (if (gI M 4 4) ≤ x4 then 16777216 else gI M 39 (x4 + 1).toNatClampNeg))))), some (.int (if x2 = (gI M 9 4) then if x4 = (gI M 4 4) then 1 else 0 else 0))]) ⟨rfl, rfl, rfl, rfl, rfl, rfl, rfl, trivial⟩ (by have h9 := hJ6; simp only [if_neg c9] at h9; first | exact h9 | (simp only [if_neg c9]; exact h9))
      · skip
        refine r_iconst (v := 1) dX5_weigh_182 kI_1 ?_
        refine r_goto (tgt := 187) dX5_weigh_183 (by decide) ?_
        exact q_weak (lo' := [some (.ref (ad 35)), some (.ref (ad 4)), some (.int x2), none, some (.int x4), some (.int (if (gI M 9 4) ≤ x2 then 16777216 else gI M 39 x4.toNatClampNeg)), none, none, none, some (.int (imin (if (if (gI M 9 4) ≤ x2 then 0 else if (gI M 4 4) ≤ x4 then 0 else 1 : Int32) = 0 then 16777216 else x3 + (v_X5_pairPoints M x2 x4)) (3 + (imin (if (gI M 9 4) ≤ x2 then 16777216 else gI M 39 x4.toNatClampNeg) (if (gI M 4 4) ≤ x4 then 16777216 else gI M 39 (x4 + 1).toNatClampNeg))))), some (.int (if x2 = (gI M 9 4) then if x4 = (gI M 4 4) then 1 else 0 else 0))]) ⟨rfl, rfl, rfl, rfl, rfl, rfl, rfl, trivial⟩ (by have h9 := hJ6; simp only [if_pos c9] at h9; first | exact h9 | (simp only [if_pos c9]; exact h9))
    exact r_callV (x := 40) (As := [.int x2, .int x4, .int (if (if (if (gI M 9 4) ≤ x2 then 0 else if (gI M 4 4) ≤ x4 then 0 else 1 : Int32) = 0 then 16777216 else x3 + (v_X5_pairPoints M x2 x4) : Int32) = (imin (if (if (gI M 9 4) ≤ x2 then 0 else if (gI M 4 4) ≤ x4 then 0 else 1 : Int32) = 0 then 16777216 else x3 + (v_X5_pairPoints M x2 x4)) (3 + (imin (if (gI M 9 4) ≤ x2 then 16777216 else gI M 39 x4.toNatClampNeg) (if (gI M 4 4) ≤ x4 then 16777216 else gI M 39 (x4 + 1).toNatClampNeg)))) then 1 else 0)]) (rest := []) dX5_weigh_187 mk_X5_66 mv_X1_put_40 rm_X5_weigh_X1_put_40 rfl rfl (by decide +kernel) (Nat.le_of_ble_eq_true rfl) (cal_v (lo' := [some (.ref (ad 35)), some (.ref (ad 4)), some (.int x2), none, some (.int x4), some (.int (if (gI M 9 4) ≤ x2 then 16777216 else gI M 39 x4.toNatClampNeg)), none, none, none, some (.int (imin (if (if (gI M 9 4) ≤ x2 then 0 else if (gI M 4 4) ≤ x4 then 0 else 1 : Int32) = 0 then 16777216 else x3 + (v_X5_pairPoints M x2 x4)) (3 + (imin (if (gI M 9 4) ≤ x2 then 16777216 else gI M 39 x4.toNatClampNeg) (if (gI M 4 4) ≤ x4 then 16777216 else gI M 39 (x4 + 1).toNatClampNeg))))), some (.int (if x2 = (gI M 9 4) then if x4 = (gI M 4 4) then 1 else 0 else 0))]) ⟨rfl, rfl, rfl, rfl, rfl, rfl, rfl, trivial⟩ (K2 c1))
theorem t_X5_weigh_190 {x2 : Int32} {x4 : Int32} {x5 : Int32} {x9 : Int32} {x10 : Int32} 
    (K1 : Cal l D ad kA mX1_put_42 [.ref (ad 42), .int x2, .int x4, .int (if (x5 + 3) = x9 then 1 else 0)] M (fun oc M2 => oc = .returned none ∧ Fw l D ad kA mX5_weigh 214 [some (.ref (ad 35)), some (.ref (ad 4)), some (.int x2), none, some (.int x4), none, none, none, none, some (.int x9), some (.int x10)] [] M2 Q)) : Fw l D ad kA mX5_weigh 190 [some (.ref (ad 35)), some (.ref (ad 4)), some (.int x2), none, some (.int x4), some (.int x5), none, none, none, some (.int x9), some (.int x10)] [] M Q := by
  refine r_aload_n dX5_weigh_190 rfl ?_
  refine r_getR dX5_weigh_191 fs_35_8 fk_X5_31 ?_
  refine r_iload_n dX5_weigh_194 rfl ?_
  refine r_iload dX5_weigh_195 rfl ?_
  refine r_iload dX5_weigh_197 rfl ?_
  refine r_iconst (v := 3) dX5_weigh_199 kI_3 ?_
  refine r_iadd dX5_weigh_200 ?_
  refine r_iload dX5_weigh_201 rfl ?_
  suffices hJ1 : Fw l D ad kA mX5_weigh 211 [some (.ref (ad 35)), some (.ref (ad 4)), some (.int x2), none, some (.int x4), none, none, none, none, some (.int x9), some (.int x10)] [.int (if (x5 + 3) = x9 then 1 else 0), .int x4, .int x2, .ref (ad 42)] M Q by
    refine r_icmp_ne (tgt := 210) dX5_weigh_203 (by decide) (fun c1 => ?_) (fun c1 => ?_)
    · skip
      refine r_iconst (v := 0) dX5_weigh_210 kI_0 ?_
      exact q_weak (lo' := [some (.ref (ad 35)), some (.ref (ad 4)), some (.int x2), none, some (.int x4), none, none, none, none, some (.int x9), some (.int x10)]) ⟨rfl, rfl, rfl, rfl, rfl, rfl, trivial⟩ (by have h9 := hJ1; simp only [if_neg c1] at h9; first | exact h9 | (simp only [if_neg c1]; exact h9))
    · skip
      refine r_iconst (v := 1) dX5_weigh_206 kI_1 ?_
      refine r_goto (tgt := 211) dX5_weigh_207 (by decide) ?_
      exact q_weak (lo' := [some (.ref (ad 35)), some (.ref (ad 4)), some (.int x2), none, some (.int x4), none, none, none, none, some (.int x9), some (.int x10)]) ⟨rfl, rfl, rfl, rfl, rfl, rfl, trivial⟩ (by have h9 := hJ1; simp only [if_pos c1] at h9; first | exact h9 | (simp only [if_pos c1]; exact h9))
  exact r_callV (x := 42) (As := [.int x2, .int x4, .int (if (x5 + 3) = x9 then 1 else 0)]) (rest := []) dX5_weigh_211 mk_X5_66 mv_X1_put_42 rm_X5_weigh_X1_put_42 rfl rfl (by decide +kernel) (Nat.le_of_ble_eq_true rfl) (cal_v (lo' := [some (.ref (ad 35)), some (.ref (ad 4)), some (.int x2), none, some (.int x4), none, none, none, none, some (.int x9), some (.int x10)]) ⟨rfl, rfl, rfl, rfl, rfl, rfl, trivial⟩ K1)
theorem t_X5_weigh_214 {x2 : Int32} {x4 : Int32} {x9 : Int32} {x10 : Int32} 
    (g1 : vp_in x4 161)
    (K1 : Fw l D ad kA mX5_weigh 21 [some (.ref (ad 35)), some (.ref (ad 4)), some (.int x2), some (.int (gI M 39 x4.toNatClampNeg)), some (.int (x4 + (-1))), none, none, none, none, none, none] [] (sI M 39 x4.toNatClampNeg (if x10 = 0 then x9 else 0)) Q) : Fw l D ad kA mX5_weigh 214 [some (.ref (ad 35)), some (.ref (ad 4)), some (.int x2), none, some (.int x4), none, none, none, none, some (.int x9), some (.int x10)] [] M Q := by
  refine r_aload_n dX5_weigh_214 rfl ?_
  refine r_getR dX5_weigh_215 fs_35_6 fk_X5_21 ?_
  refine r_iload dX5_weigh_218 rfl ?_
  refine r_iald dX5_weigh_220 as_39 g1 ?_
  refine q_istore_n (lo' := [some (.ref (ad 35)), some (.ref (ad 4)), some (.int x2), some (.int (gI M 39 x4.toNatClampNeg)), some (.int x4), none, none, none, none, some (.int x9), some (.int x10)]) dX5_weigh_221 (by decide) rfl ?_
  refine r_aload_n dX5_weigh_222 rfl ?_
  refine r_getR dX5_weigh_223 fs_35_6 fk_X5_21 ?_
  refine r_iload dX5_weigh_226 rfl ?_
  refine r_iload dX5_weigh_228 rfl ?_
  suffices hJ1 : Fw l D ad kA mX5_weigh 239 [some (.ref (ad 35)), some (.ref (ad 4)), some (.int x2), some (.int (gI M 39 x4.toNatClampNeg)), some (.int x4), none, none, none, none, none, none] [.int (if x10 = 0 then x9 else 0), .int x4, .ref (ad 39)] M Q by
    refine r_if_eq (tgt := 237) dX5_weigh_230 (by decide) (fun c1 => ?_) (fun c1 => ?_)
    · skip
      refine r_iload dX5_weigh_237 rfl ?_
      exact q_weak (lo' := [some (.ref (ad 35)), some (.ref (ad 4)), some (.int x2), some (.int (gI M 39 x4.toNatClampNeg)), some (.int x4), none, none, none, none, none, none]) ⟨rfl, rfl, rfl, rfl, rfl, trivial⟩ (by have h9 := hJ1; simp only [if_pos c1] at h9; first | exact h9 | (simp only [if_pos c1]; exact h9))
    · skip
      refine r_iconst (v := 0) dX5_weigh_233 kI_0 ?_
      refine r_goto (tgt := 239) dX5_weigh_234 (by decide) ?_
      exact q_weak (lo' := [some (.ref (ad 35)), some (.ref (ad 4)), some (.int x2), some (.int (gI M 39 x4.toNatClampNeg)), some (.int x4), none, none, none, none, none, none]) ⟨rfl, rfl, rfl, rfl, rfl, trivial⟩ (by have h9 := hJ1; simp only [if_neg c1] at h9; first | exact h9 | (simp only [if_neg c1]; exact h9))
  refine r_iast dX5_weigh_239 as_39 g1 ?_
  refine q_iinc (v := x4 + (-1)) (lo' := [some (.ref (ad 35)), some (.ref (ad 4)), some (.int x2), some (.int (gI M 39 x4.toNatClampNeg)), some (.int (x4 + (-1))), none, none, none, none, none, none]) dX5_weigh_240 rfl (congrArg (fun q => x4 + q) kI_m1) (by decide) rfl ?_
  refine r_goto (tgt := 21) dX5_weigh_243 (by decide) ?_
  exact K1
theorem en_X5_weigh  (K : Fw l D ad kA mX5_weigh 0 [some (.ref (ad 35)), some (.ref (ad 4)), none, none, none, none, none, none, none, none, none] [] M Q) : Cal l D ad kA mX5_weigh [.ref (ad 35), .ref (ad 4)] M Q := Cal.of (by decide) rfl rfl (Nat.le_of_ble_eq_true rfl) K
theorem t_X5_walk_0  
    (K1 : Fw l D ad kA mX5_walk 2 [some (.ref (ad 35)), some (.ref (ad 4)), some (.int 0), none, none, none, none] [] M Q) : Fw l D ad kA mX5_walk 0 [some (.ref (ad 35)), some (.ref (ad 4)), none, none, none, none, none] [] M Q := by
  refine r_iconst (v := 0) dX5_walk_0 kI_0 ?_
  refine q_istore_n (lo' := [some (.ref (ad 35)), some (.ref (ad 4)), some (.int 0), none, none, none, none]) dX5_walk_1 (by decide) rfl ?_
  exact K1
theorem t_X5_walk_2 {x2 : Int32} 
    (g1 : (¬ (48 ≤ x2)) → vp_in x2 48)
    (K1 : (48 ≤ x2) → Fw l D ad kA mX5_walk 33 [some (.ref (ad 35)), some (.ref (ad 4)), some (.int 0), some (.int 0), some (.int 0), none, none] [] (sI M 35 3 0) Q)
    (K2 : (¬ (48 ≤ x2)) → Fw l D ad kA mX5_walk 2 [some (.ref (ad 35)), some (.ref (ad 4)), some (.int (x2 + 1)), none, none, none, none] [] (sI M 38 x2.toNatClampNeg 0) Q) : Fw l D ad kA mX5_walk 2 [some (.ref (ad 35)), some (.ref (ad 4)), some (.int x2), none, none, none, none] [] M Q := by
  refine r_iload_n dX5_walk_2 rfl ?_
  refine r_bipush (v := 48) dX5_walk_3 kB_48 ?_
  refine r_icmp_ge (tgt := 21) dX5_walk_5 (by decide) (fun c1 => ?_) (fun c1 => ?_)
  · skip
    refine r_aload_n dX5_walk_21 rfl ?_
    refine r_iconst (v := 0) dX5_walk_22 kI_0 ?_
    refine r_putI dX5_walk_23 fs_35_3 fk_X5_80 fp_X5_3 ?_
    refine r_iconst (v := 0) dX5_walk_26 kI_0 ?_
    refine q_istore_n (lo' := [some (.ref (ad 35)), some (.ref (ad 4)), some (.int 0), none, none, none, none]) dX5_walk_27 (by decide) rfl ?_
    refine r_iconst (v := 0) dX5_walk_28 kI_0 ?_
    refine q_istore_n (lo' := [some (.ref (ad 35)), some (.ref (ad 4)), some (.int 0), some (.int 0), none, none, none]) dX5_walk_29 (by decide) rfl ?_
    refine r_iconst (v := 0) dX5_walk_30 kI_0 ?_
    refine q_istore (lo' := [some (.ref (ad 35)), some (.ref (ad 4)), some (.int 0), some (.int 0), some (.int 0), none, none]) dX5_walk_31 (by decide) rfl ?_
    exact (K1 c1)
  · skip
    refine r_aload_n dX5_walk_8 rfl ?_
    refine r_getR dX5_walk_9 fs_35_5 fk_X5_18 ?_
    refine r_iload_n dX5_walk_12 rfl ?_
    refine r_iconst (v := 0) dX5_walk_13 kI_0 ?_
    refine r_iast dX5_walk_14 as_38 (g1 c1) ?_
    refine q_iinc (v := x2 + 1) (lo' := [some (.ref (ad 35)), some (.ref (ad 4)), some (.int (x2 + 1)), none, none, none, none]) dX5_walk_15 rfl (congrArg (fun q => x2 + q) kI_1) (by decide) rfl ?_
    refine r_goto (tgt := 2) dX5_walk_18 (by decide) ?_
    exact (K2 c1)
theorem t_X5_walk_33 {x2 : Int32} {x3 : Int32} {x4 : Int32} 
    (g1 : (¬ (320 ≤ x4)) → (x2 < (gI M 9 4)) → ((if (gI M 9 4) ≤ x2 then 0 else 1 : Int32) = 0) → (¬ ((if (gI M 4 4) ≤ x3 then 0 else 1 : Int32) = 0)) → vp_in x3 160)
    (g2 : (¬ (320 ≤ x4)) → (x2 < (gI M 9 4)) → ((if (gI M 9 4) ≤ x2 then 0 else 1 : Int32) = 0) → (¬ ((if (gI M 4 4) ≤ x3 then 0 else 1 : Int32) = 0)) → vp_in (gI M 6 x3.toNatClampNeg) 48)
    (g3 : (¬ (320 ≤ x4)) → (x2 < (gI M 9 4)) → ((if (gI M 9 4) ≤ x2 then 0 else 1 : Int32) = 0) → ((if (gI M 4 4) ≤ x3 then 0 else 1 : Int32) = 0) → vp_in x2 160)
    (g4 : (¬ (320 ≤ x4)) → (x2 < (gI M 9 4)) → (¬ ((if (gI M 9 4) ≤ x2 then 0 else 1 : Int32) = 0)) → ((if (gI M 4 4) ≤ x3 then 0 else 1 : Int32) = 0) → g_X1_has_42 M x2 x3)
    (g5 : (¬ (320 ≤ x4)) → (x2 < (gI M 9 4)) → (¬ ((if (gI M 9 4) ≤ x2 then 0 else 1 : Int32) = 0)) → ((if (gI M 4 4) ≤ x3 then 0 else 1 : Int32) = 0) → (¬ ((v_X1_has_42 M x2 x3) = 0)) → vp_in x2 160)
    (g6 : (¬ (320 ≤ x4)) → (x2 < (gI M 9 4)) → (¬ ((if (gI M 9 4) ≤ x2 then 0 else 1 : Int32) = 0)) → ((if (gI M 4 4) ≤ x3 then 0 else 1 : Int32) = 0) → ((v_X1_has_42 M x2 x3) = 0) → vp_in x2 160)
    (g7 : (¬ (320 ≤ x4)) → (x2 < (gI M 9 4)) → (¬ ((if (gI M 9 4) ≤ x2 then 0 else 1 : Int32) = 0)) → (¬ ((if (gI M 4 4) ≤ x3 then 0 else 1 : Int32) = 0)) → g_X1_has_40 M x2 x3)
    (g8 : (¬ (320 ≤ x4)) → (x2 < (gI M 9 4)) → (¬ ((if (gI M 9 4) ≤ x2 then 0 else 1 : Int32) = 0)) → (¬ ((if (gI M 4 4) ≤ x3 then 0 else 1 : Int32) = 0)) → ((v_X1_has_40 M x2 x3) = 0) → g_X1_has_42 M x2 x3)
    (g9 : (¬ (320 ≤ x4)) → (x2 < (gI M 9 4)) → (¬ ((if (gI M 9 4) ≤ x2 then 0 else 1 : Int32) = 0)) → (¬ ((if (gI M 4 4) ≤ x3 then 0 else 1 : Int32) = 0)) → ((v_X1_has_40 M x2 x3) = 0) → (¬ ((v_X1_has_42 M x2 x3) = 0)) → vp_in x2 160)
    (g10 : (¬ (320 ≤ x4)) → (x2 < (gI M 9 4)) → (¬ ((if (gI M 9 4) ≤ x2 then 0 else 1 : Int32) = 0)) → (¬ ((if (gI M 4 4) ≤ x3 then 0 else 1 : Int32) = 0)) → ((v_X1_has_40 M x2 x3) = 0) → ((v_X1_has_42 M x2 x3) = 0) → vp_in x3 160)
    (g11 : (¬ (320 ≤ x4)) → (x2 < (gI M 9 4)) → (¬ ((if (gI M 9 4) ≤ x2 then 0 else 1 : Int32) = 0)) → (¬ ((if (gI M 4 4) ≤ x3 then 0 else 1 : Int32) = 0)) → ((v_X1_has_40 M x2 x3) = 0) → ((v_X1_has_42 M x2 x3) = 0) → vp_in (gI M 6 x3.toNatClampNeg) 48)
    (g12 : (¬ (320 ≤ x4)) → (x2 < (gI M 9 4)) → (¬ ((if (gI M 9 4) ≤ x2 then 0 else 1 : Int32) = 0)) → (¬ ((if (gI M 4 4) ≤ x3 then 0 else 1 : Int32) = 0)) → (¬ ((v_X1_has_40 M x2 x3) = 0)) → vp_in x3 160)
    (g13 : (¬ (320 ≤ x4)) → (x2 < (gI M 9 4)) → (¬ ((if (gI M 9 4) ≤ x2 then 0 else 1 : Int32) = 0)) → (¬ ((if (gI M 4 4) ≤ x3 then 0 else 1 : Int32) = 0)) → (¬ ((v_X1_has_40 M x2 x3) = 0)) → vp_in x2 160)
    (g14 : (¬ (320 ≤ x4)) → (¬ (x2 < (gI M 9 4))) → (¬ ((gI M 4 4) ≤ x3)) → ((if (gI M 9 4) ≤ x2 then 0 else 1 : Int32) = 0) → vp_in x3 160)
    (g15 : (¬ (320 ≤ x4)) → (¬ (x2 < (gI M 9 4))) → (¬ ((gI M 4 4) ≤ x3)) → ((if (gI M 9 4) ≤ x2 then 0 else 1 : Int32) = 0) → vp_in (gI M 6 x3.toNatClampNeg) 48)
    (g16 : (¬ (320 ≤ x4)) → (¬ (x2 < (gI M 9 4))) → (¬ ((gI M 4 4) ≤ x3)) → (¬ ((if (gI M 9 4) ≤ x2 then 0 else 1 : Int32) = 0)) → g_X1_has_40 M x2 x3)
    (g17 : (¬ (320 ≤ x4)) → (¬ (x2 < (gI M 9 4))) → (¬ ((gI M 4 4) ≤ x3)) → (¬ ((if (gI M 9 4) ≤ x2 then 0 else 1 : Int32) = 0)) → ((v_X1_has_40 M x2 x3) = 0) → g_X1_has_42 M x2 x3)
    (g18 : (¬ (320 ≤ x4)) → (¬ (x2 < (gI M 9 4))) → (¬ ((gI M 4 4) ≤ x3)) → (¬ ((if (gI M 9 4) ≤ x2 then 0 else 1 : Int32) = 0)) → ((v_X1_has_40 M x2 x3) = 0) → (¬ ((v_X1_has_42 M x2 x3) = 0)) → vp_in x2 160)
    (g19 : (¬ (320 ≤ x4)) → (¬ (x2 < (gI M 9 4))) → (¬ ((gI M 4 4) ≤ x3)) → (¬ ((if (gI M 9 4) ≤ x2 then 0 else 1 : Int32) = 0)) → ((v_X1_has_40 M x2 x3) = 0) → ((v_X1_has_42 M x2 x3) = 0) → vp_in x3 160)
    (g20 : (¬ (320 ≤ x4)) → (¬ (x2 < (gI M 9 4))) → (¬ ((gI M 4 4) ≤ x3)) → (¬ ((if (gI M 9 4) ≤ x2 then 0 else 1 : Int32) = 0)) → ((v_X1_has_40 M x2 x3) = 0) → ((v_X1_has_42 M x2 x3) = 0) → vp_in (gI M 6 x3.toNatClampNeg) 48)
    (g21 : (¬ (320 ≤ x4)) → (¬ (x2 < (gI M 9 4))) → (¬ ((gI M 4 4) ≤ x3)) → (¬ ((if (gI M 9 4) ≤ x2 then 0 else 1 : Int32) = 0)) → (¬ ((v_X1_has_40 M x2 x3) = 0)) → vp_in x3 160)
    (g22 : (¬ (320 ≤ x4)) → (¬ (x2 < (gI M 9 4))) → (¬ ((gI M 4 4) ≤ x3)) → (¬ ((if (gI M 9 4) ≤ x2 then 0 else 1 : Int32) = 0)) → (¬ ((v_X1_has_40 M x2 x3) = 0)) → vp_in x2 160)
    (K1 : (320 ≤ x4) → Q (.returned none) M)
    (K2 : (¬ (320 ≤ x4)) → (x2 < (gI M 9 4)) → ((if (gI M 9 4) ≤ x2 then 0 else 1 : Int32) = 0) → (¬ ((if (gI M 4 4) ≤ x3 then 0 else 1 : Int32) = 0)) → Fw l D ad kA mX5_walk 33 [some (.ref (ad 35)), some (.ref (ad 4)), some (.int x2), some (.int (x3 + 1)), some (.int (x4 + 1)), none, none] [] (sI (sI M 38 (gI M 6 x3.toNatClampNeg).toNatClampNeg ((gI M 38 (gI M 6 x3.toNatClampNeg).toNatClampNeg) + 1)) 35 3 ((gI M 35 3) + 1)) Q)
    (K3 : (¬ (320 ≤ x4)) → (x2 < (gI M 9 4)) → ((if (gI M 9 4) ≤ x2 then 0 else 1 : Int32) = 0) → ((if (gI M 4 4) ≤ x3 then 0 else 1 : Int32) = 0) → Fw l D ad kA mX5_walk 33 [some (.ref (ad 35)), some (.ref (ad 4)), some (.int (x2 + 1)), some (.int x3), some (.int (x4 + 1)), none, none] [] (sI (sI M 37 x2.toNatClampNeg (-1)) 36 x2.toNatClampNeg 0) Q)
    (K4 : (¬ (320 ≤ x4)) → (x2 < (gI M 9 4)) → (¬ ((if (gI M 9 4) ≤ x2 then 0 else 1 : Int32) = 0)) → ((if (gI M 4 4) ≤ x3 then 0 else 1 : Int32) = 0) → (¬ ((v_X1_has_42 M x2 x3) = 0)) → Fw l D ad kA mX5_walk 33 [some (.ref (ad 35)), some (.ref (ad 4)), some (.int (x2 + 1)), some (.int x3), some (.int (x4 + 1)), none, none] [] (sI (sI M 37 x2.toNatClampNeg (-1)) 36 x2.toNatClampNeg 0) Q)
    (K5 : (¬ (320 ≤ x4)) → (x2 < (gI M 9 4)) → (¬ ((if (gI M 9 4) ≤ x2 then 0 else 1 : Int32) = 0)) → ((if (gI M 4 4) ≤ x3 then 0 else 1 : Int32) = 0) → ((v_X1_has_42 M x2 x3) = 0) → Fw l D ad kA mX5_walk 33 [some (.ref (ad 35)), some (.ref (ad 4)), some (.int (x2 + 1)), some (.int x3), some (.int (x4 + 1)), none, none] [] (sI (sI M 37 x2.toNatClampNeg (-1)) 36 x2.toNatClampNeg 0) Q)
    (K6 : (¬ (320 ≤ x4)) → (x2 < (gI M 9 4)) → (¬ ((if (gI M 9 4) ≤ x2 then 0 else 1 : Int32) = 0)) → (¬ ((if (gI M 4 4) ≤ x3 then 0 else 1 : Int32) = 0)) → ((v_X1_has_40 M x2 x3) = 0) → (¬ ((v_X1_has_42 M x2 x3) = 0)) → Fw l D ad kA mX5_walk 33 [some (.ref (ad 35)), some (.ref (ad 4)), some (.int (x2 + 1)), some (.int x3), some (.int (x4 + 1)), none, none] [] (sI (sI M 37 x2.toNatClampNeg (-1)) 36 x2.toNatClampNeg 0) Q)
    (K7 : (¬ (320 ≤ x4)) → (x2 < (gI M 9 4)) → (¬ ((if (gI M 9 4) ≤ x2 then 0 else 1 : Int32) = 0)) → (¬ ((if (gI M 4 4) ≤ x3 then 0 else 1 : Int32) = 0)) → ((v_X1_has_40 M x2 x3) = 0) → ((v_X1_has_42 M x2 x3) = 0) → Fw l D ad kA mX5_walk 33 [some (.ref (ad 35)), some (.ref (ad 4)), some (.int x2), some (.int (x3 + 1)), some (.int (x4 + 1)), none, none] [] (sI (sI M 38 (gI M 6 x3.toNatClampNeg).toNatClampNeg ((gI M 38 (gI M 6 x3.toNatClampNeg).toNatClampNeg) + 1)) 35 3 ((gI M 35 3) + 1)) Q)
    (K8 : (¬ (320 ≤ x4)) → (x2 < (gI M 9 4)) → (¬ ((if (gI M 9 4) ≤ x2 then 0 else 1 : Int32) = 0)) → (¬ ((if (gI M 4 4) ≤ x3 then 0 else 1 : Int32) = 0)) → (¬ ((v_X1_has_40 M x2 x3) = 0)) → Fw l D ad kA mX5_walk 33 [some (.ref (ad 35)), some (.ref (ad 4)), some (.int (x2 + 1)), some (.int (x3 + 1)), some (.int (x4 + 1)), none, none] [] (sI (sI M 37 x2.toNatClampNeg (gI M 6 x3.toNatClampNeg)) 36 x2.toNatClampNeg ((gI M 5 x3.toNatClampNeg) - (gI M 10 x2.toNatClampNeg))) Q)
    (K9 : (¬ (320 ≤ x4)) → (¬ (x2 < (gI M 9 4))) → ((gI M 4 4) ≤ x3) → Q (.returned none) M)
    (K10 : (¬ (320 ≤ x4)) → (¬ (x2 < (gI M 9 4))) → (¬ ((gI M 4 4) ≤ x3)) → ((if (gI M 9 4) ≤ x2 then 0 else 1 : Int32) = 0) → Fw l D ad kA mX5_walk 33 [some (.ref (ad 35)), some (.ref (ad 4)), some (.int x2), some (.int (x3 + 1)), some (.int (x4 + 1)), none, none] [] (sI (sI M 38 (gI M 6 x3.toNatClampNeg).toNatClampNeg ((gI M 38 (gI M 6 x3.toNatClampNeg).toNatClampNeg) + 1)) 35 3 ((gI M 35 3) + 1)) Q)
    (K11 : (¬ (320 ≤ x4)) → (¬ (x2 < (gI M 9 4))) → (¬ ((gI M 4 4) ≤ x3)) → (¬ ((if (gI M 9 4) ≤ x2 then 0 else 1 : Int32) = 0)) → ((v_X1_has_40 M x2 x3) = 0) → (¬ ((v_X1_has_42 M x2 x3) = 0)) → Fw l D ad kA mX5_walk 33 [some (.ref (ad 35)), some (.ref (ad 4)), some (.int (x2 + 1)), some (.int x3), some (.int (x4 + 1)), none, none] [] (sI (sI M 37 x2.toNatClampNeg (-1)) 36 x2.toNatClampNeg 0) Q)
    (K12 : (¬ (320 ≤ x4)) → (¬ (x2 < (gI M 9 4))) → (¬ ((gI M 4 4) ≤ x3)) → (¬ ((if (gI M 9 4) ≤ x2 then 0 else 1 : Int32) = 0)) → ((v_X1_has_40 M x2 x3) = 0) → ((v_X1_has_42 M x2 x3) = 0) → Fw l D ad kA mX5_walk 33 [some (.ref (ad 35)), some (.ref (ad 4)), some (.int x2), some (.int (x3 + 1)), some (.int (x4 + 1)), none, none] [] (sI (sI M 38 (gI M 6 x3.toNatClampNeg).toNatClampNeg ((gI M 38 (gI M 6 x3.toNatClampNeg).toNatClampNeg) + 1)) 35 3 ((gI M 35 3) + 1)) Q)
    (K13 : (¬ (320 ≤ x4)) → (¬ (x2 < (gI M 9 4))) → (¬ ((gI M 4 4) ≤ x3)) → (¬ ((if (gI M 9 4) ≤ x2 then 0 else 1 : Int32) = 0)) → (¬ ((v_X1_has_40 M x2 x3) = 0)) → Fw l D ad kA mX5_walk 33 [some (.ref (ad 35)), some (.ref (ad 4)), some (.int (x2 + 1)), some (.int (x3 + 1)), some (.int (x4 + 1)), none, none] [] (sI (sI M 37 x2.toNatClampNeg (gI M 6 x3.toNatClampNeg)) 36 x2.toNatClampNeg ((gI M 5 x3.toNatClampNeg) - (gI M 10 x2.toNatClampNeg))) Q) : Fw l D ad kA mX5_walk 33 [some (.ref (ad 35)), some (.ref (ad 4)), some (.int x2), some (.int x3), some (.int x4), none, none] [] M Q := by
  refine r_iload dX5_walk_33 rfl ?_
  refine r_sipush (v := 320) dX5_walk_35 kS_320 ?_
  refine r_icmp_ge (tgt := 234) dX5_walk_38 (by decide) (fun c1 => ?_) (fun c1 => ?_)
  · skip
    exact r_vret dX5_walk_234 rfl (K1 c1)
  · skip
    refine r_iload_n dX5_walk_41 rfl ?_
    refine r_aload_n dX5_walk_42 rfl ?_
    refine r_getR dX5_walk_43 fs_35_0 fk_X5_34 ?_
    refine r_getI dX5_walk_46 fs_9_4 fk_X5_49 ?_
    refine r_icmp_lt (tgt := 60) dX5_walk_49 (by decide) (fun c2 => ?_) (fun c2 => ?_)
    · skip
      refine r_iload_n dX5_walk_60 rfl ?_
      refine r_aload_n dX5_walk_61 rfl ?_
      refine r_getR dX5_walk_62 fs_35_0 fk_X5_34 ?_
      refine r_getI dX5_walk_65 fs_9_4 fk_X5_49 ?_
      suffices hJ1 : Fw l D ad kA mX5_walk 76 [some (.ref (ad 35)), some (.ref (ad 4)), some (.int x2), some (.int x3), some (.int x4), none, none] [.int (if (gI M 9 4) ≤ x2 then 0 else 1)] M Q by
        refine r_icmp_ge (tgt := 75) dX5_walk_68 (by decide) (fun c3 => ?_) (fun c3 => ?_)
        · skip
          refine r_iconst (v := 0) dX5_walk_75 kI_0 ?_
          exact q_weak (lo' := [some (.ref (ad 35)), some (.ref (ad 4)), some (.int x2), some (.int x3), some (.int x4), none, none]) ⟨rfl, rfl, rfl, rfl, rfl, trivial⟩ (by have h9 := hJ1; simp only [if_pos c3] at h9; first | exact h9 | (simp only [if_pos c3]; exact h9))
        · skip
          refine r_iconst (v := 1) dX5_walk_71 kI_1 ?_
          refine r_goto (tgt := 76) dX5_walk_72 (by decide) ?_
          exact q_weak (lo' := [some (.ref (ad 35)), some (.ref (ad 4)), some (.int x2), some (.int x3), some (.int x4), none, none]) ⟨rfl, rfl, rfl, rfl, rfl, trivial⟩ (by have h9 := hJ1; simp only [if_neg c3] at h9; first | exact h9 | (simp only [if_neg c3]; exact h9))
      refine q_istore (lo' := [some (.ref (ad 35)), some (.ref (ad 4)), some (.int x2), some (.int x3), some (.int x4), some (.int (if (gI M 9 4) ≤ x2 then 0 else 1)), none]) dX5_walk_76 (by decide) rfl ?_
      refine r_iload_n dX5_walk_78 rfl ?_
      refine r_aload_n dX5_walk_79 rfl ?_
      refine r_getI dX5_walk_80 fs_4_4 fk_X5_49 ?_
      suffices hJ2 : Fw l D ad kA mX5_walk 91 [some (.ref (ad 35)), some (.ref (ad 4)), some (.int x2), some (.int x3), some (.int x4), some (.int (if (gI M 9 4) ≤ x2 then 0 else 1)), none] [.int (if (gI M 4 4) ≤ x3 then 0 else 1)] M Q by
        refine r_icmp_ge (tgt := 90) dX5_walk_83 (by decide) (fun c4 => ?_) (fun c4 => ?_)
        · skip
          refine r_iconst (v := 0) dX5_walk_90 kI_0 ?_
          exact q_weak (lo' := [some (.ref (ad 35)), some (.ref (ad 4)), some (.int x2), some (.int x3), some (.int x4), some (.int (if (gI M 9 4) ≤ x2 then 0 else 1)), none]) ⟨rfl, rfl, rfl, rfl, rfl, rfl, trivial⟩ (by have h9 := hJ2; simp only [if_pos c4] at h9; first | exact h9 | (simp only [if_pos c4]; exact h9))
        · skip
          refine r_iconst (v := 1) dX5_walk_86 kI_1 ?_
          refine r_goto (tgt := 91) dX5_walk_87 (by decide) ?_
          exact q_weak (lo' := [some (.ref (ad 35)), some (.ref (ad 4)), some (.int x2), some (.int x3), some (.int x4), some (.int (if (gI M 9 4) ≤ x2 then 0 else 1)), none]) ⟨rfl, rfl, rfl, rfl, rfl, rfl, trivial⟩ (by have h9 := hJ2; simp only [if_neg c4] at h9; first | exact h9 | (simp only [if_neg c4]; exact h9))
      refine q_istore (lo' := [some (.ref (ad 35)), some (.ref (ad 4)), some (.int x2), some (.int x3), some (.int x4), some (.int (if (gI M 9 4) ≤ x2 then 0 else 1)), some (.int (if (gI M 4 4) ≤ x3 then 0 else 1))]) dX5_walk_91 (by decide) rfl ?_
      refine r_iload dX5_walk_93 rfl ?_
      refine r_if_eq (tgt := 158) dX5_walk_95 (by decide) (fun c5 => ?_) (fun c5 => ?_)
      · skip
        refine r_iload dX5_walk_158 rfl ?_
        refine r_if_eq (tgt := 175) dX5_walk_160 (by decide) (fun _ => ?_) (fun q => absurd c5 q)
        refine r_iload dX5_walk_175 rfl ?_
        refine r_if_ne (tgt := 200) dX5_walk_177 (by decide) (fun c6 => ?_) (fun c6 => ?_)
        · skip
          refine r_aload_n dX5_walk_200 rfl ?_
          refine r_getR dX5_walk_201 fs_35_5 fk_X5_18 ?_
          refine r_aload_n dX5_walk_204 rfl ?_
          refine r_getR dX5_walk_205 fs_4_1 fk_X5_77 ?_
          refine r_iload_n dX5_walk_208 rfl ?_
          refine r_iald dX5_walk_209 as_6 (g1 c1 c2 c5 c6) ?_
          refine r_dup2 dX5_walk_210 rfl rfl ?_
          refine r_iald dX5_walk_211 as_38 (g2 c1 c2 c5 c6) ?_
          refine r_iconst (v := 1) dX5_walk_212 kI_1 ?_
          refine r_iadd dX5_walk_213 ?_
          refine r_iast dX5_walk_214 as_38 (g2 c1 c2 c5 c6) ?_
          refine r_aload_n dX5_walk_215 rfl ?_
          refine r_dup dX5_walk_216 rfl ?_
          refine q_getI (v := gI M 35 3) dX5_walk_217 fs_35_3 fk_X5_80 rfl ?_
          refine r_iconst (v := 1) dX5_walk_220 kI_1 ?_
          refine r_iadd dX5_walk_221 ?_
          refine r_putI dX5_walk_222 fs_35_3 fk_X5_80 fp_X5_3 ?_
          refine q_iinc (v := x3 + 1) (lo' := [some (.ref (ad 35)), some (.ref (ad 4)), some (.int x2), some (.int (x3 + 1)), some (.int x4), some (.int (if (gI M 9 4) ≤ x2 then 0 else 1)), some (.int (if (gI M 4 4) ≤ x3 then 0 else 1))]) dX5_walk_225 rfl (congrArg (fun q => x3 + q) kI_1) (by decide) rfl ?_
          refine q_iinc (v := x4 + 1) (lo' := [some (.ref (ad 35)), some (.ref (ad 4)), some (.int x2), some (.int (x3 + 1)), some (.int (x4 + 1)), some (.int (if (gI M 9 4) ≤ x2 then 0 else 1)), some (.int (if (gI M 4 4) ≤ x3 then 0 else 1))]) dX5_walk_228 rfl (congrArg (fun q => x4 + q) kI_1) (by decide) rfl ?_
          refine r_goto (tgt := 33) dX5_walk_231 (by decide) ?_
          exact q_weak (lo' := [some (.ref (ad 35)), some (.ref (ad 4)), some (.int x2), some (.int (x3 + 1)), some (.int (x4 + 1)), none, none]) ⟨rfl, rfl, rfl, rfl, rfl, trivial⟩ (K2 c1 c2 c5 c6)
        · skip
          refine r_aload_n dX5_walk_180 rfl ?_
          refine r_getR dX5_walk_181 fs_35_2 fk_X5_15 ?_
          refine r_iload_n dX5_walk_184 rfl ?_
          refine r_iconst (v := (-1)) dX5_walk_185 kI_m1 ?_
          refine r_iast dX5_walk_186 as_37 (g3 c1 c2 c5 c6) ?_
          refine r_aload_n dX5_walk_187 rfl ?_
          refine r_getR dX5_walk_188 fs_35_1 fk_X5_9 ?_
          refine r_iload_n dX5_walk_191 rfl ?_
          refine r_iconst (v := 0) dX5_walk_192 kI_0 ?_
          refine r_iast dX5_walk_193 as_36 (g3 c1 c2 c5 c6) ?_
          refine q_iinc (v := x2 + 1) (lo' := [some (.ref (ad 35)), some (.ref (ad 4)), some (.int (x2 + 1)), some (.int x3), some (.int x4), some (.int (if (gI M 9 4) ≤ x2 then 0 else 1)), some (.int (if (gI M 4 4) ≤ x3 then 0 else 1))]) dX5_walk_194 rfl (congrArg (fun q => x2 + q) kI_1) (by decide) rfl ?_
          refine r_goto (tgt := 228) dX5_walk_197 (by decide) ?_
          refine q_iinc (v := x4 + 1) (lo' := [some (.ref (ad 35)), some (.ref (ad 4)), some (.int (x2 + 1)), some (.int x3), some (.int (x4 + 1)), some (.int (if (gI M 9 4) ≤ x2 then 0 else 1)), some (.int (if (gI M 4 4) ≤ x3 then 0 else 1))]) dX5_walk_228 rfl (congrArg (fun q => x4 + q) kI_1) (by decide) rfl ?_
          refine r_goto (tgt := 33) dX5_walk_231 (by decide) ?_
          exact q_weak (lo' := [some (.ref (ad 35)), some (.ref (ad 4)), some (.int (x2 + 1)), some (.int x3), some (.int (x4 + 1)), none, none]) ⟨rfl, rfl, rfl, rfl, rfl, trivial⟩ (K3 c1 c2 c5 c6)
      · skip
        refine r_iload dX5_walk_98 rfl ?_
        refine r_if_eq (tgt := 158) dX5_walk_100 (by decide) (fun c7 => ?_) (fun c7 => ?_)
        · skip
          refine r_iload dX5_walk_158 rfl ?_
          refine r_if_eq (tgt := 175) dX5_walk_160 (by decide) (fun q => absurd q c5) (fun _ => ?_)
          refine r_aload_n dX5_walk_163 rfl ?_
          refine r_getR dX5_walk_164 fs_35_8 fk_X5_31 ?_
          refine r_iload_n dX5_walk_167 rfl ?_
          refine r_iload_n dX5_walk_168 rfl ?_
          refine r_callV (x := 42) (As := [.int x2, .int x3]) (rest := []) dX5_walk_169 mk_X5_83 mv_X1_has_42 rm_X5_walk_X1_has_42 rfl rfl (by decide +kernel) (Nat.le_of_ble_eq_true rfl) (ct_X1_has_42 (g4 c1 c2 c5 c7) (⟨_, rfl, ?_⟩))
          refine r_if_ne (tgt := 180) dX5_walk_172 (by decide) (fun c8 => ?_) (fun c8 => ?_)
          · skip
            refine r_aload_n dX5_walk_180 rfl ?_
            refine r_getR dX5_walk_181 fs_35_2 fk_X5_15 ?_
            refine r_iload_n dX5_walk_184 rfl ?_
            refine r_iconst (v := (-1)) dX5_walk_185 kI_m1 ?_
            refine r_iast dX5_walk_186 as_37 (g5 c1 c2 c5 c7 c8) ?_
            refine r_aload_n dX5_walk_187 rfl ?_
            refine r_getR dX5_walk_188 fs_35_1 fk_X5_9 ?_
            refine r_iload_n dX5_walk_191 rfl ?_
            refine r_iconst (v := 0) dX5_walk_192 kI_0 ?_
            refine r_iast dX5_walk_193 as_36 (g5 c1 c2 c5 c7 c8) ?_
            refine q_iinc (v := x2 + 1) (lo' := [some (.ref (ad 35)), some (.ref (ad 4)), some (.int (x2 + 1)), some (.int x3), some (.int x4), some (.int (if (gI M 9 4) ≤ x2 then 0 else 1)), some (.int (if (gI M 4 4) ≤ x3 then 0 else 1))]) dX5_walk_194 rfl (congrArg (fun q => x2 + q) kI_1) (by decide) rfl ?_
            refine r_goto (tgt := 228) dX5_walk_197 (by decide) ?_
            refine q_iinc (v := x4 + 1) (lo' := [some (.ref (ad 35)), some (.ref (ad 4)), some (.int (x2 + 1)), some (.int x3), some (.int (x4 + 1)), some (.int (if (gI M 9 4) ≤ x2 then 0 else 1)), some (.int (if (gI M 4 4) ≤ x3 then 0 else 1))]) dX5_walk_228 rfl (congrArg (fun q => x4 + q) kI_1) (by decide) rfl ?_
            refine r_goto (tgt := 33) dX5_walk_231 (by decide) ?_
            exact q_weak (lo' := [some (.ref (ad 35)), some (.ref (ad 4)), some (.int (x2 + 1)), some (.int x3), some (.int (x4 + 1)), none, none]) ⟨rfl, rfl, rfl, rfl, rfl, trivial⟩ (K4 c1 c2 c5 c7 c8)
          · skip
            refine r_iload dX5_walk_175 rfl ?_
            refine r_if_ne (tgt := 200) dX5_walk_177 (by decide) (fun q => absurd c7 q) (fun _ => ?_)
            refine r_aload_n dX5_walk_180 rfl ?_
            refine r_getR dX5_walk_181 fs_35_2 fk_X5_15 ?_
            refine r_iload_n dX5_walk_184 rfl ?_
            refine r_iconst (v := (-1)) dX5_walk_185 kI_m1 ?_
            refine r_iast dX5_walk_186 as_37 (g6 c1 c2 c5 c7 c8) ?_
            refine r_aload_n dX5_walk_187 rfl ?_
            refine r_getR dX5_walk_188 fs_35_1 fk_X5_9 ?_
            refine r_iload_n dX5_walk_191 rfl ?_
            refine r_iconst (v := 0) dX5_walk_192 kI_0 ?_
            refine r_iast dX5_walk_193 as_36 (g6 c1 c2 c5 c7 c8) ?_
            refine q_iinc (v := x2 + 1) (lo' := [some (.ref (ad 35)), some (.ref (ad 4)), some (.int (x2 + 1)), some (.int x3), some (.int x4), some (.int (if (gI M 9 4) ≤ x2 then 0 else 1)), some (.int (if (gI M 4 4) ≤ x3 then 0 else 1))]) dX5_walk_194 rfl (congrArg (fun q => x2 + q) kI_1) (by decide) rfl ?_
            refine r_goto (tgt := 228) dX5_walk_197 (by decide) ?_
            refine q_iinc (v := x4 + 1) (lo' := [some (.ref (ad 35)), some (.ref (ad 4)), some (.int (x2 + 1)), some (.int x3), some (.int (x4 + 1)), some (.int (if (gI M 9 4) ≤ x2 then 0 else 1)), some (.int (if (gI M 4 4) ≤ x3 then 0 else 1))]) dX5_walk_228 rfl (congrArg (fun q => x4 + q) kI_1) (by decide) rfl ?_
            refine r_goto (tgt := 33) dX5_walk_231 (by decide) ?_
            exact q_weak (lo' := [some (.ref (ad 35)), some (.ref (ad 4)), some (.int (x2 + 1)), some (.int x3), some (.int (x4 + 1)), none, none]) ⟨rfl, rfl, rfl, rfl, rfl, trivial⟩ (K5 c1 c2 c5 c7 c8)
        · skip
          refine r_aload_n dX5_walk_103 rfl ?_
          refine r_getR dX5_walk_104 fs_35_7 fk_X5_27 ?_
          refine r_iload_n dX5_walk_107 rfl ?_
          refine r_iload_n dX5_walk_108 rfl ?_
          refine r_callV (x := 40) (As := [.int x2, .int x3]) (rest := []) dX5_walk_109 mk_X5_83 mv_X1_has_40 rm_X5_walk_X1_has_40 rfl rfl (by decide +kernel) (Nat.le_of_ble_eq_true rfl) (ct_X1_has_40 (g7 c1 c2 c5 c7) (⟨_, rfl, ?_⟩))
          refine r_if_eq (tgt := 158) dX5_walk_112 (by decide) (fun c9 => ?_) (fun c9 => ?_)
          · skip
            refine r_iload dX5_walk_158 rfl ?_
            refine r_if_eq (tgt := 175) dX5_walk_160 (by decide) (fun q => absurd q c5) (fun _ => ?_)
            refine r_aload_n dX5_walk_163 rfl ?_
            refine r_getR dX5_walk_164 fs_35_8 fk_X5_31 ?_
            refine r_iload_n dX5_walk_167 rfl ?_
            refine r_iload_n dX5_walk_168 rfl ?_
            refine r_callV (x := 42) (As := [.int x2, .int x3]) (rest := []) dX5_walk_169 mk_X5_83 mv_X1_has_42 rm_X5_walk_X1_has_42 rfl rfl (by decide +kernel) (Nat.le_of_ble_eq_true rfl) (ct_X1_has_42 (g8 c1 c2 c5 c7 c9) (⟨_, rfl, ?_⟩))
            refine r_if_ne (tgt := 180) dX5_walk_172 (by decide) (fun c10 => ?_) (fun c10 => ?_)
            · skip
              refine r_aload_n dX5_walk_180 rfl ?_
              refine r_getR dX5_walk_181 fs_35_2 fk_X5_15 ?_
              refine r_iload_n dX5_walk_184 rfl ?_
              refine r_iconst (v := (-1)) dX5_walk_185 kI_m1 ?_
              refine r_iast dX5_walk_186 as_37 (g9 c1 c2 c5 c7 c9 c10) ?_
              refine r_aload_n dX5_walk_187 rfl ?_
              refine r_getR dX5_walk_188 fs_35_1 fk_X5_9 ?_
              refine r_iload_n dX5_walk_191 rfl ?_
              refine r_iconst (v := 0) dX5_walk_192 kI_0 ?_
              refine r_iast dX5_walk_193 as_36 (g9 c1 c2 c5 c7 c9 c10) ?_
              refine q_iinc (v := x2 + 1) (lo' := [some (.ref (ad 35)), some (.ref (ad 4)), some (.int (x2 + 1)), some (.int x3), some (.int x4), some (.int (if (gI M 9 4) ≤ x2 then 0 else 1)), some (.int (if (gI M 4 4) ≤ x3 then 0 else 1))]) dX5_walk_194 rfl (congrArg (fun q => x2 + q) kI_1) (by decide) rfl ?_
              refine r_goto (tgt := 228) dX5_walk_197 (by decide) ?_
              refine q_iinc (v := x4 + 1) (lo' := [some (.ref (ad 35)), some (.ref (ad 4)), some (.int (x2 + 1)), some (.int x3), some (.int (x4 + 1)), some (.int (if (gI M 9 4) ≤ x2 then 0 else 1)), some (.int (if (gI M 4 4) ≤ x3 then 0 else 1))]) dX5_walk_228 rfl (congrArg (fun q => x4 + q) kI_1) (by decide) rfl ?_
              refine r_goto (tgt := 33) dX5_walk_231 (by decide) ?_
              exact q_weak (lo' := [some (.ref (ad 35)), some (.ref (ad 4)), some (.int (x2 + 1)), some (.int x3), some (.int (x4 + 1)), none, none]) ⟨rfl, rfl, rfl, rfl, rfl, trivial⟩ (K6 c1 c2 c5 c7 c9 c10)
            · skip
              refine r_iload dX5_walk_175 rfl ?_
              refine r_if_ne (tgt := 200) dX5_walk_177 (by decide) (fun _ => ?_) (fun q => absurd q c7)
              refine r_aload_n dX5_walk_200 rfl ?_
              refine r_getR dX5_walk_201 fs_35_5 fk_X5_18 ?_
              refine r_aload_n dX5_walk_204 rfl ?_
              refine r_getR dX5_walk_205 fs_4_1 fk_X5_77 ?_
              refine r_iload_n dX5_walk_208 rfl ?_
              refine r_iald dX5_walk_209 as_6 (g10 c1 c2 c5 c7 c9 c10) ?_
              refine r_dup2 dX5_walk_210 rfl rfl ?_
              refine r_iald dX5_walk_211 as_38 (g11 c1 c2 c5 c7 c9 c10) ?_
              refine r_iconst (v := 1) dX5_walk_212 kI_1 ?_
              refine r_iadd dX5_walk_213 ?_
              refine r_iast dX5_walk_214 as_38 (g11 c1 c2 c5 c7 c9 c10) ?_
              refine r_aload_n dX5_walk_215 rfl ?_
              refine r_dup dX5_walk_216 rfl ?_
              refine q_getI (v := gI M 35 3) dX5_walk_217 fs_35_3 fk_X5_80 rfl ?_
              refine r_iconst (v := 1) dX5_walk_220 kI_1 ?_
              refine r_iadd dX5_walk_221 ?_
              refine r_putI dX5_walk_222 fs_35_3 fk_X5_80 fp_X5_3 ?_
              refine q_iinc (v := x3 + 1) (lo' := [some (.ref (ad 35)), some (.ref (ad 4)), some (.int x2), some (.int (x3 + 1)), some (.int x4), some (.int (if (gI M 9 4) ≤ x2 then 0 else 1)), some (.int (if (gI M 4 4) ≤ x3 then 0 else 1))]) dX5_walk_225 rfl (congrArg (fun q => x3 + q) kI_1) (by decide) rfl ?_
              refine q_iinc (v := x4 + 1) (lo' := [some (.ref (ad 35)), some (.ref (ad 4)), some (.int x2), some (.int (x3 + 1)), some (.int (x4 + 1)), some (.int (if (gI M 9 4) ≤ x2 then 0 else 1)), some (.int (if (gI M 4 4) ≤ x3 then 0 else 1))]) dX5_walk_228 rfl (congrArg (fun q => x4 + q) kI_1) (by decide) rfl ?_
              refine r_goto (tgt := 33) dX5_walk_231 (by decide) ?_
              exact q_weak (lo' := [some (.ref (ad 35)), some (.ref (ad 4)), some (.int x2), some (.int (x3 + 1)), some (.int (x4 + 1)), none, none]) ⟨rfl, rfl, rfl, rfl, rfl, trivial⟩ (K7 c1 c2 c5 c7 c9 c10)
          · skip
            refine r_aload_n dX5_walk_115 rfl ?_
            refine r_getR dX5_walk_116 fs_35_2 fk_X5_15 ?_
            refine r_iload_n dX5_walk_119 rfl ?_
            refine r_aload_n dX5_walk_120 rfl ?_
            refine r_getR dX5_walk_121 fs_4_1 fk_X5_77 ?_
            refine r_iload_n dX5_walk_124 rfl ?_
            refine r_iald dX5_walk_125 as_6 (g12 c1 c2 c5 c7 c9) ?_
            refine r_iast dX5_walk_126 as_37 (g13 c1 c2 c5 c7 c9) ?_
            refine r_aload_n dX5_walk_127 rfl ?_
            refine r_getR dX5_walk_128 fs_35_1 fk_X5_9 ?_
            refine r_iload_n dX5_walk_131 rfl ?_
            refine r_aload_n dX5_walk_132 rfl ?_
            refine r_getR dX5_walk_133 fs_4_0 fk_X5_70 ?_
            refine r_iload_n dX5_walk_136 rfl ?_
            refine q_iald (v := gI M 5 x3.toNatClampNeg) dX5_walk_137 as_5 (g12 c1 c2 c5 c7 c9) rfl ?_
            refine r_aload_n dX5_walk_138 rfl ?_
            refine r_getR dX5_walk_139 fs_35_0 fk_X5_34 ?_
            refine r_getR dX5_walk_142 fs_9_0 fk_X5_70 ?_
            refine r_iload_n dX5_walk_145 rfl ?_
            refine q_iald (v := gI M 10 x2.toNatClampNeg) dX5_walk_146 as_10 (g13 c1 c2 c5 c7 c9) rfl ?_
            refine r_isub dX5_walk_147 ?_
            refine r_iast dX5_walk_148 as_36 (g13 c1 c2 c5 c7 c9) ?_
            refine q_iinc (v := x2 + 1) (lo' := [some (.ref (ad 35)), some (.ref (ad 4)), some (.int (x2 + 1)), some (.int x3), some (.int x4), some (.int (if (gI M 9 4) ≤ x2 then 0 else 1)), some (.int (if (gI M 4 4) ≤ x3 then 0 else 1))]) dX5_walk_149 rfl (congrArg (fun q => x2 + q) kI_1) (by decide) rfl ?_
            refine q_iinc (v := x3 + 1) (lo' := [some (.ref (ad 35)), some (.ref (ad 4)), some (.int (x2 + 1)), some (.int (x3 + 1)), some (.int x4), some (.int (if (gI M 9 4) ≤ x2 then 0 else 1)), some (.int (if (gI M 4 4) ≤ x3 then 0 else 1))]) dX5_walk_152 rfl (congrArg (fun q => x3 + q) kI_1) (by decide) rfl ?_
            refine r_goto (tgt := 228) dX5_walk_155 (by decide) ?_
            refine q_iinc (v := x4 + 1) (lo' := [some (.ref (ad 35)), some (.ref (ad 4)), some (.int (x2 + 1)), some (.int (x3 + 1)), some (.int (x4 + 1)), some (.int (if (gI M 9 4) ≤ x2 then 0 else 1)), some (.int (if (gI M 4 4) ≤ x3 then 0 else 1))]) dX5_walk_228 rfl (congrArg (fun q => x4 + q) kI_1) (by decide) rfl ?_
            refine r_goto (tgt := 33) dX5_walk_231 (by decide) ?_
            exact q_weak (lo' := [some (.ref (ad 35)), some (.ref (ad 4)), some (.int (x2 + 1)), some (.int (x3 + 1)), some (.int (x4 + 1)), none, none]) ⟨rfl, rfl, rfl, rfl, rfl, trivial⟩ (K8 c1 c2 c5 c7 c9)
    · skip
      refine r_iload_n dX5_walk_52 rfl ?_
      refine r_aload_n dX5_walk_53 rfl ?_
      refine r_getI dX5_walk_54 fs_4_4 fk_X5_49 ?_
      refine r_icmp_ge (tgt := 234) dX5_walk_57 (by decide) (fun c11 => ?_) (fun c11 => ?_)
      · skip
        exact r_vret dX5_walk_234 rfl (K9 c1 c2 c11)
      · skip
        refine r_iload_n dX5_walk_60 rfl ?_
        refine r_aload_n dX5_walk_61 rfl ?_
        refine r_getR dX5_walk_62 fs_35_0 fk_X5_34 ?_
        refine r_getI dX5_walk_65 fs_9_4 fk_X5_49 ?_
        suffices hJ3 : Fw l D ad kA mX5_walk 76 [some (.ref (ad 35)), some (.ref (ad 4)), some (.int x2), some (.int x3), some (.int x4), none, none] [.int (if (gI M 9 4) ≤ x2 then 0 else 1)] M Q by
          refine r_icmp_ge (tgt := 75) dX5_walk_68 (by decide) (fun c12 => ?_) (fun c12 => ?_)
          · skip
            refine r_iconst (v := 0) dX5_walk_75 kI_0 ?_
            exact q_weak (lo' := [some (.ref (ad 35)), some (.ref (ad 4)), some (.int x2), some (.int x3), some (.int x4), none, none]) ⟨rfl, rfl, rfl, rfl, rfl, trivial⟩ (by have h9 := hJ3; simp only [if_pos c12] at h9; first | exact h9 | (simp only [if_pos c12]; exact h9))
          · skip
            refine r_iconst (v := 1) dX5_walk_71 kI_1 ?_
            refine r_goto (tgt := 76) dX5_walk_72 (by decide) ?_
            exact q_weak (lo' := [some (.ref (ad 35)), some (.ref (ad 4)), some (.int x2), some (.int x3), some (.int x4), none, none]) ⟨rfl, rfl, rfl, rfl, rfl, trivial⟩ (by have h9 := hJ3; simp only [if_neg c12] at h9; first | exact h9 | (simp only [if_neg c12]; exact h9))
        refine q_istore (lo' := [some (.ref (ad 35)), some (.ref (ad 4)), some (.int x2), some (.int x3), some (.int x4), some (.int (if (gI M 9 4) ≤ x2 then 0 else 1)), none]) dX5_walk_76 (by decide) rfl ?_
        refine r_iload_n dX5_walk_78 rfl ?_
        refine r_aload_n dX5_walk_79 rfl ?_
        refine r_getI dX5_walk_80 fs_4_4 fk_X5_49 ?_
        refine r_icmp_ge (tgt := 90) dX5_walk_83 (by decide) (fun q => absurd q c11) (fun _ => ?_)
        refine r_iconst (v := 1) dX5_walk_86 kI_1 ?_
        refine r_goto (tgt := 91) dX5_walk_87 (by decide) ?_
        refine q_istore (lo' := [some (.ref (ad 35)), some (.ref (ad 4)), some (.int x2), some (.int x3), some (.int x4), some (.int (if (gI M 9 4) ≤ x2 then 0 else 1)), some (.int 1)]) dX5_walk_91 (by decide) rfl ?_
        refine r_iload dX5_walk_93 rfl ?_
        refine r_if_eq (tgt := 158) dX5_walk_95 (by decide) (fun c13 => ?_) (fun c13 => ?_)
        · skip
          refine r_iload dX5_walk_158 rfl ?_
          refine r_if_eq (tgt := 175) dX5_walk_160 (by decide) (fun _ => ?_) (fun q => absurd c13 q)
          refine r_iload dX5_walk_175 rfl ?_
          refine r_if_ne (tgt := 200) dX5_walk_177 (by decide) (fun _ => ?_) (fun q => absurd q (by decide))
          refine r_aload_n dX5_walk_200 rfl ?_
          refine r_getR dX5_walk_201 fs_35_5 fk_X5_18 ?_
          refine r_aload_n dX5_walk_204 rfl ?_
          refine r_getR dX5_walk_205 fs_4_1 fk_X5_77 ?_
          refine r_iload_n dX5_walk_208 rfl ?_
          refine r_iald dX5_walk_209 as_6 (g14 c1 c2 c11 c13) ?_
          refine r_dup2 dX5_walk_210 rfl rfl ?_
          refine r_iald dX5_walk_211 as_38 (g15 c1 c2 c11 c13) ?_
          refine r_iconst (v := 1) dX5_walk_212 kI_1 ?_
          refine r_iadd dX5_walk_213 ?_
          refine r_iast dX5_walk_214 as_38 (g15 c1 c2 c11 c13) ?_
          refine r_aload_n dX5_walk_215 rfl ?_
          refine r_dup dX5_walk_216 rfl ?_
          refine q_getI (v := gI M 35 3) dX5_walk_217 fs_35_3 fk_X5_80 rfl ?_
          refine r_iconst (v := 1) dX5_walk_220 kI_1 ?_
          refine r_iadd dX5_walk_221 ?_
          refine r_putI dX5_walk_222 fs_35_3 fk_X5_80 fp_X5_3 ?_
          refine q_iinc (v := x3 + 1) (lo' := [some (.ref (ad 35)), some (.ref (ad 4)), some (.int x2), some (.int (x3 + 1)), some (.int x4), some (.int (if (gI M 9 4) ≤ x2 then 0 else 1)), some (.int 1)]) dX5_walk_225 rfl (congrArg (fun q => x3 + q) kI_1) (by decide) rfl ?_
          refine q_iinc (v := x4 + 1) (lo' := [some (.ref (ad 35)), some (.ref (ad 4)), some (.int x2), some (.int (x3 + 1)), some (.int (x4 + 1)), some (.int (if (gI M 9 4) ≤ x2 then 0 else 1)), some (.int 1)]) dX5_walk_228 rfl (congrArg (fun q => x4 + q) kI_1) (by decide) rfl ?_
          refine r_goto (tgt := 33) dX5_walk_231 (by decide) ?_
          exact q_weak (lo' := [some (.ref (ad 35)), some (.ref (ad 4)), some (.int x2), some (.int (x3 + 1)), some (.int (x4 + 1)), none, none]) ⟨rfl, rfl, rfl, rfl, rfl, trivial⟩ (K10 c1 c2 c11 c13)
        · skip
          refine r_iload dX5_walk_98 rfl ?_
          refine r_if_eq (tgt := 158) dX5_walk_100 (by decide) (fun q => absurd q (by decide)) (fun _ => ?_)
          refine r_aload_n dX5_walk_103 rfl ?_
          refine r_getR dX5_walk_104 fs_35_7 fk_X5_27 ?_
          refine r_iload_n dX5_walk_107 rfl ?_
          refine r_iload_n dX5_walk_108 rfl ?_
          refine r_callV (x := 40) (As := [.int x2, .int x3]) (rest := []) dX5_walk_109 mk_X5_83 mv_X1_has_40 rm_X5_walk_X1_has_40 rfl rfl (by decide +kernel) (Nat.le_of_ble_eq_true rfl) (ct_X1_has_40 (g16 c1 c2 c11 c13) (⟨_, rfl, ?_⟩))
          refine r_if_eq (tgt := 158) dX5_walk_112 (by decide) (fun c14 => ?_) (fun c14 => ?_)
          · skip
            refine r_iload dX5_walk_158 rfl ?_
            refine r_if_eq (tgt := 175) dX5_walk_160 (by decide) (fun q => absurd q c13) (fun _ => ?_)
            refine r_aload_n dX5_walk_163 rfl ?_
            refine r_getR dX5_walk_164 fs_35_8 fk_X5_31 ?_
            refine r_iload_n dX5_walk_167 rfl ?_
            refine r_iload_n dX5_walk_168 rfl ?_
            refine r_callV (x := 42) (As := [.int x2, .int x3]) (rest := []) dX5_walk_169 mk_X5_83 mv_X1_has_42 rm_X5_walk_X1_has_42 rfl rfl (by decide +kernel) (Nat.le_of_ble_eq_true rfl) (ct_X1_has_42 (g17 c1 c2 c11 c13 c14) (⟨_, rfl, ?_⟩))
            refine r_if_ne (tgt := 180) dX5_walk_172 (by decide) (fun c15 => ?_) (fun c15 => ?_)
            · skip
              refine r_aload_n dX5_walk_180 rfl ?_
              refine r_getR dX5_walk_181 fs_35_2 fk_X5_15 ?_
              refine r_iload_n dX5_walk_184 rfl ?_
              refine r_iconst (v := (-1)) dX5_walk_185 kI_m1 ?_
              refine r_iast dX5_walk_186 as_37 (g18 c1 c2 c11 c13 c14 c15) ?_
              refine r_aload_n dX5_walk_187 rfl ?_
              refine r_getR dX5_walk_188 fs_35_1 fk_X5_9 ?_
              refine r_iload_n dX5_walk_191 rfl ?_
              refine r_iconst (v := 0) dX5_walk_192 kI_0 ?_
              refine r_iast dX5_walk_193 as_36 (g18 c1 c2 c11 c13 c14 c15) ?_
              refine q_iinc (v := x2 + 1) (lo' := [some (.ref (ad 35)), some (.ref (ad 4)), some (.int (x2 + 1)), some (.int x3), some (.int x4), some (.int (if (gI M 9 4) ≤ x2 then 0 else 1)), some (.int 1)]) dX5_walk_194 rfl (congrArg (fun q => x2 + q) kI_1) (by decide) rfl ?_
              refine r_goto (tgt := 228) dX5_walk_197 (by decide) ?_
              refine q_iinc (v := x4 + 1) (lo' := [some (.ref (ad 35)), some (.ref (ad 4)), some (.int (x2 + 1)), some (.int x3), some (.int (x4 + 1)), some (.int (if (gI M 9 4) ≤ x2 then 0 else 1)), some (.int 1)]) dX5_walk_228 rfl (congrArg (fun q => x4 + q) kI_1) (by decide) rfl ?_
              refine r_goto (tgt := 33) dX5_walk_231 (by decide) ?_
              exact q_weak (lo' := [some (.ref (ad 35)), some (.ref (ad 4)), some (.int (x2 + 1)), some (.int x3), some (.int (x4 + 1)), none, none]) ⟨rfl, rfl, rfl, rfl, rfl, trivial⟩ (K11 c1 c2 c11 c13 c14 c15)
            · skip
              refine r_iload dX5_walk_175 rfl ?_
              refine r_if_ne (tgt := 200) dX5_walk_177 (by decide) (fun _ => ?_) (fun q => absurd q (by decide))
              refine r_aload_n dX5_walk_200 rfl ?_
              refine r_getR dX5_walk_201 fs_35_5 fk_X5_18 ?_
              refine r_aload_n dX5_walk_204 rfl ?_
              refine r_getR dX5_walk_205 fs_4_1 fk_X5_77 ?_
              refine r_iload_n dX5_walk_208 rfl ?_
              refine r_iald dX5_walk_209 as_6 (g19 c1 c2 c11 c13 c14 c15) ?_
              refine r_dup2 dX5_walk_210 rfl rfl ?_
              refine r_iald dX5_walk_211 as_38 (g20 c1 c2 c11 c13 c14 c15) ?_
              refine r_iconst (v := 1) dX5_walk_212 kI_1 ?_
              refine r_iadd dX5_walk_213 ?_
              refine r_iast dX5_walk_214 as_38 (g20 c1 c2 c11 c13 c14 c15) ?_
              refine r_aload_n dX5_walk_215 rfl ?_
              refine r_dup dX5_walk_216 rfl ?_
              refine q_getI (v := gI M 35 3) dX5_walk_217 fs_35_3 fk_X5_80 rfl ?_
              refine r_iconst (v := 1) dX5_walk_220 kI_1 ?_
              refine r_iadd dX5_walk_221 ?_
              refine r_putI dX5_walk_222 fs_35_3 fk_X5_80 fp_X5_3 ?_
              refine q_iinc (v := x3 + 1) (lo' := [some (.ref (ad 35)), some (.ref (ad 4)), some (.int x2), some (.int (x3 + 1)), some (.int x4), some (.int (if (gI M 9 4) ≤ x2 then 0 else 1)), some (.int 1)]) dX5_walk_225 rfl (congrArg (fun q => x3 + q) kI_1) (by decide) rfl ?_
              refine q_iinc (v := x4 + 1) (lo' := [some (.ref (ad 35)), some (.ref (ad 4)), some (.int x2), some (.int (x3 + 1)), some (.int (x4 + 1)), some (.int (if (gI M 9 4) ≤ x2 then 0 else 1)), some (.int 1)]) dX5_walk_228 rfl (congrArg (fun q => x4 + q) kI_1) (by decide) rfl ?_
              refine r_goto (tgt := 33) dX5_walk_231 (by decide) ?_
              exact q_weak (lo' := [some (.ref (ad 35)), some (.ref (ad 4)), some (.int x2), some (.int (x3 + 1)), some (.int (x4 + 1)), none, none]) ⟨rfl, rfl, rfl, rfl, rfl, trivial⟩ (K12 c1 c2 c11 c13 c14 c15)
          · skip
            refine r_aload_n dX5_walk_115 rfl ?_
            refine r_getR dX5_walk_116 fs_35_2 fk_X5_15 ?_
            refine r_iload_n dX5_walk_119 rfl ?_
            refine r_aload_n dX5_walk_120 rfl ?_
            refine r_getR dX5_walk_121 fs_4_1 fk_X5_77 ?_
            refine r_iload_n dX5_walk_124 rfl ?_
            refine r_iald dX5_walk_125 as_6 (g21 c1 c2 c11 c13 c14) ?_
            refine r_iast dX5_walk_126 as_37 (g22 c1 c2 c11 c13 c14) ?_
            refine r_aload_n dX5_walk_127 rfl ?_
            refine r_getR dX5_walk_128 fs_35_1 fk_X5_9 ?_
            refine r_iload_n dX5_walk_131 rfl ?_
            refine r_aload_n dX5_walk_132 rfl ?_
            refine r_getR dX5_walk_133 fs_4_0 fk_X5_70 ?_
            refine r_iload_n dX5_walk_136 rfl ?_
            refine q_iald (v := gI M 5 x3.toNatClampNeg) dX5_walk_137 as_5 (g21 c1 c2 c11 c13 c14) rfl ?_
            refine r_aload_n dX5_walk_138 rfl ?_
            refine r_getR dX5_walk_139 fs_35_0 fk_X5_34 ?_
            refine r_getR dX5_walk_142 fs_9_0 fk_X5_70 ?_
            refine r_iload_n dX5_walk_145 rfl ?_
            refine q_iald (v := gI M 10 x2.toNatClampNeg) dX5_walk_146 as_10 (g22 c1 c2 c11 c13 c14) rfl ?_
            refine r_isub dX5_walk_147 ?_
            refine r_iast dX5_walk_148 as_36 (g22 c1 c2 c11 c13 c14) ?_
            refine q_iinc (v := x2 + 1) (lo' := [some (.ref (ad 35)), some (.ref (ad 4)), some (.int (x2 + 1)), some (.int x3), some (.int x4), some (.int (if (gI M 9 4) ≤ x2 then 0 else 1)), some (.int 1)]) dX5_walk_149 rfl (congrArg (fun q => x2 + q) kI_1) (by decide) rfl ?_
            refine q_iinc (v := x3 + 1) (lo' := [some (.ref (ad 35)), some (.ref (ad 4)), some (.int (x2 + 1)), some (.int (x3 + 1)), some (.int x4), some (.int (if (gI M 9 4) ≤ x2 then 0 else 1)), some (.int 1)]) dX5_walk_152 rfl (congrArg (fun q => x3 + q) kI_1) (by decide) rfl ?_
            refine r_goto (tgt := 228) dX5_walk_155 (by decide) ?_
            refine q_iinc (v := x4 + 1) (lo' := [some (.ref (ad 35)), some (.ref (ad 4)), some (.int (x2 + 1)), some (.int (x3 + 1)), some (.int (x4 + 1)), some (.int (if (gI M 9 4) ≤ x2 then 0 else 1)), some (.int 1)]) dX5_walk_228 rfl (congrArg (fun q => x4 + q) kI_1) (by decide) rfl ?_
            refine r_goto (tgt := 33) dX5_walk_231 (by decide) ?_
            exact q_weak (lo' := [some (.ref (ad 35)), some (.ref (ad 4)), some (.int (x2 + 1)), some (.int (x3 + 1)), some (.int (x4 + 1)), none, none]) ⟨rfl, rfl, rfl, rfl, rfl, trivial⟩ (K13 c1 c2 c11 c13 c14)
theorem en_X5_walk  (K : Fw l D ad kA mX5_walk 0 [some (.ref (ad 35)), some (.ref (ad 4)), none, none, none, none, none] [] M Q) : Cal l D ad kA mX5_walk [.ref (ad 35), .ref (ad 4)] M Q := Cal.of (by decide) rfl rfl (Nat.le_of_ble_eq_true rfl) K
theorem t_X5_lay_0  
    (K1 : Cal l D ad kA mX5_weigh [.ref (ad 35), .ref (ad 4)] M (fun oc M2 => oc = .returned none ∧ Fw l D ad kA mX5_lay 5 [some (.ref (ad 35)), some (.ref (ad 4))] [] M2 Q)) : Fw l D ad kA mX5_lay 0 [some (.ref (ad 35)), some (.ref (ad 4))] [] M Q := by
  refine r_aload_n dX5_lay_0 rfl ?_
  refine r_aload_n dX5_lay_1 rfl ?_
  exact r_callV (x := 35) (As := [.ref (ad 4)]) (rest := []) dX5_lay_2 mk_X5_42 mv_X5_weigh rm_X5_lay_X5_weigh rfl rfl (by decide +kernel) (Nat.le_of_ble_eq_true rfl) (cal_v (lo' := [some (.ref (ad 35)), some (.ref (ad 4))]) ⟨rfl, rfl, trivial⟩ K1)
theorem t_X5_lay_5  
    (K1 : Cal l D ad kA mX5_walk [.ref (ad 35), .ref (ad 4)] M (fun oc M2 => oc = .returned none ∧ Fw l D ad kA mX5_lay 10 [some (.ref (ad 35)), none] [] M2 Q)) : Fw l D ad kA mX5_lay 5 [some (.ref (ad 35)), some (.ref (ad 4))] [] M Q := by
  refine r_aload_n dX5_lay_5 rfl ?_
  refine r_aload_n dX5_lay_6 rfl ?_
  exact r_callV (x := 35) (As := [.ref (ad 4)]) (rest := []) dX5_lay_7 mk_X5_46 mv_X5_walk rm_X5_lay_X5_walk rfl rfl (by decide +kernel) (Nat.le_of_ble_eq_true rfl) (cal_v (lo' := [some (.ref (ad 35)), none]) ⟨rfl, trivial⟩ K1)
theorem t_X5_lay_10  
    (K1 : Q (.returned (some (.int (gI M 39 (0 : Int32).toNatClampNeg)))) (sI M 35 4 1)) : Fw l D ad kA mX5_lay 10 [some (.ref (ad 35)), none] [] M Q := by
  refine r_aload_n dX5_lay_10 rfl ?_
  refine r_iconst (v := 1) dX5_lay_11 kI_1 ?_
  refine r_putZ dX5_lay_12 fs_35_4 fk_X5_38 fp_X5_4 (Or.inr rfl) ?_
  refine r_aload_n dX5_lay_15 rfl ?_
  refine r_getR dX5_lay_16 fs_35_6 fk_X5_21 ?_
  refine r_iconst (v := 0) dX5_lay_19 kI_0 ?_
  refine q_iald (v := gI M 39 (0 : Int32).toNatClampNeg) dX5_lay_20 as_39 (by unfold vp_in; decide) rfl ?_
  exact r_iret dX5_lay_21 rfl K1
theorem en_X5_lay  (K : Fw l D ad kA mX5_lay 0 [some (.ref (ad 35)), some (.ref (ad 4))] [] M Q) : Cal l D ad kA mX5_lay [.ref (ad 35), .ref (ad 4)] M Q := Cal.of (by decide) rfl rfl (Nat.le_of_ble_eq_true rfl) K
def v_X5_pointsOf (M : Mem) (x1 : Int32) : Int32 := if (gI M 37 x1.toNatClampNeg) = (-1) then 3 else if (gI M 37 x1.toNatClampNeg) = (gI M 11 x1.toNatClampNeg) then iabs (gI M 36 x1.toNatClampNeg) else 2
def g_X5_pointsOf (M : Mem) (x1 : Int32) : Prop := (vp_in x1 160)
theorem ct_X5_pointsOf {x1 : Int32}  (g : g_X5_pointsOf M x1) (h : Q (.returned (some (.int (v_X5_pointsOf M x1)))) M) : Cal l D ad kA mX5_pointsOf [.ref (ad 35), .int x1] M Q := by
  refine Cal.of (lo := [some (.ref (ad 35)), some (.int x1)]) (by decide) rfl rfl (Nat.le_of_ble_eq_true rfl) ?_
  have g1 := g
  refine r_aload_n dX5_pointsOf_0 rfl ?_
  refine r_getR dX5_pointsOf_1 fs_35_2 fk_X5_15 ?_
  refine r_iload_n dX5_pointsOf_4 rfl ?_
  refine r_iald dX5_pointsOf_5 as_37 g1 ?_
  refine r_iconst (v := (-1)) dX5_pointsOf_6 kI_m1 ?_
  refine r_icmp_ne (tgt := 12) dX5_pointsOf_7 (by decide) (fun c1 => ?_) (fun c1 => ?_)
  · skip
    refine r_aload_n dX5_pointsOf_12 rfl ?_
    refine r_getR dX5_pointsOf_13 fs_35_2 fk_X5_15 ?_
    refine r_iload_n dX5_pointsOf_16 rfl ?_
    refine r_iald dX5_pointsOf_17 as_37 g1 ?_
    refine r_aload_n dX5_pointsOf_18 rfl ?_
    refine r_getR dX5_pointsOf_19 fs_35_0 fk_X5_34 ?_
    refine r_getR dX5_pointsOf_22 fs_9_1 fk_X5_77 ?_
    refine r_iload_n dX5_pointsOf_25 rfl ?_
    refine r_iald dX5_pointsOf_26 as_11 g1 ?_
    suffices hJ1 : Fw l D ad kA mX5_pointsOf 43 [none, none] [.int (if (gI M 37 x1.toNatClampNeg) = (gI M 11 x1.toNatClampNeg) then iabs (gI M 36 x1.toNatClampNeg) else 2)] M Q by
      refine r_icmp_ne (tgt := 42) dX5_pointsOf_27 (by decide) (fun c2 => ?_) (fun c2 => ?_)
      · skip
        refine r_iconst (v := 2) dX5_pointsOf_42 kI_2 ?_
        exact q_weak (lo' := [none, none]) trivial (by have h9 := hJ1; simp only [if_neg c2] at h9; first | exact h9 | (simp only [if_neg c2]; exact h9))
      · skip
        refine r_aload_n dX5_pointsOf_30 rfl ?_
        refine r_getR dX5_pointsOf_31 fs_35_1 fk_X5_9 ?_
        refine r_iload_n dX5_pointsOf_34 rfl ?_
        refine r_iald dX5_pointsOf_35 as_36 g1 ?_
        refine q_mabs dX5_pointsOf_36 mk_X5_73 (by decide) (Nat.le_of_ble_eq_true rfl) ?_
        refine r_goto (tgt := 43) dX5_pointsOf_39 (by decide) ?_
        exact q_weak (lo' := [none, none]) trivial (by have h9 := hJ1; simp only [if_pos c2] at h9; first | exact h9 | (simp only [if_pos c2]; exact h9))
    exact r_iret dX5_pointsOf_43 rfl (by have h9 := h; simp only [v_X5_pointsOf, if_neg c1] at h9; first | exact h9 | (simp only [if_neg c1]; exact h9))
  · skip
    refine r_iconst (v := 3) dX5_pointsOf_10 kI_3 ?_
    exact r_iret dX5_pointsOf_11 rfl (by have h9 := h; simp only [v_X5_pointsOf, if_pos c1] at h9; first | exact h9 | (simp only [if_pos c1]; exact h9))
theorem t_X5_pointsOn_0 {z1 : Int64} 
    (K1 : Fw l D ad kA mX5_pointsOn 5 [some (.ref (ad 35)), some (.long z1), none, some (.int 0), some (.int 0)] [] M Q) : Fw l D ad kA mX5_pointsOn 0 [some (.ref (ad 35)), some (.long z1), none, none, none] [] M Q := by
  refine r_iconst (v := 0) dX5_pointsOn_0 kI_0 ?_
  refine q_istore_n (lo' := [some (.ref (ad 35)), some (.long z1), none, some (.int 0), none]) dX5_pointsOn_1 (by decide) rfl ?_
  refine r_iconst (v := 0) dX5_pointsOn_2 kI_0 ?_
  refine q_istore (lo' := [some (.ref (ad 35)), some (.long z1), none, some (.int 0), some (.int 0)]) dX5_pointsOn_3 (by decide) rfl ?_
  exact K1
theorem t_X5_pointsOn_5 {z1 : Int64} {x3 : Int32} {x4 : Int32} 
    (g1 : (¬ ((gI M 9 4) ≤ x4)) → g_X9_isOn M z1 x4)
    (g2 : (¬ ((gI M 9 4) ≤ x4)) → (¬ ((v_X9_isOn M z1 x4) = 0)) → g_X5_pointsOf M x4)
    (K1 : ((gI M 9 4) ≤ x4) → Fw l D ad kA mX5_pointsOn 48 [some (.ref (ad 35)), some (.long z1), none, some (.int x3), some (.int 0)] [] M Q)
    (K2 : (¬ ((gI M 9 4) ≤ x4)) → Fw l D ad kA mX5_pointsOn 5 [some (.ref (ad 35)), some (.long z1), none, some (.int (if (v_X9_isOn M z1 x4) = 0 then x3 else x3 + (v_X5_pointsOf M x4))), some (.int (x4 + 1))] [] M Q) : Fw l D ad kA mX5_pointsOn 5 [some (.ref (ad 35)), some (.long z1), none, some (.int x3), some (.int x4)] [] M Q := by
  refine r_iload dX5_pointsOn_5 rfl ?_
  refine r_aload_n dX5_pointsOn_7 rfl ?_
  refine r_getR dX5_pointsOn_8 fs_35_0 fk_X5_34 ?_
  refine r_getI dX5_pointsOn_11 fs_9_4 fk_X5_49 ?_
  refine r_icmp_ge (tgt := 45) dX5_pointsOn_14 (by decide) (fun c1 => ?_) (fun c1 => ?_)
  · skip
    refine r_iconst (v := 0) dX5_pointsOn_45 kI_0 ?_
    refine q_istore (lo' := [some (.ref (ad 35)), some (.long z1), none, some (.int x3), some (.int 0)]) dX5_pointsOn_46 (by decide) rfl ?_
    exact (K1 c1)
  · skip
    refine r_aload_n dX5_pointsOn_17 rfl ?_
    refine r_getR dX5_pointsOn_18 fs_35_0 fk_X5_34 ?_
    refine r_lload_n dX5_pointsOn_21 rfl ?_
    refine r_iload dX5_pointsOn_22 rfl ?_
    refine r_callV (x := 9) (As := [.long z1, .int x4]) (rest := []) dX5_pointsOn_24 mk_X5_87 mv_X9_isOn rm_X5_pointsOn_X9_isOn rfl rfl (by decide +kernel) (Nat.le_of_ble_eq_true rfl) (ct_X9_isOn (g1 c1) (⟨_, rfl, ?_⟩))
    suffices hJ1 : Fw l D ad kA mX5_pointsOn 39 [some (.ref (ad 35)), some (.long z1), none, some (.int (if (v_X9_isOn M z1 x4) = 0 then x3 else x3 + (v_X5_pointsOf M x4))), some (.int x4)] [] M Q by
      refine r_if_eq (tgt := 39) dX5_pointsOn_27 (by decide) (fun c2 => ?_) (fun c2 => ?_)
      · skip
        exact q_weak (lo' := [some (.ref (ad 35)), some (.long z1), none, some (.int x3), some (.int x4)]) ⟨rfl, rfl, rfl, rfl, trivial⟩ (by have h9 := hJ1; simp only [if_pos c2] at h9; first | exact h9 | (simp only [if_pos c2]; exact h9))
      · skip
        refine r_iload_n dX5_pointsOn_30 rfl ?_
        refine r_aload_n dX5_pointsOn_31 rfl ?_
        refine r_iload dX5_pointsOn_32 rfl ?_
        refine r_callV (x := 35) (As := [.int x4]) (rest := [.int x3]) dX5_pointsOn_34 mk_X5_91 mv_X5_pointsOf rm_X5_pointsOn_X5_pointsOf rfl rfl (by decide +kernel) (Nat.le_of_ble_eq_true rfl) (ct_X5_pointsOf (g2 c1 c2) (⟨_, rfl, ?_⟩))
        refine r_iadd dX5_pointsOn_37 ?_
        refine q_istore_n (lo' := [some (.ref (ad 35)), some (.long z1), none, some (.int (x3 + (v_X5_pointsOf M x4))), some (.int x4)]) dX5_pointsOn_38 (by decide) rfl ?_
        exact q_weak (lo' := [some (.ref (ad 35)), some (.long z1), none, some (.int (x3 + (v_X5_pointsOf M x4))), some (.int x4)]) ⟨rfl, rfl, rfl, rfl, trivial⟩ (by have h9 := hJ1; simp only [if_neg c2] at h9; first | exact h9 | (simp only [if_neg c2]; exact h9))
    refine q_iinc (v := x4 + 1) (lo' := [some (.ref (ad 35)), some (.long z1), none, some (.int (if (v_X9_isOn M z1 x4) = 0 then x3 else x3 + (v_X5_pointsOf M x4))), some (.int (x4 + 1))]) dX5_pointsOn_39 rfl (congrArg (fun q => x4 + q) kI_1) (by decide) rfl ?_
    refine r_goto (tgt := 5) dX5_pointsOn_42 (by decide) ?_
    exact (K2 c1)
theorem t_X5_pointsOn_48 {z1 : Int64} {x3 : Int32} {x4 : Int32} 
    (g1 : (¬ (48 ≤ x4)) → (¬ ((lg_cmp ((lushr z1 x4) &&& 1) 0) = 0)) → vp_in x4 48)
    (K1 : (48 ≤ x4) → Q (.returned (some (.int x3))) M)
    (K2 : (¬ (48 ≤ x4)) → Fw l D ad kA mX5_pointsOn 48 [some (.ref (ad 35)), some (.long z1), none, some (.int (if (lg_cmp ((lushr z1 x4) &&& 1) 0) = 0 then x3 else x3 + ((gI M 38 x4.toNatClampNeg) * 3))), some (.int (x4 + 1))] [] M Q) : Fw l D ad kA mX5_pointsOn 48 [some (.ref (ad 35)), some (.long z1), none, some (.int x3), some (.int x4)] [] M Q := by
  refine r_iload dX5_pointsOn_48 rfl ?_
  refine r_bipush (v := 48) dX5_pointsOn_50 kB_48 ?_
  refine r_icmp_ge (tgt := 84) dX5_pointsOn_52 (by decide) (fun c1 => ?_) (fun c1 => ?_)
  · skip
    refine r_iload_n dX5_pointsOn_84 rfl ?_
    exact r_iret dX5_pointsOn_85 rfl (K1 c1)
  · skip
    refine r_lload_n dX5_pointsOn_55 rfl ?_
    refine r_iload dX5_pointsOn_56 rfl ?_
    refine q_lushr dX5_pointsOn_58 ?_
    refine r_lconst (v := 1) dX5_pointsOn_59 kL_1 ?_
    refine r_land dX5_pointsOn_60 ?_
    refine r_lconst (v := 0) dX5_pointsOn_61 kL_0 ?_
    refine r_lcmp dX5_pointsOn_62 ?_
    suffices hJ1 : Fw l D ad kA mX5_pointsOn 78 [some (.ref (ad 35)), some (.long z1), none, some (.int (if (lg_cmp ((lushr z1 x4) &&& 1) 0) = 0 then x3 else x3 + ((gI M 38 x4.toNatClampNeg) * 3))), some (.int x4)] [] M Q by
      refine r_if_eq (tgt := 78) dX5_pointsOn_63 (by decide) (fun c2 => ?_) (fun c2 => ?_)
      · skip
        exact q_weak (lo' := [some (.ref (ad 35)), some (.long z1), none, some (.int x3), some (.int x4)]) ⟨rfl, rfl, rfl, rfl, trivial⟩ (by have h9 := hJ1; simp only [if_pos c2] at h9; first | exact h9 | (simp only [if_pos c2]; exact h9))
      · skip
        refine r_iload_n dX5_pointsOn_66 rfl ?_
        refine r_aload_n dX5_pointsOn_67 rfl ?_
        refine r_getR dX5_pointsOn_68 fs_35_5 fk_X5_18 ?_
        refine r_iload dX5_pointsOn_71 rfl ?_
        refine r_iald dX5_pointsOn_73 as_38 (g1 c1 c2) ?_
        refine r_iconst (v := 3) dX5_pointsOn_74 kI_3 ?_
        refine r_imul dX5_pointsOn_75 ?_
        refine r_iadd dX5_pointsOn_76 ?_
        refine q_istore_n (lo' := [some (.ref (ad 35)), some (.long z1), none, some (.int (x3 + ((gI M 38 x4.toNatClampNeg) * 3))), some (.int x4)]) dX5_pointsOn_77 (by decide) rfl ?_
        exact q_weak (lo' := [some (.ref (ad 35)), some (.long z1), none, some (.int (x3 + ((gI M 38 x4.toNatClampNeg) * 3))), some (.int x4)]) ⟨rfl, rfl, rfl, rfl, trivial⟩ (by have h9 := hJ1; simp only [if_neg c2] at h9; first | exact h9 | (simp only [if_neg c2]; exact h9))
    refine q_iinc (v := x4 + 1) (lo' := [some (.ref (ad 35)), some (.long z1), none, some (.int (if (lg_cmp ((lushr z1 x4) &&& 1) 0) = 0 then x3 else x3 + ((gI M 38 x4.toNatClampNeg) * 3))), some (.int (x4 + 1))]) dX5_pointsOn_78 rfl (congrArg (fun q => x4 + q) kI_1) (by decide) rfl ?_
    refine r_goto (tgt := 48) dX5_pointsOn_81 (by decide) ?_
    exact (K2 c1)
theorem en_X5_pointsOn {z1 : Int64} (K : Fw l D ad kA mX5_pointsOn 0 [some (.ref (ad 35)), some (.long z1), none, none, none] [] M Q) : Cal l D ad kA mX5_pointsOn [.ref (ad 35), .long z1] M Q := Cal.of (by decide) rfl rfl (Nat.le_of_ble_eq_true rfl) K
end W_listening
