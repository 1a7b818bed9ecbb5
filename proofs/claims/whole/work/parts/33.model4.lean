/-! the model: help, clashes: decode rows, links, walks from cut to cut (printed by wip/gen) -/
theorem dX13_takesWith_0 : decode cX13_takesWith 0 = .ok (.aload_n 0, 1) := by decide +kernel
theorem dX13_takesWith_1 : decode cX13_takesWith 1 = .ok (.iconst 0, 1) := by decide +kernel
theorem dX13_takesWith_2 : decode cX13_takesWith 2 = .ok (.putfield 293, 3) := by decide +kernel
theorem dX13_takesWith_5 : decode cX13_takesWith 5 = .ok (.iconst 0, 1) := by decide +kernel
theorem dX13_takesWith_6 : decode cX13_takesWith 6 = .ok (.istore 4, 2) := by decide +kernel
theorem dX13_takesWith_8 : decode cX13_takesWith 8 = .ok (.iload 4, 2) := by decide +kernel
theorem dX13_takesWith_10 : decode cX13_takesWith 10 = .ok (.aload_n 0, 1) := by decide +kernel
theorem dX13_takesWith_11 : decode cX13_takesWith 11 = .ok (.getfield 233, 3) := by decide +kernel
theorem dX13_takesWith_14 : decode cX13_takesWith 14 = .ok (.if_icmp .ge 61, 3) := by decide +kernel
theorem dX13_takesWith_17 : decode cX13_takesWith 17 = .ok (.iload 4, 2) := by decide +kernel
theorem dX13_takesWith_19 : decode cX13_takesWith 19 = .ok (.iload_n 3, 1) := by decide +kernel
theorem dX13_takesWith_20 : decode cX13_takesWith 20 = .ok (.if_icmp .eq 28, 3) := by decide +kernel
theorem dX13_takesWith_23 : decode cX13_takesWith 23 = .ok (.aload_n 0, 1) := by decide +kernel
theorem dX13_takesWith_24 : decode cX13_takesWith 24 = .ok (.getfield 153, 3) := by decide +kernel
theorem dX13_takesWith_27 : decode cX13_takesWith 27 = .ok (.aload_n 0, 1) := by decide +kernel
theorem dX13_takesWith_28 : decode cX13_takesWith 28 = .ok (.getfield 128, 3) := by decide +kernel
theorem dX13_takesWith_31 : decode cX13_takesWith 31 = .ok (.iload 4, 2) := by decide +kernel
theorem dX13_takesWith_33 : decode cX13_takesWith 33 = .ok (.iaload, 1) := by decide +kernel
theorem dX13_takesWith_34 : decode cX13_takesWith 34 = .ok (.iaload, 1) := by decide +kernel
theorem dX13_takesWith_35 : decode cX13_takesWith 35 = .ok (.iload_n 1, 1) := by decide +kernel
theorem dX13_takesWith_36 : decode cX13_takesWith 36 = .ok (.if_icmp .ne 33, 3) := by decide +kernel
theorem dX13_takesWith_39 : decode cX13_takesWith 39 = .ok (.iload 4, 2) := by decide +kernel
theorem dX13_takesWith_41 : decode cX13_takesWith 41 = .ok (.iload_n 2, 1) := by decide +kernel
theorem dX13_takesWith_42 : decode cX13_takesWith 42 = .ok (.if_icmp .ne 6, 3) := by decide +kernel
theorem dX13_takesWith_45 : decode cX13_takesWith 45 = .ok (.goto 24, 3) := by decide +kernel
theorem dX13_takesWith_48 : decode cX13_takesWith 48 = .ok (.aload_n 0, 1) := by decide +kernel
theorem dX13_takesWith_49 : decode cX13_takesWith 49 = .ok (.getfield 156, 3) := by decide +kernel
theorem dX13_takesWith_52 : decode cX13_takesWith 52 = .ok (.aload_n 0, 1) := by decide +kernel
theorem dX13_takesWith_53 : decode cX13_takesWith 53 = .ok (.getfield 293, 3) := by decide +kernel
theorem dX13_takesWith_56 : decode cX13_takesWith 56 = .ok (.iload 4, 2) := by decide +kernel
theorem dX13_takesWith_58 : decode cX13_takesWith 58 = .ok (.iastore, 1) := by decide +kernel
theorem dX13_takesWith_59 : decode cX13_takesWith 59 = .ok (.aload_n 0, 1) := by decide +kernel
theorem dX13_takesWith_60 : decode cX13_takesWith 60 = .ok (.dup, 1) := by decide +kernel
theorem dX13_takesWith_61 : decode cX13_takesWith 61 = .ok (.getfield 293, 3) := by decide +kernel
theorem dX13_takesWith_64 : decode cX13_takesWith 64 = .ok (.iconst 1, 1) := by decide +kernel
theorem dX13_takesWith_65 : decode cX13_takesWith 65 = .ok (.iadd, 1) := by decide +kernel
theorem dX13_takesWith_66 : decode cX13_takesWith 66 = .ok (.putfield 293, 3) := by decide +kernel
theorem dX13_takesWith_69 : decode cX13_takesWith 69 = .ok (.iinc 4 1, 3) := by decide +kernel
theorem dX13_takesWith_72 : decode cX13_takesWith 72 = .ok (.goto (-64), 3) := by decide +kernel
theorem dX13_takesWith_75 : decode cX13_takesWith 75 = .ok (.aload_n 0, 1) := by decide +kernel
theorem dX13_takesWith_76 : decode cX13_takesWith 76 = .ok (.invokevirtual 307, 3) := by decide +kernel
theorem dX13_takesWith_79 : decode cX13_takesWith 79 = .ok (.ireturn, 1) := by decide +kernel
theorem dX13_help_0 : decode cX13_help 0 = .ok (.aload_n 0, 1) := by decide +kernel
theorem dX13_help_1 : decode cX13_help 1 = .ok (.iload_n 1, 1) := by decide +kernel
theorem dX13_help_2 : decode cX13_help 2 = .ok (.invokevirtual 279, 3) := by decide +kernel
theorem dX13_help_5 : decode cX13_help 5 = .ok (.ifCond .ne 6, 3) := by decide +kernel
theorem dX13_help_8 : decode cX13_help 8 = .ok (.bipush (-2), 2) := by decide +kernel
theorem dX13_help_10 : decode cX13_help 10 = .ok (.ireturn, 1) := by decide +kernel
theorem dX13_help_11 : decode cX13_help 11 = .ok (.aload_n 0, 1) := by decide +kernel
theorem dX13_help_12 : decode cX13_help 12 = .ok (.getfield 236, 3) := by decide +kernel
theorem dX13_help_15 : decode cX13_help 15 = .ok (.ifCond .ne 6, 3) := by decide +kernel
theorem dX13_help_18 : decode cX13_help 18 = .ok (.bipush (-4), 2) := by decide +kernel
theorem dX13_help_20 : decode cX13_help 20 = .ok (.ireturn, 1) := by decide +kernel
theorem dX13_help_21 : decode cX13_help 21 = .ok (.ldc_w 282, 3) := by decide +kernel
theorem dX13_help_24 : decode cX13_help 24 = .ok (.istore_n 2, 1) := by decide +kernel
theorem dX13_help_25 : decode cX13_help 25 = .ok (.iconst 0, 1) := by decide +kernel
theorem dX13_help_26 : decode cX13_help 26 = .ok (.istore_n 3, 1) := by decide +kernel
theorem dX13_help_27 : decode cX13_help 27 = .ok (.iload_n 3, 1) := by decide +kernel
theorem dX13_help_28 : decode cX13_help 28 = .ok (.aload_n 0, 1) := by decide +kernel
theorem dX13_help_29 : decode cX13_help 29 = .ok (.getfield 233, 3) := by decide +kernel
theorem dX13_help_32 : decode cX13_help 32 = .ok (.if_icmp .ge 119, 3) := by decide +kernel
theorem dX13_help_35 : decode cX13_help 35 = .ok (.aload_n 0, 1) := by decide +kernel
theorem dX13_help_36 : decode cX13_help 36 = .ok (.getfield 153, 3) := by decide +kernel
theorem dX13_help_39 : decode cX13_help 39 = .ok (.aload_n 0, 1) := by decide +kernel
theorem dX13_help_40 : decode cX13_help 40 = .ok (.getfield 128, 3) := by decide +kernel
theorem dX13_help_43 : decode cX13_help 43 = .ok (.iload_n 3, 1) := by decide +kernel
theorem dX13_help_44 : decode cX13_help 44 = .ok (.iaload, 1) := by decide +kernel
theorem dX13_help_45 : decode cX13_help 45 = .ok (.iaload, 1) := by decide +kernel
theorem dX13_help_46 : decode cX13_help 46 = .ok (.iload_n 1, 1) := by decide +kernel
theorem dX13_help_47 : decode cX13_help 47 = .ok (.if_icmp .eq 6, 3) := by decide +kernel
theorem dX13_help_50 : decode cX13_help 50 = .ok (.goto 95, 3) := by decide +kernel
theorem dX13_help_53 : decode cX13_help 53 = .ok (.aload_n 0, 1) := by decide +kernel
theorem dX13_help_54 : decode cX13_help 54 = .ok (.iload_n 1, 1) := by decide +kernel
theorem dX13_help_55 : decode cX13_help 55 = .ok (.iload_n 3, 1) := by decide +kernel
theorem dX13_help_56 : decode cX13_help 56 = .ok (.iconst (-1), 1) := by decide +kernel
theorem dX13_help_57 : decode cX13_help 57 = .ok (.invokevirtual 362, 3) := by decide +kernel
theorem dX13_help_60 : decode cX13_help 60 = .ok (.istore 4, 2) := by decide +kernel
theorem dX13_help_62 : decode cX13_help 62 = .ok (.iload_n 1, 1) := by decide +kernel
theorem dX13_help_63 : decode cX13_help 63 = .ok (.iconst 1, 1) := by decide +kernel
theorem dX13_help_64 : decode cX13_help 64 = .ok (.isub, 1) := by decide +kernel
theorem dX13_help_65 : decode cX13_help 65 = .ok (.istore 5, 2) := by decide +kernel
theorem dX13_help_67 : decode cX13_help 67 = .ok (.iload 5, 2) := by decide +kernel
theorem dX13_help_69 : decode cX13_help 69 = .ok (.iload_n 1, 1) := by decide +kernel
theorem dX13_help_70 : decode cX13_help 70 = .ok (.iconst 1, 1) := by decide +kernel
theorem dX13_help_71 : decode cX13_help 71 = .ok (.iadd, 1) := by decide +kernel
theorem dX13_help_72 : decode cX13_help 72 = .ok (.if_icmp .gt 73, 3) := by decide +kernel
theorem dX13_help_75 : decode cX13_help 75 = .ok (.iload 4, 2) := by decide +kernel
theorem dX13_help_77 : decode cX13_help 77 = .ok (.iload_n 2, 1) := by decide +kernel
theorem dX13_help_78 : decode cX13_help 78 = .ok (.if_icmp .ge 67, 3) := by decide +kernel
theorem dX13_help_81 : decode cX13_help 81 = .ok (.aload_n 0, 1) := by decide +kernel
theorem dX13_help_82 : decode cX13_help 82 = .ok (.iload 5, 2) := by decide +kernel
theorem dX13_help_84 : decode cX13_help 84 = .ok (.invokevirtual 279, 3) := by decide +kernel
theorem dX13_help_87 : decode cX13_help 87 = .ok (.ifCond .eq 52, 3) := by decide +kernel
theorem dX13_help_90 : decode cX13_help 90 = .ok (.aload_n 0, 1) := by decide +kernel
theorem dX13_help_91 : decode cX13_help 91 = .ok (.getfield 150, 3) := by decide +kernel
theorem dX13_help_94 : decode cX13_help 94 = .ok (.iload 5, 2) := by decide +kernel
theorem dX13_help_96 : decode cX13_help 96 = .ok (.baload, 1) := by decide +kernel
theorem dX13_help_97 : decode cX13_help 97 = .ok (.ifCond .eq 6, 3) := by decide +kernel
theorem dX13_help_100 : decode cX13_help 100 = .ok (.goto 39, 3) := by decide +kernel
theorem dX13_help_103 : decode cX13_help 103 = .ok (.iload 4, 2) := by decide +kernel
theorem dX13_help_105 : decode cX13_help 105 = .ok (.aload_n 0, 1) := by decide +kernel
theorem dX13_help_106 : decode cX13_help 106 = .ok (.iload 5, 2) := by decide +kernel
theorem dX13_help_108 : decode cX13_help 108 = .ok (.iconst (-1), 1) := by decide +kernel
theorem dX13_help_109 : decode cX13_help 109 = .ok (.iload_n 3, 1) := by decide +kernel
theorem dX13_help_110 : decode cX13_help 110 = .ok (.invokevirtual 362, 3) := by decide +kernel
theorem dX13_help_113 : decode cX13_help 113 = .ok (.iadd, 1) := by decide +kernel
theorem dX13_help_114 : decode cX13_help 114 = .ok (.istore 6, 2) := by decide +kernel
theorem dX13_help_116 : decode cX13_help 116 = .ok (.iload 6, 2) := by decide +kernel
theorem dX13_help_118 : decode cX13_help 118 = .ok (.iload_n 2, 1) := by decide +kernel
theorem dX13_help_119 : decode cX13_help 119 = .ok (.if_icmp .lt 6, 3) := by decide +kernel
theorem dX13_help_122 : decode cX13_help 122 = .ok (.goto 17, 3) := by decide +kernel
theorem dX13_help_125 : decode cX13_help 125 = .ok (.iload 6, 2) := by decide +kernel
theorem dX13_help_127 : decode cX13_help 127 = .ok (.istore_n 2, 1) := by decide +kernel
theorem dX13_help_128 : decode cX13_help 128 = .ok (.aload_n 0, 1) := by decide +kernel
theorem dX13_help_129 : decode cX13_help 129 = .ok (.iload_n 3, 1) := by decide +kernel
theorem dX13_help_130 : decode cX13_help 130 = .ok (.putfield 365, 3) := by decide +kernel
theorem dX13_help_133 : decode cX13_help 133 = .ok (.aload_n 0, 1) := by decide +kernel
theorem dX13_help_134 : decode cX13_help 134 = .ok (.iload 5, 2) := by decide +kernel
theorem dX13_help_136 : decode cX13_help 136 = .ok (.putfield 368, 3) := by decide +kernel
theorem dX13_help_139 : decode cX13_help 139 = .ok (.iinc 5 2, 3) := by decide +kernel
theorem dX13_help_142 : decode cX13_help 142 = .ok (.goto (-75), 3) := by decide +kernel
theorem dX13_help_145 : decode cX13_help 145 = .ok (.iinc 3 1, 3) := by decide +kernel
theorem dX13_help_148 : decode cX13_help 148 = .ok (.goto (-121), 3) := by decide +kernel
theorem dX13_help_151 : decode cX13_help 151 = .ok (.iload_n 2, 1) := by decide +kernel
theorem dX13_help_152 : decode cX13_help 152 = .ok (.ldc_w 282, 3) := by decide +kernel
theorem dX13_help_155 : decode cX13_help 155 = .ok (.if_icmp .lt 5, 3) := by decide +kernel
theorem dX13_help_158 : decode cX13_help 158 = .ok (.iconst (-1), 1) := by decide +kernel
theorem dX13_help_159 : decode cX13_help 159 = .ok (.ireturn, 1) := by decide +kernel
theorem dX13_help_160 : decode cX13_help 160 = .ok (.aload_n 0, 1) := by decide +kernel
theorem dX13_help_161 : decode cX13_help 161 = .ok (.iconst 1, 1) := by decide +kernel
theorem dX13_help_162 : decode cX13_help 162 = .ok (.putfield 243, 3) := by decide +kernel
theorem dX13_help_165 : decode cX13_help 165 = .ok (.iload_n 2, 1) := by decide +kernel
theorem dX13_help_166 : decode cX13_help 166 = .ok (.ireturn, 1) := by decide +kernel
theorem dX13_helped_0 : decode cX13_helped 0 = .ok (.aload_n 0, 1) := by decide +kernel
theorem dX13_helped_1 : decode cX13_helped 1 = .ok (.getfield 243, 3) := by decide +kernel
theorem dX13_helped_4 : decode cX13_helped 4 = .ok (.ifCond .ne 7, 3) := by decide +kernel
theorem dX13_helped_7 : decode cX13_helped 7 = .ok (.iconst (-1), 1) := by decide +kernel
theorem dX13_helped_8 : decode cX13_helped 8 = .ok (.goto 27, 3) := by decide +kernel
theorem dX13_helped_11 : decode cX13_helped 11 = .ok (.iload_n 1, 1) := by decide +kernel
theorem dX13_helped_12 : decode cX13_helped 12 = .ok (.ifCond .ne 10, 3) := by decide +kernel
theorem dX13_helped_15 : decode cX13_helped 15 = .ok (.aload_n 0, 1) := by decide +kernel
theorem dX13_helped_16 : decode cX13_helped 16 = .ok (.getfield 365, 3) := by decide +kernel
theorem dX13_helped_19 : decode cX13_helped 19 = .ok (.goto 16, 3) := by decide +kernel
theorem dX13_helped_22 : decode cX13_helped 22 = .ok (.iload_n 1, 1) := by decide +kernel
theorem dX13_helped_23 : decode cX13_helped 23 = .ok (.iconst 1, 1) := by decide +kernel
theorem dX13_helped_24 : decode cX13_helped 24 = .ok (.if_icmp .ne 10, 3) := by decide +kernel
theorem dX13_helped_27 : decode cX13_helped 27 = .ok (.aload_n 0, 1) := by decide +kernel
theorem dX13_helped_28 : decode cX13_helped 28 = .ok (.getfield 368, 3) := by decide +kernel
theorem dX13_helped_31 : decode cX13_helped 31 = .ok (.goto 4, 3) := by decide +kernel
theorem dX13_helped_34 : decode cX13_helped 34 = .ok (.iconst (-1), 1) := by decide +kernel
theorem dX13_helped_35 : decode cX13_helped 35 = .ok (.ireturn, 1) := by decide +kernel
theorem dX13_isClash_0 : decode cX13_isClash 0 = .ok (.aload_n 0, 1) := by decide +kernel
theorem dX13_isClash_1 : decode cX13_isClash 1 = .ok (.getfield 128, 3) := by decide +kernel
theorem dX13_isClash_4 : decode cX13_isClash 4 = .ok (.iload_n 1, 1) := by decide +kernel
theorem dX13_isClash_5 : decode cX13_isClash 5 = .ok (.iaload, 1) := by decide +kernel
theorem dX13_isClash_6 : decode cX13_isClash 6 = .ok (.aload_n 0, 1) := by decide +kernel
theorem dX13_isClash_7 : decode cX13_isClash 7 = .ok (.getfield 128, 3) := by decide +kernel
theorem dX13_isClash_10 : decode cX13_isClash 10 = .ok (.iload_n 2, 1) := by decide +kernel
theorem dX13_isClash_11 : decode cX13_isClash 11 = .ok (.iaload, 1) := by decide +kernel
theorem dX13_isClash_12 : decode cX13_isClash 12 = .ok (.isub, 1) := by decide +kernel
theorem dX13_isClash_13 : decode cX13_isClash 13 = .ok (.invokestatic 371, 3) := by decide +kernel
theorem dX13_isClash_16 : decode cX13_isClash 16 = .ok (.iconst 1, 1) := by decide +kernel
theorem dX13_isClash_17 : decode cX13_isClash 17 = .ok (.if_icmp .ne 21, 3) := by decide +kernel
theorem dX13_isClash_20 : decode cX13_isClash 20 = .ok (.aload_n 0, 1) := by decide +kernel
theorem dX13_isClash_21 : decode cX13_isClash 21 = .ok (.getfield 125, 3) := by decide +kernel
theorem dX13_isClash_24 : decode cX13_isClash 24 = .ok (.iload_n 2, 1) := by decide +kernel
theorem dX13_isClash_25 : decode cX13_isClash 25 = .ok (.iaload, 1) := by decide +kernel
theorem dX13_isClash_26 : decode cX13_isClash 26 = .ok (.aload_n 0, 1) := by decide +kernel
theorem dX13_isClash_27 : decode cX13_isClash 27 = .ok (.iload_n 1, 1) := by decide +kernel
theorem dX13_isClash_28 : decode cX13_isClash 28 = .ok (.invokevirtual 274, 3) := by decide +kernel
theorem dX13_isClash_31 : decode cX13_isClash 31 = .ok (.if_icmp .ge 7, 3) := by decide +kernel
theorem dX13_isClash_34 : decode cX13_isClash 34 = .ok (.iconst 1, 1) := by decide +kernel
theorem dX13_isClash_35 : decode cX13_isClash 35 = .ok (.goto 4, 3) := by decide +kernel
theorem dX13_isClash_38 : decode cX13_isClash 38 = .ok (.iconst 0, 1) := by decide +kernel
theorem dX13_isClash_39 : decode cX13_isClash 39 = .ok (.ireturn, 1) := by decide +kernel
theorem dX13_clashes_0 : decode cX13_clashes 0 = .ok (.iconst 0, 1) := by decide +kernel
theorem dX13_clashes_1 : decode cX13_clashes 1 = .ok (.istore_n 1, 1) := by decide +kernel
theorem dX13_clashes_2 : decode cX13_clashes 2 = .ok (.iconst 0, 1) := by decide +kernel
theorem dX13_clashes_3 : decode cX13_clashes 3 = .ok (.istore_n 2, 1) := by decide +kernel
theorem dX13_clashes_4 : decode cX13_clashes 4 = .ok (.iload_n 2, 1) := by decide +kernel
theorem dX13_clashes_5 : decode cX13_clashes 5 = .ok (.aload_n 0, 1) := by decide +kernel
theorem dX13_clashes_6 : decode cX13_clashes 6 = .ok (.getfield 233, 3) := by decide +kernel
theorem dX13_clashes_9 : decode cX13_clashes 9 = .ok (.if_icmp .ge 44, 3) := by decide +kernel
theorem dX13_clashes_12 : decode cX13_clashes 12 = .ok (.iload_n 2, 1) := by decide +kernel
theorem dX13_clashes_13 : decode cX13_clashes 13 = .ok (.iconst 1, 1) := by decide +kernel
theorem dX13_clashes_14 : decode cX13_clashes 14 = .ok (.iadd, 1) := by decide +kernel
theorem dX13_clashes_15 : decode cX13_clashes 15 = .ok (.istore_n 3, 1) := by decide +kernel
theorem dX13_clashes_16 : decode cX13_clashes 16 = .ok (.iload_n 3, 1) := by decide +kernel
theorem dX13_clashes_17 : decode cX13_clashes 17 = .ok (.aload_n 0, 1) := by decide +kernel
theorem dX13_clashes_18 : decode cX13_clashes 18 = .ok (.getfield 233, 3) := by decide +kernel
theorem dX13_clashes_21 : decode cX13_clashes 21 = .ok (.if_icmp .ge 26, 3) := by decide +kernel
theorem dX13_clashes_24 : decode cX13_clashes 24 = .ok (.iload_n 1, 1) := by decide +kernel
theorem dX13_clashes_25 : decode cX13_clashes 25 = .ok (.aload_n 0, 1) := by decide +kernel
theorem dX13_clashes_26 : decode cX13_clashes 26 = .ok (.iload_n 2, 1) := by decide +kernel
theorem dX13_clashes_27 : decode cX13_clashes 27 = .ok (.iload_n 3, 1) := by decide +kernel
theorem dX13_clashes_28 : decode cX13_clashes 28 = .ok (.invokevirtual 374, 3) := by decide +kernel
theorem dX13_clashes_31 : decode cX13_clashes 31 = .ok (.ifCond .eq 7, 3) := by decide +kernel
theorem dX13_clashes_34 : decode cX13_clashes 34 = .ok (.iconst 1, 1) := by decide +kernel
theorem dX13_clashes_35 : decode cX13_clashes 35 = .ok (.goto 4, 3) := by decide +kernel
theorem dX13_clashes_38 : decode cX13_clashes 38 = .ok (.iconst 0, 1) := by decide +kernel
theorem dX13_clashes_39 : decode cX13_clashes 39 = .ok (.iadd, 1) := by decide +kernel
theorem dX13_clashes_40 : decode cX13_clashes 40 = .ok (.istore_n 1, 1) := by decide +kernel
theorem dX13_clashes_41 : decode cX13_clashes 41 = .ok (.iinc 3 1, 3) := by decide +kernel
theorem dX13_clashes_44 : decode cX13_clashes 44 = .ok (.goto (-28), 3) := by decide +kernel
theorem dX13_clashes_47 : decode cX13_clashes 47 = .ok (.iinc 2 1, 3) := by decide +kernel
theorem dX13_clashes_50 : decode cX13_clashes 50 = .ok (.goto (-46), 3) := by decide +kernel
theorem dX13_clashes_53 : decode cX13_clashes 53 = .ok (.iload_n 1, 1) := by decide +kernel
theorem dX13_clashes_54 : decode cX13_clashes 54 = .ok (.ireturn, 1) := by decide +kernel
theorem dX13_clash_0 : decode cX13_clash 0 = .ok (.iconst 0, 1) := by decide +kernel
theorem dX13_clash_1 : decode cX13_clash 1 = .ok (.istore_n 3, 1) := by decide +kernel
theorem dX13_clash_2 : decode cX13_clash 2 = .ok (.iconst 0, 1) := by decide +kernel
theorem dX13_clash_3 : decode cX13_clash 3 = .ok (.istore 4, 2) := by decide +kernel
theorem dX13_clash_5 : decode cX13_clash 5 = .ok (.iload 4, 2) := by decide +kernel
theorem dX13_clash_7 : decode cX13_clash 7 = .ok (.aload_n 0, 1) := by decide +kernel
theorem dX13_clash_8 : decode cX13_clash 8 = .ok (.getfield 233, 3) := by decide +kernel
theorem dX13_clash_11 : decode cX13_clash 11 = .ok (.if_icmp .ge 104, 3) := by decide +kernel
theorem dX13_clash_14 : decode cX13_clash 14 = .ok (.iload 4, 2) := by decide +kernel
theorem dX13_clash_16 : decode cX13_clash 16 = .ok (.iconst 1, 1) := by decide +kernel
theorem dX13_clash_17 : decode cX13_clash 17 = .ok (.iadd, 1) := by decide +kernel
theorem dX13_clash_18 : decode cX13_clash 18 = .ok (.istore 5, 2) := by decide +kernel
theorem dX13_clash_20 : decode cX13_clash 20 = .ok (.iload 5, 2) := by decide +kernel
theorem dX13_clash_22 : decode cX13_clash 22 = .ok (.aload_n 0, 1) := by decide +kernel
theorem dX13_clash_23 : decode cX13_clash 23 = .ok (.getfield 233, 3) := by decide +kernel
theorem dX13_clash_26 : decode cX13_clash 26 = .ok (.if_icmp .ge 83, 3) := by decide +kernel
theorem dX13_clash_29 : decode cX13_clash 29 = .ok (.aload_n 0, 1) := by decide +kernel
theorem dX13_clash_30 : decode cX13_clash 30 = .ok (.iload 4, 2) := by decide +kernel
theorem dX13_clash_32 : decode cX13_clash 32 = .ok (.iload 5, 2) := by decide +kernel
theorem dX13_clash_34 : decode cX13_clash 34 = .ok (.invokevirtual 374, 3) := by decide +kernel
theorem dX13_clash_37 : decode cX13_clash 37 = .ok (.ifCond .ne 6, 3) := by decide +kernel
theorem dX13_clash_40 : decode cX13_clash 40 = .ok (.goto 63, 3) := by decide +kernel
theorem dX13_clash_43 : decode cX13_clash 43 = .ok (.iload_n 3, 1) := by decide +kernel
theorem dX13_clash_44 : decode cX13_clash 44 = .ok (.iload_n 1, 1) := by decide +kernel
theorem dX13_clash_45 : decode cX13_clash 45 = .ok (.if_icmp .ne 55, 3) := by decide +kernel
theorem dX13_clash_48 : decode cX13_clash 48 = .ok (.iload_n 2, 1) := by decide +kernel
theorem dX13_clash_49 : decode cX13_clash 49 = .ok (.ifCond .ne 8, 3) := by decide +kernel
theorem dX13_clash_52 : decode cX13_clash 52 = .ok (.iload 4, 2) := by decide +kernel
theorem dX13_clash_54 : decode cX13_clash 54 = .ok (.goto 45, 3) := by decide +kernel
theorem dX13_clash_57 : decode cX13_clash 57 = .ok (.iload_n 2, 1) := by decide +kernel
theorem dX13_clash_58 : decode cX13_clash 58 = .ok (.iconst 1, 1) := by decide +kernel
theorem dX13_clash_59 : decode cX13_clash 59 = .ok (.if_icmp .ne 8, 3) := by decide +kernel
theorem dX13_clash_62 : decode cX13_clash 62 = .ok (.iload 5, 2) := by decide +kernel
theorem dX13_clash_64 : decode cX13_clash 64 = .ok (.goto 35, 3) := by decide +kernel
theorem dX13_clash_67 : decode cX13_clash 67 = .ok (.iload_n 2, 1) := by decide +kernel
theorem dX13_clash_68 : decode cX13_clash 68 = .ok (.iconst 2, 1) := by decide +kernel
theorem dX13_clash_69 : decode cX13_clash 69 = .ok (.if_icmp .ne 29, 3) := by decide +kernel
theorem dX13_clash_72 : decode cX13_clash 72 = .ok (.aload_n 0, 1) := by decide +kernel
theorem dX13_clash_73 : decode cX13_clash 73 = .ok (.iload 4, 2) := by decide +kernel
theorem dX13_clash_75 : decode cX13_clash 75 = .ok (.invokevirtual 274, 3) := by decide +kernel
theorem dX13_clash_78 : decode cX13_clash 78 = .ok (.aload_n 0, 1) := by decide +kernel
theorem dX13_clash_79 : decode cX13_clash 79 = .ok (.iload 5, 2) := by decide +kernel
theorem dX13_clash_81 : decode cX13_clash 81 = .ok (.invokevirtual 274, 3) := by decide +kernel
theorem dX13_clash_84 : decode cX13_clash 84 = .ok (.invokestatic 266, 3) := by decide +kernel
theorem dX13_clash_87 : decode cX13_clash 87 = .ok (.aload_n 0, 1) := by decide +kernel
theorem dX13_clash_88 : decode cX13_clash 88 = .ok (.getfield 125, 3) := by decide +kernel
theorem dX13_clash_91 : decode cX13_clash 91 = .ok (.iload 5, 2) := by decide +kernel
theorem dX13_clash_93 : decode cX13_clash 93 = .ok (.iaload, 1) := by decide +kernel
theorem dX13_clash_94 : decode cX13_clash 94 = .ok (.isub, 1) := by decide +kernel
theorem dX13_clash_95 : decode cX13_clash 95 = .ok (.goto 4, 3) := by decide +kernel
theorem dX13_clash_98 : decode cX13_clash 98 = .ok (.iconst (-1), 1) := by decide +kernel
theorem dX13_clash_99 : decode cX13_clash 99 = .ok (.ireturn, 1) := by decide +kernel
theorem dX13_clash_100 : decode cX13_clash 100 = .ok (.iinc 3 1, 3) := by decide +kernel
theorem dX13_clash_103 : decode cX13_clash 103 = .ok (.iinc 5 1, 3) := by decide +kernel
theorem dX13_clash_106 : decode cX13_clash 106 = .ok (.goto (-86), 3) := by decide +kernel
theorem dX13_clash_109 : decode cX13_clash 109 = .ok (.iinc 4 1, 3) := by decide +kernel
theorem dX13_clash_112 : decode cX13_clash 112 = .ok (.goto (-107), 3) := by decide +kernel
theorem dX13_clash_115 : decode cX13_clash 115 = .ok (.iconst (-1), 1) := by decide +kernel
theorem dX13_clash_116 : decode cX13_clash 116 = .ok (.ireturn, 1) := by decide +kernel
theorem dX13_damp_0 : decode cX13_damp 0 = .ok (.aload_n 0, 1) := by decide +kernel
theorem dX13_damp_1 : decode cX13_damp 1 = .ok (.iconst 0, 1) := by decide +kernel
theorem dX13_damp_2 : decode cX13_damp 2 = .ok (.putfield 240, 3) := by decide +kernel
theorem dX13_damp_5 : decode cX13_damp 5 = .ok (.iconst 0, 1) := by decide +kernel
theorem dX13_damp_6 : decode cX13_damp 6 = .ok (.istore_n 1, 1) := by decide +kernel
theorem dX13_damp_7 : decode cX13_damp 7 = .ok (.iload_n 1, 1) := by decide +kernel
theorem dX13_damp_8 : decode cX13_damp 8 = .ok (.aload_n 0, 1) := by decide +kernel
theorem dX13_damp_9 : decode cX13_damp 9 = .ok (.getfield 233, 3) := by decide +kernel
theorem dX13_damp_12 : decode cX13_damp 12 = .ok (.if_icmp .ge 82, 3) := by decide +kernel
theorem dX13_damp_15 : decode cX13_damp 15 = .ok (.aload_n 0, 1) := by decide +kernel
theorem dX13_damp_16 : decode cX13_damp 16 = .ok (.getfield 107, 3) := by decide +kernel
theorem dX13_damp_19 : decode cX13_damp 19 = .ok (.iload_n 1, 1) := by decide +kernel
theorem dX13_damp_20 : decode cX13_damp 20 = .ok (.aload_n 0, 1) := by decide +kernel
theorem dX13_damp_21 : decode cX13_damp 21 = .ok (.getfield 131, 3) := by decide +kernel
theorem dX13_damp_24 : decode cX13_damp 24 = .ok (.iload_n 1, 1) := by decide +kernel
theorem dX13_damp_25 : decode cX13_damp 25 = .ok (.iaload, 1) := by decide +kernel
theorem dX13_damp_26 : decode cX13_damp 26 = .ok (.iastore, 1) := by decide +kernel
theorem dX13_damp_27 : decode cX13_damp 27 = .ok (.aload_n 0, 1) := by decide +kernel
theorem dX13_damp_28 : decode cX13_damp 28 = .ok (.getfield 233, 3) := by decide +kernel
theorem dX13_damp_31 : decode cX13_damp 31 = .ok (.iconst 1, 1) := by decide +kernel
theorem dX13_damp_32 : decode cX13_damp 32 = .ok (.isub, 1) := by decide +kernel
theorem dX13_damp_33 : decode cX13_damp 33 = .ok (.istore_n 2, 1) := by decide +kernel
theorem dX13_damp_34 : decode cX13_damp 34 = .ok (.iload_n 2, 1) := by decide +kernel
theorem dX13_damp_35 : decode cX13_damp 35 = .ok (.iload_n 1, 1) := by decide +kernel
theorem dX13_damp_36 : decode cX13_damp 36 = .ok (.if_icmp .le 52, 3) := by decide +kernel
theorem dX13_damp_39 : decode cX13_damp 39 = .ok (.aload_n 0, 1) := by decide +kernel
theorem dX13_damp_40 : decode cX13_damp 40 = .ok (.iload_n 1, 1) := by decide +kernel
theorem dX13_damp_41 : decode cX13_damp 41 = .ok (.iload_n 2, 1) := by decide +kernel
theorem dX13_damp_42 : decode cX13_damp 42 = .ok (.invokevirtual 374, 3) := by decide +kernel
theorem dX13_damp_45 : decode cX13_damp 45 = .ok (.ifCond .eq 37, 3) := by decide +kernel
theorem dX13_damp_48 : decode cX13_damp 48 = .ok (.aload_n 0, 1) := by decide +kernel
theorem dX13_damp_49 : decode cX13_damp 49 = .ok (.getfield 125, 3) := by decide +kernel
theorem dX13_damp_52 : decode cX13_damp 52 = .ok (.iload_n 2, 1) := by decide +kernel
theorem dX13_damp_53 : decode cX13_damp 53 = .ok (.iaload, 1) := by decide +kernel
theorem dX13_damp_54 : decode cX13_damp 54 = .ok (.aload_n 0, 1) := by decide +kernel
theorem dX13_damp_55 : decode cX13_damp 55 = .ok (.getfield 125, 3) := by decide +kernel
theorem dX13_damp_58 : decode cX13_damp 58 = .ok (.iload_n 1, 1) := by decide +kernel
theorem dX13_damp_59 : decode cX13_damp 59 = .ok (.iaload, 1) := by decide +kernel
theorem dX13_damp_60 : decode cX13_damp 60 = .ok (.if_icmp .le 22, 3) := by decide +kernel
theorem dX13_damp_63 : decode cX13_damp 63 = .ok (.aload_n 0, 1) := by decide +kernel
theorem dX13_damp_64 : decode cX13_damp 64 = .ok (.getfield 107, 3) := by decide +kernel
theorem dX13_damp_67 : decode cX13_damp 67 = .ok (.iload_n 1, 1) := by decide +kernel
theorem dX13_damp_68 : decode cX13_damp 68 = .ok (.aload_n 0, 1) := by decide +kernel
theorem dX13_damp_69 : decode cX13_damp 69 = .ok (.getfield 125, 3) := by decide +kernel
theorem dX13_damp_72 : decode cX13_damp 72 = .ok (.iload_n 2, 1) := by decide +kernel
theorem dX13_damp_73 : decode cX13_damp 73 = .ok (.iaload, 1) := by decide +kernel
theorem dX13_damp_74 : decode cX13_damp 74 = .ok (.aload_n 0, 1) := by decide +kernel
theorem dX13_damp_75 : decode cX13_damp 75 = .ok (.getfield 125, 3) := by decide +kernel
theorem dX13_damp_78 : decode cX13_damp 78 = .ok (.iload_n 1, 1) := by decide +kernel
theorem dX13_damp_79 : decode cX13_damp 79 = .ok (.iaload, 1) := by decide +kernel
theorem dX13_damp_80 : decode cX13_damp 80 = .ok (.isub, 1) := by decide +kernel
theorem dX13_damp_81 : decode cX13_damp 81 = .ok (.iastore, 1) := by decide +kernel
theorem dX13_damp_82 : decode cX13_damp 82 = .ok (.iinc 2 (-1), 3) := by decide +kernel
theorem dX13_damp_85 : decode cX13_damp 85 = .ok (.goto (-51), 3) := by decide +kernel
theorem dX13_damp_88 : decode cX13_damp 88 = .ok (.iinc 1 1, 3) := by decide +kernel
theorem dX13_damp_91 : decode cX13_damp 91 = .ok (.goto (-84), 3) := by decide +kernel
theorem dX13_damp_94 : decode cX13_damp 94 = .ok (.iconst 0, 1) := by decide +kernel
theorem dX13_damp_95 : decode cX13_damp 95 = .ok (.istore_n 1, 1) := by decide +kernel
theorem dX13_damp_96 : decode cX13_damp 96 = .ok (.iconst 0, 1) := by decide +kernel
theorem dX13_damp_97 : decode cX13_damp 97 = .ok (.istore_n 2, 1) := by decide +kernel
theorem dX13_damp_98 : decode cX13_damp 98 = .ok (.iload_n 2, 1) := by decide +kernel
theorem dX13_damp_99 : decode cX13_damp 99 = .ok (.aload_n 0, 1) := by decide +kernel
theorem dX13_damp_100 : decode cX13_damp 100 = .ok (.getfield 233, 3) := by decide +kernel
theorem dX13_damp_103 : decode cX13_damp 103 = .ok (.if_icmp .ge 37, 3) := by decide +kernel
theorem dX13_damp_106 : decode cX13_damp 106 = .ok (.iload_n 1, 1) := by decide +kernel
theorem dX13_damp_107 : decode cX13_damp 107 = .ok (.aload_n 0, 1) := by decide +kernel
theorem dX13_damp_108 : decode cX13_damp 108 = .ok (.getfield 131, 3) := by decide +kernel
theorem dX13_damp_111 : decode cX13_damp 111 = .ok (.iload_n 2, 1) := by decide +kernel
theorem dX13_damp_112 : decode cX13_damp 112 = .ok (.iaload, 1) := by decide +kernel
theorem dX13_damp_113 : decode cX13_damp 113 = .ok (.aload_n 0, 1) := by decide +kernel
theorem dX13_damp_114 : decode cX13_damp 114 = .ok (.getfield 107, 3) := by decide +kernel
theorem dX13_damp_117 : decode cX13_damp 117 = .ok (.iload_n 2, 1) := by decide +kernel
theorem dX13_damp_118 : decode cX13_damp 118 = .ok (.iaload, 1) := by decide +kernel
theorem dX13_damp_119 : decode cX13_damp 119 = .ok (.isub, 1) := by decide +kernel
theorem dX13_damp_120 : decode cX13_damp 120 = .ok (.iadd, 1) := by decide +kernel
theorem dX13_damp_121 : decode cX13_damp 121 = .ok (.istore_n 1, 1) := by decide +kernel
theorem dX13_damp_122 : decode cX13_damp 122 = .ok (.aload_n 0, 1) := by decide +kernel
theorem dX13_damp_123 : decode cX13_damp 123 = .ok (.getfield 131, 3) := by decide +kernel
theorem dX13_damp_126 : decode cX13_damp 126 = .ok (.iload_n 2, 1) := by decide +kernel
theorem dX13_damp_127 : decode cX13_damp 127 = .ok (.aload_n 0, 1) := by decide +kernel
theorem dX13_damp_128 : decode cX13_damp 128 = .ok (.getfield 107, 3) := by decide +kernel
theorem dX13_damp_131 : decode cX13_damp 131 = .ok (.iload_n 2, 1) := by decide +kernel
theorem dX13_damp_132 : decode cX13_damp 132 = .ok (.iaload, 1) := by decide +kernel
theorem dX13_damp_133 : decode cX13_damp 133 = .ok (.iastore, 1) := by decide +kernel
theorem dX13_damp_134 : decode cX13_damp 134 = .ok (.iinc 2 1, 3) := by decide +kernel
theorem dX13_damp_137 : decode cX13_damp 137 = .ok (.goto (-39), 3) := by decide +kernel
theorem dX13_damp_140 : decode cX13_damp 140 = .ok (.iload_n 1, 1) := by decide +kernel
theorem dX13_damp_141 : decode cX13_damp 141 = .ok (.ireturn, 1) := by decide +kernel
abbrev mX13_takesWith : MI := (yX13_takesWith, cX13_takesWith, 5, some .int, 5, 121, [])
abbrev mX13_help : MI := (yX13_help, cX13_help, 7, some .int, 6, 145, [])
abbrev mX13_helped : MI := (yX13_helped, cX13_helped, 2, some .int, 1, 21, [])
abbrev mX13_isClash : MI := (yX13_isClash, cX13_isClash, 3, some .boolean, 2, 44, [])
abbrev mX13_clashes : MI := (yX13_clashes, cX13_clashes, 4, some .int, 3, 66, [])
abbrev mX13_clash : MI := (yX13_clash, cX13_clash, 6, some .int, 3, 66, [])
abbrev mX13_damp : MI := (yX13_damp, cX13_damp, 3, some .int, 3, 66, [])
theorem fk_X13_107 : Fk RX13 107 13 18 := ⟨RX13, TX13, 66, tyX13, rfl, inX13, by decide, lw_in (i := 1175) (by decide +kernel) (by decide +kernel), tyX13_ok, nmX13⟩
theorem fk_X13_243 : Fk RX13 243 13 44 := ⟨RX13, TX13, 66, tyX13, rfl, inX13, by decide, lw_in (i := 1201) (by decide +kernel) (by decide +kernel), tyX13_ok, nmX13⟩
theorem fk_X13_365 : Fk RX13 365 13 42 := ⟨RX13, TX13, 66, tyX13, rfl, inX13, by decide, lw_in (i := 1199) (by decide +kernel) (by decide +kernel), tyX13_ok, nmX13⟩
theorem fk_X13_368 : Fk RX13 368 13 43 := ⟨RX13, TX13, 66, tyX13, rfl, inX13, by decide, lw_in (i := 1200) (by decide +kernel) (by decide +kernel), tyX13_ok, nmX13⟩
theorem fp_X13_42 : Fp 13 42 .int := ⟨RX13, TX13, 66, rfl, rfl, by decide +kernel⟩
theorem fp_X13_43 : Fp 13 43 .int := ⟨RX13, TX13, 66, rfl, rfl, by decide +kernel⟩
theorem fp_X13_44 : Fp 13 44 .boolean := ⟨RX13, TX13, 66, rfl, rfl, by decide +kernel⟩
theorem mv_X13_isClash : MkV mX13_isClash := ⟨lw_in (i := 1588) (by decide +kernel) (by decide +kernel), lw_se (i := 84) (by decide +kernel) (by decide +kernel)⟩
theorem mv_X13_takesWith : MkV mX13_takesWith := ⟨lw_in (i := 1576) (by decide +kernel) (by decide +kernel), lw_se (i := 83) (by decide +kernel) (by decide +kernel)⟩
theorem mk_X13_362 : Mk RX13 362 mX13_takesWith 3 := ⟨lw_in (i := 1574) (by decide +kernel) (by decide +kernel), lw_in (i := 14) (by decide +kernel) (by decide +kernel), lw_in (i := 1577) (by decide +kernel) (by decide +kernel), by decide +kernel⟩
theorem mk_X13_371 : Cond.methodLink RX13 371 Lib.Math.abs.name ∈ lw_w := lw_in (i := 1590) (by decide +kernel) (by decide +kernel)
theorem mk_X13_374 : Mk RX13 374 mX13_isClash 2 := ⟨lw_in (i := 1586) (by decide +kernel) (by decide +kernel), lw_in (i := 14) (by decide +kernel) (by decide +kernel), lw_in (i := 1589) (by decide +kernel) (by decide +kernel), by decide +kernel⟩
theorem rm_X13_clash_X13_endOf : Rm mX13_clash mX13_endOf := ⟨by decide, by decide⟩
theorem rm_X13_clash_X13_isClash : Rm mX13_clash mX13_isClash := ⟨by decide, by decide⟩
theorem rm_X13_clashes_X13_isClash : Rm mX13_clashes mX13_isClash := ⟨by decide, by decide⟩
theorem rm_X13_damp_X13_isClash : Rm mX13_damp mX13_isClash := ⟨by decide, by decide⟩
theorem rm_X13_help_X13_isRinger : Rm mX13_help mX13_isRinger := ⟨by decide, by decide⟩
theorem rm_X13_help_X13_takesWith : Rm mX13_help mX13_takesWith := ⟨by decide, by decide⟩
theorem rm_X13_isClash_X13_endOf : Rm mX13_isClash mX13_endOf := ⟨by decide, by decide⟩
theorem rm_X13_takesWith_X13_findHands : Rm mX13_takesWith mX13_findHands := ⟨by decide, by decide⟩
section W_model4
variable {l : Launch} {D : va_G} {ad : Nat → Nat} {kA : Nat → ClassId} {M : Mem} {Q : Outcome → Mem → Prop}
theorem t_X13_takesWith_0 {x1 : Int32} {x2 : Int32} {x3 : Int32} 
    (K1 : Fw l D ad kA mX13_takesWith 8 [some (.ref (ad 54)), some (.int x1), some (.int x2), some (.int x3), some (.int 0)] [] (sI M 54 31 0) Q) : Fw l D ad kA mX13_takesWith 0 [some (.ref (ad 54)), some (.int x1), some (.int x2), some (.int x3), none] [] M Q := by
  refine r_aload_n dX13_takesWith_0 rfl ?_
  refine r_iconst (v := 0) dX13_takesWith_1 kI_0 ?_
  refine r_putI dX13_takesWith_2 fs_54_31 fk_X13_293 fp_X13_31 ?_
  refine r_iconst (v := 0) dX13_takesWith_5 kI_0 ?_
  refine q_istore (lo' := [some (.ref (ad 54)), some (.int x1), some (.int x2), some (.int x3), some (.int 0)]) dX13_takesWith_6 (by decide) rfl ?_
  exact K1
theorem t_X13_takesWith_8 {x1 : Int32} {x2 : Int32} {x3 : Int32} {x4 : Int32} 
    (g1 : (¬ ((gI M 54 10) ≤ x4)) → (x4 = x3) → vp_in (gI M 54 31) 160)
    (g2 : (¬ ((gI M 54 10) ≤ x4)) → (¬ (x4 = x3)) → vp_in x4 160)
    (g3 : (¬ ((gI M 54 10) ≤ x4)) → (¬ (x4 = x3)) → vp_in (gI M 57 x4.toNatClampNeg) 48)
    (g4 : (¬ ((gI M 54 10) ≤ x4)) → (¬ (x4 = x3)) → ((gI M 68 (gI M 57 x4.toNatClampNeg).toNatClampNeg) = x1) → (¬ (x4 = x2)) → vp_in (gI M 54 31) 160)
    (K1 : ((gI M 54 10) ≤ x4) → Cal l D ad kA mX13_findHands [.ref (ad 54)] M (fun oc M2 => ∃ r : Int32, oc = .returned (some (.int r)) ∧ Fw l D ad kA mX13_takesWith 79 [none, none, none, none, none] [.int r] M2 Q))
    (K2 : (¬ ((gI M 54 10) ≤ x4)) → (x4 = x3) → Fw l D ad kA mX13_takesWith 8 [some (.ref (ad 54)), some (.int x1), some (.int x2), some (.int x3), some (.int (x4 + 1))] [] (sI (sI M 69 (gI M 54 31).toNatClampNeg x4) 54 31 ((gI M 54 31) + 1)) Q)
    (K3 : (¬ ((gI M 54 10) ≤ x4)) → (¬ (x4 = x3)) → (¬ ((gI M 68 (gI M 57 x4.toNatClampNeg).toNatClampNeg) = x1)) → Fw l D ad kA mX13_takesWith 8 [some (.ref (ad 54)), some (.int x1), some (.int x2), some (.int x3), some (.int (x4 + 1))] [] M Q)
    (K4 : (¬ ((gI M 54 10) ≤ x4)) → (¬ (x4 = x3)) → ((gI M 68 (gI M 57 x4.toNatClampNeg).toNatClampNeg) = x1) → (¬ (x4 = x2)) → Fw l D ad kA mX13_takesWith 8 [some (.ref (ad 54)), some (.int x1), some (.int x2), some (.int x3), some (.int (x4 + 1))] [] (sI (sI M 69 (gI M 54 31).toNatClampNeg x4) 54 31 ((gI M 54 31) + 1)) Q)
    (K5 : (¬ ((gI M 54 10) ≤ x4)) → (¬ (x4 = x3)) → ((gI M 68 (gI M 57 x4.toNatClampNeg).toNatClampNeg) = x1) → (x4 = x2) → Fw l D ad kA mX13_takesWith 8 [some (.ref (ad 54)), some (.int x1), some (.int x2), some (.int x3), some (.int (x4 + 1))] [] M Q) : Fw l D ad kA mX13_takesWith 8 [some (.ref (ad 54)), some (.int x1), some (.int x2), some (.int x3), some (.int x4)] [] M Q := by
  refine r_iload dX13_takesWith_8 rfl ?_
  refine r_aload_n dX13_takesWith_10 rfl ?_
  refine r_getI dX13_takesWith_11 fs_54_10 fk_X13_233 ?_
  refine r_icmp_ge (tgt := 75) dX13_takesWith_14 (by decide) (fun c1 => ?_) (fun c1 => ?_)
  · skip
    refine r_aload_n dX13_takesWith_75 rfl ?_
    exact r_callV (x := 54) (As := []) (rest := []) dX13_takesWith_76 mk_X13_307 mv_X13_findHands rm_X13_takesWith_X13_findHands rfl rfl (by decide +kernel) (Nat.le_of_ble_eq_true rfl) (cal_i (lo' := [none, none, none, none, none]) trivial (K1 c1))
  · skip
    refine r_iload dX13_takesWith_17 rfl ?_
    refine r_iload_n dX13_takesWith_19 rfl ?_
    refine r_icmp_eq (tgt := 48) dX13_takesWith_20 (by decide) (fun c2 => ?_) (fun c2 => ?_)
    · skip
      refine r_aload_n dX13_takesWith_48 rfl ?_
      refine r_getR dX13_takesWith_49 fs_54_27 fk_X13_156 ?_
      refine r_aload_n dX13_takesWith_52 rfl ?_
      refine r_getI dX13_takesWith_53 fs_54_31 fk_X13_293 ?_
      refine r_iload dX13_takesWith_56 rfl ?_
      refine r_iast dX13_takesWith_58 as_69 (g1 c1 c2) ?_
      refine r_aload_n dX13_takesWith_59 rfl ?_
      refine r_dup dX13_takesWith_60 rfl ?_
      refine q_getI (v := gI M 54 31) dX13_takesWith_61 fs_54_31 fk_X13_293 rfl ?_
      refine r_iconst (v := 1) dX13_takesWith_64 kI_1 ?_
      refine r_iadd dX13_takesWith_65 ?_
      refine r_putI dX13_takesWith_66 fs_54_31 fk_X13_293 fp_X13_31 ?_
      refine q_iinc (v := x4 + 1) (lo' := [some (.ref (ad 54)), some (.int x1), some (.int x2), some (.int x3), some (.int (x4 + 1))]) dX13_takesWith_69 rfl (congrArg (fun q => x4 + q) kI_1) (by decide) rfl ?_
      refine r_goto (tgt := 8) dX13_takesWith_72 (by decide) ?_
      exact (K2 c1 c2)
    · skip
      refine r_aload_n dX13_takesWith_23 rfl ?_
      refine r_getR dX13_takesWith_24 fs_54_25 fk_X13_153 ?_
      refine r_aload_n dX13_takesWith_27 rfl ?_
      refine r_getR dX13_takesWith_28 fs_54_13 fk_X13_128 ?_
      refine r_iload dX13_takesWith_31 rfl ?_
      refine r_iald dX13_takesWith_33 as_57 (g2 c1 c2) ?_
      refine r_iald dX13_takesWith_34 as_68 (g3 c1 c2) ?_
      refine r_iload_n dX13_takesWith_35 rfl ?_
      refine r_icmp_ne (tgt := 69) dX13_takesWith_36 (by decide) (fun c3 => ?_) (fun c3 => ?_)
      · skip
        refine q_iinc (v := x4 + 1) (lo' := [some (.ref (ad 54)), some (.int x1), some (.int x2), some (.int x3), some (.int (x4 + 1))]) dX13_takesWith_69 rfl (congrArg (fun q => x4 + q) kI_1) (by decide) rfl ?_
        refine r_goto (tgt := 8) dX13_takesWith_72 (by decide) ?_
        exact (K3 c1 c2 c3)
      · skip
        refine r_iload dX13_takesWith_39 rfl ?_
        refine r_iload_n dX13_takesWith_41 rfl ?_
        refine r_icmp_ne (tgt := 48) dX13_takesWith_42 (by decide) (fun c4 => ?_) (fun c4 => ?_)
        · skip
          refine r_aload_n dX13_takesWith_48 rfl ?_
          refine r_getR dX13_takesWith_49 fs_54_27 fk_X13_156 ?_
          refine r_aload_n dX13_takesWith_52 rfl ?_
          refine r_getI dX13_takesWith_53 fs_54_31 fk_X13_293 ?_
          refine r_iload dX13_takesWith_56 rfl ?_
          refine r_iast dX13_takesWith_58 as_69 (g4 c1 c2 c3 c4) ?_
          refine r_aload_n dX13_takesWith_59 rfl ?_
          refine r_dup dX13_takesWith_60 rfl ?_
          refine q_getI (v := gI M 54 31) dX13_takesWith_61 fs_54_31 fk_X13_293 rfl ?_
          refine r_iconst (v := 1) dX13_takesWith_64 kI_1 ?_
          refine r_iadd dX13_takesWith_65 ?_
          refine r_putI dX13_takesWith_66 fs_54_31 fk_X13_293 fp_X13_31 ?_
          refine q_iinc (v := x4 + 1) (lo' := [some (.ref (ad 54)), some (.int x1), some (.int x2), some (.int x3), some (.int (x4 + 1))]) dX13_takesWith_69 rfl (congrArg (fun q => x4 + q) kI_1) (by decide) rfl ?_
          refine r_goto (tgt := 8) dX13_takesWith_72 (by decide) ?_
          exact (K4 c1 c2 c3 c4)
        · skip
          refine r_goto (tgt := 69) dX13_takesWith_45 (by decide) ?_
          refine q_iinc (v := x4 + 1) (lo' := [some (.ref (ad 54)), some (.int x1), some (.int x2), some (.int x3), some (.int (x4 + 1))]) dX13_takesWith_69 rfl (congrArg (fun q => x4 + q) kI_1) (by decide) rfl ?_
          refine r_goto (tgt := 8) dX13_takesWith_72 (by decide) ?_
          exact (K5 c1 c2 c3 c4)
theorem t_X13_takesWith_79 {s1 : Int32} 
    (K1 : Q (.returned (some (.int s1))) M) : Fw l D ad kA mX13_takesWith 79 [none, none, none, none, none] [.int s1] M Q := by
  exact r_iret dX13_takesWith_79 rfl K1
theorem en_X13_takesWith {x1 : Int32} {x2 : Int32} {x3 : Int32} (K : Fw l D ad kA mX13_takesWith 0 [some (.ref (ad 54)), some (.int x1), some (.int x2), some (.int x3), none] [] M Q) : Cal l D ad kA mX13_takesWith [.ref (ad 54), .int x1, .int x2, .int x3] M Q := Cal.of (by decide) rfl rfl (Nat.le_of_ble_eq_true rfl) K
theorem t_X13_help_0 {x1 : Int32} 
    (K1 : (¬ ((v_X13_isRinger M x1) = 0)) → (¬ ((gI M 54 26) = 0)) → Fw l D ad kA mX13_help 27 [some (.ref (ad 54)), some (.int x1), some (.int 1000000), some (.int 0), none, none, none] [] M Q)
    (K2 : (¬ ((v_X13_isRinger M x1) = 0)) → ((gI M 54 26) = 0) → Q (.returned (some (.int (-4)))) M)
    (K3 : ((v_X13_isRinger M x1) = 0) → Q (.returned (some (.int (-2)))) M) : Fw l D ad kA mX13_help 0 [some (.ref (ad 54)), some (.int x1), none, none, none, none, none] [] M Q := by
  refine r_aload_n dX13_help_0 rfl ?_
  refine r_iload_n dX13_help_1 rfl ?_
  refine r_callV (x := 54) (As := [.int x1]) (rest := []) dX13_help_2 mk_X13_279 mv_X13_isRinger rm_X13_help_X13_isRinger rfl rfl (by decide +kernel) (Nat.le_of_ble_eq_true rfl) (ct_X13_isRinger (⟨_, rfl, ?_⟩))
  refine r_if_ne (tgt := 11) dX13_help_5 (by decide) (fun c1 => ?_) (fun c1 => ?_)
  · skip
    refine r_aload_n dX13_help_11 rfl ?_
    refine r_getI dX13_help_12 fs_54_26 fk_X13_236 ?_
    refine r_if_ne (tgt := 21) dX13_help_15 (by decide) (fun c2 => ?_) (fun c2 => ?_)
    · skip
      refine r_ldcw (v := 1000000) dX13_help_21 co_X13_282 ?_
      refine q_istore_n (lo' := [some (.ref (ad 54)), some (.int x1), some (.int 1000000), none, none, none, none]) dX13_help_24 (by decide) rfl ?_
      refine r_iconst (v := 0) dX13_help_25 kI_0 ?_
      refine q_istore_n (lo' := [some (.ref (ad 54)), some (.int x1), some (.int 1000000), some (.int 0), none, none, none]) dX13_help_26 (by decide) rfl ?_
      exact (K1 c1 c2)
    · skip
      refine r_bipush (v := (-4)) dX13_help_18 kB_m4 ?_
      exact r_iret dX13_help_20 rfl (K2 c1 c2)
  · skip
    refine r_bipush (v := (-2)) dX13_help_8 kB_m2 ?_
    exact r_iret dX13_help_10 rfl (K3 c1)
theorem t_X13_help_27 {x1 : Int32} {x2 : Int32} {x3 : Int32} 
    (g1 : (¬ ((gI M 54 10) ≤ x3)) → vp_in x3 160)
    (g2 : (¬ ((gI M 54 10) ≤ x3)) → vp_in (gI M 57 x3.toNatClampNeg) 48)
    (K1 : ((gI M 54 10) ≤ x3) → (x2 < 1000000) → Q (.returned (some (.int x2))) (sI M 54 44 1))
    (K2 : ((gI M 54 10) ≤ x3) → (¬ (x2 < 1000000)) → Q (.returned (some (.int (-1)))) M)
    (K3 : (¬ ((gI M 54 10) ≤ x3)) → ((gI M 68 (gI M 57 x3.toNatClampNeg).toNatClampNeg) = x1) → Cal l D ad kA mX13_takesWith [.ref (ad 54), .int x1, .int x3, .int (-1)] M (fun oc M2 => ∃ r : Int32, oc = .returned (some (.int r)) ∧ Fw l D ad kA mX13_help 60 [some (.ref (ad 54)), some (.int x1), some (.int x2), some (.int x3), none, none, none] [.int r] M2 Q))
    (K4 : (¬ ((gI M 54 10) ≤ x3)) → (¬ ((gI M 68 (gI M 57 x3.toNatClampNeg).toNatClampNeg) = x1)) → Fw l D ad kA mX13_help 27 [some (.ref (ad 54)), some (.int x1), some (.int x2), some (.int (x3 + 1)), none, none, none] [] M Q) : Fw l D ad kA mX13_help 27 [some (.ref (ad 54)), some (.int x1), some (.int x2), some (.int x3), none, none, none] [] M Q := by
  refine r_iload_n dX13_help_27 rfl ?_
  refine r_aload_n dX13_help_28 rfl ?_
  refine r_getI dX13_help_29 fs_54_10 fk_X13_233 ?_
  refine r_icmp_ge (tgt := 151) dX13_help_32 (by decide) (fun c1 => ?_) (fun c1 => ?_)
  · skip
    refine r_iload_n dX13_help_151 rfl ?_
    refine r_ldcw (v := 1000000) dX13_help_152 co_X13_282 ?_
    refine r_icmp_lt (tgt := 160) dX13_help_155 (by decide) (fun c2 => ?_) (fun c2 => ?_)
    · skip
      refine r_aload_n dX13_help_160 rfl ?_
      refine r_iconst (v := 1) dX13_help_161 kI_1 ?_
      refine r_putZ dX13_help_162 fs_54_44 fk_X13_243 fp_X13_44 (Or.inr rfl) ?_
      refine r_iload_n dX13_help_165 rfl ?_
      exact r_iret dX13_help_166 rfl (K1 c1 c2)
    · skip
      refine r_iconst (v := (-1)) dX13_help_158 kI_m1 ?_
      exact r_iret dX13_help_159 rfl (K2 c1 c2)
  · skip
    refine r_aload_n dX13_help_35 rfl ?_
    refine r_getR dX13_help_36 fs_54_25 fk_X13_153 ?_
    refine r_aload_n dX13_help_39 rfl ?_
    refine r_getR dX13_help_40 fs_54_13 fk_X13_128 ?_
    refine r_iload_n dX13_help_43 rfl ?_
    refine r_iald dX13_help_44 as_57 (g1 c1) ?_
    refine r_iald dX13_help_45 as_68 (g2 c1) ?_
    refine r_iload_n dX13_help_46 rfl ?_
    refine r_icmp_eq (tgt := 53) dX13_help_47 (by decide) (fun c3 => ?_) (fun c3 => ?_)
    · skip
      refine r_aload_n dX13_help_53 rfl ?_
      refine r_iload_n dX13_help_54 rfl ?_
      refine r_iload_n dX13_help_55 rfl ?_
      refine r_iconst (v := (-1)) dX13_help_56 kI_m1 ?_
      exact r_callV (x := 54) (As := [.int x1, .int x3, .int (-1)]) (rest := []) dX13_help_57 mk_X13_362 mv_X13_takesWith rm_X13_help_X13_takesWith rfl rfl (by decide +kernel) (Nat.le_of_ble_eq_true rfl) (cal_i (lo' := [some (.ref (ad 54)), some (.int x1), some (.int x2), some (.int x3), none, none, none]) ⟨rfl, rfl, rfl, rfl, trivial⟩ (K3 c1 c3))
    · skip
      refine r_goto (tgt := 145) dX13_help_50 (by decide) ?_
      refine q_iinc (v := x3 + 1) (lo' := [some (.ref (ad 54)), some (.int x1), some (.int x2), some (.int (x3 + 1)), none, none, none]) dX13_help_145 rfl (congrArg (fun q => x3 + q) kI_1) (by decide) rfl ?_
      refine r_goto (tgt := 27) dX13_help_148 (by decide) ?_
      exact (K4 c1 c3)
theorem t_X13_help_60 {x1 : Int32} {x2 : Int32} {x3 : Int32} {s1 : Int32} 
    (K1 : Fw l D ad kA mX13_help 67 [some (.ref (ad 54)), some (.int x1), some (.int x2), some (.int x3), some (.int s1), some (.int (x1 - 1)), none] [] M Q) : Fw l D ad kA mX13_help 60 [some (.ref (ad 54)), some (.int x1), some (.int x2), some (.int x3), none, none, none] [.int s1] M Q := by
  refine q_istore (lo' := [some (.ref (ad 54)), some (.int x1), some (.int x2), some (.int x3), some (.int s1), none, none]) dX13_help_60 (by decide) rfl ?_
  refine r_iload_n dX13_help_62 rfl ?_
  refine r_iconst (v := 1) dX13_help_63 kI_1 ?_
  refine r_isub dX13_help_64 ?_
  refine q_istore (lo' := [some (.ref (ad 54)), some (.int x1), some (.int x2), some (.int x3), some (.int s1), some (.int (x1 - 1)), none]) dX13_help_65 (by decide) rfl ?_
  exact K1
theorem t_X13_help_67 {x1 : Int32} {x2 : Int32} {x3 : Int32} {x4 : Int32} {x5 : Int32} 
    (g1 : (¬ ((x1 + 1) < x5)) → (¬ (x2 ≤ x4)) → (¬ ((v_X13_isRinger M x5) = 0)) → vp_in x5 12)
    (K1 : ((x1 + 1) < x5) → Fw l D ad kA mX13_help 27 [some (.ref (ad 54)), some (.int x1), some (.int x2), some (.int (x3 + 1)), none, none, none] [] M Q)
    (K2 : (¬ ((x1 + 1) < x5)) → (x2 ≤ x4) → Fw l D ad kA mX13_help 27 [some (.ref (ad 54)), some (.int x1), some (.int x2), some (.int (x3 + 1)), none, none, none] [] M Q)
    (K3 : (¬ ((x1 + 1) < x5)) → (¬ (x2 ≤ x4)) → ((v_X13_isRinger M x5) = 0) → Fw l D ad kA mX13_help 67 [some (.ref (ad 54)), some (.int x1), some (.int x2), some (.int x3), some (.int x4), some (.int (x5 + 2)), none] [] M Q)
    (K4 : (¬ ((x1 + 1) < x5)) → (¬ (x2 ≤ x4)) → (¬ ((v_X13_isRinger M x5) = 0)) → ((gI M 67 x5.toNatClampNeg) = 0) → Cal l D ad kA mX13_takesWith [.ref (ad 54), .int x5, .int (-1), .int x3] M (fun oc M2 => ∃ r : Int32, oc = .returned (some (.int r)) ∧ Fw l D ad kA mX13_help 113 [some (.ref (ad 54)), some (.int x1), some (.int x2), some (.int x3), some (.int x4), some (.int x5), none] [.int r, .int x4] M2 Q))
    (K5 : (¬ ((x1 + 1) < x5)) → (¬ (x2 ≤ x4)) → (¬ ((v_X13_isRinger M x5) = 0)) → (¬ ((gI M 67 x5.toNatClampNeg) = 0)) → Fw l D ad kA mX13_help 67 [some (.ref (ad 54)), some (.int x1), some (.int x2), some (.int x3), some (.int x4), some (.int (x5 + 2)), none] [] M Q) : Fw l D ad kA mX13_help 67 [some (.ref (ad 54)), some (.int x1), some (.int x2), some (.int x3), some (.int x4), some (.int x5), none] [] M Q := by
  refine r_iload dX13_help_67 rfl ?_
  refine r_iload_n dX13_help_69 rfl ?_
  refine r_iconst (v := 1) dX13_help_70 kI_1 ?_
  refine r_iadd dX13_help_71 ?_
  refine r_icmp_gt (tgt := 145) dX13_help_72 (by decide) (fun c1 => ?_) (fun c1 => ?_)
  · skip
    refine q_iinc (v := x3 + 1) (lo' := [some (.ref (ad 54)), some (.int x1), some (.int x2), some (.int (x3 + 1)), some (.int x4), some (.int x5), none]) dX13_help_145 rfl (congrArg (fun q => x3 + q) kI_1) (by decide) rfl ?_
    refine r_goto (tgt := 27) dX13_help_148 (by decide) ?_
    exact q_weak (lo' := [some (.ref (ad 54)), some (.int x1), some (.int x2), some (.int (x3 + 1)), none, none, none]) ⟨rfl, rfl, rfl, rfl, trivial⟩ (K1 c1)
  · skip
    refine r_iload dX13_help_75 rfl ?_
    refine r_iload_n dX13_help_77 rfl ?_
    refine r_icmp_ge (tgt := 145) dX13_help_78 (by decide) (fun c2 => ?_) (fun c2 => ?_)
    · skip
      refine q_iinc (v := x3 + 1) (lo' := [some (.ref (ad 54)), some (.int x1), some (.int x2), some (.int (x3 + 1)), some (.int x4), some (.int x5), none]) dX13_help_145 rfl (congrArg (fun q => x3 + q) kI_1) (by decide) rfl ?_
      refine r_goto (tgt := 27) dX13_help_148 (by decide) ?_
      exact q_weak (lo' := [some (.ref (ad 54)), some (.int x1), some (.int x2), some (.int (x3 + 1)), none, none, none]) ⟨rfl, rfl, rfl, rfl, trivial⟩ (K2 c1 c2)
    · skip
      refine r_aload_n dX13_help_81 rfl ?_
      refine r_iload dX13_help_82 rfl ?_
      refine r_callV (x := 54) (As := [.int x5]) (rest := []) dX13_help_84 mk_X13_279 mv_X13_isRinger rm_X13_help_X13_isRinger rfl rfl (by decide +kernel) (Nat.le_of_ble_eq_true rfl) (ct_X13_isRinger (⟨_, rfl, ?_⟩))
      refine r_if_eq (tgt := 139) dX13_help_87 (by decide) (fun c3 => ?_) (fun c3 => ?_)
      · skip
        refine q_iinc (v := x5 + 2) (lo' := [some (.ref (ad 54)), some (.int x1), some (.int x2), some (.int x3), some (.int x4), some (.int (x5 + 2)), none]) dX13_help_139 rfl (congrArg (fun q => x5 + q) kI_2) (by decide) rfl ?_
        refine r_goto (tgt := 67) dX13_help_142 (by decide) ?_
        exact (K3 c1 c2 c3)
      · skip
        refine r_aload_n dX13_help_90 rfl ?_
        refine r_getR dX13_help_91 fs_54_24 fk_X13_150 ?_
        refine r_iload dX13_help_94 rfl ?_
        refine r_zald dX13_help_96 as_67 (g1 c1 c2 c3) ?_
        refine r_if_eq (tgt := 103) dX13_help_97 (by decide) (fun c4 => ?_) (fun c4 => ?_)
        · skip
          refine r_iload dX13_help_103 rfl ?_
          refine r_aload_n dX13_help_105 rfl ?_
          refine r_iload dX13_help_106 rfl ?_
          refine r_iconst (v := (-1)) dX13_help_108 kI_m1 ?_
          refine r_iload_n dX13_help_109 rfl ?_
          exact r_callV (x := 54) (As := [.int x5, .int (-1), .int x3]) (rest := [.int x4]) dX13_help_110 mk_X13_362 mv_X13_takesWith rm_X13_help_X13_takesWith rfl rfl (by decide +kernel) (Nat.le_of_ble_eq_true rfl) (cal_i (lo' := [some (.ref (ad 54)), some (.int x1), some (.int x2), some (.int x3), some (.int x4), some (.int x5), none]) ⟨rfl, rfl, rfl, rfl, rfl, rfl, trivial⟩ (K4 c1 c2 c3 c4))
        · skip
          refine r_goto (tgt := 139) dX13_help_100 (by decide) ?_
          refine q_iinc (v := x5 + 2) (lo' := [some (.ref (ad 54)), some (.int x1), some (.int x2), some (.int x3), some (.int x4), some (.int (x5 + 2)), none]) dX13_help_139 rfl (congrArg (fun q => x5 + q) kI_2) (by decide) rfl ?_
          refine r_goto (tgt := 67) dX13_help_142 (by decide) ?_
          exact (K5 c1 c2 c3 c4)
theorem t_X13_help_113 {x1 : Int32} {x2 : Int32} {x3 : Int32} {x4 : Int32} {x5 : Int32} {s2 : Int32} {s1 : Int32} 
    (K1 : ((s1 + s2) < x2) → Fw l D ad kA mX13_help 67 [some (.ref (ad 54)), some (.int x1), some (.int (s1 + s2)), some (.int x3), some (.int x4), some (.int (x5 + 2)), none] [] (sI (sI M 54 42 x3) 54 43 x5) Q)
    (K2 : (¬ ((s1 + s2) < x2)) → Fw l D ad kA mX13_help 67 [some (.ref (ad 54)), some (.int x1), some (.int x2), some (.int x3), some (.int x4), some (.int (x5 + 2)), none] [] M Q) : Fw l D ad kA mX13_help 113 [some (.ref (ad 54)), some (.int x1), some (.int x2), some (.int x3), some (.int x4), some (.int x5), none] [.int s2, .int s1] M Q := by
  refine r_iadd dX13_help_113 ?_
  refine q_istore (lo' := [some (.ref (ad 54)), some (.int x1), some (.int x2), some (.int x3), some (.int x4), some (.int x5), some (.int (s1 + s2))]) dX13_help_114 (by decide) rfl ?_
  refine r_iload dX13_help_116 rfl ?_
  refine r_iload_n dX13_help_118 rfl ?_
  refine r_icmp_lt (tgt := 125) dX13_help_119 (by decide) (fun c1 => ?_) (fun c1 => ?_)
  · skip
    refine r_iload dX13_help_125 rfl ?_
    refine q_istore_n (lo' := [some (.ref (ad 54)), some (.int x1), some (.int (s1 + s2)), some (.int x3), some (.int x4), some (.int x5), some (.int (s1 + s2))]) dX13_help_127 (by decide) rfl ?_
    refine r_aload_n dX13_help_128 rfl ?_
    refine r_iload_n dX13_help_129 rfl ?_
    refine r_putI dX13_help_130 fs_54_42 fk_X13_365 fp_X13_42 ?_
    refine r_aload_n dX13_help_133 rfl ?_
    refine r_iload dX13_help_134 rfl ?_
    refine r_putI dX13_help_136 fs_54_43 fk_X13_368 fp_X13_43 ?_
    refine q_iinc (v := x5 + 2) (lo' := [some (.ref (ad 54)), some (.int x1), some (.int (s1 + s2)), some (.int x3), some (.int x4), some (.int (x5 + 2)), some (.int (s1 + s2))]) dX13_help_139 rfl (congrArg (fun q => x5 + q) kI_2) (by decide) rfl ?_
    refine r_goto (tgt := 67) dX13_help_142 (by decide) ?_
    exact q_weak (lo' := [some (.ref (ad 54)), some (.int x1), some (.int (s1 + s2)), some (.int x3), some (.int x4), some (.int (x5 + 2)), none]) ⟨rfl, rfl, rfl, rfl, rfl, rfl, trivial⟩ (K1 c1)
  · skip
    refine r_goto (tgt := 139) dX13_help_122 (by decide) ?_
    refine q_iinc (v := x5 + 2) (lo' := [some (.ref (ad 54)), some (.int x1), some (.int x2), some (.int x3), some (.int x4), some (.int (x5 + 2)), some (.int (s1 + s2))]) dX13_help_139 rfl (congrArg (fun q => x5 + q) kI_2) (by decide) rfl ?_
    refine r_goto (tgt := 67) dX13_help_142 (by decide) ?_
    exact q_weak (lo' := [some (.ref (ad 54)), some (.int x1), some (.int x2), some (.int x3), some (.int x4), some (.int (x5 + 2)), none]) ⟨rfl, rfl, rfl, rfl, rfl, rfl, trivial⟩ (K2 c1)
theorem en_X13_help {x1 : Int32} (K : Fw l D ad kA mX13_help 0 [some (.ref (ad 54)), some (.int x1), none, none, none, none, none] [] M Q) : Cal l D ad kA mX13_help [.ref (ad 54), .int x1] M Q := Cal.of (by decide) rfl rfl (Nat.le_of_ble_eq_true rfl) K
def v_X13_helped (M : Mem) (x1 : Int32) : Int32 := if (gI M 54 44) = 0 then (-1) else if x1 = 0 then gI M 54 42 else if x1 = 1 then gI M 54 43 else (-1)
theorem ct_X13_helped {x1 : Int32}  (h : Q (.returned (some (.int (v_X13_helped M x1)))) M) : Cal l D ad kA mX13_helped [.ref (ad 54), .int x1] M Q := by
  refine Cal.of (lo := [some (.ref (ad 54)), some (.int x1)]) (by decide) rfl rfl (Nat.le_of_ble_eq_true rfl) ?_
  refine r_aload_n dX13_helped_0 rfl ?_
  refine r_getI dX13_helped_1 fs_54_44 fk_X13_243 ?_
  suffices hJ1 : Fw l D ad kA mX13_helped 35 [none, none] [.int (if (gI M 54 44) = 0 then (-1) else if x1 = 0 then gI M 54 42 else if x1 = 1 then gI M 54 43 else (-1))] M Q by
    refine r_if_ne (tgt := 11) dX13_helped_4 (by decide) (fun c1 => ?_) (fun c1 => ?_)
    · skip
      refine r_iload_n dX13_helped_11 rfl ?_
      refine r_if_ne (tgt := 22) dX13_helped_12 (by decide) (fun c2 => ?_) (fun c2 => ?_)
      · skip
        refine r_iload_n dX13_helped_22 rfl ?_
        refine r_iconst (v := 1) dX13_helped_23 kI_1 ?_
        refine r_icmp_ne (tgt := 34) dX13_helped_24 (by decide) (fun c3 => ?_) (fun c3 => ?_)
        · skip
          refine r_iconst (v := (-1)) dX13_helped_34 kI_m1 ?_
          exact q_weak (lo' := [none, none]) trivial (by have h9 := hJ1; simp only [if_neg c1, if_neg c2, if_neg c3] at h9; first | exact h9 | (simp only [if_neg c1, if_neg c2, if_neg c3]; exact h9))
        · skip
          refine r_aload_n dX13_helped_27 rfl ?_
          refine r_getI dX13_helped_28 fs_54_43 fk_X13_368 ?_
          refine r_goto (tgt := 35) dX13_helped_31 (by decide) ?_
          exact q_weak (lo' := [none, none]) trivial (by have h9 := hJ1; simp only [if_neg c1, if_neg c2, if_pos c3] at h9; first | exact h9 | (simp only [if_neg c1, if_neg c2, if_pos c3]; exact h9))
      · skip
        refine r_aload_n dX13_helped_15 rfl ?_
        refine r_getI dX13_helped_16 fs_54_42 fk_X13_365 ?_
        refine r_goto (tgt := 35) dX13_helped_19 (by decide) ?_
        exact q_weak (lo' := [none, none]) trivial (by have h9 := hJ1; simp only [if_neg c1, if_pos c2] at h9; first | exact h9 | (simp only [if_neg c1, if_pos c2]; exact h9))
    · skip
      refine r_iconst (v := (-1)) dX13_helped_7 kI_m1 ?_
      refine r_goto (tgt := 35) dX13_helped_8 (by decide) ?_
      exact q_weak (lo' := [none, none]) trivial (by have h9 := hJ1; simp only [if_pos c1] at h9; first | exact h9 | (simp only [if_pos c1]; exact h9))
  exact r_iret dX13_helped_35 rfl h
theorem t_X13_isClash_0 {x1 : Int32} {x2 : Int32} 
    (g1 : vp_in x1 160)
    (g2 : vp_in x2 160)
    (K1 : (¬ ((iabs ((gI M 57 x1.toNatClampNeg) - (gI M 57 x2.toNatClampNeg))) = 1)) → Q (.returned (some (.int 0))) M)
    (K2 : ((iabs ((gI M 57 x1.toNatClampNeg) - (gI M 57 x2.toNatClampNeg))) = 1) → Cal l D ad kA mX13_endOf [.ref (ad 54), .int x1] M (fun oc M2 => ∃ r : Int32, oc = .returned (some (.int r)) ∧ Fw l D ad kA mX13_isClash 31 [none, none, none] [.int r, .int (gI M 56 x2.toNatClampNeg)] M2 Q)) : Fw l D ad kA mX13_isClash 0 [some (.ref (ad 54)), some (.int x1), some (.int x2)] [] M Q := by
  refine r_aload_n dX13_isClash_0 rfl ?_
  refine r_getR dX13_isClash_1 fs_54_13 fk_X13_128 ?_
  refine r_iload_n dX13_isClash_4 rfl ?_
  refine r_iald dX13_isClash_5 as_57 g1 ?_
  refine r_aload_n dX13_isClash_6 rfl ?_
  refine r_getR dX13_isClash_7 fs_54_13 fk_X13_128 ?_
  refine r_iload_n dX13_isClash_10 rfl ?_
  refine r_iald dX13_isClash_11 as_57 g2 ?_
  refine r_isub dX13_isClash_12 ?_
  refine q_mabs dX13_isClash_13 mk_X13_371 (by decide) (Nat.le_of_ble_eq_true rfl) ?_
  refine r_iconst (v := 1) dX13_isClash_16 kI_1 ?_
  refine r_icmp_ne (tgt := 38) dX13_isClash_17 (by decide) (fun c1 => ?_) (fun c1 => ?_)
  · skip
    refine r_iconst (v := 0) dX13_isClash_38 kI_0 ?_
    exact r_zret dX13_isClash_39 rfl (by decide) (K1 c1)
  · skip
    refine r_aload_n dX13_isClash_20 rfl ?_
    refine r_getR dX13_isClash_21 fs_54_12 fk_X13_125 ?_
    refine r_iload_n dX13_isClash_24 rfl ?_
    refine r_iald dX13_isClash_25 as_56 g2 ?_
    refine r_aload_n dX13_isClash_26 rfl ?_
    refine r_iload_n dX13_isClash_27 rfl ?_
    exact r_callV (x := 54) (As := [.int x1]) (rest := [.int (gI M 56 x2.toNatClampNeg)]) dX13_isClash_28 mk_X13_274 mv_X13_endOf rm_X13_isClash_X13_endOf rfl rfl (by decide +kernel) (Nat.le_of_ble_eq_true rfl) (cal_i (lo' := [none, none, none]) trivial (K2 c1))
theorem t_X13_isClash_31 {s2 : Int32} {s1 : Int32} 
    (K1 : Q (.returned (some (.int (if s2 ≤ s1 then 0 else 1)))) M) : Fw l D ad kA mX13_isClash 31 [none, none, none] [.int s2, .int s1] M Q := by
  suffices hJ1 : Fw l D ad kA mX13_isClash 39 [none, none, none] [.int (if s2 ≤ s1 then 0 else 1)] M Q by
    refine r_icmp_ge (tgt := 38) dX13_isClash_31 (by decide) (fun c1 => ?_) (fun c1 => ?_)
    · skip
      refine r_iconst (v := 0) dX13_isClash_38 kI_0 ?_
      exact q_weak (lo' := [none, none, none]) trivial (by have h9 := hJ1; simp only [if_pos c1] at h9; first | exact h9 | (simp only [if_pos c1]; exact h9))
    · skip
      refine r_iconst (v := 1) dX13_isClash_34 kI_1 ?_
      refine r_goto (tgt := 39) dX13_isClash_35 (by decide) ?_
      exact q_weak (lo' := [none, none, none]) trivial (by have h9 := hJ1; simp only [if_neg c1] at h9; first | exact h9 | (simp only [if_neg c1]; exact h9))
  exact r_zret dX13_isClash_39 rfl (nar_z (ite01 (Or.inl rfl) (Or.inr rfl))).1 K1
theorem en_X13_isClash {x1 : Int32} {x2 : Int32} (K : Fw l D ad kA mX13_isClash 0 [some (.ref (ad 54)), some (.int x1), some (.int x2)] [] M Q) : Cal l D ad kA mX13_isClash [.ref (ad 54), .int x1, .int x2] M Q := Cal.of (by decide) rfl rfl (Nat.le_of_ble_eq_true rfl) K
theorem t_X13_clashes_0  
    (K1 : Fw l D ad kA mX13_clashes 4 [some (.ref (ad 54)), some (.int 0), some (.int 0), none] [] M Q) : Fw l D ad kA mX13_clashes 0 [some (.ref (ad 54)), none, none, none] [] M Q := by
  refine r_iconst (v := 0) dX13_clashes_0 kI_0 ?_
  refine q_istore_n (lo' := [some (.ref (ad 54)), some (.int 0), none, none]) dX13_clashes_1 (by decide) rfl ?_
  refine r_iconst (v := 0) dX13_clashes_2 kI_0 ?_
  refine q_istore_n (lo' := [some (.ref (ad 54)), some (.int 0), some (.int 0), none]) dX13_clashes_3 (by decide) rfl ?_
  exact K1
theorem t_X13_clashes_4 {x1 : Int32} {x2 : Int32} 
    (K1 : ((gI M 54 10) ≤ x2) → Q (.returned (some (.int x1))) M)
    (K2 : (¬ ((gI M 54 10) ≤ x2)) → Fw l D ad kA mX13_clashes 16 [some (.ref (ad 54)), some (.int x1), some (.int x2), some (.int (x2 + 1))] [] M Q) : Fw l D ad kA mX13_clashes 4 [some (.ref (ad 54)), some (.int x1), some (.int x2), none] [] M Q := by
  refine r_iload_n dX13_clashes_4 rfl ?_
  refine r_aload_n dX13_clashes_5 rfl ?_
  refine r_getI dX13_clashes_6 fs_54_10 fk_X13_233 ?_
  refine r_icmp_ge (tgt := 53) dX13_clashes_9 (by decide) (fun c1 => ?_) (fun c1 => ?_)
  · skip
    refine r_iload_n dX13_clashes_53 rfl ?_
    exact r_iret dX13_clashes_54 rfl (K1 c1)
  · skip
    refine r_iload_n dX13_clashes_12 rfl ?_
    refine r_iconst (v := 1) dX13_clashes_13 kI_1 ?_
    refine r_iadd dX13_clashes_14 ?_
    refine q_istore_n (lo' := [some (.ref (ad 54)), some (.int x1), some (.int x2), some (.int (x2 + 1))]) dX13_clashes_15 (by decide) rfl ?_
    exact (K2 c1)
theorem t_X13_clashes_16 {x1 : Int32} {x2 : Int32} {x3 : Int32} 
    (K1 : ((gI M 54 10) ≤ x3) → Fw l D ad kA mX13_clashes 4 [some (.ref (ad 54)), some (.int x1), some (.int (x2 + 1)), none] [] M Q)
    (K2 : (¬ ((gI M 54 10) ≤ x3)) → Cal l D ad kA mX13_isClash [.ref (ad 54), .int x2, .int x3] M (fun oc M2 => ∃ r : Int32, oc = .returned (some (.int r)) ∧ Fw l D ad kA mX13_clashes 31 [some (.ref (ad 54)), none, some (.int x2), some (.int x3)] [.int r, .int x1] M2 Q)) : Fw l D ad kA mX13_clashes 16 [some (.ref (ad 54)), some (.int x1), some (.int x2), some (.int x3)] [] M Q := by
  refine r_iload_n dX13_clashes_16 rfl ?_
  refine r_aload_n dX13_clashes_17 rfl ?_
  refine r_getI dX13_clashes_18 fs_54_10 fk_X13_233 ?_
  refine r_icmp_ge (tgt := 47) dX13_clashes_21 (by decide) (fun c1 => ?_) (fun c1 => ?_)
  · skip
    refine q_iinc (v := x2 + 1) (lo' := [some (.ref (ad 54)), some (.int x1), some (.int (x2 + 1)), some (.int x3)]) dX13_clashes_47 rfl (congrArg (fun q => x2 + q) kI_1) (by decide) rfl ?_
    refine r_goto (tgt := 4) dX13_clashes_50 (by decide) ?_
    exact q_weak (lo' := [some (.ref (ad 54)), some (.int x1), some (.int (x2 + 1)), none]) ⟨rfl, rfl, rfl, trivial⟩ (K1 c1)
  · skip
    refine r_iload_n dX13_clashes_24 rfl ?_
    refine r_aload_n dX13_clashes_25 rfl ?_
    refine r_iload_n dX13_clashes_26 rfl ?_
    refine r_iload_n dX13_clashes_27 rfl ?_
    exact r_callV (x := 54) (As := [.int x2, .int x3]) (rest := [.int x1]) dX13_clashes_28 mk_X13_374 mv_X13_isClash rm_X13_clashes_X13_isClash rfl rfl (by decide +kernel) (Nat.le_of_ble_eq_true rfl) (cal_i (lo' := [some (.ref (ad 54)), none, some (.int x2), some (.int x3)]) ⟨rfl, rfl, rfl, trivial⟩ (K2 c1))
theorem t_X13_clashes_31 {x2 : Int32} {x3 : Int32} {s2 : Int32} {s1 : Int32} 
    (K1 : Fw l D ad kA mX13_clashes 16 [some (.ref (ad 54)), some (.int (s1 + (if s2 = 0 then 0 else 1))), some (.int x2), some (.int (x3 + 1))] [] M Q) : Fw l D ad kA mX13_clashes 31 [some (.ref (ad 54)), none, some (.int x2), some (.int x3)] [.int s2, .int s1] M Q := by
  suffices hJ1 : Fw l D ad kA mX13_clashes 39 [some (.ref (ad 54)), none, some (.int x2), some (.int x3)] [.int (if s2 = 0 then 0 else 1), .int s1] M Q by
    refine r_if_eq (tgt := 38) dX13_clashes_31 (by decide) (fun c1 => ?_) (fun c1 => ?_)
    · skip
      refine r_iconst (v := 0) dX13_clashes_38 kI_0 ?_
      exact q_weak (lo' := [some (.ref (ad 54)), none, some (.int x2), some (.int x3)]) ⟨rfl, rfl, rfl, trivial⟩ (by have h9 := hJ1; simp only [if_pos c1] at h9; first | exact h9 | (simp only [if_pos c1]; exact h9))
    · skip
      refine r_iconst (v := 1) dX13_clashes_34 kI_1 ?_
      refine r_goto (tgt := 39) dX13_clashes_35 (by decide) ?_
      exact q_weak (lo' := [some (.ref (ad 54)), none, some (.int x2), some (.int x3)]) ⟨rfl, rfl, rfl, trivial⟩ (by have h9 := hJ1; simp only [if_neg c1] at h9; first | exact h9 | (simp only [if_neg c1]; exact h9))
  refine r_iadd dX13_clashes_39 ?_
  refine q_istore_n (lo' := [some (.ref (ad 54)), some (.int (s1 + (if s2 = 0 then 0 else 1))), some (.int x2), some (.int x3)]) dX13_clashes_40 (by decide) rfl ?_
  refine q_iinc (v := x3 + 1) (lo' := [some (.ref (ad 54)), some (.int (s1 + (if s2 = 0 then 0 else 1))), some (.int x2), some (.int (x3 + 1))]) dX13_clashes_41 rfl (congrArg (fun q => x3 + q) kI_1) (by decide) rfl ?_
  refine r_goto (tgt := 16) dX13_clashes_44 (by decide) ?_
  exact K1
theorem en_X13_clashes  (K : Fw l D ad kA mX13_clashes 0 [some (.ref (ad 54)), none, none, none] [] M Q) : Cal l D ad kA mX13_clashes [.ref (ad 54)] M Q := Cal.of (by decide) rfl rfl (Nat.le_of_ble_eq_true rfl) K
theorem t_X13_clash_0 {x1 : Int32} {x2 : Int32} 
    (K1 : Fw l D ad kA mX13_clash 5 [some (.ref (ad 54)), some (.int x1), some (.int x2), some (.int 0), some (.int 0), none] [] M Q) : Fw l D ad kA mX13_clash 0 [some (.ref (ad 54)), some (.int x1), some (.int x2), none, none, none] [] M Q := by
  refine r_iconst (v := 0) dX13_clash_0 kI_0 ?_
  refine q_istore_n (lo' := [some (.ref (ad 54)), some (.int x1), some (.int x2), some (.int 0), none, none]) dX13_clash_1 (by decide) rfl ?_
  refine r_iconst (v := 0) dX13_clash_2 kI_0 ?_
  refine q_istore (lo' := [some (.ref (ad 54)), some (.int x1), some (.int x2), some (.int 0), some (.int 0), none]) dX13_clash_3 (by decide) rfl ?_
  exact K1
theorem t_X13_clash_5 {x1 : Int32} {x2 : Int32} {x3 : Int32} {x4 : Int32} 
    (K1 : ((gI M 54 10) ≤ x4) → Q (.returned (some (.int (-1)))) M)
    (K2 : (¬ ((gI M 54 10) ≤ x4)) → Fw l D ad kA mX13_clash 20 [some (.ref (ad 54)), some (.int x1), some (.int x2), some (.int x3), some (.int x4), some (.int (x4 + 1))] [] M Q) : Fw l D ad kA mX13_clash 5 [some (.ref (ad 54)), some (.int x1), some (.int x2), some (.int x3), some (.int x4), none] [] M Q := by
  refine r_iload dX13_clash_5 rfl ?_
  refine r_aload_n dX13_clash_7 rfl ?_
  refine r_getI dX13_clash_8 fs_54_10 fk_X13_233 ?_
  refine r_icmp_ge (tgt := 115) dX13_clash_11 (by decide) (fun c1 => ?_) (fun c1 => ?_)
  · skip
    refine r_iconst (v := (-1)) dX13_clash_115 kI_m1 ?_
    exact r_iret dX13_clash_116 rfl (K1 c1)
  · skip
    refine r_iload dX13_clash_14 rfl ?_
    refine r_iconst (v := 1) dX13_clash_16 kI_1 ?_
    refine r_iadd dX13_clash_17 ?_
    refine q_istore (lo' := [some (.ref (ad 54)), some (.int x1), some (.int x2), some (.int x3), some (.int x4), some (.int (x4 + 1))]) dX13_clash_18 (by decide) rfl ?_
    exact (K2 c1)
theorem t_X13_clash_20 {x1 : Int32} {x2 : Int32} {x3 : Int32} {x4 : Int32} {x5 : Int32} 
    (K1 : ((gI M 54 10) ≤ x5) → Fw l D ad kA mX13_clash 5 [some (.ref (ad 54)), some (.int x1), some (.int x2), some (.int x3), some (.int (x4 + 1)), none] [] M Q)
    (K2 : (¬ ((gI M 54 10) ≤ x5)) → Cal l D ad kA mX13_isClash [.ref (ad 54), .int x4, .int x5] M (fun oc M2 => ∃ r : Int32, oc = .returned (some (.int r)) ∧ Fw l D ad kA mX13_clash 37 [some (.ref (ad 54)), some (.int x1), some (.int x2), some (.int x3), some (.int x4), some (.int x5)] [.int r] M2 Q)) : Fw l D ad kA mX13_clash 20 [some (.ref (ad 54)), some (.int x1), some (.int x2), some (.int x3), some (.int x4), some (.int x5)] [] M Q := by
  refine r_iload dX13_clash_20 rfl ?_
  refine r_aload_n dX13_clash_22 rfl ?_
  refine r_getI dX13_clash_23 fs_54_10 fk_X13_233 ?_
  refine r_icmp_ge (tgt := 109) dX13_clash_26 (by decide) (fun c1 => ?_) (fun c1 => ?_)
  · skip
    refine q_iinc (v := x4 + 1) (lo' := [some (.ref (ad 54)), some (.int x1), some (.int x2), some (.int x3), some (.int (x4 + 1)), some (.int x5)]) dX13_clash_109 rfl (congrArg (fun q => x4 + q) kI_1) (by decide) rfl ?_
    refine r_goto (tgt := 5) dX13_clash_112 (by decide) ?_
    exact q_weak (lo' := [some (.ref (ad 54)), some (.int x1), some (.int x2), some (.int x3), some (.int (x4 + 1)), none]) ⟨rfl, rfl, rfl, rfl, rfl, trivial⟩ (K1 c1)
  · skip
    refine r_aload_n dX13_clash_29 rfl ?_
    refine r_iload dX13_clash_30 rfl ?_
    refine r_iload dX13_clash_32 rfl ?_
    exact r_callV (x := 54) (As := [.int x4, .int x5]) (rest := []) dX13_clash_34 mk_X13_374 mv_X13_isClash rm_X13_clash_X13_isClash rfl rfl (by decide +kernel) (Nat.le_of_ble_eq_true rfl) (cal_i (lo' := [some (.ref (ad 54)), some (.int x1), some (.int x2), some (.int x3), some (.int x4), some (.int x5)]) ⟨rfl, rfl, rfl, rfl, rfl, rfl, trivial⟩ (K2 c1))
theorem t_X13_clash_37 {x1 : Int32} {x2 : Int32} {x3 : Int32} {x4 : Int32} {x5 : Int32} {s1 : Int32} 
    (K1 : (¬ (s1 = 0)) → (¬ (x3 = x1)) → Fw l D ad kA mX13_clash 20 [some (.ref (ad 54)), some (.int x1), some (.int x2), some (.int (x3 + 1)), some (.int x4), some (.int (x5 + 1))] [] M Q)
    (K2 : (¬ (s1 = 0)) → (x3 = x1) → (¬ (x2 = 0)) → (¬ (x2 = 1)) → (¬ (x2 = 2)) → Q (.returned (some (.int (-1)))) M)
    (K3 : (¬ (s1 = 0)) → (x3 = x1) → (¬ (x2 = 0)) → (¬ (x2 = 1)) → (x2 = 2) → Cal l D ad kA mX13_endOf [.ref (ad 54), .int x4] M (fun oc M2 => ∃ r : Int32, oc = .returned (some (.int r)) ∧ Fw l D ad kA mX13_clash 78 [some (.ref (ad 54)), none, none, none, none, some (.int x5)] [.int r] M2 Q))
    (K4 : (¬ (s1 = 0)) → (x3 = x1) → (¬ (x2 = 0)) → (x2 = 1) → Q (.returned (some (.int x5))) M)
    (K5 : (¬ (s1 = 0)) → (x3 = x1) → (x2 = 0) → Q (.returned (some (.int x4))) M)
    (K6 : (s1 = 0) → Fw l D ad kA mX13_clash 20 [some (.ref (ad 54)), some (.int x1), some (.int x2), some (.int x3), some (.int x4), some (.int (x5 + 1))] [] M Q) : Fw l D ad kA mX13_clash 37 [some (.ref (ad 54)), some (.int x1), some (.int x2), some (.int x3), some (.int x4), some (.int x5)] [.int s1] M Q := by
  refine r_if_ne (tgt := 43) dX13_clash_37 (by decide) (fun c1 => ?_) (fun c1 => ?_)
  · skip
    refine r_iload_n dX13_clash_43 rfl ?_
    refine r_iload_n dX13_clash_44 rfl ?_
    refine r_icmp_ne (tgt := 100) dX13_clash_45 (by decide) (fun c2 => ?_) (fun c2 => ?_)
    · skip
      refine q_iinc (v := x3 + 1) (lo' := [some (.ref (ad 54)), some (.int x1), some (.int x2), some (.int (x3 + 1)), some (.int x4), some (.int x5)]) dX13_clash_100 rfl (congrArg (fun q => x3 + q) kI_1) (by decide) rfl ?_
      refine q_iinc (v := x5 + 1) (lo' := [some (.ref (ad 54)), some (.int x1), some (.int x2), some (.int (x3 + 1)), some (.int x4), some (.int (x5 + 1))]) dX13_clash_103 rfl (congrArg (fun q => x5 + q) kI_1) (by decide) rfl ?_
      refine r_goto (tgt := 20) dX13_clash_106 (by decide) ?_
      exact (K1 c1 c2)
    · skip
      refine r_iload_n dX13_clash_48 rfl ?_
      refine r_if_ne (tgt := 57) dX13_clash_49 (by decide) (fun c3 => ?_) (fun c3 => ?_)
      · skip
        refine r_iload_n dX13_clash_57 rfl ?_
        refine r_iconst (v := 1) dX13_clash_58 kI_1 ?_
        refine r_icmp_ne (tgt := 67) dX13_clash_59 (by decide) (fun c4 => ?_) (fun c4 => ?_)
        · skip
          refine r_iload_n dX13_clash_67 rfl ?_
          refine r_iconst (v := 2) dX13_clash_68 kI_2 ?_
          refine r_icmp_ne (tgt := 98) dX13_clash_69 (by decide) (fun c5 => ?_) (fun c5 => ?_)
          · skip
            refine r_iconst (v := (-1)) dX13_clash_98 kI_m1 ?_
            exact r_iret dX13_clash_99 rfl (K2 c1 c2 c3 c4 c5)
          · skip
            refine r_aload_n dX13_clash_72 rfl ?_
            refine r_iload dX13_clash_73 rfl ?_
            exact r_callV (x := 54) (As := [.int x4]) (rest := []) dX13_clash_75 mk_X13_274 mv_X13_endOf rm_X13_clash_X13_endOf rfl rfl (by decide +kernel) (Nat.le_of_ble_eq_true rfl) (cal_i (lo' := [some (.ref (ad 54)), none, none, none, none, some (.int x5)]) ⟨rfl, rfl, trivial⟩ (K3 c1 c2 c3 c4 c5))
        · skip
          refine r_iload dX13_clash_62 rfl ?_
          refine r_goto (tgt := 99) dX13_clash_64 (by decide) ?_
          exact r_iret dX13_clash_99 rfl (K4 c1 c2 c3 c4)
      · skip
        refine r_iload dX13_clash_52 rfl ?_
        refine r_goto (tgt := 99) dX13_clash_54 (by decide) ?_
        exact r_iret dX13_clash_99 rfl (K5 c1 c2 c3)
  · skip
    refine r_goto (tgt := 103) dX13_clash_40 (by decide) ?_
    refine q_iinc (v := x5 + 1) (lo' := [some (.ref (ad 54)), some (.int x1), some (.int x2), some (.int x3), some (.int x4), some (.int (x5 + 1))]) dX13_clash_103 rfl (congrArg (fun q => x5 + q) kI_1) (by decide) rfl ?_
    refine r_goto (tgt := 20) dX13_clash_106 (by decide) ?_
    exact (K6 c1)
theorem t_X13_clash_78 {x5 : Int32} {s1 : Int32} 
    (K1 : Cal l D ad kA mX13_endOf [.ref (ad 54), .int x5] M (fun oc M2 => ∃ r : Int32, oc = .returned (some (.int r)) ∧ Fw l D ad kA mX13_clash 84 [some (.ref (ad 54)), none, none, none, none, some (.int x5)] [.int r, .int s1] M2 Q)) : Fw l D ad kA mX13_clash 78 [some (.ref (ad 54)), none, none, none, none, some (.int x5)] [.int s1] M Q := by
  refine r_aload_n dX13_clash_78 rfl ?_
  refine r_iload dX13_clash_79 rfl ?_
  exact r_callV (x := 54) (As := [.int x5]) (rest := [.int s1]) dX13_clash_81 mk_X13_274 mv_X13_endOf rm_X13_clash_X13_endOf rfl rfl (by decide +kernel) (Nat.le_of_ble_eq_true rfl) (cal_i (lo' := [some (.ref (ad 54)), none, none, none, none, some (.int x5)]) ⟨rfl, rfl, trivial⟩ K1)
theorem t_X13_clash_84 {x5 : Int32} {s2 : Int32} {s1 : Int32} 
    (g1 : vp_in x5 160)
    (K1 : Q (.returned (some (.int ((imin s1 s2) - (gI M 56 x5.toNatClampNeg))))) M) : Fw l D ad kA mX13_clash 84 [some (.ref (ad 54)), none, none, none, none, some (.int x5)] [.int s2, .int s1] M Q := by
  refine q_mmin dX13_clash_84 mk_X13_266 (by decide) (Nat.le_of_ble_eq_true rfl) ?_
  refine r_aload_n dX13_clash_87 rfl ?_
  refine r_getR dX13_clash_88 fs_54_12 fk_X13_125 ?_
  refine r_iload dX13_clash_91 rfl ?_
  refine r_iald dX13_clash_93 as_56 g1 ?_
  refine r_isub dX13_clash_94 ?_
  refine r_goto (tgt := 99) dX13_clash_95 (by decide) ?_
  exact r_iret dX13_clash_99 rfl K1
theorem en_X13_clash {x1 : Int32} {x2 : Int32} (K : Fw l D ad kA mX13_clash 0 [some (.ref (ad 54)), some (.int x1), some (.int x2), none, none, none] [] M Q) : Cal l D ad kA mX13_clash [.ref (ad 54), .int x1, .int x2] M Q := Cal.of (by decide) rfl rfl (Nat.le_of_ble_eq_true rfl) K
theorem t_X13_damp_0  
    (K1 : Fw l D ad kA mX13_damp 7 [some (.ref (ad 54)), some (.int 0), none] [] (sI M 54 32 0) Q) : Fw l D ad kA mX13_damp 0 [some (.ref (ad 54)), none, none] [] M Q := by
  refine r_aload_n dX13_damp_0 rfl ?_
  refine r_iconst (v := 0) dX13_damp_1 kI_0 ?_
  refine r_putZ dX13_damp_2 fs_54_32 fk_X13_240 fp_X13_32 (Or.inl rfl) ?_
  refine r_iconst (v := 0) dX13_damp_5 kI_0 ?_
  refine q_istore_n (lo' := [some (.ref (ad 54)), some (.int 0), none]) dX13_damp_6 (by decide) rfl ?_
  exact K1
theorem t_X13_damp_7 {x1 : Int32} 
    (g1 : (¬ ((gI M 54 10) ≤ x1)) → vp_in x1 160)
    (K1 : ((gI M 54 10) ≤ x1) → Fw l D ad kA mX13_damp 98 [some (.ref (ad 54)), some (.int 0), some (.int 0)] [] M Q)
    (K2 : (¬ ((gI M 54 10) ≤ x1)) → Fw l D ad kA mX13_damp 34 [some (.ref (ad 54)), some (.int x1), some (.int ((gI M 54 10) - 1))] [] (sI M 62 x1.toNatClampNeg (gI M 58 x1.toNatClampNeg)) Q) : Fw l D ad kA mX13_damp 7 [some (.ref (ad 54)), some (.int x1), none] [] M Q := by
  refine r_iload_n dX13_damp_7 rfl ?_
  refine r_aload_n dX13_damp_8 rfl ?_
  refine r_getI dX13_damp_9 fs_54_10 fk_X13_233 ?_
  refine r_icmp_ge (tgt := 94) dX13_damp_12 (by decide) (fun c1 => ?_) (fun c1 => ?_)
  · skip
    refine r_iconst (v := 0) dX13_damp_94 kI_0 ?_
    refine q_istore_n (lo' := [some (.ref (ad 54)), some (.int 0), none]) dX13_damp_95 (by decide) rfl ?_
    refine r_iconst (v := 0) dX13_damp_96 kI_0 ?_
    refine q_istore_n (lo' := [some (.ref (ad 54)), some (.int 0), some (.int 0)]) dX13_damp_97 (by decide) rfl ?_
    exact (K1 c1)
  · skip
    refine r_aload_n dX13_damp_15 rfl ?_
    refine r_getR dX13_damp_16 fs_54_18 fk_X13_107 ?_
    refine r_iload_n dX13_damp_19 rfl ?_
    refine r_aload_n dX13_damp_20 rfl ?_
    refine r_getR dX13_damp_21 fs_54_14 fk_X13_131 ?_
    refine r_iload_n dX13_damp_24 rfl ?_
    refine r_iald dX13_damp_25 as_58 (g1 c1) ?_
    refine r_iast dX13_damp_26 as_62 (g1 c1) ?_
    refine r_aload_n dX13_damp_27 rfl ?_
    refine q_getI (v := gI M 54 10) dX13_damp_28 fs_54_10 fk_X13_233 rfl ?_
    refine r_iconst (v := 1) dX13_damp_31 kI_1 ?_
    refine r_isub dX13_damp_32 ?_
    refine q_istore_n (lo' := [some (.ref (ad 54)), some (.int x1), some (.int ((gI M 54 10) - 1))]) dX13_damp_33 (by decide) rfl ?_
    exact (K2 c1)
theorem t_X13_damp_98 {x1 : Int32} {x2 : Int32} 
    (g1 : (¬ ((gI M 54 10) ≤ x2)) → vp_in x2 160)
    (K1 : ((gI M 54 10) ≤ x2) → Q (.returned (some (.int x1))) M)
    (K2 : (¬ ((gI M 54 10) ≤ x2)) → Fw l D ad kA mX13_damp 98 [some (.ref (ad 54)), some (.int (x1 + ((gI M 58 x2.toNatClampNeg) - (gI M 62 x2.toNatClampNeg)))), some (.int (x2 + 1))] [] (sI M 58 x2.toNatClampNeg (gI M 62 x2.toNatClampNeg)) Q) : Fw l D ad kA mX13_damp 98 [some (.ref (ad 54)), some (.int x1), some (.int x2)] [] M Q := by
  refine r_iload_n dX13_damp_98 rfl ?_
  refine r_aload_n dX13_damp_99 rfl ?_
  refine r_getI dX13_damp_100 fs_54_10 fk_X13_233 ?_
  refine r_icmp_ge (tgt := 140) dX13_damp_103 (by decide) (fun c1 => ?_) (fun c1 => ?_)
  · skip
    refine r_iload_n dX13_damp_140 rfl ?_
    exact r_iret dX13_damp_141 rfl (K1 c1)
  · skip
    refine r_iload_n dX13_damp_106 rfl ?_
    refine r_aload_n dX13_damp_107 rfl ?_
    refine r_getR dX13_damp_108 fs_54_14 fk_X13_131 ?_
    refine r_iload_n dX13_damp_111 rfl ?_
    refine r_iald dX13_damp_112 as_58 (g1 c1) ?_
    refine r_aload_n dX13_damp_113 rfl ?_
    refine r_getR dX13_damp_114 fs_54_18 fk_X13_107 ?_
    refine r_iload_n dX13_damp_117 rfl ?_
    refine r_iald dX13_damp_118 as_62 (g1 c1) ?_
    refine r_isub dX13_damp_119 ?_
    refine r_iadd dX13_damp_120 ?_
    refine q_istore_n (lo' := [some (.ref (ad 54)), some (.int (x1 + ((gI M 58 x2.toNatClampNeg) - (gI M 62 x2.toNatClampNeg)))), some (.int x2)]) dX13_damp_121 (by decide) rfl ?_
    refine r_aload_n dX13_damp_122 rfl ?_
    refine r_getR dX13_damp_123 fs_54_14 fk_X13_131 ?_
    refine r_iload_n dX13_damp_126 rfl ?_
    refine r_aload_n dX13_damp_127 rfl ?_
    refine r_getR dX13_damp_128 fs_54_18 fk_X13_107 ?_
    refine r_iload_n dX13_damp_131 rfl ?_
    refine r_iald dX13_damp_132 as_62 (g1 c1) ?_
    refine r_iast dX13_damp_133 as_58 (g1 c1) ?_
    refine q_iinc (v := x2 + 1) (lo' := [some (.ref (ad 54)), some (.int (x1 + ((gI M 58 x2.toNatClampNeg) - (gI M 62 x2.toNatClampNeg)))), some (.int (x2 + 1))]) dX13_damp_134 rfl (congrArg (fun q => x2 + q) kI_1) (by decide) rfl ?_
    refine r_goto (tgt := 98) dX13_damp_137 (by decide) ?_
    exact (K2 c1)
theorem t_X13_damp_34 {x1 : Int32} {x2 : Int32} 
    (K1 : (x2 ≤ x1) → Fw l D ad kA mX13_damp 7 [some (.ref (ad 54)), some (.int (x1 + 1)), none] [] M Q)
    (K2 : (¬ (x2 ≤ x1)) → Cal l D ad kA mX13_isClash [.ref (ad 54), .int x1, .int x2] M (fun oc M2 => ∃ r : Int32, oc = .returned (some (.int r)) ∧ Fw l D ad kA mX13_damp 45 [some (.ref (ad 54)), some (.int x1), some (.int x2)] [.int r] M2 Q)) : Fw l D ad kA mX13_damp 34 [some (.ref (ad 54)), some (.int x1), some (.int x2)] [] M Q := by
  refine r_iload_n dX13_damp_34 rfl ?_
  refine r_iload_n dX13_damp_35 rfl ?_
  refine r_icmp_le (tgt := 88) dX13_damp_36 (by decide) (fun c1 => ?_) (fun c1 => ?_)
  · skip
    refine q_iinc (v := x1 + 1) (lo' := [some (.ref (ad 54)), some (.int (x1 + 1)), some (.int x2)]) dX13_damp_88 rfl (congrArg (fun q => x1 + q) kI_1) (by decide) rfl ?_
    refine r_goto (tgt := 7) dX13_damp_91 (by decide) ?_
    exact q_weak (lo' := [some (.ref (ad 54)), some (.int (x1 + 1)), none]) ⟨rfl, rfl, trivial⟩ (K1 c1)
  · skip
    refine r_aload_n dX13_damp_39 rfl ?_
    refine r_iload_n dX13_damp_40 rfl ?_
    refine r_iload_n dX13_damp_41 rfl ?_
    exact r_callV (x := 54) (As := [.int x1, .int x2]) (rest := []) dX13_damp_42 mk_X13_374 mv_X13_isClash rm_X13_damp_X13_isClash rfl rfl (by decide +kernel) (Nat.le_of_ble_eq_true rfl) (cal_i (lo' := [some (.ref (ad 54)), some (.int x1), some (.int x2)]) ⟨rfl, rfl, rfl, trivial⟩ (K2 c1))
theorem t_X13_damp_45 {x1 : Int32} {x2 : Int32} {s1 : Int32} 
    (g1 : (¬ (s1 = 0)) → vp_in x2 160)
    (g2 : (¬ (s1 = 0)) → vp_in x1 160)
    (K1 : (s1 = 0) → Fw l D ad kA mX13_damp 34 [some (.ref (ad 54)), some (.int x1), some (.int (x2 + (-1)))] [] M Q)
    (K2 : (¬ (s1 = 0)) → ((gI M 56 x2.toNatClampNeg) ≤ (gI M 56 x1.toNatClampNeg)) → Fw l D ad kA mX13_damp 34 [some (.ref (ad 54)), some (.int x1), some (.int (x2 + (-1)))] [] M Q)
    (K3 : (¬ (s1 = 0)) → (¬ ((gI M 56 x2.toNatClampNeg) ≤ (gI M 56 x1.toNatClampNeg))) → Fw l D ad kA mX13_damp 34 [some (.ref (ad 54)), some (.int x1), some (.int (x2 + (-1)))] [] (sI M 62 x1.toNatClampNeg ((gI M 56 x2.toNatClampNeg) - (gI M 56 x1.toNatClampNeg))) Q) : Fw l D ad kA mX13_damp 45 [some (.ref (ad 54)), some (.int x1), some (.int x2)] [.int s1] M Q := by
  refine r_if_eq (tgt := 82) dX13_damp_45 (by decide) (fun c1 => ?_) (fun c1 => ?_)
  · skip
    refine q_iinc (v := x2 + (-1)) (lo' := [some (.ref (ad 54)), some (.int x1), some (.int (x2 + (-1)))]) dX13_damp_82 rfl (congrArg (fun q => x2 + q) kI_m1) (by decide) rfl ?_
    refine r_goto (tgt := 34) dX13_damp_85 (by decide) ?_
    exact (K1 c1)
  · skip
    refine r_aload_n dX13_damp_48 rfl ?_
    refine r_getR dX13_damp_49 fs_54_12 fk_X13_125 ?_
    refine r_iload_n dX13_damp_52 rfl ?_
    refine r_iald dX13_damp_53 as_56 (g1 c1) ?_
    refine r_aload_n dX13_damp_54 rfl ?_
    refine r_getR dX13_damp_55 fs_54_12 fk_X13_125 ?_
    refine r_iload_n dX13_damp_58 rfl ?_
    refine r_iald dX13_damp_59 as_56 (g2 c1) ?_
    refine r_icmp_le (tgt := 82) dX13_damp_60 (by decide) (fun c2 => ?_) (fun c2 => ?_)
    · skip
      refine q_iinc (v := x2 + (-1)) (lo' := [some (.ref (ad 54)), some (.int x1), some (.int (x2 + (-1)))]) dX13_damp_82 rfl (congrArg (fun q => x2 + q) kI_m1) (by decide) rfl ?_
      refine r_goto (tgt := 34) dX13_damp_85 (by decide) ?_
      exact (K2 c1 c2)
    · skip
      refine r_aload_n dX13_damp_63 rfl ?_
      refine r_getR dX13_damp_64 fs_54_18 fk_X13_107 ?_
      refine r_iload_n dX13_damp_67 rfl ?_
      refine r_aload_n dX13_damp_68 rfl ?_
      refine r_getR dX13_damp_69 fs_54_12 fk_X13_125 ?_
      refine r_iload_n dX13_damp_72 rfl ?_
      refine r_iald dX13_damp_73 as_56 (g1 c1) ?_
      refine r_aload_n dX13_damp_74 rfl ?_
      refine r_getR dX13_damp_75 fs_54_12 fk_X13_125 ?_
      refine r_iload_n dX13_damp_78 rfl ?_
      refine r_iald dX13_damp_79 as_56 (g2 c1) ?_
      refine r_isub dX13_damp_80 ?_
      refine r_iast dX13_damp_81 as_62 (g2 c1) ?_
      refine q_iinc (v := x2 + (-1)) (lo' := [some (.ref (ad 54)), some (.int x1), some (.int (x2 + (-1)))]) dX13_damp_82 rfl (congrArg (fun q => x2 + q) kI_m1) (by decide) rfl ?_
      refine r_goto (tgt := 34) dX13_damp_85 (by decide) ?_
      exact (K3 c1 c2)
theorem en_X13_damp  (K : Fw l D ad kA mX13_damp 0 [some (.ref (ad 54)), none, none] [] M Q) : Cal l D ad kA mX13_damp [.ref (ad 54)] M Q := Cal.of (by decide) rfl rfl (Nat.le_of_ble_eq_true rfl) K
end W_model4
