/-! Hands: decode rows, links, walks from cut to cut (printed by wip/gen) -/
theorem dX3_stepForth_0 : decode cX3_stepForth 0 = .ok (.aload_n 0, 1) := by decide +kernel
theorem dX3_stepForth_1 : decode cX3_stepForth 1 = .ok (.getfield 15, 3) := by decide +kernel
theorem dX3_stepForth_4 : decode cX3_stepForth 4 = .ok (.iload_n 1, 1) := by decide +kernel
theorem dX3_stepForth_5 : decode cX3_stepForth 5 = .ok (.iaload, 1) := by decide +kernel
theorem dX3_stepForth_6 : decode cX3_stepForth 6 = .ok (.istore_n 2, 1) := by decide +kernel
theorem dX3_stepForth_7 : decode cX3_stepForth 7 = .ok (.aload_n 0, 1) := by decide +kernel
theorem dX3_stepForth_8 : decode cX3_stepForth 8 = .ok (.iload_n 1, 1) := by decide +kernel
theorem dX3_stepForth_9 : decode cX3_stepForth 9 = .ok (.invokevirtual 100, 3) := by decide +kernel
theorem dX3_stepForth_12 : decode cX3_stepForth 12 = .ok (.istore_n 3, 1) := by decide +kernel
theorem dX3_stepForth_13 : decode cX3_stepForth 13 = .ok (.ldc 48, 2) := by decide +kernel
theorem dX3_stepForth_15 : decode cX3_stepForth 15 = .ok (.istore 4, 2) := by decide +kernel
theorem dX3_stepForth_17 : decode cX3_stepForth 17 = .ok (.iconst 0, 1) := by decide +kernel
theorem dX3_stepForth_18 : decode cX3_stepForth 18 = .ok (.istore 5, 2) := by decide +kernel
theorem dX3_stepForth_20 : decode cX3_stepForth 20 = .ok (.iload 5, 2) := by decide +kernel
theorem dX3_stepForth_22 : decode cX3_stepForth 22 = .ok (.iload_n 1, 1) := by decide +kernel
theorem dX3_stepForth_23 : decode cX3_stepForth 23 = .ok (.invokestatic 106, 3) := by decide +kernel
theorem dX3_stepForth_26 : decode cX3_stepForth 26 = .ok (.if_icmp .ge 68, 3) := by decide +kernel
theorem dX3_stepForth_29 : decode cX3_stepForth 29 = .ok (.aload_n 0, 1) := by decide +kernel
theorem dX3_stepForth_30 : decode cX3_stepForth 30 = .ok (.iload 5, 2) := by decide +kernel
theorem dX3_stepForth_32 : decode cX3_stepForth 32 = .ok (.invokevirtual 100, 3) := by decide +kernel
theorem dX3_stepForth_35 : decode cX3_stepForth 35 = .ok (.istore 6, 2) := by decide +kernel
theorem dX3_stepForth_37 : decode cX3_stepForth 37 = .ok (.iload 4, 2) := by decide +kernel
theorem dX3_stepForth_39 : decode cX3_stepForth 39 = .ok (.aload_n 0, 1) := by decide +kernel
theorem dX3_stepForth_40 : decode cX3_stepForth 40 = .ok (.getfield 21, 3) := by decide +kernel
theorem dX3_stepForth_43 : decode cX3_stepForth 43 = .ok (.iload 5, 2) := by decide +kernel
theorem dX3_stepForth_45 : decode cX3_stepForth 45 = .ok (.iaload, 1) := by decide +kernel
theorem dX3_stepForth_46 : decode cX3_stepForth 46 = .ok (.aload_n 0, 1) := by decide +kernel
theorem dX3_stepForth_47 : decode cX3_stepForth 47 = .ok (.iload 6, 2) := by decide +kernel
theorem dX3_stepForth_49 : decode cX3_stepForth 49 = .ok (.iload_n 3, 1) := by decide +kernel
theorem dX3_stepForth_50 : decode cX3_stepForth 50 = .ok (.iload_n 2, 1) := by decide +kernel
theorem dX3_stepForth_51 : decode cX3_stepForth 51 = .ok (.invokevirtual 109, 3) := by decide +kernel
theorem dX3_stepForth_54 : decode cX3_stepForth 54 = .ok (.iadd, 1) := by decide +kernel
theorem dX3_stepForth_55 : decode cX3_stepForth 55 = .ok (.invokestatic 103, 3) := by decide +kernel
theorem dX3_stepForth_58 : decode cX3_stepForth 58 = .ok (.istore 4, 2) := by decide +kernel
theorem dX3_stepForth_60 : decode cX3_stepForth 60 = .ok (.aload_n 0, 1) := by decide +kernel
theorem dX3_stepForth_61 : decode cX3_stepForth 61 = .ok (.getfield 21, 3) := by decide +kernel
theorem dX3_stepForth_64 : decode cX3_stepForth 64 = .ok (.iload 5, 2) := by decide +kernel
theorem dX3_stepForth_66 : decode cX3_stepForth 66 = .ok (.ldc 48, 2) := by decide +kernel
theorem dX3_stepForth_68 : decode cX3_stepForth 68 = .ok (.aload_n 0, 1) := by decide +kernel
theorem dX3_stepForth_69 : decode cX3_stepForth 69 = .ok (.getfield 21, 3) := by decide +kernel
theorem dX3_stepForth_72 : decode cX3_stepForth 72 = .ok (.iload 5, 2) := by decide +kernel
theorem dX3_stepForth_74 : decode cX3_stepForth 74 = .ok (.iaload, 1) := by decide +kernel
theorem dX3_stepForth_75 : decode cX3_stepForth 75 = .ok (.aload_n 0, 1) := by decide +kernel
theorem dX3_stepForth_76 : decode cX3_stepForth 76 = .ok (.iload_n 3, 1) := by decide +kernel
theorem dX3_stepForth_77 : decode cX3_stepForth 77 = .ok (.iload 6, 2) := by decide +kernel
theorem dX3_stepForth_79 : decode cX3_stepForth 79 = .ok (.iload_n 2, 1) := by decide +kernel
theorem dX3_stepForth_80 : decode cX3_stepForth 80 = .ok (.invokevirtual 109, 3) := by decide +kernel
theorem dX3_stepForth_83 : decode cX3_stepForth 83 = .ok (.iadd, 1) := by decide +kernel
theorem dX3_stepForth_84 : decode cX3_stepForth 84 = .ok (.invokestatic 103, 3) := by decide +kernel
theorem dX3_stepForth_87 : decode cX3_stepForth 87 = .ok (.iastore, 1) := by decide +kernel
theorem dX3_stepForth_88 : decode cX3_stepForth 88 = .ok (.iinc 5 1, 3) := by decide +kernel
theorem dX3_stepForth_91 : decode cX3_stepForth 91 = .ok (.goto (-71), 3) := by decide +kernel
theorem dX3_stepForth_94 : decode cX3_stepForth 94 = .ok (.iload_n 1, 1) := by decide +kernel
theorem dX3_stepForth_95 : decode cX3_stepForth 95 = .ok (.ifCond .le 11, 3) := by decide +kernel
theorem dX3_stepForth_98 : decode cX3_stepForth 98 = .ok (.aload_n 0, 1) := by decide +kernel
theorem dX3_stepForth_99 : decode cX3_stepForth 99 = .ok (.getfield 21, 3) := by decide +kernel
theorem dX3_stepForth_102 : decode cX3_stepForth 102 = .ok (.iload_n 1, 1) := by decide +kernel
theorem dX3_stepForth_103 : decode cX3_stepForth 103 = .ok (.iload 4, 2) := by decide +kernel
theorem dX3_stepForth_105 : decode cX3_stepForth 105 = .ok (.iastore, 1) := by decide +kernel
theorem dX3_stepForth_106 : decode cX3_stepForth 106 = .ok (.return_, 1) := by decide +kernel
theorem dX3_takesSkipping_0 : decode cX3_takesSkipping 0 = .ok (.aload_n 0, 1) := by decide +kernel
theorem dX3_takesSkipping_1 : decode cX3_takesSkipping 1 = .ok (.iload_n 1, 1) := by decide +kernel
theorem dX3_takesSkipping_2 : decode cX3_takesSkipping 2 = .ok (.invokevirtual 100, 3) := by decide +kernel
theorem dX3_takesSkipping_5 : decode cX3_takesSkipping 5 = .ok (.istore_n 2, 1) := by decide +kernel
theorem dX3_takesSkipping_6 : decode cX3_takesSkipping 6 = .ok (.ldc 48, 2) := by decide +kernel
theorem dX3_takesSkipping_8 : decode cX3_takesSkipping 8 = .ok (.istore_n 3, 1) := by decide +kernel
theorem dX3_takesSkipping_9 : decode cX3_takesSkipping 9 = .ok (.iconst 0, 1) := by decide +kernel
theorem dX3_takesSkipping_10 : decode cX3_takesSkipping 10 = .ok (.istore 4, 2) := by decide +kernel
theorem dX3_takesSkipping_12 : decode cX3_takesSkipping 12 = .ok (.iload 4, 2) := by decide +kernel
theorem dX3_takesSkipping_14 : decode cX3_takesSkipping 14 = .ok (.iload_n 1, 1) := by decide +kernel
theorem dX3_takesSkipping_15 : decode cX3_takesSkipping 15 = .ok (.invokestatic 106, 3) := by decide +kernel
theorem dX3_takesSkipping_18 : decode cX3_takesSkipping 18 = .ok (.if_icmp .ge 105, 3) := by decide +kernel
theorem dX3_takesSkipping_21 : decode cX3_takesSkipping 21 = .ok (.aload_n 0, 1) := by decide +kernel
theorem dX3_takesSkipping_22 : decode cX3_takesSkipping 22 = .ok (.iload 4, 2) := by decide +kernel
theorem dX3_takesSkipping_24 : decode cX3_takesSkipping 24 = .ok (.invokevirtual 100, 3) := by decide +kernel
theorem dX3_takesSkipping_27 : decode cX3_takesSkipping 27 = .ok (.istore 5, 2) := by decide +kernel
theorem dX3_takesSkipping_29 : decode cX3_takesSkipping 29 = .ok (.iconst 0, 1) := by decide +kernel
theorem dX3_takesSkipping_30 : decode cX3_takesSkipping 30 = .ok (.istore 6, 2) := by decide +kernel
theorem dX3_takesSkipping_32 : decode cX3_takesSkipping 32 = .ok (.iload_n 1, 1) := by decide +kernel
theorem dX3_takesSkipping_33 : decode cX3_takesSkipping 33 = .ok (.iconst 1, 1) := by decide +kernel
theorem dX3_takesSkipping_34 : decode cX3_takesSkipping 34 = .ok (.iadd, 1) := by decide +kernel
theorem dX3_takesSkipping_35 : decode cX3_takesSkipping 35 = .ok (.aload_n 0, 1) := by decide +kernel
theorem dX3_takesSkipping_36 : decode cX3_takesSkipping 36 = .ok (.getfield 52, 3) := by decide +kernel
theorem dX3_takesSkipping_39 : decode cX3_takesSkipping 39 = .ok (.if_icmp .ge 63, 3) := by decide +kernel
theorem dX3_takesSkipping_42 : decode cX3_takesSkipping 42 = .ok (.aload_n 0, 1) := by decide +kernel
theorem dX3_takesSkipping_43 : decode cX3_takesSkipping 43 = .ok (.getfield 15, 3) := by decide +kernel
theorem dX3_takesSkipping_46 : decode cX3_takesSkipping 46 = .ok (.iload_n 1, 1) := by decide +kernel
theorem dX3_takesSkipping_47 : decode cX3_takesSkipping 47 = .ok (.iconst 1, 1) := by decide +kernel
theorem dX3_takesSkipping_48 : decode cX3_takesSkipping 48 = .ok (.iadd, 1) := by decide +kernel
theorem dX3_takesSkipping_49 : decode cX3_takesSkipping 49 = .ok (.iaload, 1) := by decide +kernel
theorem dX3_takesSkipping_50 : decode cX3_takesSkipping 50 = .ok (.istore 7, 2) := by decide +kernel
theorem dX3_takesSkipping_52 : decode cX3_takesSkipping 52 = .ok (.aload_n 0, 1) := by decide +kernel
theorem dX3_takesSkipping_53 : decode cX3_takesSkipping 53 = .ok (.iload_n 2, 1) := by decide +kernel
theorem dX3_takesSkipping_54 : decode cX3_takesSkipping 54 = .ok (.iload 5, 2) := by decide +kernel
theorem dX3_takesSkipping_56 : decode cX3_takesSkipping 56 = .ok (.iload 7, 2) := by decide +kernel
theorem dX3_takesSkipping_58 : decode cX3_takesSkipping 58 = .ok (.invokevirtual 109, 3) := by decide +kernel
theorem dX3_takesSkipping_61 : decode cX3_takesSkipping 61 = .ok (.aload_n 0, 1) := by decide +kernel
theorem dX3_takesSkipping_62 : decode cX3_takesSkipping 62 = .ok (.iload_n 1, 1) := by decide +kernel
theorem dX3_takesSkipping_63 : decode cX3_takesSkipping 63 = .ok (.iconst 2, 1) := by decide +kernel
theorem dX3_takesSkipping_64 : decode cX3_takesSkipping 64 = .ok (.iadd, 1) := by decide +kernel
theorem dX3_takesSkipping_65 : decode cX3_takesSkipping 65 = .ok (.iload 4, 2) := by decide +kernel
theorem dX3_takesSkipping_67 : decode cX3_takesSkipping 67 = .ok (.invokevirtual 85, 3) := by decide +kernel
theorem dX3_takesSkipping_70 : decode cX3_takesSkipping 70 = .ok (.iadd, 1) := by decide +kernel
theorem dX3_takesSkipping_71 : decode cX3_takesSkipping 71 = .ok (.istore 8, 2) := by decide +kernel
theorem dX3_takesSkipping_73 : decode cX3_takesSkipping 73 = .ok (.aload_n 0, 1) := by decide +kernel
theorem dX3_takesSkipping_74 : decode cX3_takesSkipping 74 = .ok (.iload 5, 2) := by decide +kernel
theorem dX3_takesSkipping_76 : decode cX3_takesSkipping 76 = .ok (.iload_n 2, 1) := by decide +kernel
theorem dX3_takesSkipping_77 : decode cX3_takesSkipping 77 = .ok (.iload 7, 2) := by decide +kernel
theorem dX3_takesSkipping_79 : decode cX3_takesSkipping 79 = .ok (.invokevirtual 109, 3) := by decide +kernel
theorem dX3_takesSkipping_82 : decode cX3_takesSkipping 82 = .ok (.aload_n 0, 1) := by decide +kernel
theorem dX3_takesSkipping_83 : decode cX3_takesSkipping 83 = .ok (.iload_n 1, 1) := by decide +kernel
theorem dX3_takesSkipping_84 : decode cX3_takesSkipping 84 = .ok (.iconst 2, 1) := by decide +kernel
theorem dX3_takesSkipping_85 : decode cX3_takesSkipping 85 = .ok (.iadd, 1) := by decide +kernel
theorem dX3_takesSkipping_86 : decode cX3_takesSkipping 86 = .ok (.iload_n 1, 1) := by decide +kernel
theorem dX3_takesSkipping_87 : decode cX3_takesSkipping 87 = .ok (.invokevirtual 85, 3) := by decide +kernel
theorem dX3_takesSkipping_90 : decode cX3_takesSkipping 90 = .ok (.iadd, 1) := by decide +kernel
theorem dX3_takesSkipping_91 : decode cX3_takesSkipping 91 = .ok (.istore 9, 2) := by decide +kernel
theorem dX3_takesSkipping_93 : decode cX3_takesSkipping 93 = .ok (.iload 8, 2) := by decide +kernel
theorem dX3_takesSkipping_95 : decode cX3_takesSkipping 95 = .ok (.iload 9, 2) := by decide +kernel
theorem dX3_takesSkipping_97 : decode cX3_takesSkipping 97 = .ok (.invokestatic 103, 3) := by decide +kernel
theorem dX3_takesSkipping_100 : decode cX3_takesSkipping 100 = .ok (.istore 6, 2) := by decide +kernel
theorem dX3_takesSkipping_102 : decode cX3_takesSkipping 102 = .ok (.iload_n 3, 1) := by decide +kernel
theorem dX3_takesSkipping_103 : decode cX3_takesSkipping 103 = .ok (.aload_n 0, 1) := by decide +kernel
theorem dX3_takesSkipping_104 : decode cX3_takesSkipping 104 = .ok (.getfield 21, 3) := by decide +kernel
theorem dX3_takesSkipping_107 : decode cX3_takesSkipping 107 = .ok (.iload 4, 2) := by decide +kernel
theorem dX3_takesSkipping_109 : decode cX3_takesSkipping 109 = .ok (.iaload, 1) := by decide +kernel
theorem dX3_takesSkipping_110 : decode cX3_takesSkipping 110 = .ok (.iload 6, 2) := by decide +kernel
theorem dX3_takesSkipping_112 : decode cX3_takesSkipping 112 = .ok (.iadd, 1) := by decide +kernel
theorem dX3_takesSkipping_113 : decode cX3_takesSkipping 113 = .ok (.invokestatic 103, 3) := by decide +kernel
theorem dX3_takesSkipping_116 : decode cX3_takesSkipping 116 = .ok (.istore_n 3, 1) := by decide +kernel
theorem dX3_takesSkipping_117 : decode cX3_takesSkipping 117 = .ok (.iinc 4 1, 3) := by decide +kernel
theorem dX3_takesSkipping_120 : decode cX3_takesSkipping 120 = .ok (.goto (-108), 3) := by decide +kernel
theorem dX3_takesSkipping_123 : decode cX3_takesSkipping 123 = .ok (.iload_n 3, 1) := by decide +kernel
theorem dX3_takesSkipping_124 : decode cX3_takesSkipping 124 = .ok (.ireturn, 1) := by decide +kernel
theorem dX3_restBeside_0 : decode cX3_restBeside 0 = .ok (.iconst 0, 1) := by decide +kernel
theorem dX3_restBeside_1 : decode cX3_restBeside 1 = .ok (.istore_n 3, 1) := by decide +kernel
theorem dX3_restBeside_2 : decode cX3_restBeside 2 = .ok (.aload_n 0, 1) := by decide +kernel
theorem dX3_restBeside_3 : decode cX3_restBeside 3 = .ok (.getfield 52, 3) := by decide +kernel
theorem dX3_restBeside_6 : decode cX3_restBeside 6 = .ok (.iconst 1, 1) := by decide +kernel
theorem dX3_restBeside_7 : decode cX3_restBeside 7 = .ok (.isub, 1) := by decide +kernel
theorem dX3_restBeside_8 : decode cX3_restBeside 8 = .ok (.istore 4, 2) := by decide +kernel
theorem dX3_restBeside_10 : decode cX3_restBeside 10 = .ok (.iload 4, 2) := by decide +kernel
theorem dX3_restBeside_12 : decode cX3_restBeside 12 = .ok (.iload_n 2, 1) := by decide +kernel
theorem dX3_restBeside_13 : decode cX3_restBeside 13 = .ok (.if_icmp .lt 81, 3) := by decide +kernel
theorem dX3_restBeside_16 : decode cX3_restBeside 16 = .ok (.aload_n 0, 1) := by decide +kernel
theorem dX3_restBeside_17 : decode cX3_restBeside 17 = .ok (.aload_n 0, 1) := by decide +kernel
theorem dX3_restBeside_18 : decode cX3_restBeside 18 = .ok (.getfield 15, 3) := by decide +kernel
theorem dX3_restBeside_21 : decode cX3_restBeside 21 = .ok (.iload 4, 2) := by decide +kernel
theorem dX3_restBeside_23 : decode cX3_restBeside 23 = .ok (.iconst 1, 1) := by decide +kernel
theorem dX3_restBeside_24 : decode cX3_restBeside 24 = .ok (.isub, 1) := by decide +kernel
theorem dX3_restBeside_25 : decode cX3_restBeside 25 = .ok (.iaload, 1) := by decide +kernel
theorem dX3_restBeside_26 : decode cX3_restBeside 26 = .ok (.iload_n 1, 1) := by decide +kernel
theorem dX3_restBeside_27 : decode cX3_restBeside 27 = .ok (.aload_n 0, 1) := by decide +kernel
theorem dX3_restBeside_28 : decode cX3_restBeside 28 = .ok (.getfield 15, 3) := by decide +kernel
theorem dX3_restBeside_31 : decode cX3_restBeside 31 = .ok (.iload 4, 2) := by decide +kernel
theorem dX3_restBeside_33 : decode cX3_restBeside 33 = .ok (.iaload, 1) := by decide +kernel
theorem dX3_restBeside_34 : decode cX3_restBeside 34 = .ok (.invokevirtual 109, 3) := by decide +kernel
theorem dX3_restBeside_37 : decode cX3_restBeside 37 = .ok (.iload_n 3, 1) := by decide +kernel
theorem dX3_restBeside_38 : decode cX3_restBeside 38 = .ok (.iadd, 1) := by decide +kernel
theorem dX3_restBeside_39 : decode cX3_restBeside 39 = .ok (.istore 5, 2) := by decide +kernel
theorem dX3_restBeside_41 : decode cX3_restBeside 41 = .ok (.aload_n 0, 1) := by decide +kernel
theorem dX3_restBeside_42 : decode cX3_restBeside 42 = .ok (.iload_n 1, 1) := by decide +kernel
theorem dX3_restBeside_43 : decode cX3_restBeside 43 = .ok (.aload_n 0, 1) := by decide +kernel
theorem dX3_restBeside_44 : decode cX3_restBeside 44 = .ok (.getfield 15, 3) := by decide +kernel
theorem dX3_restBeside_47 : decode cX3_restBeside 47 = .ok (.iload 4, 2) := by decide +kernel
theorem dX3_restBeside_49 : decode cX3_restBeside 49 = .ok (.iconst 1, 1) := by decide +kernel
theorem dX3_restBeside_50 : decode cX3_restBeside 50 = .ok (.isub, 1) := by decide +kernel
theorem dX3_restBeside_51 : decode cX3_restBeside 51 = .ok (.iaload, 1) := by decide +kernel
theorem dX3_restBeside_52 : decode cX3_restBeside 52 = .ok (.aload_n 0, 1) := by decide +kernel
theorem dX3_restBeside_53 : decode cX3_restBeside 53 = .ok (.getfield 15, 3) := by decide +kernel
theorem dX3_restBeside_56 : decode cX3_restBeside 56 = .ok (.iload 4, 2) := by decide +kernel
theorem dX3_restBeside_58 : decode cX3_restBeside 58 = .ok (.iaload, 1) := by decide +kernel
theorem dX3_restBeside_59 : decode cX3_restBeside 59 = .ok (.invokevirtual 109, 3) := by decide +kernel
theorem dX3_restBeside_62 : decode cX3_restBeside 62 = .ok (.aload_n 0, 1) := by decide +kernel
theorem dX3_restBeside_63 : decode cX3_restBeside 63 = .ok (.iload 4, 2) := by decide +kernel
theorem dX3_restBeside_65 : decode cX3_restBeside 65 = .ok (.iconst 1, 1) := by decide +kernel
theorem dX3_restBeside_66 : decode cX3_restBeside 66 = .ok (.iadd, 1) := by decide +kernel
theorem dX3_restBeside_67 : decode cX3_restBeside 67 = .ok (.iload 4, 2) := by decide +kernel
theorem dX3_restBeside_69 : decode cX3_restBeside 69 = .ok (.invokevirtual 85, 3) := by decide +kernel
theorem dX3_restBeside_72 : decode cX3_restBeside 72 = .ok (.iadd, 1) := by decide +kernel
theorem dX3_restBeside_73 : decode cX3_restBeside 73 = .ok (.istore 6, 2) := by decide +kernel
theorem dX3_restBeside_75 : decode cX3_restBeside 75 = .ok (.ldc 48, 2) := by decide +kernel
theorem dX3_restBeside_77 : decode cX3_restBeside 77 = .ok (.iload 5, 2) := by decide +kernel
theorem dX3_restBeside_79 : decode cX3_restBeside 79 = .ok (.iload 6, 2) := by decide +kernel
theorem dX3_restBeside_81 : decode cX3_restBeside 81 = .ok (.invokestatic 103, 3) := by decide +kernel
theorem dX3_restBeside_84 : decode cX3_restBeside 84 = .ok (.invokestatic 103, 3) := by decide +kernel
theorem dX3_restBeside_87 : decode cX3_restBeside 87 = .ok (.istore_n 3, 1) := by decide +kernel
theorem dX3_restBeside_88 : decode cX3_restBeside 88 = .ok (.iinc 4 (-1), 3) := by decide +kernel
theorem dX3_restBeside_91 : decode cX3_restBeside 91 = .ok (.goto (-81), 3) := by decide +kernel
theorem dX3_restBeside_94 : decode cX3_restBeside 94 = .ok (.iload_n 3, 1) := by decide +kernel
theorem dX3_restBeside_95 : decode cX3_restBeside 95 = .ok (.ireturn, 1) := by decide +kernel
abbrev mX3_stepForth : MI := (yX3_stepForth, cX3_stepForth, 7, none, 3, 70, [])
abbrev mX3_takesSkipping : MI := (yX3_takesSkipping, cX3_takesSkipping, 10, some .int, 3, 70, [])
abbrev mX3_restBeside : MI := (yX3_restBeside, cX3_restBeside, 7, some .int, 3, 70, [])
theorem fk_X3_21 : Fk RX3 21 3 8 := ⟨RX3, TX3, 9, tyX3, rfl, inX3, by decide, lw_in (i := 191) (by decide +kernel) (by decide +kernel), tyX3_ok, nmX3⟩
theorem ms_X3_others : Cond.static mX3_others.y ∈ lw_w := lw_in (i := 880) (by decide +kernel) (by decide +kernel)
theorem mk_X3_106 : Mk RX3 106 mX3_others 1 := ⟨lw_in (i := 879) (by decide +kernel) (by decide +kernel), lw_in (i := 7) (by decide +kernel) (by decide +kernel), lw_in (i := 881) (by decide +kernel) (by decide +kernel), by decide +kernel⟩
theorem rm_X3_restBeside_X3_restOf : Rm mX3_restBeside mX3_restOf := ⟨by decide, by decide⟩
theorem rm_X3_restBeside_X3_step : Rm mX3_restBeside mX3_step := ⟨by decide, by decide⟩
theorem rm_X3_stepForth_X3_did : Rm mX3_stepForth mX3_did := ⟨by decide, by decide⟩
theorem rm_X3_stepForth_X3_others : Rm mX3_stepForth mX3_others := ⟨by decide, by decide⟩
theorem rm_X3_stepForth_X3_step : Rm mX3_stepForth mX3_step := ⟨by decide, by decide⟩
theorem rm_X3_takesSkipping_X3_did : Rm mX3_takesSkipping mX3_did := ⟨by decide, by decide⟩
theorem rm_X3_takesSkipping_X3_others : Rm mX3_takesSkipping mX3_others := ⟨by decide, by decide⟩
theorem rm_X3_takesSkipping_X3_restOf : Rm mX3_takesSkipping mX3_restOf := ⟨by decide, by decide⟩
theorem rm_X3_takesSkipping_X3_step : Rm mX3_takesSkipping mX3_step := ⟨by decide, by decide⟩
section W_hands
variable {l : Launch} {D : va_G} {ad : Nat → Nat} {kA : Nat → ClassId} {M : Mem} {Q : Outcome → Mem → Prop}
theorem t_X3_stepForth_0 {x1 : Int32} 
    (g1 : vp_in x1 160)
    (g2 : g_X3_did M x1)
    (K1 : Fw l D ad kA mX3_stepForth 20 [some (.ref (ad 17)), some (.int x1), some (.int (gI M 19 x1.toNatClampNeg)), some (.int (v_X3_did M x1)), some (.int 16777216), some (.int 0), none] [] M Q) : Fw l D ad kA mX3_stepForth 0 [some (.ref (ad 17)), some (.int x1), none, none, none, none, none] [] M Q := by
  refine r_aload_n dX3_stepForth_0 rfl ?_
  refine r_getR dX3_stepForth_1 fs_17_4 fk_X3_15 ?_
  refine r_iload_n dX3_stepForth_4 rfl ?_
  refine r_iald dX3_stepForth_5 as_19 g1 ?_
  refine q_istore_n (lo' := [some (.ref (ad 17)), some (.int x1), some (.int (gI M 19 x1.toNatClampNeg)), none, none, none, none]) dX3_stepForth_6 (by decide) rfl ?_
  refine r_aload_n dX3_stepForth_7 rfl ?_
  refine r_iload_n dX3_stepForth_8 rfl ?_
  refine r_callV (x := 17) (As := [.int x1]) (rest := []) dX3_stepForth_9 mk_X3_100 mv_X3_did rm_X3_stepForth_X3_did rfl rfl (by decide +kernel) (Nat.le_of_ble_eq_true rfl) (ct_X3_did g2 (⟨_, rfl, ?_⟩))
  refine q_istore_n (lo' := [some (.ref (ad 17)), some (.int x1), some (.int (gI M 19 x1.toNatClampNeg)), some (.int (v_X3_did M x1)), none, none, none]) dX3_stepForth_12 (by decide) rfl ?_
  refine r_ldc (v := 16777216) dX3_stepForth_13 co_X3_48 ?_
  refine q_istore (lo' := [some (.ref (ad 17)), some (.int x1), some (.int (gI M 19 x1.toNatClampNeg)), some (.int (v_X3_did M x1)), some (.int 16777216), none, none]) dX3_stepForth_15 (by decide) rfl ?_
  refine r_iconst (v := 0) dX3_stepForth_17 kI_0 ?_
  refine q_istore (lo' := [some (.ref (ad 17)), some (.int x1), some (.int (gI M 19 x1.toNatClampNeg)), some (.int (v_X3_did M x1)), some (.int 16777216), some (.int 0), none]) dX3_stepForth_18 (by decide) rfl ?_
  exact K1
theorem t_X3_stepForth_20 {x1 : Int32} {x2 : Int32} {x3 : Int32} {x4 : Int32} {x5 : Int32} 
    (g1 : ((v_X3_others x1) ≤ x5) → (¬ (x1 ≤ 0)) → vp_in x1 160)
    (g2 : (¬ ((v_X3_others x1) ≤ x5)) → g_X3_did M x5)
    (g3 : (¬ ((v_X3_others x1) ≤ x5)) → vp_in x5 160)
    (g4 : (¬ ((v_X3_others x1) ≤ x5)) → g_X3_step M (v_X3_did M x5) x3 x2)
    (g5 : (¬ ((v_X3_others x1) ≤ x5)) → g_X3_step M x3 (v_X3_did M x5) x2)
    (K1 : ((v_X3_others x1) ≤ x5) → (x1 ≤ 0) → Q (.returned none) M)
    (K2 : ((v_X3_others x1) ≤ x5) → (¬ (x1 ≤ 0)) → Q (.returned none) (sI M 21 x1.toNatClampNeg x4))
    (K3 : (¬ ((v_X3_others x1) ≤ x5)) → Fw l D ad kA mX3_stepForth 20 [some (.ref (ad 17)), some (.int x1), some (.int x2), some (.int x3), some (.int (imin x4 ((gI M 21 x5.toNatClampNeg) + (v_X3_step M (v_X3_did M x5) x3 x2)))), some (.int (x5 + 1)), none] [] (sI M 21 x5.toNatClampNeg (imin 16777216 ((gI M 21 x5.toNatClampNeg) + (v_X3_step M x3 (v_X3_did M x5) x2)))) Q) : Fw l D ad kA mX3_stepForth 20 [some (.ref (ad 17)), some (.int x1), some (.int x2), some (.int x3), some (.int x4), some (.int x5), none] [] M Q := by
  refine r_iload dX3_stepForth_20 rfl ?_
  refine r_iload_n dX3_stepForth_22 rfl ?_
  refine r_callS (As := [.int x1]) (rest := [.int x5]) dX3_stepForth_23 mk_X3_106 ms_X3_others rm_X3_stepForth_X3_others rfl rfl (Nat.le_of_ble_eq_true rfl) (ct_X3_others (⟨_, rfl, ?_⟩))
  refine r_icmp_ge (tgt := 94) dX3_stepForth_26 (by decide) (fun c1 => ?_) (fun c1 => ?_)
  · skip
    refine r_iload_n dX3_stepForth_94 rfl ?_
    refine r_if_le (tgt := 106) dX3_stepForth_95 (by decide) (fun c2 => ?_) (fun c2 => ?_)
    · skip
      exact r_vret dX3_stepForth_106 rfl (K1 c1 c2)
    · skip
      refine r_aload_n dX3_stepForth_98 rfl ?_
      refine r_getR dX3_stepForth_99 fs_17_8 fk_X3_21 ?_
      refine r_iload_n dX3_stepForth_102 rfl ?_
      refine r_iload dX3_stepForth_103 rfl ?_
      refine r_iast dX3_stepForth_105 as_21 (g1 c1 c2) ?_
      exact r_vret dX3_stepForth_106 rfl (K2 c1 c2)
  · skip
    refine r_aload_n dX3_stepForth_29 rfl ?_
    refine r_iload dX3_stepForth_30 rfl ?_
    refine r_callV (x := 17) (As := [.int x5]) (rest := []) dX3_stepForth_32 mk_X3_100 mv_X3_did rm_X3_stepForth_X3_did rfl rfl (by decide +kernel) (Nat.le_of_ble_eq_true rfl) (ct_X3_did (g2 c1) (⟨_, rfl, ?_⟩))
    refine q_istore (lo' := [some (.ref (ad 17)), some (.int x1), some (.int x2), some (.int x3), some (.int x4), some (.int x5), some (.int (v_X3_did M x5))]) dX3_stepForth_35 (by decide) rfl ?_
    refine r_iload dX3_stepForth_37 rfl ?_
    refine r_aload_n dX3_stepForth_39 rfl ?_
    refine r_getR dX3_stepForth_40 fs_17_8 fk_X3_21 ?_
    refine r_iload dX3_stepForth_43 rfl ?_
    refine r_iald dX3_stepForth_45 as_21 (g3 c1) ?_
    refine r_aload_n dX3_stepForth_46 rfl ?_
    refine r_iload dX3_stepForth_47 rfl ?_
    refine r_iload_n dX3_stepForth_49 rfl ?_
    refine r_iload_n dX3_stepForth_50 rfl ?_
    refine r_callV (x := 17) (As := [.int (v_X3_did M x5), .int x3, .int x2]) (rest := [.int (gI M 21 x5.toNatClampNeg), .int x4]) dX3_stepForth_51 mk_X3_109 mv_X3_step rm_X3_stepForth_X3_step rfl rfl (by decide +kernel) (Nat.le_of_ble_eq_true rfl) (ct_X3_step (g4 c1) (⟨_, rfl, ?_⟩))
    refine r_iadd dX3_stepForth_54 ?_
    refine q_mmin dX3_stepForth_55 mk_X3_103 (by decide) (Nat.le_of_ble_eq_true rfl) ?_
    refine q_istore (lo' := [some (.ref (ad 17)), some (.int x1), some (.int x2), some (.int x3), some (.int (imin x4 ((gI M 21 x5.toNatClampNeg) + (v_X3_step M (v_X3_did M x5) x3 x2)))), some (.int x5), some (.int (v_X3_did M x5))]) dX3_stepForth_58 (by decide) rfl ?_
    refine r_aload_n dX3_stepForth_60 rfl ?_
    refine r_getR dX3_stepForth_61 fs_17_8 fk_X3_21 ?_
    refine r_iload dX3_stepForth_64 rfl ?_
    refine r_ldc (v := 16777216) dX3_stepForth_66 co_X3_48 ?_
    refine r_aload_n dX3_stepForth_68 rfl ?_
    refine r_getR dX3_stepForth_69 fs_17_8 fk_X3_21 ?_
    refine r_iload dX3_stepForth_72 rfl ?_
    refine r_iald dX3_stepForth_74 as_21 (g3 c1) ?_
    refine r_aload_n dX3_stepForth_75 rfl ?_
    refine r_iload_n dX3_stepForth_76 rfl ?_
    refine r_iload dX3_stepForth_77 rfl ?_
    refine r_iload_n dX3_stepForth_79 rfl ?_
    refine r_callV (x := 17) (As := [.int x3, .int (v_X3_did M x5), .int x2]) (rest := [.int (gI M 21 x5.toNatClampNeg), .int 16777216, .int x5, .ref (ad 21)]) dX3_stepForth_80 mk_X3_109 mv_X3_step rm_X3_stepForth_X3_step rfl rfl (by decide +kernel) (Nat.le_of_ble_eq_true rfl) (ct_X3_step (g5 c1) (⟨_, rfl, ?_⟩))
    refine r_iadd dX3_stepForth_83 ?_
    refine q_mmin dX3_stepForth_84 mk_X3_103 (by decide) (Nat.le_of_ble_eq_true rfl) ?_
    refine r_iast dX3_stepForth_87 as_21 (g3 c1) ?_
    refine q_iinc (v := x5 + 1) (lo' := [some (.ref (ad 17)), some (.int x1), some (.int x2), some (.int x3), some (.int (imin x4 ((gI M 21 x5.toNatClampNeg) + (v_X3_step M (v_X3_did M x5) x3 x2)))), some (.int (x5 + 1)), some (.int (v_X3_did M x5))]) dX3_stepForth_88 rfl (congrArg (fun q => x5 + q) kI_1) (by decide) rfl ?_
    refine r_goto (tgt := 20) dX3_stepForth_91 (by decide) ?_
    exact q_weak (lo' := [some (.ref (ad 17)), some (.int x1), some (.int x2), some (.int x3), some (.int (imin x4 ((gI M 21 x5.toNatClampNeg) + (v_X3_step M (v_X3_did M x5) x3 x2)))), some (.int (x5 + 1)), none]) ⟨rfl, rfl, rfl, rfl, rfl, rfl, trivial⟩ (K3 c1)
theorem en_X3_stepForth {x1 : Int32} (K : Fw l D ad kA mX3_stepForth 0 [some (.ref (ad 17)), some (.int x1), none, none, none, none, none] [] M Q) : Cal l D ad kA mX3_stepForth [.ref (ad 17), .int x1] M Q := Cal.of (by decide) rfl rfl (Nat.le_of_ble_eq_true rfl) K
theorem t_X3_takesSkipping_0 {x1 : Int32} 
    (g1 : g_X3_did M x1)
    (K1 : Fw l D ad kA mX3_takesSkipping 12 [some (.ref (ad 17)), some (.int x1), some (.int (v_X3_did M x1)), some (.int 16777216), some (.int 0), none, none, none, none, none] [] M Q) : Fw l D ad kA mX3_takesSkipping 0 [some (.ref (ad 17)), some (.int x1), none, none, none, none, none, none, none, none] [] M Q := by
  refine r_aload_n dX3_takesSkipping_0 rfl ?_
  refine r_iload_n dX3_takesSkipping_1 rfl ?_
  refine r_callV (x := 17) (As := [.int x1]) (rest := []) dX3_takesSkipping_2 mk_X3_100 mv_X3_did rm_X3_takesSkipping_X3_did rfl rfl (by decide +kernel) (Nat.le_of_ble_eq_true rfl) (ct_X3_did g1 (⟨_, rfl, ?_⟩))
  refine q_istore_n (lo' := [some (.ref (ad 17)), some (.int x1), some (.int (v_X3_did M x1)), none, none, none, none, none, none, none]) dX3_takesSkipping_5 (by decide) rfl ?_
  refine r_ldc (v := 16777216) dX3_takesSkipping_6 co_X3_48 ?_
  refine q_istore_n (lo' := [some (.ref (ad 17)), some (.int x1), some (.int (v_X3_did M x1)), some (.int 16777216), none, none, none, none, none, none]) dX3_takesSkipping_8 (by decide) rfl ?_
  refine r_iconst (v := 0) dX3_takesSkipping_9 kI_0 ?_
  refine q_istore (lo' := [some (.ref (ad 17)), some (.int x1), some (.int (v_X3_did M x1)), some (.int 16777216), some (.int 0), none, none, none, none, none]) dX3_takesSkipping_10 (by decide) rfl ?_
  exact K1
theorem t_X3_takesSkipping_12 {x1 : Int32} {x2 : Int32} {x3 : Int32} {x4 : Int32} 
    (g1 : (¬ ((v_X3_others x1) ≤ x4)) → g_X3_did M x4)
    (g2 : (¬ ((v_X3_others x1) ≤ x4)) → (¬ ((gI M 17 5) ≤ (x1 + 1))) → vp_in (x1 + 1) 160)
    (g3 : (¬ ((v_X3_others x1) ≤ x4)) → (¬ ((gI M 17 5) ≤ (x1 + 1))) → g_X3_step M x2 (v_X3_did M x4) (gI M 19 (x1 + 1).toNatClampNeg))
    (g4 : (¬ ((v_X3_others x1) ≤ x4)) → (¬ ((gI M 17 5) ≤ (x1 + 1))) → g_X3_restOf M (x1 + 2) x4)
    (g5 : (¬ ((v_X3_others x1) ≤ x4)) → (¬ ((gI M 17 5) ≤ (x1 + 1))) → g_X3_step M (v_X3_did M x4) x2 (gI M 19 (x1 + 1).toNatClampNeg))
    (g6 : (¬ ((v_X3_others x1) ≤ x4)) → (¬ ((gI M 17 5) ≤ (x1 + 1))) → g_X3_restOf M (x1 + 2) x1)
    (g7 : (¬ ((v_X3_others x1) ≤ x4)) → vp_in x4 160)
    (K1 : ((v_X3_others x1) ≤ x4) → Q (.returned (some (.int x3))) M)
    (K2 : (¬ ((v_X3_others x1) ≤ x4)) → Fw l D ad kA mX3_takesSkipping 12 [some (.ref (ad 17)), some (.int x1), some (.int x2), some (.int (imin x3 ((gI M 21 x4.toNatClampNeg) + (if (gI M 17 5) ≤ (x1 + 1) then 0 else imin ((v_X3_step M x2 (v_X3_did M x4) (gI M 19 (x1 + 1).toNatClampNeg)) + (v_X3_restOf M (x1 + 2) x4)) ((v_X3_step M (v_X3_did M x4) x2 (gI M 19 (x1 + 1).toNatClampNeg)) + (v_X3_restOf M (x1 + 2) x1)))))), some (.int (x4 + 1)), none, none, none, none, none] [] M Q) : Fw l D ad kA mX3_takesSkipping 12 [some (.ref (ad 17)), some (.int x1), some (.int x2), some (.int x3), some (.int x4), none, none, none, none, none] [] M Q := by
  refine r_iload dX3_takesSkipping_12 rfl ?_
  refine r_iload_n dX3_takesSkipping_14 rfl ?_
  refine r_callS (As := [.int x1]) (rest := [.int x4]) dX3_takesSkipping_15 mk_X3_106 ms_X3_others rm_X3_takesSkipping_X3_others rfl rfl (Nat.le_of_ble_eq_true rfl) (ct_X3_others (⟨_, rfl, ?_⟩))
  refine r_icmp_ge (tgt := 123) dX3_takesSkipping_18 (by decide) (fun c1 => ?_) (fun c1 => ?_)
  · skip
    refine r_iload_n dX3_takesSkipping_123 rfl ?_
    exact r_iret dX3_takesSkipping_124 rfl (K1 c1)
  · skip
    refine r_aload_n dX3_takesSkipping_21 rfl ?_
    refine r_iload dX3_takesSkipping_22 rfl ?_
    refine r_callV (x := 17) (As := [.int x4]) (rest := []) dX3_takesSkipping_24 mk_X3_100 mv_X3_did rm_X3_takesSkipping_X3_did rfl rfl (by decide +kernel) (Nat.le_of_ble_eq_true rfl) (ct_X3_did (g1 c1) (⟨_, rfl, ?_⟩))
    refine q_istore (lo' := [some (.ref (ad 17)), some (.int x1), some (.int x2), some (.int x3), some (.int x4), some (.int (v_X3_did M x4)), none, none, none, none]) dX3_takesSkipping_27 (by decide) rfl ?_
    refine r_iconst (v := 0) dX3_takesSkipping_29 kI_0 ?_
    refine q_istore (lo' := [some (.ref (ad 17)), some (.int x1), some (.int x2), some (.int x3), some (.int x4), some (.int (v_X3_did M x4)), some (.int 0), none, none, none]) dX3_takesSkipping_30 (by decide) rfl ?_
    refine r_iload_n dX3_takesSkipping_32 rfl ?_
    refine r_iconst (v := 1) dX3_takesSkipping_33 kI_1 ?_
    refine r_iadd dX3_takesSkipping_34 ?_
    refine r_aload_n dX3_takesSkipping_35 rfl ?_
    refine r_getI dX3_takesSkipping_36 fs_17_5 fk_X3_52 ?_
    suffices hJ1 : Fw l D ad kA mX3_takesSkipping 102 [some (.ref (ad 17)), some (.int x1), some (.int x2), some (.int x3), some (.int x4), none, some (.int (if (gI M 17 5) ≤ (x1 + 1) then 0 else imin ((v_X3_step M x2 (v_X3_did M x4) (gI M 19 (x1 + 1).toNatClampNeg)) + (v_X3_restOf M (x1 + 2) x4)) ((v_X3_step M (v_X3_did M x4) x2 (gI M 19 (x1 + 1).toNatClampNeg)) + (v_X3_restOf M (x1 + 2) x1)))), none, none, none] [] M Q by
      refine r_icmp_ge (tgt := 102) dX3_takesSkipping_39 (by decide) (fun c2 => ?_) (fun c2 => ?_)
      · skip
        exact q_weak (lo' := [some (.ref (ad 17)), some (.int x1), some (.int x2), some (.int x3), some (.int x4), none, some (.int 0), none, none, none]) ⟨rfl, rfl, rfl, rfl, rfl, rfl, trivial⟩ (by have h9 := hJ1; simp only [if_pos c2] at h9; first | exact h9 | (simp only [if_pos c2]; exact h9))
      · skip
        refine r_aload_n dX3_takesSkipping_42 rfl ?_
        refine r_getR dX3_takesSkipping_43 fs_17_4 fk_X3_15 ?_
        refine r_iload_n dX3_takesSkipping_46 rfl ?_
        refine r_iconst (v := 1) dX3_takesSkipping_47 kI_1 ?_
        refine r_iadd dX3_takesSkipping_48 ?_
        refine r_iald dX3_takesSkipping_49 as_19 (g2 c1 c2) ?_
        refine q_istore (lo' := [some (.ref (ad 17)), some (.int x1), some (.int x2), some (.int x3), some (.int x4), some (.int (v_X3_did M x4)), some (.int 0), some (.int (gI M 19 (x1 + 1).toNatClampNeg)), none, none]) dX3_takesSkipping_50 (by decide) rfl ?_
        refine r_aload_n dX3_takesSkipping_52 rfl ?_
        refine r_iload_n dX3_takesSkipping_53 rfl ?_
        refine r_iload dX3_takesSkipping_54 rfl ?_
        refine r_iload dX3_takesSkipping_56 rfl ?_
        refine r_callV (x := 17) (As := [.int x2, .int (v_X3_did M x4), .int (gI M 19 (x1 + 1).toNatClampNeg)]) (rest := []) dX3_takesSkipping_58 mk_X3_109 mv_X3_step rm_X3_takesSkipping_X3_step rfl rfl (by decide +kernel) (Nat.le_of_ble_eq_true rfl) (ct_X3_step (g3 c1 c2) (⟨_, rfl, ?_⟩))
        refine r_aload_n dX3_takesSkipping_61 rfl ?_
        refine r_iload_n dX3_takesSkipping_62 rfl ?_
        refine r_iconst (v := 2) dX3_takesSkipping_63 kI_2 ?_
        refine r_iadd dX3_takesSkipping_64 ?_
        refine r_iload dX3_takesSkipping_65 rfl ?_
        refine r_callV (x := 17) (As := [.int (x1 + 2), .int x4]) (rest := [.int (v_X3_step M x2 (v_X3_did M x4) (gI M 19 (x1 + 1).toNatClampNeg))]) dX3_takesSkipping_67 mk_X3_85 mv_X3_restOf rm_X3_takesSkipping_X3_restOf rfl rfl (by decide +kernel) (Nat.le_of_ble_eq_true rfl) (ct_X3_restOf (g4 c1 c2) (⟨_, rfl, ?_⟩))
        refine r_iadd dX3_takesSkipping_70 ?_
        refine q_istore (lo' := [some (.ref (ad 17)), some (.int x1), some (.int x2), some (.int x3), some (.int x4), some (.int (v_X3_did M x4)), some (.int 0), some (.int (gI M 19 (x1 + 1).toNatClampNeg)), some (.int ((v_X3_step M x2 (v_X3_did M x4) (gI M 19 (x1 + 1).toNatClampNeg)) + (v_X3_restOf M (x1 + 2) x4))), none]) dX3_takesSkipping_71 (by decide) rfl ?_
        refine r_aload_n dX3_takesSkipping_73 rfl ?_
        refine r_iload dX3_takesSkipping_74 rfl ?_
        refine r_iload_n dX3_takesSkipping_76 rfl ?_
        refine r_iload dX3_takesSkipping_77 rfl ?_
        refine r_callV (x := 17) (As := [.int (v_X3_did M x4), .int x2, .int (gI M 19 (x1 + 1).toNatClampNeg)]) (rest := []) dX3_takesSkipping_79 mk_X3_109 mv_X3_step rm_X3_takesSkipping_X3_step rfl rfl (by decide +kernel) (Nat.le_of_ble_eq_true rfl) (ct_X3_step (g5 c1 c2) (⟨_, rfl, ?_⟩))
        refine r_aload_n dX3_takesSkipping_82 rfl ?_
        refine r_iload_n dX3_takesSkipping_83 rfl ?_
        refine r_iconst (v := 2) dX3_takesSkipping_84 kI_2 ?_
        refine r_iadd dX3_takesSkipping_85 ?_
        refine r_iload_n dX3_takesSkipping_86 rfl ?_
        refine r_callV (x := 17) (As := [.int (x1 + 2), .int x1]) (rest := [.int (v_X3_step M (v_X3_did M x4) x2 (gI M 19 (x1 + 1).toNatClampNeg))]) dX3_takesSkipping_87 mk_X3_85 mv_X3_restOf rm_X3_takesSkipping_X3_restOf rfl rfl (by decide +kernel) (Nat.le_of_ble_eq_true rfl) (ct_X3_restOf (g6 c1 c2) (⟨_, rfl, ?_⟩))
        refine r_iadd dX3_takesSkipping_90 ?_
        refine q_istore (lo' := [some (.ref (ad 17)), some (.int x1), some (.int x2), some (.int x3), some (.int x4), some (.int (v_X3_did M x4)), some (.int 0), some (.int (gI M 19 (x1 + 1).toNatClampNeg)), some (.int ((v_X3_step M x2 (v_X3_did M x4) (gI M 19 (x1 + 1).toNatClampNeg)) + (v_X3_restOf M (x1 + 2) x4))), some (.int ((v_X3_step M (v_X3_did M x4) x2 (gI M 19 (x1 + 1).toNatClampNeg)) + (v_X3_restOf M (x1 + 2) x1)))]) dX3_takesSkipping_91 (by decide) rfl ?_
        refine r_iload dX3_takesSkipping_93 rfl ?_
        refine r_iload dX3_takesSkipping_95 rfl ?_
        refine q_mmin dX3_takesSkipping_97 mk_X3_103 (by decide) (Nat.le_of_ble_eq_true rfl) ?_
        refine q_istore (lo' := [some (.ref (ad 17)), some (.int x1), some (.int x2), some (.int x3), some (.int x4), some (.int (v_X3_did M x4)), some (.int (imin ((v_X3_step M x2 (v_X3_did M x4) (gI M 19 (x1 + 1).toNatClampNeg)) + (v_X3_restOf M (x1 + 2) x4)) ((v_X3_step M (v_X3_did M x4) x2 (gI M 19 (x1 + 1).toNatClampNeg)) + (v_X3_restOf M (x1 + 2) x1)))), some (.int (gI M 19 (x1 + 1).toNatClampNeg)), some (.int ((v_X3_step M x2 (v_X3_did M x4) (gI M 19 (x1 + 1).toNatClampNeg)) + (v_X3_restOf M (x1 + 2) x4))), some (.int ((v_X3_step M (v_X3_did M x4) x2 (gI M 19 (x1 + 1).toNatClampNeg)) + (v_X3_restOf M (x1 + 2) x1)))]) dX3_takesSkipping_100 (by decide) rfl ?_
        exact q_weak (lo' := [some (.ref (ad 17)), some (.int x1), some (.int x2), some (.int x3), some (.int x4), none, some (.int (imin ((v_X3_step M x2 (v_X3_did M x4) (gI M 19 (x1 + 1).toNatClampNeg)) + (v_X3_restOf M (x1 + 2) x4)) ((v_X3_step M (v_X3_did M x4) x2 (gI M 19 (x1 + 1).toNatClampNeg)) + (v_X3_restOf M (x1 + 2) x1)))), none, none, none]) ⟨rfl, rfl, rfl, rfl, rfl, rfl, trivial⟩ (by have h9 := hJ1; simp only [if_neg c2] at h9; first | exact h9 | (simp only [if_neg c2]; exact h9))
    refine r_iload_n dX3_takesSkipping_102 rfl ?_
    refine r_aload_n dX3_takesSkipping_103 rfl ?_
    refine r_getR dX3_takesSkipping_104 fs_17_8 fk_X3_21 ?_
    refine r_iload dX3_takesSkipping_107 rfl ?_
    refine r_iald dX3_takesSkipping_109 as_21 (g7 c1) ?_
    refine r_iload dX3_takesSkipping_110 rfl ?_
    refine r_iadd dX3_takesSkipping_112 ?_
    refine q_mmin dX3_takesSkipping_113 mk_X3_103 (by decide) (Nat.le_of_ble_eq_true rfl) ?_
    refine q_istore_n (lo' := [some (.ref (ad 17)), some (.int x1), some (.int x2), some (.int (imin x3 ((gI M 21 x4.toNatClampNeg) + (if (gI M 17 5) ≤ (x1 + 1) then 0 else imin ((v_X3_step M x2 (v_X3_did M x4) (gI M 19 (x1 + 1).toNatClampNeg)) + (v_X3_restOf M (x1 + 2) x4)) ((v_X3_step M (v_X3_did M x4) x2 (gI M 19 (x1 + 1).toNatClampNeg)) + (v_X3_restOf M (x1 + 2) x1)))))), some (.int x4), none, some (.int (if (gI M 17 5) ≤ (x1 + 1) then 0 else imin ((v_X3_step M x2 (v_X3_did M x4) (gI M 19 (x1 + 1).toNatClampNeg)) + (v_X3_restOf M (x1 + 2) x4)) ((v_X3_step M (v_X3_did M x4) x2 (gI M 19 (x1 + 1).toNatClampNeg)) + (v_X3_restOf M (x1 + 2) x1)))), none, none, none]) dX3_takesSkipping_116 (by decide) rfl ?_
    refine q_iinc (v := x4 + 1) (lo' := [some (.ref (ad 17)), some (.int x1), some (.int x2), some (.int (imin x3 ((gI M 21 x4.toNatClampNeg) + (if (gI M 17 5) ≤ (x1 + 1) then 0 else imin ((v_X3_step M x2 (v_X3_did M x4) (gI M 19 (x1 + 1).toNatClampNeg)) + (v_X3_restOf M (x1 + 2) x4)) ((v_X3_step M (v_X3_did M x4) x2 (gI M 19 (x1 + 1).toNatClampNeg)) + (v_X3_restOf M (x1 + 2) x1)))))), some (.int (x4 + 1)), none, some (.int (if (gI M 17 5) ≤ (x1 + 1) then 0 else imin ((v_X3_step M x2 (v_X3_did M x4) (gI M 19 (x1 + 1).toNatClampNeg)) + (v_X3_restOf M (x1 + 2) x4)) ((v_X3_step M (v_X3_did M x4) x2 (gI M 19 (x1 + 1).toNatClampNeg)) + (v_X3_restOf M (x1 + 2) x1)))), none, none, none]) dX3_takesSkipping_117 rfl (congrArg (fun q => x4 + q) kI_1) (by decide) rfl ?_
    refine r_goto (tgt := 12) dX3_takesSkipping_120 (by decide) ?_
    exact q_weak (lo' := [some (.ref (ad 17)), some (.int x1), some (.int x2), some (.int (imin x3 ((gI M 21 x4.toNatClampNeg) + (if (gI M 17 5) ≤ (x1 + 1) then 0 else imin ((v_X3_step M x2 (v_X3_did M x4) (gI M 19 (x1 + 1).toNatClampNeg)) + (v_X3_restOf M (x1 + 2) x4)) ((v_X3_step M (v_X3_did M x4) x2 (gI M 19 (x1 + 1).toNatClampNeg)) + (v_X3_restOf M (x1 + 2) x1)))))), some (.int (x4 + 1)), none, none, none, none, none]) ⟨rfl, rfl, rfl, rfl, rfl, trivial⟩ (K2 c1)
theorem en_X3_takesSkipping {x1 : Int32} (K : Fw l D ad kA mX3_takesSkipping 0 [some (.ref (ad 17)), some (.int x1), none, none, none, none, none, none, none, none] [] M Q) : Cal l D ad kA mX3_takesSkipping [.ref (ad 17), .int x1] M Q := Cal.of (by decide) rfl rfl (Nat.le_of_ble_eq_true rfl) K
theorem t_X3_restBeside_0 {x1 : Int32} {x2 : Int32} 
    (K1 : Fw l D ad kA mX3_restBeside 10 [some (.ref (ad 17)), some (.int x1), some (.int x2), some (.int 0), some (.int ((gI M 17 5) - 1)), none, none] [] M Q) : Fw l D ad kA mX3_restBeside 0 [some (.ref (ad 17)), some (.int x1), some (.int x2), none, none, none, none] [] M Q := by
  refine r_iconst (v := 0) dX3_restBeside_0 kI_0 ?_
  refine q_istore_n (lo' := [some (.ref (ad 17)), some (.int x1), some (.int x2), some (.int 0), none, none, none]) dX3_restBeside_1 (by decide) rfl ?_
  refine r_aload_n dX3_restBeside_2 rfl ?_
  refine r_getI dX3_restBeside_3 fs_17_5 fk_X3_52 ?_
  refine r_iconst (v := 1) dX3_restBeside_6 kI_1 ?_
  refine r_isub dX3_restBeside_7 ?_
  refine q_istore (lo' := [some (.ref (ad 17)), some (.int x1), some (.int x2), some (.int 0), some (.int ((gI M 17 5) - 1)), none, none]) dX3_restBeside_8 (by decide) rfl ?_
  exact K1
theorem t_X3_restBeside_10 {x1 : Int32} {x2 : Int32} {x3 : Int32} {x4 : Int32} 
    (g1 : (¬ (x4 < x2)) → vp_in (x4 - 1) 160)
    (g2 : (¬ (x4 < x2)) → vp_in x4 160)
    (g3 : (¬ (x4 < x2)) → g_X3_step M (gI M 19 (x4 - 1).toNatClampNeg) x1 (gI M 19 x4.toNatClampNeg))
    (g4 : (¬ (x4 < x2)) → g_X3_step M x1 (gI M 19 (x4 - 1).toNatClampNeg) (gI M 19 x4.toNatClampNeg))
    (g5 : (¬ (x4 < x2)) → g_X3_restOf M (x4 + 1) x4)
    (K1 : (x4 < x2) → Q (.returned (some (.int x3))) M)
    (K2 : (¬ (x4 < x2)) → Fw l D ad kA mX3_restBeside 10 [some (.ref (ad 17)), some (.int x1), some (.int x2), some (.int (imin 16777216 (imin ((v_X3_step M (gI M 19 (x4 - 1).toNatClampNeg) x1 (gI M 19 x4.toNatClampNeg)) + x3) ((v_X3_step M x1 (gI M 19 (x4 - 1).toNatClampNeg) (gI M 19 x4.toNatClampNeg)) + (v_X3_restOf M (x4 + 1) x4))))), some (.int (x4 + (-1))), none, none] [] M Q) : Fw l D ad kA mX3_restBeside 10 [some (.ref (ad 17)), some (.int x1), some (.int x2), some (.int x3), some (.int x4), none, none] [] M Q := by
  refine r_iload dX3_restBeside_10 rfl ?_
  refine r_iload_n dX3_restBeside_12 rfl ?_
  refine r_icmp_lt (tgt := 94) dX3_restBeside_13 (by decide) (fun c1 => ?_) (fun c1 => ?_)
  · skip
    refine r_iload_n dX3_restBeside_94 rfl ?_
    exact r_iret dX3_restBeside_95 rfl (K1 c1)
  · skip
    refine r_aload_n dX3_restBeside_16 rfl ?_
    refine r_aload_n dX3_restBeside_17 rfl ?_
    refine r_getR dX3_restBeside_18 fs_17_4 fk_X3_15 ?_
    refine r_iload dX3_restBeside_21 rfl ?_
    refine r_iconst (v := 1) dX3_restBeside_23 kI_1 ?_
    refine r_isub dX3_restBeside_24 ?_
    refine r_iald dX3_restBeside_25 as_19 (g1 c1) ?_
    refine r_iload_n dX3_restBeside_26 rfl ?_
    refine r_aload_n dX3_restBeside_27 rfl ?_
    refine r_getR dX3_restBeside_28 fs_17_4 fk_X3_15 ?_
    refine r_iload dX3_restBeside_31 rfl ?_
    refine r_iald dX3_restBeside_33 as_19 (g2 c1) ?_
    refine r_callV (x := 17) (As := [.int (gI M 19 (x4 - 1).toNatClampNeg), .int x1, .int (gI M 19 x4.toNatClampNeg)]) (rest := []) dX3_restBeside_34 mk_X3_109 mv_X3_step rm_X3_restBeside_X3_step rfl rfl (by decide +kernel) (Nat.le_of_ble_eq_true rfl) (ct_X3_step (g3 c1) (⟨_, rfl, ?_⟩))
    refine r_iload_n dX3_restBeside_37 rfl ?_
    refine r_iadd dX3_restBeside_38 ?_
    refine q_istore (lo' := [some (.ref (ad 17)), some (.int x1), some (.int x2), some (.int x3), some (.int x4), some (.int ((v_X3_step M (gI M 19 (x4 - 1).toNatClampNeg) x1 (gI M 19 x4.toNatClampNeg)) + x3)), none]) dX3_restBeside_39 (by decide) rfl ?_
    refine r_aload_n dX3_restBeside_41 rfl ?_
    refine r_iload_n dX3_restBeside_42 rfl ?_
    refine r_aload_n dX3_restBeside_43 rfl ?_
    refine r_getR dX3_restBeside_44 fs_17_4 fk_X3_15 ?_
    refine r_iload dX3_restBeside_47 rfl ?_
    refine r_iconst (v := 1) dX3_restBeside_49 kI_1 ?_
    refine r_isub dX3_restBeside_50 ?_
    refine r_iald dX3_restBeside_51 as_19 (g1 c1) ?_
    refine r_aload_n dX3_restBeside_52 rfl ?_
    refine r_getR dX3_restBeside_53 fs_17_4 fk_X3_15 ?_
    refine r_iload dX3_restBeside_56 rfl ?_
    refine r_iald dX3_restBeside_58 as_19 (g2 c1) ?_
    refine r_callV (x := 17) (As := [.int x1, .int (gI M 19 (x4 - 1).toNatClampNeg), .int (gI M 19 x4.toNatClampNeg)]) (rest := []) dX3_restBeside_59 mk_X3_109 mv_X3_step rm_X3_restBeside_X3_step rfl rfl (by decide +kernel) (Nat.le_of_ble_eq_true rfl) (ct_X3_step (g4 c1) (⟨_, rfl, ?_⟩))
    refine r_aload_n dX3_restBeside_62 rfl ?_
    refine r_iload dX3_restBeside_63 rfl ?_
    refine r_iconst (v := 1) dX3_restBeside_65 kI_1 ?_
    refine r_iadd dX3_restBeside_66 ?_
    refine r_iload dX3_restBeside_67 rfl ?_
    refine r_callV (x := 17) (As := [.int (x4 + 1), .int x4]) (rest := [.int (v_X3_step M x1 (gI M 19 (x4 - 1).toNatClampNeg) (gI M 19 x4.toNatClampNeg))]) dX3_restBeside_69 mk_X3_85 mv_X3_restOf rm_X3_restBeside_X3_restOf rfl rfl (by decide +kernel) (Nat.le_of_ble_eq_true rfl) (ct_X3_restOf (g5 c1) (⟨_, rfl, ?_⟩))
    refine r_iadd dX3_restBeside_72 ?_
    refine q_istore (lo' := [some (.ref (ad 17)), some (.int x1), some (.int x2), some (.int x3), some (.int x4), some (.int ((v_X3_step M (gI M 19 (x4 - 1).toNatClampNeg) x1 (gI M 19 x4.toNatClampNeg)) + x3)), some (.int ((v_X3_step M x1 (gI M 19 (x4 - 1).toNatClampNeg) (gI M 19 x4.toNatClampNeg)) + (v_X3_restOf M (x4 + 1) x4)))]) dX3_restBeside_73 (by decide) rfl ?_
    refine r_ldc (v := 16777216) dX3_restBeside_75 co_X3_48 ?_
    refine r_iload dX3_restBeside_77 rfl ?_
    refine r_iload dX3_restBeside_79 rfl ?_
    refine q_mmin dX3_restBeside_81 mk_X3_103 (by decide) (Nat.le_of_ble_eq_true rfl) ?_
    refine q_mmin dX3_restBeside_84 mk_X3_103 (by decide) (Nat.le_of_ble_eq_true rfl) ?_
    refine q_istore_n (lo' := [some (.ref (ad 17)), some (.int x1), some (.int x2), some (.int (imin 16777216 (imin ((v_X3_step M (gI M 19 (x4 - 1).toNatClampNeg) x1 (gI M 19 x4.toNatClampNeg)) + x3) ((v_X3_step M x1 (gI M 19 (x4 - 1).toNatClampNeg) (gI M 19 x4.toNatClampNeg)) + (v_X3_restOf M (x4 + 1) x4))))), some (.int x4), some (.int ((v_X3_step M (gI M 19 (x4 - 1).toNatClampNeg) x1 (gI M 19 x4.toNatClampNeg)) + x3)), some (.int ((v_X3_step M x1 (gI M 19 (x4 - 1).toNatClampNeg) (gI M 19 x4.toNatClampNeg)) + (v_X3_restOf M (x4 + 1) x4)))]) dX3_restBeside_87 (by decide) rfl ?_
    refine q_iinc (v := x4 + (-1)) (lo' := [some (.ref (ad 17)), some (.int x1), some (.int x2), some (.int (imin 16777216 (imin ((v_X3_step M (gI M 19 (x4 - 1).toNatClampNeg) x1 (gI M 19 x4.toNatClampNeg)) + x3) ((v_X3_step M x1 (gI M 19 (x4 - 1).toNatClampNeg) (gI M 19 x4.toNatClampNeg)) + (v_X3_restOf M (x4 + 1) x4))))), some (.int (x4 + (-1))), some (.int ((v_X3_step M (gI M 19 (x4 - 1).toNatClampNeg) x1 (gI M 19 x4.toNatClampNeg)) + x3)), some (.int ((v_X3_step M x1 (gI M 19 (x4 - 1).toNatClampNeg) (gI M 19 x4.toNatClampNeg)) + (v_X3_restOf M (x4 + 1) x4)))]) dX3_restBeside_88 rfl (congrArg (fun q => x4 + q) kI_m1) (by decide) rfl ?_
    refine r_goto (tgt := 10) dX3_restBeside_91 (by decide) ?_
    exact q_weak (lo' := [some (.ref (ad 17)), some (.int x1), some (.int x2), some (.int (imin 16777216 (imin ((v_X3_step M (gI M 19 (x4 - 1).toNatClampNeg) x1 (gI M 19 x4.toNatClampNeg)) + x3) ((v_X3_step M x1 (gI M 19 (x4 - 1).toNatClampNeg) (gI M 19 x4.toNatClampNeg)) + (v_X3_restOf M (x4 + 1) x4))))), some (.int (x4 + (-1))), none, none]) ⟨rfl, rfl, rfl, rfl, rfl, trivial⟩ (K2 c1)
theorem en_X3_restBeside {x1 : Int32} {x2 : Int32} (K : Fw l D ad kA mX3_restBeside 0 [some (.ref (ad 17)), some (.int x1), some (.int x2), none, none, none, none] [] M Q) : Cal l D ad kA mX3_restBeside [.ref (ad 17), .int x1, .int x2] M Q := Cal.of (by decide) rfl rfl (Nat.le_of_ble_eq_true rfl) K
end W_hands
