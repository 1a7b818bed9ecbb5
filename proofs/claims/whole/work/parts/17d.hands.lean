/-! Hands: decode rows, links, walks from cut to cut (printed by wip/gen) -/
theorem dX3_restBehind_0 : decode cX3_restBehind 0 = .ok (.iload_n 3, 1) := by decide +kernel
theorem dX3_restBehind_1 : decode cX3_restBehind 1 = .ok (.aload_n 0, 1) := by decide +kernel
theorem dX3_restBehind_2 : decode cX3_restBehind 2 = .ok (.getfield 52, 3) := by decide +kernel
theorem dX3_restBehind_5 : decode cX3_restBehind 5 = .ok (.if_icmp .lt 5, 3) := by decide +kernel
theorem dX3_restBehind_8 : decode cX3_restBehind 8 = .ok (.iconst 0, 1) := by decide +kernel
theorem dX3_restBehind_9 : decode cX3_restBehind 9 = .ok (.ireturn, 1) := by decide +kernel
theorem dX3_restBehind_10 : decode cX3_restBehind 10 = .ok (.aload_n 0, 1) := by decide +kernel
theorem dX3_restBehind_11 : decode cX3_restBehind 11 = .ok (.getfield 15, 3) := by decide +kernel
theorem dX3_restBehind_14 : decode cX3_restBehind 14 = .ok (.iload_n 3, 1) := by decide +kernel
theorem dX3_restBehind_15 : decode cX3_restBehind 15 = .ok (.iaload, 1) := by decide +kernel
theorem dX3_restBehind_16 : decode cX3_restBehind 16 = .ok (.istore 5, 2) := by decide +kernel
theorem dX3_restBehind_18 : decode cX3_restBehind 18 = .ok (.aload_n 0, 1) := by decide +kernel
theorem dX3_restBehind_19 : decode cX3_restBehind 19 = .ok (.iload_n 2, 1) := by decide +kernel
theorem dX3_restBehind_20 : decode cX3_restBehind 20 = .ok (.invokevirtual 100, 3) := by decide +kernel
theorem dX3_restBehind_23 : decode cX3_restBehind 23 = .ok (.istore 6, 2) := by decide +kernel
theorem dX3_restBehind_25 : decode cX3_restBehind 25 = .ok (.aload_n 0, 1) := by decide +kernel
theorem dX3_restBehind_26 : decode cX3_restBehind 26 = .ok (.iload_n 1, 1) := by decide +kernel
theorem dX3_restBehind_27 : decode cX3_restBehind 27 = .ok (.iload 6, 2) := by decide +kernel
theorem dX3_restBehind_29 : decode cX3_restBehind 29 = .ok (.iload 5, 2) := by decide +kernel
theorem dX3_restBehind_31 : decode cX3_restBehind 31 = .ok (.invokevirtual 109, 3) := by decide +kernel
theorem dX3_restBehind_34 : decode cX3_restBehind 34 = .ok (.aload_n 0, 1) := by decide +kernel
theorem dX3_restBehind_35 : decode cX3_restBehind 35 = .ok (.iload_n 3, 1) := by decide +kernel
theorem dX3_restBehind_36 : decode cX3_restBehind 36 = .ok (.iconst 1, 1) := by decide +kernel
theorem dX3_restBehind_37 : decode cX3_restBehind 37 = .ok (.iadd, 1) := by decide +kernel
theorem dX3_restBehind_38 : decode cX3_restBehind 38 = .ok (.iload_n 2, 1) := by decide +kernel
theorem dX3_restBehind_39 : decode cX3_restBehind 39 = .ok (.invokevirtual 85, 3) := by decide +kernel
theorem dX3_restBehind_42 : decode cX3_restBehind 42 = .ok (.iadd, 1) := by decide +kernel
theorem dX3_restBehind_43 : decode cX3_restBehind 43 = .ok (.istore 7, 2) := by decide +kernel
theorem dX3_restBehind_45 : decode cX3_restBehind 45 = .ok (.iload 7, 2) := by decide +kernel
theorem dX3_restBehind_47 : decode cX3_restBehind 47 = .ok (.aload_n 0, 1) := by decide +kernel
theorem dX3_restBehind_48 : decode cX3_restBehind 48 = .ok (.iload 6, 2) := by decide +kernel
theorem dX3_restBehind_50 : decode cX3_restBehind 50 = .ok (.iload_n 1, 1) := by decide +kernel
theorem dX3_restBehind_51 : decode cX3_restBehind 51 = .ok (.iload 5, 2) := by decide +kernel
theorem dX3_restBehind_53 : decode cX3_restBehind 53 = .ok (.invokevirtual 109, 3) := by decide +kernel
theorem dX3_restBehind_56 : decode cX3_restBehind 56 = .ok (.iload 4, 2) := by decide +kernel
theorem dX3_restBehind_58 : decode cX3_restBehind 58 = .ok (.iadd, 1) := by decide +kernel
theorem dX3_restBehind_59 : decode cX3_restBehind 59 = .ok (.invokestatic 103, 3) := by decide +kernel
theorem dX3_restBehind_62 : decode cX3_restBehind 62 = .ok (.ireturn, 1) := by decide +kernel
theorem dX3_takesInserting_0 : decode cX3_takesInserting 0 = .ok (.aload_n 0, 1) := by decide +kernel
theorem dX3_takesInserting_1 : decode cX3_takesInserting 1 = .ok (.iload_n 2, 1) := by decide +kernel
theorem dX3_takesInserting_2 : decode cX3_takesInserting 2 = .ok (.invokevirtual 100, 3) := by decide +kernel
theorem dX3_takesInserting_5 : decode cX3_takesInserting 5 = .ok (.istore_n 3, 1) := by decide +kernel
theorem dX3_takesInserting_6 : decode cX3_takesInserting 6 = .ok (.aload_n 0, 1) := by decide +kernel
theorem dX3_takesInserting_7 : decode cX3_takesInserting 7 = .ok (.iload_n 1, 1) := by decide +kernel
theorem dX3_takesInserting_8 : decode cX3_takesInserting 8 = .ok (.iload_n 2, 1) := by decide +kernel
theorem dX3_takesInserting_9 : decode cX3_takesInserting 9 = .ok (.iconst 1, 1) := by decide +kernel
theorem dX3_takesInserting_10 : decode cX3_takesInserting 10 = .ok (.iadd, 1) := by decide +kernel
theorem dX3_takesInserting_11 : decode cX3_takesInserting 11 = .ok (.invokevirtual 113, 3) := by decide +kernel
theorem dX3_takesInserting_14 : decode cX3_takesInserting 14 = .ok (.istore 4, 2) := by decide +kernel
theorem dX3_takesInserting_16 : decode cX3_takesInserting 16 = .ok (.ldc 48, 2) := by decide +kernel
theorem dX3_takesInserting_18 : decode cX3_takesInserting 18 = .ok (.istore 5, 2) := by decide +kernel
theorem dX3_takesInserting_20 : decode cX3_takesInserting 20 = .ok (.ldc 48, 2) := by decide +kernel
theorem dX3_takesInserting_22 : decode cX3_takesInserting 22 = .ok (.istore 6, 2) := by decide +kernel
theorem dX3_takesInserting_24 : decode cX3_takesInserting 24 = .ok (.iconst 0, 1) := by decide +kernel
theorem dX3_takesInserting_25 : decode cX3_takesInserting 25 = .ok (.istore 7, 2) := by decide +kernel
theorem dX3_takesInserting_27 : decode cX3_takesInserting 27 = .ok (.iload 7, 2) := by decide +kernel
theorem dX3_takesInserting_29 : decode cX3_takesInserting 29 = .ok (.iload_n 2, 1) := by decide +kernel
theorem dX3_takesInserting_30 : decode cX3_takesInserting 30 = .ok (.invokestatic 106, 3) := by decide +kernel
theorem dX3_takesInserting_33 : decode cX3_takesInserting 33 = .ok (.if_icmp .ge 78, 3) := by decide +kernel
theorem dX3_takesInserting_36 : decode cX3_takesInserting 36 = .ok (.aload_n 0, 1) := by decide +kernel
theorem dX3_takesInserting_37 : decode cX3_takesInserting 37 = .ok (.iload 7, 2) := by decide +kernel
theorem dX3_takesInserting_39 : decode cX3_takesInserting 39 = .ok (.invokevirtual 100, 3) := by decide +kernel
theorem dX3_takesInserting_42 : decode cX3_takesInserting 42 = .ok (.istore 8, 2) := by decide +kernel
theorem dX3_takesInserting_44 : decode cX3_takesInserting 44 = .ok (.aload_n 0, 1) := by decide +kernel
theorem dX3_takesInserting_45 : decode cX3_takesInserting 45 = .ok (.getfield 21, 3) := by decide +kernel
theorem dX3_takesInserting_48 : decode cX3_takesInserting 48 = .ok (.iload 7, 2) := by decide +kernel
theorem dX3_takesInserting_50 : decode cX3_takesInserting 50 = .ok (.iaload, 1) := by decide +kernel
theorem dX3_takesInserting_51 : decode cX3_takesInserting 51 = .ok (.aload_n 0, 1) := by decide +kernel
theorem dX3_takesInserting_52 : decode cX3_takesInserting 52 = .ok (.iload_n 3, 1) := by decide +kernel
theorem dX3_takesInserting_53 : decode cX3_takesInserting 53 = .ok (.iload 8, 2) := by decide +kernel
theorem dX3_takesInserting_55 : decode cX3_takesInserting 55 = .ok (.iload_n 1, 1) := by decide +kernel
theorem dX3_takesInserting_56 : decode cX3_takesInserting 56 = .ok (.invokevirtual 109, 3) := by decide +kernel
theorem dX3_takesInserting_59 : decode cX3_takesInserting 59 = .ok (.iadd, 1) := by decide +kernel
theorem dX3_takesInserting_60 : decode cX3_takesInserting 60 = .ok (.istore 9, 2) := by decide +kernel
theorem dX3_takesInserting_62 : decode cX3_takesInserting 62 = .ok (.iload 5, 2) := by decide +kernel
theorem dX3_takesInserting_64 : decode cX3_takesInserting 64 = .ok (.iload 9, 2) := by decide +kernel
theorem dX3_takesInserting_66 : decode cX3_takesInserting 66 = .ok (.aload_n 0, 1) := by decide +kernel
theorem dX3_takesInserting_67 : decode cX3_takesInserting 67 = .ok (.iload_n 1, 1) := by decide +kernel
theorem dX3_takesInserting_68 : decode cX3_takesInserting 68 = .ok (.iload 7, 2) := by decide +kernel
theorem dX3_takesInserting_70 : decode cX3_takesInserting 70 = .ok (.iload_n 2, 1) := by decide +kernel
theorem dX3_takesInserting_71 : decode cX3_takesInserting 71 = .ok (.iload 4, 2) := by decide +kernel
theorem dX3_takesInserting_73 : decode cX3_takesInserting 73 = .ok (.invokevirtual 116, 3) := by decide +kernel
theorem dX3_takesInserting_76 : decode cX3_takesInserting 76 = .ok (.iadd, 1) := by decide +kernel
theorem dX3_takesInserting_77 : decode cX3_takesInserting 77 = .ok (.invokestatic 103, 3) := by decide +kernel
theorem dX3_takesInserting_80 : decode cX3_takesInserting 80 = .ok (.istore 5, 2) := by decide +kernel
theorem dX3_takesInserting_82 : decode cX3_takesInserting 82 = .ok (.iload 6, 2) := by decide +kernel
theorem dX3_takesInserting_84 : decode cX3_takesInserting 84 = .ok (.aload_n 0, 1) := by decide +kernel
theorem dX3_takesInserting_85 : decode cX3_takesInserting 85 = .ok (.getfield 21, 3) := by decide +kernel
theorem dX3_takesInserting_88 : decode cX3_takesInserting 88 = .ok (.iload 7, 2) := by decide +kernel
theorem dX3_takesInserting_90 : decode cX3_takesInserting 90 = .ok (.iaload, 1) := by decide +kernel
theorem dX3_takesInserting_91 : decode cX3_takesInserting 91 = .ok (.aload_n 0, 1) := by decide +kernel
theorem dX3_takesInserting_92 : decode cX3_takesInserting 92 = .ok (.iload 8, 2) := by decide +kernel
theorem dX3_takesInserting_94 : decode cX3_takesInserting 94 = .ok (.iload_n 3, 1) := by decide +kernel
theorem dX3_takesInserting_95 : decode cX3_takesInserting 95 = .ok (.iload_n 1, 1) := by decide +kernel
theorem dX3_takesInserting_96 : decode cX3_takesInserting 96 = .ok (.invokevirtual 109, 3) := by decide +kernel
theorem dX3_takesInserting_99 : decode cX3_takesInserting 99 = .ok (.iadd, 1) := by decide +kernel
theorem dX3_takesInserting_100 : decode cX3_takesInserting 100 = .ok (.invokestatic 103, 3) := by decide +kernel
theorem dX3_takesInserting_103 : decode cX3_takesInserting 103 = .ok (.istore 6, 2) := by decide +kernel
theorem dX3_takesInserting_105 : decode cX3_takesInserting 105 = .ok (.iinc 7 1, 3) := by decide +kernel
theorem dX3_takesInserting_108 : decode cX3_takesInserting 108 = .ok (.goto (-81), 3) := by decide +kernel
theorem dX3_takesInserting_111 : decode cX3_takesInserting 111 = .ok (.iload 5, 2) := by decide +kernel
theorem dX3_takesInserting_113 : decode cX3_takesInserting 113 = .ok (.iload 6, 2) := by decide +kernel
theorem dX3_takesInserting_115 : decode cX3_takesInserting 115 = .ok (.aload_n 0, 1) := by decide +kernel
theorem dX3_takesInserting_116 : decode cX3_takesInserting 116 = .ok (.iload_n 1, 1) := by decide +kernel
theorem dX3_takesInserting_117 : decode cX3_takesInserting 117 = .ok (.iload_n 2, 1) := by decide +kernel
theorem dX3_takesInserting_118 : decode cX3_takesInserting 118 = .ok (.iload_n 2, 1) := by decide +kernel
theorem dX3_takesInserting_119 : decode cX3_takesInserting 119 = .ok (.iload 4, 2) := by decide +kernel
theorem dX3_takesInserting_121 : decode cX3_takesInserting 121 = .ok (.invokevirtual 116, 3) := by decide +kernel
theorem dX3_takesInserting_124 : decode cX3_takesInserting 124 = .ok (.iadd, 1) := by decide +kernel
theorem dX3_takesInserting_125 : decode cX3_takesInserting 125 = .ok (.invokestatic 103, 3) := by decide +kernel
theorem dX3_takesInserting_128 : decode cX3_takesInserting 128 = .ok (.ireturn, 1) := by decide +kernel
theorem dX3_takesOf_0 : decode cX3_takesOf 0 = .ok (.aload_n 0, 1) := by decide +kernel
theorem dX3_takesOf_1 : decode cX3_takesOf 1 = .ok (.lload_n 1, 1) := by decide +kernel
theorem dX3_takesOf_2 : decode cX3_takesOf 2 = .ok (.invokevirtual 36, 3) := by decide +kernel
theorem dX3_takesOf_5 : decode cX3_takesOf 5 = .ok (.aload_n 0, 1) := by decide +kernel
theorem dX3_takesOf_6 : decode cX3_takesOf 6 = .ok (.invokevirtual 40, 3) := by decide +kernel
theorem dX3_takesOf_9 : decode cX3_takesOf 9 = .ok (.ireturn, 1) := by decide +kernel
theorem dX3_choose_0 : decode cX3_choose 0 = .ok (.aload_n 0, 1) := by decide +kernel
theorem dX3_choose_1 : decode cX3_choose 1 = .ok (.lload_n 1, 1) := by decide +kernel
theorem dX3_choose_2 : decode cX3_choose 2 = .ok (.invokevirtual 44, 3) := by decide +kernel
theorem dX3_choose_5 : decode cX3_choose 5 = .ok (.istore_n 3, 1) := by decide +kernel
theorem dX3_choose_6 : decode cX3_choose 6 = .ok (.iload_n 3, 1) := by decide +kernel
theorem dX3_choose_7 : decode cX3_choose 7 = .ok (.ldc 48, 2) := by decide +kernel
theorem dX3_choose_9 : decode cX3_choose 9 = .ok (.if_icmp .ge 7, 3) := by decide +kernel
theorem dX3_choose_12 : decode cX3_choose 12 = .ok (.aload_n 0, 1) := by decide +kernel
theorem dX3_choose_13 : decode cX3_choose 13 = .ok (.invokevirtual 49, 3) := by decide +kernel
theorem dX3_choose_16 : decode cX3_choose 16 = .ok (.iload_n 3, 1) := by decide +kernel
theorem dX3_choose_17 : decode cX3_choose 17 = .ok (.ireturn, 1) := by decide +kernel
theorem dX3_weighWithout_0 : decode cX3_weighWithout 0 = .ok (.aload_n 0, 1) := by decide +kernel
theorem dX3_weighWithout_1 : decode cX3_weighWithout 1 = .ok (.lload_n 1, 1) := by decide +kernel
theorem dX3_weighWithout_2 : decode cX3_weighWithout 2 = .ok (.invokevirtual 44, 3) := by decide +kernel
theorem dX3_weighWithout_5 : decode cX3_weighWithout 5 = .ok (.pop, 1) := by decide +kernel
theorem dX3_weighWithout_6 : decode cX3_weighWithout 6 = .ok (.aload_n 0, 1) := by decide +kernel
theorem dX3_weighWithout_7 : decode cX3_weighWithout 7 = .ok (.getfield 21, 3) := by decide +kernel
theorem dX3_weighWithout_10 : decode cX3_weighWithout 10 = .ok (.iconst 0, 1) := by decide +kernel
theorem dX3_weighWithout_11 : decode cX3_weighWithout 11 = .ok (.iconst 0, 1) := by decide +kernel
theorem dX3_weighWithout_12 : decode cX3_weighWithout 12 = .ok (.iastore, 1) := by decide +kernel
theorem dX3_weighWithout_13 : decode cX3_weighWithout 13 = .ok (.iconst 0, 1) := by decide +kernel
theorem dX3_weighWithout_14 : decode cX3_weighWithout 14 = .ok (.istore 4, 2) := by decide +kernel
theorem dX3_weighWithout_16 : decode cX3_weighWithout 16 = .ok (.iload 4, 2) := by decide +kernel
theorem dX3_weighWithout_18 : decode cX3_weighWithout 18 = .ok (.aload_n 0, 1) := by decide +kernel
theorem dX3_weighWithout_19 : decode cX3_weighWithout 19 = .ok (.getfield 52, 3) := by decide +kernel
theorem dX3_weighWithout_22 : decode cX3_weighWithout 22 = .ok (.if_icmp .ge 30, 3) := by decide +kernel
theorem dX3_weighWithout_25 : decode cX3_weighWithout 25 = .ok (.aload_n 3, 1) := by decide +kernel
theorem dX3_weighWithout_26 : decode cX3_weighWithout 26 = .ok (.aload_n 0, 1) := by decide +kernel
theorem dX3_weighWithout_27 : decode cX3_weighWithout 27 = .ok (.getfield 15, 3) := by decide +kernel
theorem dX3_weighWithout_30 : decode cX3_weighWithout 30 = .ok (.iload 4, 2) := by decide +kernel
theorem dX3_weighWithout_32 : decode cX3_weighWithout 32 = .ok (.iaload, 1) := by decide +kernel
theorem dX3_weighWithout_33 : decode cX3_weighWithout 33 = .ok (.aload_n 0, 1) := by decide +kernel
theorem dX3_weighWithout_34 : decode cX3_weighWithout 34 = .ok (.iload 4, 2) := by decide +kernel
theorem dX3_weighWithout_36 : decode cX3_weighWithout 36 = .ok (.invokevirtual 56, 3) := by decide +kernel
theorem dX3_weighWithout_39 : decode cX3_weighWithout 39 = .ok (.iastore, 1) := by decide +kernel
theorem dX3_weighWithout_40 : decode cX3_weighWithout 40 = .ok (.aload_n 0, 1) := by decide +kernel
theorem dX3_weighWithout_41 : decode cX3_weighWithout 41 = .ok (.iload 4, 2) := by decide +kernel
theorem dX3_weighWithout_43 : decode cX3_weighWithout 43 = .ok (.invokevirtual 60, 3) := by decide +kernel
theorem dX3_weighWithout_46 : decode cX3_weighWithout 46 = .ok (.iinc 4 1, 3) := by decide +kernel
theorem dX3_weighWithout_49 : decode cX3_weighWithout 49 = .ok (.goto (-33), 3) := by decide +kernel
theorem dX3_weighWithout_52 : decode cX3_weighWithout 52 = .ok (.return_, 1) := by decide +kernel
theorem dX3_weighWith_0 : decode cX3_weighWith 0 = .ok (.aload_n 0, 1) := by decide +kernel
theorem dX3_weighWith_1 : decode cX3_weighWith 1 = .ok (.lload_n 1, 1) := by decide +kernel
theorem dX3_weighWith_2 : decode cX3_weighWith 2 = .ok (.invokevirtual 44, 3) := by decide +kernel
theorem dX3_weighWith_5 : decode cX3_weighWith 5 = .ok (.pop, 1) := by decide +kernel
theorem dX3_weighWith_6 : decode cX3_weighWith 6 = .ok (.aload_n 0, 1) := by decide +kernel
theorem dX3_weighWith_7 : decode cX3_weighWith 7 = .ok (.getfield 21, 3) := by decide +kernel
theorem dX3_weighWith_10 : decode cX3_weighWith 10 = .ok (.iconst 0, 1) := by decide +kernel
theorem dX3_weighWith_11 : decode cX3_weighWith 11 = .ok (.iconst 0, 1) := by decide +kernel
theorem dX3_weighWith_12 : decode cX3_weighWith 12 = .ok (.iastore, 1) := by decide +kernel
theorem dX3_weighWith_13 : decode cX3_weighWith 13 = .ok (.iconst 0, 1) := by decide +kernel
theorem dX3_weighWith_14 : decode cX3_weighWith 14 = .ok (.istore 6, 2) := by decide +kernel
theorem dX3_weighWith_16 : decode cX3_weighWith 16 = .ok (.iconst 0, 1) := by decide +kernel
theorem dX3_weighWith_17 : decode cX3_weighWith 17 = .ok (.istore 7, 2) := by decide +kernel
theorem dX3_weighWith_19 : decode cX3_weighWith 19 = .ok (.iload 7, 2) := by decide +kernel
theorem dX3_weighWith_21 : decode cX3_weighWith 21 = .ok (.aload_n 0, 1) := by decide +kernel
theorem dX3_weighWith_22 : decode cX3_weighWith 22 = .ok (.getfield 24, 3) := by decide +kernel
theorem dX3_weighWith_25 : decode cX3_weighWith 25 = .ok (.getfield 64, 3) := by decide +kernel
theorem dX3_weighWith_28 : decode cX3_weighWith 28 = .ok (.if_icmp .ge 68, 3) := by decide +kernel
theorem dX3_weighWith_31 : decode cX3_weighWith 31 = .ok (.iload 6, 2) := by decide +kernel
theorem dX3_weighWith_33 : decode cX3_weighWith 33 = .ok (.aload_n 0, 1) := by decide +kernel
theorem dX3_weighWith_34 : decode cX3_weighWith 34 = .ok (.getfield 52, 3) := by decide +kernel
theorem dX3_weighWith_37 : decode cX3_weighWith 37 = .ok (.if_icmp .ge 27, 3) := by decide +kernel
theorem dX3_weighWith_40 : decode cX3_weighWith 40 = .ok (.aload_n 0, 1) := by decide +kernel
theorem dX3_weighWith_41 : decode cX3_weighWith 41 = .ok (.getfield 15, 3) := by decide +kernel
theorem dX3_weighWith_44 : decode cX3_weighWith 44 = .ok (.iload 6, 2) := by decide +kernel
theorem dX3_weighWith_46 : decode cX3_weighWith 46 = .ok (.iaload, 1) := by decide +kernel
theorem dX3_weighWith_47 : decode cX3_weighWith 47 = .ok (.iload 7, 2) := by decide +kernel
theorem dX3_weighWith_49 : decode cX3_weighWith 49 = .ok (.if_icmp .ne 15, 3) := by decide +kernel
theorem dX3_weighWith_52 : decode cX3_weighWith 52 = .ok (.aload_n 0, 1) := by decide +kernel
theorem dX3_weighWith_53 : decode cX3_weighWith 53 = .ok (.iload 6, 2) := by decide +kernel
theorem dX3_weighWith_55 : decode cX3_weighWith 55 = .ok (.invokevirtual 60, 3) := by decide +kernel
theorem dX3_weighWith_58 : decode cX3_weighWith 58 = .ok (.iinc 6 1, 3) := by decide +kernel
theorem dX3_weighWith_61 : decode cX3_weighWith 61 = .ok (.goto 29, 3) := by decide +kernel
theorem dX3_weighWith_64 : decode cX3_weighWith 64 = .ok (.aload_n 0, 1) := by decide +kernel
theorem dX3_weighWith_65 : decode cX3_weighWith 65 = .ok (.getfield 24, 3) := by decide +kernel
theorem dX3_weighWith_68 : decode cX3_weighWith 68 = .ok (.lload_n 3, 1) := by decide +kernel
theorem dX3_weighWith_69 : decode cX3_weighWith 69 = .ok (.iload 7, 2) := by decide +kernel
theorem dX3_weighWith_71 : decode cX3_weighWith 71 = .ok (.invokevirtual 67, 3) := by decide +kernel
theorem dX3_weighWith_74 : decode cX3_weighWith 74 = .ok (.ifCond .eq 16, 3) := by decide +kernel
theorem dX3_weighWith_77 : decode cX3_weighWith 77 = .ok (.aload 5, 2) := by decide +kernel
theorem dX3_weighWith_79 : decode cX3_weighWith 79 = .ok (.iload 7, 2) := by decide +kernel
theorem dX3_weighWith_81 : decode cX3_weighWith 81 = .ok (.aload_n 0, 1) := by decide +kernel
theorem dX3_weighWith_82 : decode cX3_weighWith 82 = .ok (.iload 7, 2) := by decide +kernel
theorem dX3_weighWith_84 : decode cX3_weighWith 84 = .ok (.iload 6, 2) := by decide +kernel
theorem dX3_weighWith_86 : decode cX3_weighWith 86 = .ok (.invokevirtual 71, 3) := by decide +kernel
theorem dX3_weighWith_89 : decode cX3_weighWith 89 = .ok (.iastore, 1) := by decide +kernel
theorem dX3_weighWith_90 : decode cX3_weighWith 90 = .ok (.iinc 7 1, 3) := by decide +kernel
theorem dX3_weighWith_93 : decode cX3_weighWith 93 = .ok (.goto (-74), 3) := by decide +kernel
theorem dX3_weighWith_96 : decode cX3_weighWith 96 = .ok (.return_, 1) := by decide +kernel
abbrev mX3_restBehind : MI := (yX3_restBehind, cX3_restBehind, 8, some .int, 3, 70, [])
abbrev mX3_takesInserting : MI := (yX3_takesInserting, cX3_takesInserting, 10, some .int, 4, 97, [])
abbrev mX3_takesOf : MI := (yX3_takesOf, cX3_takesOf, 3, some .int, 4, 101, [])
abbrev mX3_choose : MI := (yX3_choose, cX3_choose, 4, some .int, 5, 123, [])
abbrev mX3_weighWithout : MI := (yX3_weighWithout, cX3_weighWithout, 5, none, 5, 123, [])
abbrev mX3_weighWith : MI := (yX3_weighWith, cX3_weighWith, 8, none, 5, 126, [])
theorem mv_X3_gather : MkV mX3_gather := ⟨lw_in (i := 731) (by decide +kernel) (by decide +kernel), lw_se (i := 13) (by decide +kernel) (by decide +kernel)⟩
theorem mv_X3_keepHands : MkV mX3_keepHands := ⟨lw_in (i := 768) (by decide +kernel) (by decide +kernel), lw_se (i := 20) (by decide +kernel) (by decide +kernel)⟩
theorem mv_X3_restBehind : MkV mX3_restBehind := ⟨lw_in (i := 903) (by decide +kernel) (by decide +kernel), lw_se (i := 35) (by decide +kernel) (by decide +kernel)⟩
theorem mv_X3_restBeside : MkV mX3_restBeside := ⟨lw_in (i := 899) (by decide +kernel) (by decide +kernel), lw_se (i := 34) (by decide +kernel) (by decide +kernel)⟩
theorem mv_X3_stepForth : MkV mX3_stepForth := ⟨lw_in (i := 887) (by decide +kernel) (by decide +kernel), lw_se (i := 32) (by decide +kernel) (by decide +kernel)⟩
theorem mv_X3_takesInserting : MkV mX3_takesInserting := ⟨lw_in (i := 895) (by decide +kernel) (by decide +kernel), lw_se (i := 33) (by decide +kernel) (by decide +kernel)⟩
theorem mv_X3_takesOf : MkV mX3_takesOf := ⟨lw_in (i := 726) (by decide +kernel) (by decide +kernel), lw_in (i := 727) (by decide +kernel) (by decide +kernel)⟩
theorem mv_X3_takesSkipping : MkV mX3_takesSkipping := ⟨lw_in (i := 877) (by decide +kernel) (by decide +kernel), lw_se (i := 31) (by decide +kernel) (by decide +kernel)⟩
theorem mv_X3_weighRest : MkV mX3_weighRest := ⟨lw_in (i := 739) (by decide +kernel) (by decide +kernel), lw_se (i := 14) (by decide +kernel) (by decide +kernel)⟩
theorem mk_X3_36 : Mk RX3 36 mX3_gather 1 := ⟨lw_in (i := 729) (by decide +kernel) (by decide +kernel), lw_in (i := 7) (by decide +kernel) (by decide +kernel), lw_in (i := 732) (by decide +kernel) (by decide +kernel), by decide +kernel⟩
theorem mk_X3_40 : Mk RX3 40 mX3_weighRest 0 := ⟨lw_in (i := 737) (by decide +kernel) (by decide +kernel), lw_in (i := 7) (by decide +kernel) (by decide +kernel), lw_in (i := 740) (by decide +kernel) (by decide +kernel), by decide +kernel⟩
theorem mk_X3_44 : Mk RX3 44 mX3_takesOf 1 := ⟨lw_in (i := 725) (by decide +kernel) (by decide +kernel), lw_in (i := 7) (by decide +kernel) (by decide +kernel), lw_in (i := 728) (by decide +kernel) (by decide +kernel), by decide +kernel⟩
theorem mk_X3_49 : Mk RX3 49 mX3_keepHands 0 := ⟨lw_in (i := 766) (by decide +kernel) (by decide +kernel), lw_in (i := 7) (by decide +kernel) (by decide +kernel), lw_in (i := 769) (by decide +kernel) (by decide +kernel), by decide +kernel⟩
theorem mk_X3_56 : Mk RX3 56 mX3_takesSkipping 1 := ⟨lw_in (i := 875) (by decide +kernel) (by decide +kernel), lw_in (i := 7) (by decide +kernel) (by decide +kernel), lw_in (i := 878) (by decide +kernel) (by decide +kernel), by decide +kernel⟩
theorem mk_X3_60 : Mk RX3 60 mX3_stepForth 1 := ⟨lw_in (i := 885) (by decide +kernel) (by decide +kernel), lw_in (i := 7) (by decide +kernel) (by decide +kernel), lw_in (i := 888) (by decide +kernel) (by decide +kernel), by decide +kernel⟩
theorem mk_X3_71 : Mk RX3 71 mX3_takesInserting 2 := ⟨lw_in (i := 893) (by decide +kernel) (by decide +kernel), lw_in (i := 7) (by decide +kernel) (by decide +kernel), lw_in (i := 896) (by decide +kernel) (by decide +kernel), by decide +kernel⟩
theorem mk_X3_113 : Mk RX3 113 mX3_restBeside 2 := ⟨lw_in (i := 897) (by decide +kernel) (by decide +kernel), lw_in (i := 7) (by decide +kernel) (by decide +kernel), lw_in (i := 900) (by decide +kernel) (by decide +kernel), by decide +kernel⟩
theorem mk_X3_116 : Mk RX3 116 mX3_restBehind 4 := ⟨lw_in (i := 901) (by decide +kernel) (by decide +kernel), lw_in (i := 7) (by decide +kernel) (by decide +kernel), lw_in (i := 904) (by decide +kernel) (by decide +kernel), by decide +kernel⟩
theorem rm_X3_choose_X3_keepHands : Rm mX3_choose mX3_keepHands := ⟨by decide, by decide⟩
theorem rm_X3_choose_X3_takesOf : Rm mX3_choose mX3_takesOf := ⟨by decide, by decide⟩
theorem rm_X3_restBehind_X3_did : Rm mX3_restBehind mX3_did := ⟨by decide, by decide⟩
theorem rm_X3_restBehind_X3_restOf : Rm mX3_restBehind mX3_restOf := ⟨by decide, by decide⟩
theorem rm_X3_restBehind_X3_step : Rm mX3_restBehind mX3_step := ⟨by decide, by decide⟩
theorem rm_X3_takesInserting_X3_did : Rm mX3_takesInserting mX3_did := ⟨by decide, by decide⟩
theorem rm_X3_takesInserting_X3_others : Rm mX3_takesInserting mX3_others := ⟨by decide, by decide⟩
theorem rm_X3_takesInserting_X3_restBehind : Rm mX3_takesInserting mX3_restBehind := ⟨by decide, by decide⟩
theorem rm_X3_takesInserting_X3_restBeside : Rm mX3_takesInserting mX3_restBeside := ⟨by decide, by decide⟩
theorem rm_X3_takesInserting_X3_step : Rm mX3_takesInserting mX3_step := ⟨by decide, by decide⟩
theorem rm_X3_takesOf_X3_gather : Rm mX3_takesOf mX3_gather := ⟨by decide, by decide⟩
theorem rm_X3_takesOf_X3_weighRest : Rm mX3_takesOf mX3_weighRest := ⟨by decide, by decide⟩
theorem rm_X3_weighWith_X3_stepForth : Rm mX3_weighWith mX3_stepForth := ⟨by decide, by decide⟩
theorem rm_X3_weighWith_X3_takesInserting : Rm mX3_weighWith mX3_takesInserting := ⟨by decide, by decide⟩
theorem rm_X3_weighWith_X3_takesOf : Rm mX3_weighWith mX3_takesOf := ⟨by decide, by decide⟩
theorem rm_X3_weighWith_X9_isOn : Rm mX3_weighWith mX9_isOn := ⟨by decide, by decide⟩
theorem rm_X3_weighWithout_X3_stepForth : Rm mX3_weighWithout mX3_stepForth := ⟨by decide, by decide⟩
theorem rm_X3_weighWithout_X3_takesOf : Rm mX3_weighWithout mX3_takesOf := ⟨by decide, by decide⟩
theorem rm_X3_weighWithout_X3_takesSkipping : Rm mX3_weighWithout mX3_takesSkipping := ⟨by decide, by decide⟩
section W_hands
variable {l : Launch} {D : va_G} {ad : Nat → Nat} {kA : Nat → ClassId} {M : Mem} {Q : Outcome → Mem → Prop}
def v_X3_restBehind (M : Mem) (x1 : Int32) (x2 : Int32) (x3 : Int32) (x4 : Int32) : Int32 := if x3 < (gI M 17 5) then imin ((v_X3_step M x1 (v_X3_did M x2) (gI M 19 x3.toNatClampNeg)) + (v_X3_restOf M (x3 + 1) x2)) ((v_X3_step M (v_X3_did M x2) x1 (gI M 19 x3.toNatClampNeg)) + x4) else 0
def g_X3_restBehind (M : Mem) (x1 : Int32) (x2 : Int32) (x3 : Int32) (x4 : Int32) : Prop := ((x3 < (gI M 17 5)) → vp_in x3 160) ∧ ((x3 < (gI M 17 5)) → g_X3_did M x2) ∧ ((x3 < (gI M 17 5)) → g_X3_step M x1 (v_X3_did M x2) (gI M 19 x3.toNatClampNeg)) ∧ ((x3 < (gI M 17 5)) → g_X3_restOf M (x3 + 1) x2) ∧ ((x3 < (gI M 17 5)) → g_X3_step M (v_X3_did M x2) x1 (gI M 19 x3.toNatClampNeg))
theorem ct_X3_restBehind {x1 : Int32} {x2 : Int32} {x3 : Int32} {x4 : Int32}  (g : g_X3_restBehind M x1 x2 x3 x4) (h : Q (.returned (some (.int (v_X3_restBehind M x1 x2 x3 x4)))) M) : Cal l D ad kA mX3_restBehind [.ref (ad 17), .int x1, .int x2, .int x3, .int x4] M Q := by
  refine Cal.of (lo := [some (.ref (ad 17)), some (.int x1), some (.int x2), some (.int x3), some (.int x4), none, none, none]) (by decide) rfl rfl (Nat.le_of_ble_eq_true rfl) ?_
  obtain ⟨g1, g2, g3, g4, g5⟩ := g
  refine r_iload_n dX3_restBehind_0 rfl ?_
  refine r_aload_n dX3_restBehind_1 rfl ?_
  refine r_getI dX3_restBehind_2 fs_17_5 fk_X3_52 ?_
  refine r_icmp_lt (tgt := 10) dX3_restBehind_5 (by decide) (fun c1 => ?_) (fun c1 => ?_)
  · skip
    refine r_aload_n dX3_restBehind_10 rfl ?_
    refine r_getR dX3_restBehind_11 fs_17_4 fk_X3_15 ?_
    refine r_iload_n dX3_restBehind_14 rfl ?_
    refine r_iald dX3_restBehind_15 as_19 (g1 c1) ?_
    refine q_istore (lo' := [some (.ref (ad 17)), some (.int x1), some (.int x2), some (.int x3), some (.int x4), some (.int (gI M 19 x3.toNatClampNeg)), none, none]) dX3_restBehind_16 (by decide) rfl ?_
    refine r_aload_n dX3_restBehind_18 rfl ?_
    refine r_iload_n dX3_restBehind_19 rfl ?_
    refine r_callV (x := 17) (As := [.int x2]) (rest := []) dX3_restBehind_20 mk_X3_100 mv_X3_did rm_X3_restBehind_X3_did rfl rfl (by decide +kernel) (Nat.le_of_ble_eq_true rfl) (ct_X3_did (g2 c1) (⟨_, rfl, ?_⟩))
    refine q_istore (lo' := [some (.ref (ad 17)), some (.int x1), some (.int x2), some (.int x3), some (.int x4), some (.int (gI M 19 x3.toNatClampNeg)), some (.int (v_X3_did M x2)), none]) dX3_restBehind_23 (by decide) rfl ?_
    refine r_aload_n dX3_restBehind_25 rfl ?_
    refine r_iload_n dX3_restBehind_26 rfl ?_
    refine r_iload dX3_restBehind_27 rfl ?_
    refine r_iload dX3_restBehind_29 rfl ?_
    refine r_callV (x := 17) (As := [.int x1, .int (v_X3_did M x2), .int (gI M 19 x3.toNatClampNeg)]) (rest := []) dX3_restBehind_31 mk_X3_109 mv_X3_step rm_X3_restBehind_X3_step rfl rfl (by decide +kernel) (Nat.le_of_ble_eq_true rfl) (ct_X3_step (g3 c1) (⟨_, rfl, ?_⟩))
    refine r_aload_n dX3_restBehind_34 rfl ?_
    refine r_iload_n dX3_restBehind_35 rfl ?_
    refine r_iconst (v := 1) dX3_restBehind_36 kI_1 ?_
    refine r_iadd dX3_restBehind_37 ?_
    refine r_iload_n dX3_restBehind_38 rfl ?_
    refine r_callV (x := 17) (As := [.int (x3 + 1), .int x2]) (rest := [.int (v_X3_step M x1 (v_X3_did M x2) (gI M 19 x3.toNatClampNeg))]) dX3_restBehind_39 mk_X3_85 mv_X3_restOf rm_X3_restBehind_X3_restOf rfl rfl (by decide +kernel) (Nat.le_of_ble_eq_true rfl) (ct_X3_restOf (g4 c1) (⟨_, rfl, ?_⟩))
    refine r_iadd dX3_restBehind_42 ?_
    refine q_istore (lo' := [some (.ref (ad 17)), some (.int x1), some (.int x2), some (.int x3), some (.int x4), some (.int (gI M 19 x3.toNatClampNeg)), some (.int (v_X3_did M x2)), some (.int ((v_X3_step M x1 (v_X3_did M x2) (gI M 19 x3.toNatClampNeg)) + (v_X3_restOf M (x3 + 1) x2)))]) dX3_restBehind_43 (by decide) rfl ?_
    refine r_iload dX3_restBehind_45 rfl ?_
    refine r_aload_n dX3_restBehind_47 rfl ?_
    refine r_iload dX3_restBehind_48 rfl ?_
    refine r_iload_n dX3_restBehind_50 rfl ?_
    refine r_iload dX3_restBehind_51 rfl ?_
    refine r_callV (x := 17) (As := [.int (v_X3_did M x2), .int x1, .int (gI M 19 x3.toNatClampNeg)]) (rest := [.int ((v_X3_step M x1 (v_X3_did M x2) (gI M 19 x3.toNatClampNeg)) + (v_X3_restOf M (x3 + 1) x2))]) dX3_restBehind_53 mk_X3_109 mv_X3_step rm_X3_restBehind_X3_step rfl rfl (by decide +kernel) (Nat.le_of_ble_eq_true rfl) (ct_X3_step (g5 c1) (⟨_, rfl, ?_⟩))
    refine r_iload dX3_restBehind_56 rfl ?_
    refine r_iadd dX3_restBehind_58 ?_
    refine q_mmin dX3_restBehind_59 mk_X3_103 (by decide) (Nat.le_of_ble_eq_true rfl) ?_
    exact r_iret dX3_restBehind_62 rfl (by have h9 := h; simp only [v_X3_restBehind, if_pos c1] at h9; first | exact h9 | (simp only [if_pos c1]; exact h9))
  · skip
    refine r_iconst (v := 0) dX3_restBehind_8 kI_0 ?_
    exact r_iret dX3_restBehind_9 rfl (by have h9 := h; simp only [v_X3_restBehind, if_neg c1] at h9; first | exact h9 | (simp only [if_neg c1]; exact h9))
theorem t_X3_takesInserting_0 {x1 : Int32} {x2 : Int32} 
    (g1 : g_X3_did M x2)
    (K1 : Cal l D ad kA mX3_restBeside [.ref (ad 17), .int x1, .int (x2 + 1)] M (fun oc M2 => ∃ r : Int32, oc = .returned (some (.int r)) ∧ Fw l D ad kA mX3_takesInserting 14 [some (.ref (ad 17)), some (.int x1), some (.int x2), some (.int (v_X3_did M x2)), none, none, none, none, none, none] [.int r] M2 Q)) : Fw l D ad kA mX3_takesInserting 0 [some (.ref (ad 17)), some (.int x1), some (.int x2), none, none, none, none, none, none, none] [] M Q := by
  refine r_aload_n dX3_takesInserting_0 rfl ?_
  refine r_iload_n dX3_takesInserting_1 rfl ?_
  refine r_callV (x := 17) (As := [.int x2]) (rest := []) dX3_takesInserting_2 mk_X3_100 mv_X3_did rm_X3_takesInserting_X3_did rfl rfl (by decide +kernel) (Nat.le_of_ble_eq_true rfl) (ct_X3_did g1 (⟨_, rfl, ?_⟩))
  refine q_istore_n (lo' := [some (.ref (ad 17)), some (.int x1), some (.int x2), some (.int (v_X3_did M x2)), none, none, none, none, none, none]) dX3_takesInserting_5 (by decide) rfl ?_
  refine r_aload_n dX3_takesInserting_6 rfl ?_
  refine r_iload_n dX3_takesInserting_7 rfl ?_
  refine r_iload_n dX3_takesInserting_8 rfl ?_
  refine r_iconst (v := 1) dX3_takesInserting_9 kI_1 ?_
  refine r_iadd dX3_takesInserting_10 ?_
  exact r_callV (x := 17) (As := [.int x1, .int (x2 + 1)]) (rest := []) dX3_takesInserting_11 mk_X3_113 mv_X3_restBeside rm_X3_takesInserting_X3_restBeside rfl rfl (by decide +kernel) (Nat.le_of_ble_eq_true rfl) (cal_i (lo' := [some (.ref (ad 17)), some (.int x1), some (.int x2), some (.int (v_X3_did M x2)), none, none, none, none, none, none]) ⟨rfl, rfl, rfl, rfl, trivial⟩ K1)
theorem t_X3_takesInserting_14 {x1 : Int32} {x2 : Int32} {x3 : Int32} {s1 : Int32} 
    (K1 : Fw l D ad kA mX3_takesInserting 27 [some (.ref (ad 17)), some (.int x1), some (.int x2), some (.int x3), some (.int s1), some (.int 16777216), some (.int 16777216), some (.int 0), none, none] [] M Q) : Fw l D ad kA mX3_takesInserting 14 [some (.ref (ad 17)), some (.int x1), some (.int x2), some (.int x3), none, none, none, none, none, none] [.int s1] M Q := by
  refine q_istore (lo' := [some (.ref (ad 17)), some (.int x1), some (.int x2), some (.int x3), some (.int s1), none, none, none, none, none]) dX3_takesInserting_14 (by decide) rfl ?_
  refine r_ldc (v := 16777216) dX3_takesInserting_16 co_X3_48 ?_
  refine q_istore (lo' := [some (.ref (ad 17)), some (.int x1), some (.int x2), some (.int x3), some (.int s1), some (.int 16777216), none, none, none, none]) dX3_takesInserting_18 (by decide) rfl ?_
  refine r_ldc (v := 16777216) dX3_takesInserting_20 co_X3_48 ?_
  refine q_istore (lo' := [some (.ref (ad 17)), some (.int x1), some (.int x2), some (.int x3), some (.int s1), some (.int 16777216), some (.int 16777216), none, none, none]) dX3_takesInserting_22 (by decide) rfl ?_
  refine r_iconst (v := 0) dX3_takesInserting_24 kI_0 ?_
  refine q_istore (lo' := [some (.ref (ad 17)), some (.int x1), some (.int x2), some (.int x3), some (.int s1), some (.int 16777216), some (.int 16777216), some (.int 0), none, none]) dX3_takesInserting_25 (by decide) rfl ?_
  exact K1
theorem t_X3_takesInserting_27 {x1 : Int32} {x2 : Int32} {x3 : Int32} {x4 : Int32} {x5 : Int32} {x6 : Int32} {x7 : Int32} 
    (g1 : ((v_X3_others x2) ≤ x7) → g_X3_restBehind M x1 x2 x2 x4)
    (g2 : (¬ ((v_X3_others x2) ≤ x7)) → g_X3_did M x7)
    (g3 : (¬ ((v_X3_others x2) ≤ x7)) → vp_in x7 160)
    (g4 : (¬ ((v_X3_others x2) ≤ x7)) → g_X3_step M x3 (v_X3_did M x7) x1)
    (g5 : (¬ ((v_X3_others x2) ≤ x7)) → g_X3_restBehind M x1 x7 x2 x4)
    (g6 : (¬ ((v_X3_others x2) ≤ x7)) → g_X3_step M (v_X3_did M x7) x3 x1)
    (K1 : ((v_X3_others x2) ≤ x7) → Q (.returned (some (.int (imin x5 (x6 + (v_X3_restBehind M x1 x2 x2 x4)))))) M)
    (K2 : (¬ ((v_X3_others x2) ≤ x7)) → Fw l D ad kA mX3_takesInserting 27 [some (.ref (ad 17)), some (.int x1), some (.int x2), some (.int x3), some (.int x4), some (.int (imin x5 (((gI M 21 x7.toNatClampNeg) + (v_X3_step M x3 (v_X3_did M x7) x1)) + (v_X3_restBehind M x1 x7 x2 x4)))), some (.int (imin x6 ((gI M 21 x7.toNatClampNeg) + (v_X3_step M (v_X3_did M x7) x3 x1)))), some (.int (x7 + 1)), none, none] [] M Q) : Fw l D ad kA mX3_takesInserting 27 [some (.ref (ad 17)), some (.int x1), some (.int x2), some (.int x3), some (.int x4), some (.int x5), some (.int x6), some (.int x7), none, none] [] M Q := by
  refine r_iload dX3_takesInserting_27 rfl ?_
  refine r_iload_n dX3_takesInserting_29 rfl ?_
  refine r_callS (As := [.int x2]) (rest := [.int x7]) dX3_takesInserting_30 mk_X3_106 ms_X3_others rm_X3_takesInserting_X3_others rfl rfl (Nat.le_of_ble_eq_true rfl) (ct_X3_others (⟨_, rfl, ?_⟩))
  refine r_icmp_ge (tgt := 111) dX3_takesInserting_33 (by decide) (fun c1 => ?_) (fun c1 => ?_)
  · skip
    refine r_iload dX3_takesInserting_111 rfl ?_
    refine r_iload dX3_takesInserting_113 rfl ?_
    refine r_aload_n dX3_takesInserting_115 rfl ?_
    refine r_iload_n dX3_takesInserting_116 rfl ?_
    refine r_iload_n dX3_takesInserting_117 rfl ?_
    refine r_iload_n dX3_takesInserting_118 rfl ?_
    refine r_iload dX3_takesInserting_119 rfl ?_
    refine r_callV (x := 17) (As := [.int x1, .int x2, .int x2, .int x4]) (rest := [.int x6, .int x5]) dX3_takesInserting_121 mk_X3_116 mv_X3_restBehind rm_X3_takesInserting_X3_restBehind rfl rfl (by decide +kernel) (Nat.le_of_ble_eq_true rfl) (ct_X3_restBehind (g1 c1) (⟨_, rfl, ?_⟩))
    refine r_iadd dX3_takesInserting_124 ?_
    refine q_mmin dX3_takesInserting_125 mk_X3_103 (by decide) (Nat.le_of_ble_eq_true rfl) ?_
    exact r_iret dX3_takesInserting_128 rfl (K1 c1)
  · skip
    refine r_aload_n dX3_takesInserting_36 rfl ?_
    refine r_iload dX3_takesInserting_37 rfl ?_
    refine r_callV (x := 17) (As := [.int x7]) (rest := []) dX3_takesInserting_39 mk_X3_100 mv_X3_did rm_X3_takesInserting_X3_did rfl rfl (by decide +kernel) (Nat.le_of_ble_eq_true rfl) (ct_X3_did (g2 c1) (⟨_, rfl, ?_⟩))
    refine q_istore (lo' := [some (.ref (ad 17)), some (.int x1), some (.int x2), some (.int x3), some (.int x4), some (.int x5), some (.int x6), some (.int x7), some (.int (v_X3_did M x7)), none]) dX3_takesInserting_42 (by decide) rfl ?_
    refine r_aload_n dX3_takesInserting_44 rfl ?_
    refine r_getR dX3_takesInserting_45 fs_17_8 fk_X3_21 ?_
    refine r_iload dX3_takesInserting_48 rfl ?_
    refine r_iald dX3_takesInserting_50 as_21 (g3 c1) ?_
    refine r_aload_n dX3_takesInserting_51 rfl ?_
    refine r_iload_n dX3_takesInserting_52 rfl ?_
    refine r_iload dX3_takesInserting_53 rfl ?_
    refine r_iload_n dX3_takesInserting_55 rfl ?_
    refine r_callV (x := 17) (As := [.int x3, .int (v_X3_did M x7), .int x1]) (rest := [.int (gI M 21 x7.toNatClampNeg)]) dX3_takesInserting_56 mk_X3_109 mv_X3_step rm_X3_takesInserting_X3_step rfl rfl (by decide +kernel) (Nat.le_of_ble_eq_true rfl) (ct_X3_step (g4 c1) (⟨_, rfl, ?_⟩))
    refine r_iadd dX3_takesInserting_59 ?_
    refine q_istore (lo' := [some (.ref (ad 17)), some (.int x1), some (.int x2), some (.int x3), some (.int x4), some (.int x5), some (.int x6), some (.int x7), some (.int (v_X3_did M x7)), some (.int ((gI M 21 x7.toNatClampNeg) + (v_X3_step M x3 (v_X3_did M x7) x1)))]) dX3_takesInserting_60 (by decide) rfl ?_
    refine r_iload dX3_takesInserting_62 rfl ?_
    refine r_iload dX3_takesInserting_64 rfl ?_
    refine r_aload_n dX3_takesInserting_66 rfl ?_
    refine r_iload_n dX3_takesInserting_67 rfl ?_
    refine r_iload dX3_takesInserting_68 rfl ?_
    refine r_iload_n dX3_takesInserting_70 rfl ?_
    refine r_iload dX3_takesInserting_71 rfl ?_
    refine r_callV (x := 17) (As := [.int x1, .int x7, .int x2, .int x4]) (rest := [.int ((gI M 21 x7.toNatClampNeg) + (v_X3_step M x3 (v_X3_did M x7) x1)), .int x5]) dX3_takesInserting_73 mk_X3_116 mv_X3_restBehind rm_X3_takesInserting_X3_restBehind rfl rfl (by decide +kernel) (Nat.le_of_ble_eq_true rfl) (ct_X3_restBehind (g5 c1) (⟨_, rfl, ?_⟩))
    refine r_iadd dX3_takesInserting_76 ?_
    refine q_mmin dX3_takesInserting_77 mk_X3_103 (by decide) (Nat.le_of_ble_eq_true rfl) ?_
    refine q_istore (lo' := [some (.ref (ad 17)), some (.int x1), some (.int x2), some (.int x3), some (.int x4), some (.int (imin x5 (((gI M 21 x7.toNatClampNeg) + (v_X3_step M x3 (v_X3_did M x7) x1)) + (v_X3_restBehind M x1 x7 x2 x4)))), some (.int x6), some (.int x7), some (.int (v_X3_did M x7)), some (.int ((gI M 21 x7.toNatClampNeg) + (v_X3_step M x3 (v_X3_did M x7) x1)))]) dX3_takesInserting_80 (by decide) rfl ?_
    refine r_iload dX3_takesInserting_82 rfl ?_
    refine r_aload_n dX3_takesInserting_84 rfl ?_
    refine r_getR dX3_takesInserting_85 fs_17_8 fk_X3_21 ?_
    refine r_iload dX3_takesInserting_88 rfl ?_
    refine r_iald dX3_takesInserting_90 as_21 (g3 c1) ?_
    refine r_aload_n dX3_takesInserting_91 rfl ?_
    refine r_iload dX3_takesInserting_92 rfl ?_
    refine r_iload_n dX3_takesInserting_94 rfl ?_
    refine r_iload_n dX3_takesInserting_95 rfl ?_
    refine r_callV (x := 17) (As := [.int (v_X3_did M x7), .int x3, .int x1]) (rest := [.int (gI M 21 x7.toNatClampNeg), .int x6]) dX3_takesInserting_96 mk_X3_109 mv_X3_step rm_X3_takesInserting_X3_step rfl rfl (by decide +kernel) (Nat.le_of_ble_eq_true rfl) (ct_X3_step (g6 c1) (⟨_, rfl, ?_⟩))
    refine r_iadd dX3_takesInserting_99 ?_
    refine q_mmin dX3_takesInserting_100 mk_X3_103 (by decide) (Nat.le_of_ble_eq_true rfl) ?_
    refine q_istore (lo' := [some (.ref (ad 17)), some (.int x1), some (.int x2), some (.int x3), some (.int x4), some (.int (imin x5 (((gI M 21 x7.toNatClampNeg) + (v_X3_step M x3 (v_X3_did M x7) x1)) + (v_X3_restBehind M x1 x7 x2 x4)))), some (.int (imin x6 ((gI M 21 x7.toNatClampNeg) + (v_X3_step M (v_X3_did M x7) x3 x1)))), some (.int x7), some (.int (v_X3_did M x7)), some (.int ((gI M 21 x7.toNatClampNeg) + (v_X3_step M x3 (v_X3_did M x7) x1)))]) dX3_takesInserting_103 (by decide) rfl ?_
    refine q_iinc (v := x7 + 1) (lo' := [some (.ref (ad 17)), some (.int x1), some (.int x2), some (.int x3), some (.int x4), some (.int (imin x5 (((gI M 21 x7.toNatClampNeg) + (v_X3_step M x3 (v_X3_did M x7) x1)) + (v_X3_restBehind M x1 x7 x2 x4)))), some (.int (imin x6 ((gI M 21 x7.toNatClampNeg) + (v_X3_step M (v_X3_did M x7) x3 x1)))), some (.int (x7 + 1)), some (.int (v_X3_did M x7)), some (.int ((gI M 21 x7.toNatClampNeg) + (v_X3_step M x3 (v_X3_did M x7) x1)))]) dX3_takesInserting_105 rfl (congrArg (fun q => x7 + q) kI_1) (by decide) rfl ?_
    refine r_goto (tgt := 27) dX3_takesInserting_108 (by decide) ?_
    exact q_weak (lo' := [some (.ref (ad 17)), some (.int x1), some (.int x2), some (.int x3), some (.int x4), some (.int (imin x5 (((gI M 21 x7.toNatClampNeg) + (v_X3_step M x3 (v_X3_did M x7) x1)) + (v_X3_restBehind M x1 x7 x2 x4)))), some (.int (imin x6 ((gI M 21 x7.toNatClampNeg) + (v_X3_step M (v_X3_did M x7) x3 x1)))), some (.int (x7 + 1)), none, none]) ⟨rfl, rfl, rfl, rfl, rfl, rfl, rfl, rfl, trivial⟩ (K2 c1)
theorem en_X3_takesInserting {x1 : Int32} {x2 : Int32} (K : Fw l D ad kA mX3_takesInserting 0 [some (.ref (ad 17)), some (.int x1), some (.int x2), none, none, none, none, none, none, none] [] M Q) : Cal l D ad kA mX3_takesInserting [.ref (ad 17), .int x1, .int x2] M Q := Cal.of (by decide) rfl rfl (Nat.le_of_ble_eq_true rfl) K
theorem t_X3_takesOf_0 {z1 : Int64} 
    (K1 : Cal l D ad kA mX3_gather [.ref (ad 17), .long z1] M (fun oc M2 => oc = .returned none ∧ Fw l D ad kA mX3_takesOf 5 [some (.ref (ad 17)), none, none] [] M2 Q)) : Fw l D ad kA mX3_takesOf 0 [some (.ref (ad 17)), some (.long z1), none] [] M Q := by
  refine r_aload_n dX3_takesOf_0 rfl ?_
  refine r_lload_n dX3_takesOf_1 rfl ?_
  exact r_callV (x := 17) (As := [.long z1]) (rest := []) dX3_takesOf_2 mk_X3_36 mv_X3_gather rm_X3_takesOf_X3_gather rfl rfl (by decide +kernel) (Nat.le_of_ble_eq_true rfl) (cal_v (lo' := [some (.ref (ad 17)), none, none]) ⟨rfl, trivial⟩ K1)
theorem t_X3_takesOf_5  
    (K1 : Cal l D ad kA mX3_weighRest [.ref (ad 17)] M (fun oc M2 => ∃ r : Int32, oc = .returned (some (.int r)) ∧ Fw l D ad kA mX3_takesOf 9 [none, none, none] [.int r] M2 Q)) : Fw l D ad kA mX3_takesOf 5 [some (.ref (ad 17)), none, none] [] M Q := by
  refine r_aload_n dX3_takesOf_5 rfl ?_
  exact r_callV (x := 17) (As := []) (rest := []) dX3_takesOf_6 mk_X3_40 mv_X3_weighRest rm_X3_takesOf_X3_weighRest rfl rfl (by decide +kernel) (Nat.le_of_ble_eq_true rfl) (cal_i (lo' := [none, none, none]) trivial K1)
theorem t_X3_takesOf_9 {s1 : Int32} 
    (K1 : Q (.returned (some (.int s1))) M) : Fw l D ad kA mX3_takesOf 9 [none, none, none] [.int s1] M Q := by
  exact r_iret dX3_takesOf_9 rfl K1
theorem en_X3_takesOf {z1 : Int64} (K : Fw l D ad kA mX3_takesOf 0 [some (.ref (ad 17)), some (.long z1), none] [] M Q) : Cal l D ad kA mX3_takesOf [.ref (ad 17), .long z1] M Q := Cal.of (by decide) rfl rfl (Nat.le_of_ble_eq_true rfl) K
theorem t_X3_choose_0 {z1 : Int64} 
    (K1 : Cal l D ad kA mX3_takesOf [.ref (ad 17), .long z1] M (fun oc M2 => ∃ r : Int32, oc = .returned (some (.int r)) ∧ Fw l D ad kA mX3_choose 5 [some (.ref (ad 17)), none, none, none] [.int r] M2 Q)) : Fw l D ad kA mX3_choose 0 [some (.ref (ad 17)), some (.long z1), none, none] [] M Q := by
  refine r_aload_n dX3_choose_0 rfl ?_
  refine r_lload_n dX3_choose_1 rfl ?_
  exact r_callV (x := 17) (As := [.long z1]) (rest := []) dX3_choose_2 mk_X3_44 mv_X3_takesOf rm_X3_choose_X3_takesOf rfl rfl (by decide +kernel) (Nat.le_of_ble_eq_true rfl) (cal_i (lo' := [some (.ref (ad 17)), none, none, none]) ⟨rfl, trivial⟩ K1)
theorem t_X3_choose_5 {s1 : Int32} 
    (K1 : (16777216 ≤ s1) → Q (.returned (some (.int s1))) M)
    (K2 : (¬ (16777216 ≤ s1)) → Cal l D ad kA mX3_keepHands [.ref (ad 17)] M (fun oc M2 => oc = .returned none ∧ Fw l D ad kA mX3_choose 16 [none, none, none, some (.int s1)] [] M2 Q)) : Fw l D ad kA mX3_choose 5 [some (.ref (ad 17)), none, none, none] [.int s1] M Q := by
  refine q_istore_n (lo' := [some (.ref (ad 17)), none, none, some (.int s1)]) dX3_choose_5 (by decide) rfl ?_
  refine r_iload_n dX3_choose_6 rfl ?_
  refine r_ldc (v := 16777216) dX3_choose_7 co_X3_48 ?_
  refine r_icmp_ge (tgt := 16) dX3_choose_9 (by decide) (fun c1 => ?_) (fun c1 => ?_)
  · skip
    refine r_iload_n dX3_choose_16 rfl ?_
    exact r_iret dX3_choose_17 rfl (K1 c1)
  · skip
    refine r_aload_n dX3_choose_12 rfl ?_
    exact r_callV (x := 17) (As := []) (rest := []) dX3_choose_13 mk_X3_49 mv_X3_keepHands rm_X3_choose_X3_keepHands rfl rfl (by decide +kernel) (Nat.le_of_ble_eq_true rfl) (cal_v (lo' := [none, none, none, some (.int s1)]) ⟨rfl, trivial⟩ (K2 c1))
theorem t_X3_choose_16 {x3 : Int32} 
    (K1 : Q (.returned (some (.int x3))) M) : Fw l D ad kA mX3_choose 16 [none, none, none, some (.int x3)] [] M Q := by
  refine r_iload_n dX3_choose_16 rfl ?_
  exact r_iret dX3_choose_17 rfl K1
theorem en_X3_choose {z1 : Int64} (K : Fw l D ad kA mX3_choose 0 [some (.ref (ad 17)), some (.long z1), none, none] [] M Q) : Cal l D ad kA mX3_choose [.ref (ad 17), .long z1] M Q := Cal.of (by decide) rfl rfl (Nat.le_of_ble_eq_true rfl) K
theorem t_X3_weighWithout_0 {z1 : Int64} 
    (K1 : Cal l D ad kA mX3_takesOf [.ref (ad 17), .long z1] M (fun oc M2 => ∃ r : Int32, oc = .returned (some (.int r)) ∧ Fw l D ad kA mX3_weighWithout 5 [some (.ref (ad 17)), none, none, some (.ref (ad 29)), none] [.int r] M2 Q)) : Fw l D ad kA mX3_weighWithout 0 [some (.ref (ad 17)), some (.long z1), none, some (.ref (ad 29)), none] [] M Q := by
  refine r_aload_n dX3_weighWithout_0 rfl ?_
  refine r_lload_n dX3_weighWithout_1 rfl ?_
  exact r_callV (x := 17) (As := [.long z1]) (rest := []) dX3_weighWithout_2 mk_X3_44 mv_X3_takesOf rm_X3_weighWithout_X3_takesOf rfl rfl (by decide +kernel) (Nat.le_of_ble_eq_true rfl) (cal_i (lo' := [some (.ref (ad 17)), none, none, some (.ref (ad 29)), none]) ⟨rfl, rfl, trivial⟩ K1)
theorem t_X3_weighWithout_5 {s1 : Int32} 
    (K1 : Fw l D ad kA mX3_weighWithout 16 [some (.ref (ad 17)), none, none, some (.ref (ad 29)), some (.int 0)] [] (sI M 21 (0 : Int32).toNatClampNeg 0) Q) : Fw l D ad kA mX3_weighWithout 5 [some (.ref (ad 17)), none, none, some (.ref (ad 29)), none] [.int s1] M Q := by
  refine r_pop dX3_weighWithout_5 rfl ?_
  refine r_aload_n dX3_weighWithout_6 rfl ?_
  refine r_getR dX3_weighWithout_7 fs_17_8 fk_X3_21 ?_
  refine r_iconst (v := 0) dX3_weighWithout_10 kI_0 ?_
  refine r_iconst (v := 0) dX3_weighWithout_11 kI_0 ?_
  refine r_iast dX3_weighWithout_12 as_21 (by unfold vp_in; decide) ?_
  refine r_iconst (v := 0) dX3_weighWithout_13 kI_0 ?_
  refine q_istore (lo' := [some (.ref (ad 17)), none, none, some (.ref (ad 29)), some (.int 0)]) dX3_weighWithout_14 (by decide) rfl ?_
  exact K1
theorem t_X3_weighWithout_16 {x4 : Int32} 
    (g1 : (¬ ((gI M 17 5) ≤ x4)) → vp_in x4 160)
    (K1 : ((gI M 17 5) ≤ x4) → Q (.returned none) M)
    (K2 : (¬ ((gI M 17 5) ≤ x4)) → Cal l D ad kA mX3_takesSkipping [.ref (ad 17), .int x4] M (fun oc M2 => ∃ r : Int32, oc = .returned (some (.int r)) ∧ Fw l D ad kA mX3_weighWithout 39 [some (.ref (ad 17)), none, none, some (.ref (ad 29)), some (.int x4)] [.int r, .int (gI M 19 x4.toNatClampNeg), .ref (ad 29)] M2 Q)) : Fw l D ad kA mX3_weighWithout 16 [some (.ref (ad 17)), none, none, some (.ref (ad 29)), some (.int x4)] [] M Q := by
  refine r_iload dX3_weighWithout_16 rfl ?_
  refine r_aload_n dX3_weighWithout_18 rfl ?_
  refine r_getI dX3_weighWithout_19 fs_17_5 fk_X3_52 ?_
  refine r_icmp_ge (tgt := 52) dX3_weighWithout_22 (by decide) (fun c1 => ?_) (fun c1 => ?_)
  · skip
    exact r_vret dX3_weighWithout_52 rfl (K1 c1)
  · skip
    refine r_aload_n dX3_weighWithout_25 rfl ?_
    refine r_aload_n dX3_weighWithout_26 rfl ?_
    refine r_getR dX3_weighWithout_27 fs_17_4 fk_X3_15 ?_
    refine r_iload dX3_weighWithout_30 rfl ?_
    refine r_iald dX3_weighWithout_32 as_19 (g1 c1) ?_
    refine r_aload_n dX3_weighWithout_33 rfl ?_
    refine r_iload dX3_weighWithout_34 rfl ?_
    exact r_callV (x := 17) (As := [.int x4]) (rest := [.int (gI M 19 x4.toNatClampNeg), .ref (ad 29)]) dX3_weighWithout_36 mk_X3_56 mv_X3_takesSkipping rm_X3_weighWithout_X3_takesSkipping rfl rfl (by decide +kernel) (Nat.le_of_ble_eq_true rfl) (cal_i (lo' := [some (.ref (ad 17)), none, none, some (.ref (ad 29)), some (.int x4)]) ⟨rfl, rfl, rfl, trivial⟩ (K2 c1))
theorem t_X3_weighWithout_39 {x4 : Int32} {s3 : Int32} {s2 : Int32} 
    (g1 : vp_in s2 160)
    (K1 : Cal l D ad kA mX3_stepForth [.ref (ad 17), .int x4] (sI M 29 s2.toNatClampNeg s3) (fun oc M2 => oc = .returned none ∧ Fw l D ad kA mX3_weighWithout 46 [some (.ref (ad 17)), none, none, some (.ref (ad 29)), some (.int x4)] [] M2 Q)) : Fw l D ad kA mX3_weighWithout 39 [some (.ref (ad 17)), none, none, some (.ref (ad 29)), some (.int x4)] [.int s3, .int s2, .ref (ad 29)] M Q := by
  refine r_iast dX3_weighWithout_39 as_29 g1 ?_
  refine r_aload_n dX3_weighWithout_40 rfl ?_
  refine r_iload dX3_weighWithout_41 rfl ?_
  exact r_callV (x := 17) (As := [.int x4]) (rest := []) dX3_weighWithout_43 mk_X3_60 mv_X3_stepForth rm_X3_weighWithout_X3_stepForth rfl rfl (by decide +kernel) (Nat.le_of_ble_eq_true rfl) (cal_v (lo' := [some (.ref (ad 17)), none, none, some (.ref (ad 29)), some (.int x4)]) ⟨rfl, rfl, rfl, trivial⟩ K1)
theorem t_X3_weighWithout_46 {x4 : Int32} 
    (K1 : Fw l D ad kA mX3_weighWithout 16 [some (.ref (ad 17)), none, none, some (.ref (ad 29)), some (.int (x4 + 1))] [] M Q) : Fw l D ad kA mX3_weighWithout 46 [some (.ref (ad 17)), none, none, some (.ref (ad 29)), some (.int x4)] [] M Q := by
  refine q_iinc (v := x4 + 1) (lo' := [some (.ref (ad 17)), none, none, some (.ref (ad 29)), some (.int (x4 + 1))]) dX3_weighWithout_46 rfl (congrArg (fun q => x4 + q) kI_1) (by decide) rfl ?_
  refine r_goto (tgt := 16) dX3_weighWithout_49 (by decide) ?_
  exact K1
theorem en_X3_weighWithout {z1 : Int64} (K : Fw l D ad kA mX3_weighWithout 0 [some (.ref (ad 17)), some (.long z1), none, some (.ref (ad 29)), none] [] M Q) : Cal l D ad kA mX3_weighWithout [.ref (ad 17), .long z1, .ref (ad 29)] M Q := Cal.of (by decide) rfl rfl (Nat.le_of_ble_eq_true rfl) K
theorem t_X3_weighWith_0 {z1 : Int64} {z3 : Int64} {t : Nat} (ht : shL[t]? = some (.inl (0, 160)))
    (K1 : Cal l D ad kA mX3_takesOf [.ref (ad 17), .long z1] M (fun oc M2 => ∃ r : Int32, oc = .returned (some (.int r)) ∧ Fw l D ad kA mX3_weighWith 5 [some (.ref (ad 17)), none, none, some (.long z3), none, some (.ref (ad t)), none, none] [.int r] M2 Q)) : Fw l D ad kA mX3_weighWith 0 [some (.ref (ad 17)), some (.long z1), none, some (.long z3), none, some (.ref (ad t)), none, none] [] M Q := by
  refine r_aload_n dX3_weighWith_0 rfl ?_
  refine r_lload_n dX3_weighWith_1 rfl ?_
  exact r_callV (x := 17) (As := [.long z1]) (rest := []) dX3_weighWith_2 mk_X3_44 mv_X3_takesOf rm_X3_weighWith_X3_takesOf rfl rfl (by decide +kernel) (Nat.le_of_ble_eq_true rfl) (cal_i (lo' := [some (.ref (ad 17)), none, none, some (.long z3), none, some (.ref (ad t)), none, none]) ⟨rfl, rfl, rfl, trivial⟩ K1)
theorem t_X3_weighWith_5 {z3 : Int64} {t : Nat} {s1 : Int32} (ht : shL[t]? = some (.inl (0, 160)))
    (K1 : Fw l D ad kA mX3_weighWith 19 [some (.ref (ad 17)), none, none, some (.long z3), none, some (.ref (ad t)), some (.int 0), some (.int 0)] [] (sI M 21 (0 : Int32).toNatClampNeg 0) Q) : Fw l D ad kA mX3_weighWith 5 [some (.ref (ad 17)), none, none, some (.long z3), none, some (.ref (ad t)), none, none] [.int s1] M Q := by
  refine r_pop dX3_weighWith_5 rfl ?_
  refine r_aload_n dX3_weighWith_6 rfl ?_
  refine r_getR dX3_weighWith_7 fs_17_8 fk_X3_21 ?_
  refine r_iconst (v := 0) dX3_weighWith_10 kI_0 ?_
  refine r_iconst (v := 0) dX3_weighWith_11 kI_0 ?_
  refine r_iast dX3_weighWith_12 as_21 (by unfold vp_in; decide) ?_
  refine r_iconst (v := 0) dX3_weighWith_13 kI_0 ?_
  refine q_istore (lo' := [some (.ref (ad 17)), none, none, some (.long z3), none, some (.ref (ad t)), some (.int 0), none]) dX3_weighWith_14 (by decide) rfl ?_
  refine r_iconst (v := 0) dX3_weighWith_16 kI_0 ?_
  refine q_istore (lo' := [some (.ref (ad 17)), none, none, some (.long z3), none, some (.ref (ad t)), some (.int 0), some (.int 0)]) dX3_weighWith_17 (by decide) rfl ?_
  exact K1
theorem t_X3_weighWith_19 {z3 : Int64} {t : Nat} {x6 : Int32} {x7 : Int32} (ht : shL[t]? = some (.inl (0, 160)))
    (g1 : (¬ ((gI M 9 4) ≤ x7)) → ((gI M 17 5) ≤ x6) → g_X9_isOn M z3 x7)
    (g2 : (¬ ((gI M 9 4) ≤ x7)) → (¬ ((gI M 17 5) ≤ x6)) → vp_in x6 160)
    (g3 : (¬ ((gI M 9 4) ≤ x7)) → (¬ ((gI M 17 5) ≤ x6)) → (¬ ((gI M 19 x6.toNatClampNeg) = x7)) → g_X9_isOn M z3 x7)
    (K1 : ((gI M 9 4) ≤ x7) → Q (.returned none) M)
    (K2 : (¬ ((gI M 9 4) ≤ x7)) → ((gI M 17 5) ≤ x6) → ((v_X9_isOn M z3 x7) = 0) → Fw l D ad kA mX3_weighWith 19 [some (.ref (ad 17)), none, none, some (.long z3), none, some (.ref (ad t)), some (.int x6), some (.int (x7 + 1))] [] M Q)
    (K3 : (¬ ((gI M 9 4) ≤ x7)) → ((gI M 17 5) ≤ x6) → (¬ ((v_X9_isOn M z3 x7) = 0)) → Cal l D ad kA mX3_takesInserting [.ref (ad 17), .int x7, .int x6] M (fun oc M2 => ∃ r : Int32, oc = .returned (some (.int r)) ∧ Fw l D ad kA mX3_weighWith 89 [some (.ref (ad 17)), none, none, some (.long z3), none, some (.ref (ad t)), some (.int x6), some (.int x7)] [.int r, .int x7, .ref (ad t)] M2 Q))
    (K4 : (¬ ((gI M 9 4) ≤ x7)) → (¬ ((gI M 17 5) ≤ x6)) → (¬ ((gI M 19 x6.toNatClampNeg) = x7)) → ((v_X9_isOn M z3 x7) = 0) → Fw l D ad kA mX3_weighWith 19 [some (.ref (ad 17)), none, none, some (.long z3), none, some (.ref (ad t)), some (.int x6), some (.int (x7 + 1))] [] M Q)
    (K5 : (¬ ((gI M 9 4) ≤ x7)) → (¬ ((gI M 17 5) ≤ x6)) → (¬ ((gI M 19 x6.toNatClampNeg) = x7)) → (¬ ((v_X9_isOn M z3 x7) = 0)) → Cal l D ad kA mX3_takesInserting [.ref (ad 17), .int x7, .int x6] M (fun oc M2 => ∃ r : Int32, oc = .returned (some (.int r)) ∧ Fw l D ad kA mX3_weighWith 89 [some (.ref (ad 17)), none, none, some (.long z3), none, some (.ref (ad t)), some (.int x6), some (.int x7)] [.int r, .int x7, .ref (ad t)] M2 Q))
    (K6 : (¬ ((gI M 9 4) ≤ x7)) → (¬ ((gI M 17 5) ≤ x6)) → ((gI M 19 x6.toNatClampNeg) = x7) → Cal l D ad kA mX3_stepForth [.ref (ad 17), .int x6] M (fun oc M2 => oc = .returned none ∧ Fw l D ad kA mX3_weighWith 58 [some (.ref (ad 17)), none, none, some (.long z3), none, some (.ref (ad t)), some (.int x6), some (.int x7)] [] M2 Q)) : Fw l D ad kA mX3_weighWith 19 [some (.ref (ad 17)), none, none, some (.long z3), none, some (.ref (ad t)), some (.int x6), some (.int x7)] [] M Q := by
  refine r_iload dX3_weighWith_19 rfl ?_
  refine r_aload_n dX3_weighWith_21 rfl ?_
  refine r_getR dX3_weighWith_22 fs_17_0 fk_X3_24 ?_
  refine r_getI dX3_weighWith_25 fs_9_4 fk_X3_64 ?_
  refine r_icmp_ge (tgt := 96) dX3_weighWith_28 (by decide) (fun c1 => ?_) (fun c1 => ?_)
  · skip
    exact r_vret dX3_weighWith_96 rfl (K1 c1)
  · skip
    refine r_iload dX3_weighWith_31 rfl ?_
    refine r_aload_n dX3_weighWith_33 rfl ?_
    refine r_getI dX3_weighWith_34 fs_17_5 fk_X3_52 ?_
    refine r_icmp_ge (tgt := 64) dX3_weighWith_37 (by decide) (fun c2 => ?_) (fun c2 => ?_)
    · skip
      refine r_aload_n dX3_weighWith_64 rfl ?_
      refine r_getR dX3_weighWith_65 fs_17_0 fk_X3_24 ?_
      refine r_lload_n dX3_weighWith_68 rfl ?_
      refine r_iload dX3_weighWith_69 rfl ?_
      refine r_callV (x := 9) (As := [.long z3, .int x7]) (rest := []) dX3_weighWith_71 mk_X3_67 mv_X9_isOn rm_X3_weighWith_X9_isOn rfl rfl (by decide +kernel) (Nat.le_of_ble_eq_true rfl) (ct_X9_isOn (g1 c1 c2) (⟨_, rfl, ?_⟩))
      refine r_if_eq (tgt := 90) dX3_weighWith_74 (by decide) (fun c3 => ?_) (fun c3 => ?_)
      · skip
        refine q_iinc (v := x7 + 1) (lo' := [some (.ref (ad 17)), none, none, some (.long z3), none, some (.ref (ad t)), some (.int x6), some (.int (x7 + 1))]) dX3_weighWith_90 rfl (congrArg (fun q => x7 + q) kI_1) (by decide) rfl ?_
        refine r_goto (tgt := 19) dX3_weighWith_93 (by decide) ?_
        exact (K2 c1 c2 c3)
      · skip
        refine r_aload dX3_weighWith_77 rfl ?_
        refine r_iload dX3_weighWith_79 rfl ?_
        refine r_aload_n dX3_weighWith_81 rfl ?_
        refine r_iload dX3_weighWith_82 rfl ?_
        refine r_iload dX3_weighWith_84 rfl ?_
        exact r_callV (x := 17) (As := [.int x7, .int x6]) (rest := [.int x7, .ref (ad t)]) dX3_weighWith_86 mk_X3_71 mv_X3_takesInserting rm_X3_weighWith_X3_takesInserting rfl rfl (by decide +kernel) (Nat.le_of_ble_eq_true rfl) (cal_i (lo' := [some (.ref (ad 17)), none, none, some (.long z3), none, some (.ref (ad t)), some (.int x6), some (.int x7)]) ⟨rfl, rfl, rfl, rfl, rfl, trivial⟩ (K3 c1 c2 c3))
    · skip
      refine r_aload_n dX3_weighWith_40 rfl ?_
      refine r_getR dX3_weighWith_41 fs_17_4 fk_X3_15 ?_
      refine r_iload dX3_weighWith_44 rfl ?_
      refine r_iald dX3_weighWith_46 as_19 (g2 c1 c2) ?_
      refine r_iload dX3_weighWith_47 rfl ?_
      refine r_icmp_ne (tgt := 64) dX3_weighWith_49 (by decide) (fun c4 => ?_) (fun c4 => ?_)
      · skip
        refine r_aload_n dX3_weighWith_64 rfl ?_
        refine r_getR dX3_weighWith_65 fs_17_0 fk_X3_24 ?_
        refine r_lload_n dX3_weighWith_68 rfl ?_
        refine r_iload dX3_weighWith_69 rfl ?_
        refine r_callV (x := 9) (As := [.long z3, .int x7]) (rest := []) dX3_weighWith_71 mk_X3_67 mv_X9_isOn rm_X3_weighWith_X9_isOn rfl rfl (by decide +kernel) (Nat.le_of_ble_eq_true rfl) (ct_X9_isOn (g3 c1 c2 c4) (⟨_, rfl, ?_⟩))
        refine r_if_eq (tgt := 90) dX3_weighWith_74 (by decide) (fun c5 => ?_) (fun c5 => ?_)
        · skip
          refine q_iinc (v := x7 + 1) (lo' := [some (.ref (ad 17)), none, none, some (.long z3), none, some (.ref (ad t)), some (.int x6), some (.int (x7 + 1))]) dX3_weighWith_90 rfl (congrArg (fun q => x7 + q) kI_1) (by decide) rfl ?_
          refine r_goto (tgt := 19) dX3_weighWith_93 (by decide) ?_
          exact (K4 c1 c2 c4 c5)
        · skip
          refine r_aload dX3_weighWith_77 rfl ?_
          refine r_iload dX3_weighWith_79 rfl ?_
          refine r_aload_n dX3_weighWith_81 rfl ?_
          refine r_iload dX3_weighWith_82 rfl ?_
          refine r_iload dX3_weighWith_84 rfl ?_
          exact r_callV (x := 17) (As := [.int x7, .int x6]) (rest := [.int x7, .ref (ad t)]) dX3_weighWith_86 mk_X3_71 mv_X3_takesInserting rm_X3_weighWith_X3_takesInserting rfl rfl (by decide +kernel) (Nat.le_of_ble_eq_true rfl) (cal_i (lo' := [some (.ref (ad 17)), none, none, some (.long z3), none, some (.ref (ad t)), some (.int x6), some (.int x7)]) ⟨rfl, rfl, rfl, rfl, rfl, trivial⟩ (K5 c1 c2 c4 c5))
      · skip
        refine r_aload_n dX3_weighWith_52 rfl ?_
        refine r_iload dX3_weighWith_53 rfl ?_
        exact r_callV (x := 17) (As := [.int x6]) (rest := []) dX3_weighWith_55 mk_X3_60 mv_X3_stepForth rm_X3_weighWith_X3_stepForth rfl rfl (by decide +kernel) (Nat.le_of_ble_eq_true rfl) (cal_v (lo' := [some (.ref (ad 17)), none, none, some (.long z3), none, some (.ref (ad t)), some (.int x6), some (.int x7)]) ⟨rfl, rfl, rfl, rfl, rfl, trivial⟩ (K6 c1 c2 c4))
theorem t_X3_weighWith_89 {z3 : Int64} {t : Nat} {x6 : Int32} {x7 : Int32} {s3 : Int32} {s2 : Int32} (ht : shL[t]? = some (.inl (0, 160)))
    (g1 : vp_in s2 160)
    (K1 : Fw l D ad kA mX3_weighWith 19 [some (.ref (ad 17)), none, none, some (.long z3), none, some (.ref (ad t)), some (.int x6), some (.int (x7 + 1))] [] (sI M t s2.toNatClampNeg s3) Q) : Fw l D ad kA mX3_weighWith 89 [some (.ref (ad 17)), none, none, some (.long z3), none, some (.ref (ad t)), some (.int x6), some (.int x7)] [.int s3, .int s2, .ref (ad t)] M Q := by
  refine r_iast dX3_weighWith_89 ht g1 ?_
  refine q_iinc (v := x7 + 1) (lo' := [some (.ref (ad 17)), none, none, some (.long z3), none, some (.ref (ad t)), some (.int x6), some (.int (x7 + 1))]) dX3_weighWith_90 rfl (congrArg (fun q => x7 + q) kI_1) (by decide) rfl ?_
  refine r_goto (tgt := 19) dX3_weighWith_93 (by decide) ?_
  exact K1
theorem t_X3_weighWith_58 {z3 : Int64} {t : Nat} {x6 : Int32} {x7 : Int32} (ht : shL[t]? = some (.inl (0, 160)))
    (K1 : Fw l D ad kA mX3_weighWith 19 [some (.ref (ad 17)), none, none, some (.long z3), none, some (.ref (ad t)), some (.int (x6 + 1)), some (.int (x7 + 1))] [] M Q) : Fw l D ad kA mX3_weighWith 58 [some (.ref (ad 17)), none, none, some (.long z3), none, some (.ref (ad t)), some (.int x6), some (.int x7)] [] M Q := by
  refine q_iinc (v := x6 + 1) (lo' := [some (.ref (ad 17)), none, none, some (.long z3), none, some (.ref (ad t)), some (.int (x6 + 1)), some (.int x7)]) dX3_weighWith_58 rfl (congrArg (fun q => x6 + q) kI_1) (by decide) rfl ?_
  refine r_goto (tgt := 90) dX3_weighWith_61 (by decide) ?_
  refine q_iinc (v := x7 + 1) (lo' := [some (.ref (ad 17)), none, none, some (.long z3), none, some (.ref (ad t)), some (.int (x6 + 1)), some (.int (x7 + 1))]) dX3_weighWith_90 rfl (congrArg (fun q => x7 + q) kI_1) (by decide) rfl ?_
  refine r_goto (tgt := 19) dX3_weighWith_93 (by decide) ?_
  exact K1
theorem en_X3_weighWith {z1 : Int64} {z3 : Int64} {t : Nat} (K : Fw l D ad kA mX3_weighWith 0 [some (.ref (ad 17)), some (.long z1), none, some (.long z3), none, some (.ref (ad t)), none, none] [] M Q) : Cal l D ad kA mX3_weighWith [.ref (ad 17), .long z1, .long z3, .ref (ad t)] M Q := Cal.of (by decide) rfl rfl (Nat.le_of_ble_eq_true rfl) K
end W_hands
