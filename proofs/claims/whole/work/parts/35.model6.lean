/-! the model: days: decode rows, links, walks from cut to cut (printed by wip/gen) -/
theorem dX13_pass_0 : decode cX13_pass 0 = .ok (.iload_n 1, 1) := by decide +kernel
theorem dX13_pass_1 : decode cX13_pass 1 = .ok (.i2l, 1) := by decide +kernel
theorem dX13_pass_2 : decode cX13_pass 2 = .ok (.lconst 1, 1) := by decide +kernel
theorem dX13_pass_3 : decode cX13_pass 3 = .ok (.ldc2_w 401, 3) := by decide +kernel
theorem dX13_pass_6 : decode cX13_pass 6 = .ok (.invokestatic 5, 3) := by decide +kernel
theorem dX13_pass_9 : decode cX13_pass 9 = .ok (.ifCond .eq 15, 3) := by decide +kernel
theorem dX13_pass_12 : decode cX13_pass 12 = .ok (.aload_n 0, 1) := by decide +kernel
theorem dX13_pass_13 : decode cX13_pass 13 = .ok (.getfield 403, 3) := by decide +kernel
theorem dX13_pass_16 : decode cX13_pass 16 = .ok (.iload_n 1, 1) := by decide +kernel
theorem dX13_pass_17 : decode cX13_pass 17 = .ok (.iadd, 1) := by decide +kernel
theorem dX13_pass_18 : decode cX13_pass 18 = .ok (.sipush 999, 3) := by decide +kernel
theorem dX13_pass_21 : decode cX13_pass 21 = .ok (.if_icmp .le 6, 3) := by decide +kernel
theorem dX13_pass_24 : decode cX13_pass 24 = .ok (.bipush (-2), 2) := by decide +kernel
theorem dX13_pass_26 : decode cX13_pass 26 = .ok (.ireturn, 1) := by decide +kernel
theorem dX13_pass_27 : decode cX13_pass 27 = .ok (.aload_n 0, 1) := by decide +kernel
theorem dX13_pass_28 : decode cX13_pass 28 = .ok (.dup, 1) := by decide +kernel
theorem dX13_pass_29 : decode cX13_pass 29 = .ok (.getfield 403, 3) := by decide +kernel
theorem dX13_pass_32 : decode cX13_pass 32 = .ok (.iload_n 1, 1) := by decide +kernel
theorem dX13_pass_33 : decode cX13_pass 33 = .ok (.iadd, 1) := by decide +kernel
theorem dX13_pass_34 : decode cX13_pass 34 = .ok (.putfield 403, 3) := by decide +kernel
theorem dX13_pass_37 : decode cX13_pass 37 = .ok (.aload_n 0, 1) := by decide +kernel
theorem dX13_pass_38 : decode cX13_pass 38 = .ok (.getfield 403, 3) := by decide +kernel
theorem dX13_pass_41 : decode cX13_pass 41 = .ok (.ireturn, 1) := by decide +kernel
theorem dX13_away_0 : decode cX13_away 0 = .ok (.iload_n 1, 1) := by decide +kernel
theorem dX13_away_1 : decode cX13_away 1 = .ok (.i2l, 1) := by decide +kernel
theorem dX13_away_2 : decode cX13_away 2 = .ok (.lconst 0, 1) := by decide +kernel
theorem dX13_away_3 : decode cX13_away 3 = .ok (.ldc2_w 356, 3) := by decide +kernel
theorem dX13_away_6 : decode cX13_away 6 = .ok (.invokestatic 5, 3) := by decide +kernel
theorem dX13_away_9 : decode cX13_away 9 = .ok (.ifCond .eq 23, 3) := by decide +kernel
theorem dX13_away_12 : decode cX13_away 12 = .ok (.iload_n 2, 1) := by decide +kernel
theorem dX13_away_13 : decode cX13_away 13 = .ok (.invokestatic 406, 3) := by decide +kernel
theorem dX13_away_16 : decode cX13_away 16 = .ok (.ifCond .eq 16, 3) := by decide +kernel
theorem dX13_away_19 : decode cX13_away 19 = .ok (.iload_n 3, 1) := by decide +kernel
theorem dX13_away_20 : decode cX13_away 20 = .ok (.i2l, 1) := by decide +kernel
theorem dX13_away_21 : decode cX13_away 21 = .ok (.iload_n 2, 1) := by decide +kernel
theorem dX13_away_22 : decode cX13_away 22 = .ok (.i2l, 1) := by decide +kernel
theorem dX13_away_23 : decode cX13_away 23 = .ok (.ldc2_w 3, 3) := by decide +kernel
theorem dX13_away_26 : decode cX13_away 26 = .ok (.invokestatic 5, 3) := by decide +kernel
theorem dX13_away_29 : decode cX13_away 29 = .ok (.ifCond .ne 6, 3) := by decide +kernel
theorem dX13_away_32 : decode cX13_away 32 = .ok (.bipush (-2), 2) := by decide +kernel
theorem dX13_away_34 : decode cX13_away 34 = .ok (.ireturn, 1) := by decide +kernel
theorem dX13_away_35 : decode cX13_away 35 = .ok (.aload_n 0, 1) := by decide +kernel
theorem dX13_away_36 : decode cX13_away 36 = .ok (.getfield 409, 3) := by decide +kernel
theorem dX13_away_39 : decode cX13_away 39 = .ok (.bipush 60, 2) := by decide +kernel
theorem dX13_away_41 : decode cX13_away 41 = .ok (.if_icmp .ne 6, 3) := by decide +kernel
theorem dX13_away_44 : decode cX13_away 44 = .ok (.bipush (-3), 2) := by decide +kernel
theorem dX13_away_46 : decode cX13_away 46 = .ok (.ireturn, 1) := by decide +kernel
theorem dX13_away_47 : decode cX13_away 47 = .ok (.aload_n 0, 1) := by decide +kernel
theorem dX13_away_48 : decode cX13_away 48 = .ok (.getfield 205, 3) := by decide +kernel
theorem dX13_away_51 : decode cX13_away 51 = .ok (.aload_n 0, 1) := by decide +kernel
theorem dX13_away_52 : decode cX13_away 52 = .ok (.getfield 409, 3) := by decide +kernel
theorem dX13_away_55 : decode cX13_away 55 = .ok (.iload_n 1, 1) := by decide +kernel
theorem dX13_away_56 : decode cX13_away 56 = .ok (.iastore, 1) := by decide +kernel
theorem dX13_away_57 : decode cX13_away 57 = .ok (.aload_n 0, 1) := by decide +kernel
theorem dX13_away_58 : decode cX13_away 58 = .ok (.getfield 208, 3) := by decide +kernel
theorem dX13_away_61 : decode cX13_away 61 = .ok (.aload_n 0, 1) := by decide +kernel
theorem dX13_away_62 : decode cX13_away 62 = .ok (.getfield 409, 3) := by decide +kernel
theorem dX13_away_65 : decode cX13_away 65 = .ok (.iload_n 2, 1) := by decide +kernel
theorem dX13_away_66 : decode cX13_away 66 = .ok (.iastore, 1) := by decide +kernel
theorem dX13_away_67 : decode cX13_away 67 = .ok (.aload_n 0, 1) := by decide +kernel
theorem dX13_away_68 : decode cX13_away 68 = .ok (.getfield 211, 3) := by decide +kernel
theorem dX13_away_71 : decode cX13_away 71 = .ok (.aload_n 0, 1) := by decide +kernel
theorem dX13_away_72 : decode cX13_away 72 = .ok (.getfield 409, 3) := by decide +kernel
theorem dX13_away_75 : decode cX13_away 75 = .ok (.iload_n 3, 1) := by decide +kernel
theorem dX13_away_76 : decode cX13_away 76 = .ok (.iastore, 1) := by decide +kernel
theorem dX13_away_77 : decode cX13_away 77 = .ok (.aload_n 0, 1) := by decide +kernel
theorem dX13_away_78 : decode cX13_away 78 = .ok (.getfield 214, 3) := by decide +kernel
theorem dX13_away_81 : decode cX13_away 81 = .ok (.aload_n 0, 1) := by decide +kernel
theorem dX13_away_82 : decode cX13_away 82 = .ok (.getfield 409, 3) := by decide +kernel
theorem dX13_away_85 : decode cX13_away 85 = .ok (.aload_n 0, 1) := by decide +kernel
theorem dX13_away_86 : decode cX13_away 86 = .ok (.getfield 403, 3) := by decide +kernel
theorem dX13_away_89 : decode cX13_away 89 = .ok (.iastore, 1) := by decide +kernel
theorem dX13_away_90 : decode cX13_away 90 = .ok (.aload_n 0, 1) := by decide +kernel
theorem dX13_away_91 : decode cX13_away 91 = .ok (.dup, 1) := by decide +kernel
theorem dX13_away_92 : decode cX13_away 92 = .ok (.getfield 409, 3) := by decide +kernel
theorem dX13_away_95 : decode cX13_away 95 = .ok (.iconst 1, 1) := by decide +kernel
theorem dX13_away_96 : decode cX13_away 96 = .ok (.iadd, 1) := by decide +kernel
theorem dX13_away_97 : decode cX13_away 97 = .ok (.putfield 409, 3) := by decide +kernel
theorem dX13_away_100 : decode cX13_away 100 = .ok (.aload_n 0, 1) := by decide +kernel
theorem dX13_away_101 : decode cX13_away 101 = .ok (.getfield 409, 3) := by decide +kernel
theorem dX13_away_104 : decode cX13_away 104 = .ok (.iconst 1, 1) := by decide +kernel
theorem dX13_away_105 : decode cX13_away 105 = .ok (.isub, 1) := by decide +kernel
theorem dX13_away_106 : decode cX13_away 106 = .ok (.ireturn, 1) := by decide +kernel
theorem dX13_back_0 : decode cX13_back 0 = .ok (.iload_n 1, 1) := by decide +kernel
theorem dX13_back_1 : decode cX13_back 1 = .ok (.i2l, 1) := by decide +kernel
theorem dX13_back_2 : decode cX13_back 2 = .ok (.lconst 0, 1) := by decide +kernel
theorem dX13_back_3 : decode cX13_back 3 = .ok (.aload_n 0, 1) := by decide +kernel
theorem dX13_back_4 : decode cX13_back 4 = .ok (.getfield 409, 3) := by decide +kernel
theorem dX13_back_7 : decode cX13_back 7 = .ok (.i2l, 1) := by decide +kernel
theorem dX13_back_8 : decode cX13_back 8 = .ok (.lconst 1, 1) := by decide +kernel
theorem dX13_back_9 : decode cX13_back 9 = .ok (.lsub, 1) := by decide +kernel
theorem dX13_back_10 : decode cX13_back 10 = .ok (.invokestatic 5, 3) := by decide +kernel
theorem dX13_back_13 : decode cX13_back 13 = .ok (.ifCond .eq 10, 3) := by decide +kernel
theorem dX13_back_16 : decode cX13_back 16 = .ok (.iload_n 2, 1) := by decide +kernel
theorem dX13_back_17 : decode cX13_back 17 = .ok (.invokestatic 406, 3) := by decide +kernel
theorem dX13_back_20 : decode cX13_back 20 = .ok (.ifCond .ne 6, 3) := by decide +kernel
theorem dX13_back_23 : decode cX13_back 23 = .ok (.bipush (-2), 2) := by decide +kernel
theorem dX13_back_25 : decode cX13_back 25 = .ok (.ireturn, 1) := by decide +kernel
theorem dX13_back_26 : decode cX13_back 26 = .ok (.aload_n 0, 1) := by decide +kernel
theorem dX13_back_27 : decode cX13_back 27 = .ok (.getfield 223, 3) := by decide +kernel
theorem dX13_back_30 : decode cX13_back 30 = .ok (.iload_n 1, 1) := by decide +kernel
theorem dX13_back_31 : decode cX13_back 31 = .ok (.baload, 1) := by decide +kernel
theorem dX13_back_32 : decode cX13_back 32 = .ok (.ifCond .eq 6, 3) := by decide +kernel
theorem dX13_back_35 : decode cX13_back 35 = .ok (.bipush (-4), 2) := by decide +kernel
theorem dX13_back_37 : decode cX13_back 37 = .ok (.ireturn, 1) := by decide +kernel
theorem dX13_back_38 : decode cX13_back 38 = .ok (.aload_n 0, 1) := by decide +kernel
theorem dX13_back_39 : decode cX13_back 39 = .ok (.getfield 223, 3) := by decide +kernel
theorem dX13_back_42 : decode cX13_back 42 = .ok (.iload_n 1, 1) := by decide +kernel
theorem dX13_back_43 : decode cX13_back 43 = .ok (.iconst 1, 1) := by decide +kernel
theorem dX13_back_44 : decode cX13_back 44 = .ok (.bastore, 1) := by decide +kernel
theorem dX13_back_45 : decode cX13_back 45 = .ok (.aload_n 0, 1) := by decide +kernel
theorem dX13_back_46 : decode cX13_back 46 = .ok (.getfield 217, 3) := by decide +kernel
theorem dX13_back_49 : decode cX13_back 49 = .ok (.iload_n 1, 1) := by decide +kernel
theorem dX13_back_50 : decode cX13_back 50 = .ok (.iload_n 2, 1) := by decide +kernel
theorem dX13_back_51 : decode cX13_back 51 = .ok (.iastore, 1) := by decide +kernel
theorem dX13_back_52 : decode cX13_back 52 = .ok (.aload_n 0, 1) := by decide +kernel
theorem dX13_back_53 : decode cX13_back 53 = .ok (.getfield 220, 3) := by decide +kernel
theorem dX13_back_56 : decode cX13_back 56 = .ok (.iload_n 1, 1) := by decide +kernel
theorem dX13_back_57 : decode cX13_back 57 = .ok (.aload_n 0, 1) := by decide +kernel
theorem dX13_back_58 : decode cX13_back 58 = .ok (.getfield 403, 3) := by decide +kernel
theorem dX13_back_61 : decode cX13_back 61 = .ok (.iastore, 1) := by decide +kernel
theorem dX13_back_62 : decode cX13_back 62 = .ok (.iconst 1, 1) := by decide +kernel
theorem dX13_back_63 : decode cX13_back 63 = .ok (.ireturn, 1) := by decide +kernel
theorem dX13_isThere_0 : decode cX13_isThere 0 = .ok (.iload_n 1, 1) := by decide +kernel
theorem dX13_isThere_1 : decode cX13_isThere 1 = .ok (.i2l, 1) := by decide +kernel
theorem dX13_isThere_2 : decode cX13_isThere 2 = .ok (.lconst 0, 1) := by decide +kernel
theorem dX13_isThere_3 : decode cX13_isThere 3 = .ok (.ldc2_w 356, 3) := by decide +kernel
theorem dX13_isThere_6 : decode cX13_isThere 6 = .ok (.invokestatic 5, 3) := by decide +kernel
theorem dX13_isThere_9 : decode cX13_isThere 9 = .ok (.ifCond .ne 5, 3) := by decide +kernel
theorem dX13_isThere_12 : decode cX13_isThere 12 = .ok (.iconst 0, 1) := by decide +kernel
theorem dX13_isThere_13 : decode cX13_isThere 13 = .ok (.ireturn, 1) := by decide +kernel
theorem dX13_isThere_14 : decode cX13_isThere 14 = .ok (.iconst 0, 1) := by decide +kernel
theorem dX13_isThere_15 : decode cX13_isThere 15 = .ok (.istore 4, 2) := by decide +kernel
theorem dX13_isThere_17 : decode cX13_isThere 17 = .ok (.iload 4, 2) := by decide +kernel
theorem dX13_isThere_19 : decode cX13_isThere 19 = .ok (.aload_n 0, 1) := by decide +kernel
theorem dX13_isThere_20 : decode cX13_isThere 20 = .ok (.getfield 409, 3) := by decide +kernel
theorem dX13_isThere_23 : decode cX13_isThere 23 = .ok (.if_icmp .ge 92, 3) := by decide +kernel
theorem dX13_isThere_26 : decode cX13_isThere 26 = .ok (.aload_n 0, 1) := by decide +kernel
theorem dX13_isThere_27 : decode cX13_isThere 27 = .ok (.getfield 205, 3) := by decide +kernel
theorem dX13_isThere_30 : decode cX13_isThere 30 = .ok (.iload 4, 2) := by decide +kernel
theorem dX13_isThere_32 : decode cX13_isThere 32 = .ok (.iaload, 1) := by decide +kernel
theorem dX13_isThere_33 : decode cX13_isThere 33 = .ok (.iload_n 1, 1) := by decide +kernel
theorem dX13_isThere_34 : decode cX13_isThere 34 = .ok (.if_icmp .ne 75, 3) := by decide +kernel
theorem dX13_isThere_37 : decode cX13_isThere 37 = .ok (.aload_n 0, 1) := by decide +kernel
theorem dX13_isThere_38 : decode cX13_isThere 38 = .ok (.getfield 214, 3) := by decide +kernel
theorem dX13_isThere_41 : decode cX13_isThere 41 = .ok (.iload 4, 2) := by decide +kernel
theorem dX13_isThere_43 : decode cX13_isThere 43 = .ok (.iaload, 1) := by decide +kernel
theorem dX13_isThere_44 : decode cX13_isThere 44 = .ok (.iload_n 3, 1) := by decide +kernel
theorem dX13_isThere_45 : decode cX13_isThere 45 = .ok (.if_icmp .gt 64, 3) := by decide +kernel
theorem dX13_isThere_48 : decode cX13_isThere 48 = .ok (.iload_n 2, 1) := by decide +kernel
theorem dX13_isThere_49 : decode cX13_isThere 49 = .ok (.i2l, 1) := by decide +kernel
theorem dX13_isThere_50 : decode cX13_isThere 50 = .ok (.aload_n 0, 1) := by decide +kernel
theorem dX13_isThere_51 : decode cX13_isThere 51 = .ok (.getfield 208, 3) := by decide +kernel
theorem dX13_isThere_54 : decode cX13_isThere 54 = .ok (.iload 4, 2) := by decide +kernel
theorem dX13_isThere_56 : decode cX13_isThere 56 = .ok (.iaload, 1) := by decide +kernel
theorem dX13_isThere_57 : decode cX13_isThere 57 = .ok (.i2l, 1) := by decide +kernel
theorem dX13_isThere_58 : decode cX13_isThere 58 = .ok (.aload_n 0, 1) := by decide +kernel
theorem dX13_isThere_59 : decode cX13_isThere 59 = .ok (.getfield 211, 3) := by decide +kernel
theorem dX13_isThere_62 : decode cX13_isThere 62 = .ok (.iload 4, 2) := by decide +kernel
theorem dX13_isThere_64 : decode cX13_isThere 64 = .ok (.iaload, 1) := by decide +kernel
theorem dX13_isThere_65 : decode cX13_isThere 65 = .ok (.i2l, 1) := by decide +kernel
theorem dX13_isThere_66 : decode cX13_isThere 66 = .ok (.invokestatic 5, 3) := by decide +kernel
theorem dX13_isThere_69 : decode cX13_isThere 69 = .ok (.ifCond .ne 6, 3) := by decide +kernel
theorem dX13_isThere_72 : decode cX13_isThere 72 = .ok (.goto 37, 3) := by decide +kernel
theorem dX13_isThere_75 : decode cX13_isThere 75 = .ok (.aload_n 0, 1) := by decide +kernel
theorem dX13_isThere_76 : decode cX13_isThere 76 = .ok (.getfield 223, 3) := by decide +kernel
theorem dX13_isThere_79 : decode cX13_isThere 79 = .ok (.iload 4, 2) := by decide +kernel
theorem dX13_isThere_81 : decode cX13_isThere 81 = .ok (.baload, 1) := by decide +kernel
theorem dX13_isThere_82 : decode cX13_isThere 82 = .ok (.ifCond .eq 25, 3) := by decide +kernel
theorem dX13_isThere_85 : decode cX13_isThere 85 = .ok (.aload_n 0, 1) := by decide +kernel
theorem dX13_isThere_86 : decode cX13_isThere 86 = .ok (.getfield 220, 3) := by decide +kernel
theorem dX13_isThere_89 : decode cX13_isThere 89 = .ok (.iload 4, 2) := by decide +kernel
theorem dX13_isThere_91 : decode cX13_isThere 91 = .ok (.iaload, 1) := by decide +kernel
theorem dX13_isThere_92 : decode cX13_isThere 92 = .ok (.iload_n 3, 1) := by decide +kernel
theorem dX13_isThere_93 : decode cX13_isThere 93 = .ok (.if_icmp .gt 14, 3) := by decide +kernel
theorem dX13_isThere_96 : decode cX13_isThere 96 = .ok (.aload_n 0, 1) := by decide +kernel
theorem dX13_isThere_97 : decode cX13_isThere 97 = .ok (.getfield 217, 3) := by decide +kernel
theorem dX13_isThere_100 : decode cX13_isThere 100 = .ok (.iload 4, 2) := by decide +kernel
theorem dX13_isThere_102 : decode cX13_isThere 102 = .ok (.iaload, 1) := by decide +kernel
theorem dX13_isThere_103 : decode cX13_isThere 103 = .ok (.iload_n 2, 1) := by decide +kernel
theorem dX13_isThere_104 : decode cX13_isThere 104 = .ok (.if_icmp .le 5, 3) := by decide +kernel
theorem dX13_isThere_107 : decode cX13_isThere 107 = .ok (.iconst 0, 1) := by decide +kernel
theorem dX13_isThere_108 : decode cX13_isThere 108 = .ok (.ireturn, 1) := by decide +kernel
theorem dX13_isThere_109 : decode cX13_isThere 109 = .ok (.iinc 4 1, 3) := by decide +kernel
theorem dX13_isThere_112 : decode cX13_isThere 112 = .ok (.goto (-95), 3) := by decide +kernel
theorem dX13_isThere_115 : decode cX13_isThere 115 = .ok (.iconst 1, 1) := by decide +kernel
theorem dX13_isThere_116 : decode cX13_isThere 116 = .ok (.ireturn, 1) := by decide +kernel
theorem dX13_there_0 : decode cX13_there 0 = .ok (.iload_n 1, 1) := by decide +kernel
theorem dX13_there_1 : decode cX13_there 1 = .ok (.i2l, 1) := by decide +kernel
theorem dX13_there_2 : decode cX13_there 2 = .ok (.lconst 0, 1) := by decide +kernel
theorem dX13_there_3 : decode cX13_there 3 = .ok (.ldc2_w 356, 3) := by decide +kernel
theorem dX13_there_6 : decode cX13_there 6 = .ok (.invokestatic 5, 3) := by decide +kernel
theorem dX13_there_9 : decode cX13_there 9 = .ok (.ifCond .eq 17, 3) := by decide +kernel
theorem dX13_there_12 : decode cX13_there 12 = .ok (.iload_n 2, 1) := by decide +kernel
theorem dX13_there_13 : decode cX13_there 13 = .ok (.invokestatic 406, 3) := by decide +kernel
theorem dX13_there_16 : decode cX13_there 16 = .ok (.ifCond .eq 10, 3) := by decide +kernel
theorem dX13_there_19 : decode cX13_there 19 = .ok (.iload_n 3, 1) := by decide +kernel
theorem dX13_there_20 : decode cX13_there 20 = .ok (.invokestatic 406, 3) := by decide +kernel
theorem dX13_there_23 : decode cX13_there 23 = .ok (.ifCond .ne 8, 3) := by decide +kernel
theorem dX13_there_26 : decode cX13_there 26 = .ok (.bipush (-2), 2) := by decide +kernel
theorem dX13_there_28 : decode cX13_there 28 = .ok (.goto 18, 3) := by decide +kernel
theorem dX13_there_31 : decode cX13_there 31 = .ok (.aload_n 0, 1) := by decide +kernel
theorem dX13_there_32 : decode cX13_there 32 = .ok (.iload_n 1, 1) := by decide +kernel
theorem dX13_there_33 : decode cX13_there 33 = .ok (.iload_n 2, 1) := by decide +kernel
theorem dX13_there_34 : decode cX13_there 34 = .ok (.iload_n 3, 1) := by decide +kernel
theorem dX13_there_35 : decode cX13_there 35 = .ok (.invokevirtual 412, 3) := by decide +kernel
theorem dX13_there_38 : decode cX13_there 38 = .ok (.ifCond .eq 7, 3) := by decide +kernel
theorem dX13_there_41 : decode cX13_there 41 = .ok (.iconst 1, 1) := by decide +kernel
theorem dX13_there_42 : decode cX13_there 42 = .ok (.goto 4, 3) := by decide +kernel
theorem dX13_there_45 : decode cX13_there 45 = .ok (.iconst 0, 1) := by decide +kernel
theorem dX13_there_46 : decode cX13_there 46 = .ok (.ireturn, 1) := by decide +kernel
theorem dX13_key_0 : decode cX13_key 0 = .ok (.iload_n 1, 1) := by decide +kernel
theorem dX13_key_1 : decode cX13_key 1 = .ok (.invokestatic 406, 3) := by decide +kernel
theorem dX13_key_4 : decode cX13_key 4 = .ok (.ifCond .eq 10, 3) := by decide +kernel
theorem dX13_key_7 : decode cX13_key 7 = .ok (.iload_n 2, 1) := by decide +kernel
theorem dX13_key_8 : decode cX13_key 8 = .ok (.invokestatic 406, 3) := by decide +kernel
theorem dX13_key_11 : decode cX13_key 11 = .ok (.ifCond .ne 6, 3) := by decide +kernel
theorem dX13_key_14 : decode cX13_key 14 = .ok (.bipush (-2), 2) := by decide +kernel
theorem dX13_key_16 : decode cX13_key 16 = .ok (.ireturn, 1) := by decide +kernel
theorem dX13_key_17 : decode cX13_key 17 = .ok (.ldc_w 282, 3) := by decide +kernel
theorem dX13_key_20 : decode cX13_key 20 = .ok (.istore_n 3, 1) := by decide +kernel
theorem dX13_key_21 : decode cX13_key 21 = .ok (.iconst 0, 1) := by decide +kernel
theorem dX13_key_22 : decode cX13_key 22 = .ok (.istore 4, 2) := by decide +kernel
theorem dX13_key_24 : decode cX13_key 24 = .ok (.iload 4, 2) := by decide +kernel
theorem dX13_key_26 : decode cX13_key 26 = .ok (.bipush 24, 2) := by decide +kernel
theorem dX13_key_28 : decode cX13_key 28 = .ok (.if_icmp .gt 160, 3) := by decide +kernel
theorem dX13_key_31 : decode cX13_key 31 = .ok (.iload 4, 2) := by decide +kernel
theorem dX13_key_33 : decode cX13_key 33 = .ok (.iconst 2, 1) := by decide +kernel
theorem dX13_key_34 : decode cX13_key 34 = .ok (.irem, 1) := by decide +kernel
theorem dX13_key_35 : decode cX13_key 35 = .ok (.iconst 1, 1) := by decide +kernel
theorem dX13_key_36 : decode cX13_key 36 = .ok (.if_icmp .ne 12, 3) := by decide +kernel
theorem dX13_key_39 : decode cX13_key 39 = .ok (.iload 4, 2) := by decide +kernel
theorem dX13_key_41 : decode cX13_key 41 = .ok (.iconst 1, 1) := by decide +kernel
theorem dX13_key_42 : decode cX13_key 42 = .ok (.iadd, 1) := by decide +kernel
theorem dX13_key_43 : decode cX13_key 43 = .ok (.iconst 2, 1) := by decide +kernel
theorem dX13_key_44 : decode cX13_key 44 = .ok (.idiv, 1) := by decide +kernel
theorem dX13_key_45 : decode cX13_key 45 = .ok (.goto 8, 3) := by decide +kernel
theorem dX13_key_48 : decode cX13_key 48 = .ok (.iload 4, 2) := by decide +kernel
theorem dX13_key_50 : decode cX13_key 50 = .ok (.iconst 2, 1) := by decide +kernel
theorem dX13_key_51 : decode cX13_key 51 = .ok (.idiv, 1) := by decide +kernel
theorem dX13_key_52 : decode cX13_key 52 = .ok (.ineg, 1) := by decide +kernel
theorem dX13_key_53 : decode cX13_key 53 = .ok (.istore 5, 2) := by decide +kernel
theorem dX13_key_55 : decode cX13_key 55 = .ok (.iconst 0, 1) := by decide +kernel
theorem dX13_key_56 : decode cX13_key 56 = .ok (.istore 6, 2) := by decide +kernel
theorem dX13_key_58 : decode cX13_key 58 = .ok (.iconst 0, 1) := by decide +kernel
theorem dX13_key_59 : decode cX13_key 59 = .ok (.istore 7, 2) := by decide +kernel
theorem dX13_key_61 : decode cX13_key 61 = .ok (.iconst 0, 1) := by decide +kernel
theorem dX13_key_62 : decode cX13_key 62 = .ok (.istore 8, 2) := by decide +kernel
theorem dX13_key_64 : decode cX13_key 64 = .ok (.iload 8, 2) := by decide +kernel
theorem dX13_key_66 : decode cX13_key 66 = .ok (.aload_n 0, 1) := by decide +kernel
theorem dX13_key_67 : decode cX13_key 67 = .ok (.getfield 233, 3) := by decide +kernel
theorem dX13_key_70 : decode cX13_key 70 = .ok (.if_icmp .ge 72, 3) := by decide +kernel
theorem dX13_key_73 : decode cX13_key 73 = .ok (.aload_n 0, 1) := by decide +kernel
theorem dX13_key_74 : decode cX13_key 74 = .ok (.getfield 128, 3) := by decide +kernel
theorem dX13_key_77 : decode cX13_key 77 = .ok (.iload 8, 2) := by decide +kernel
theorem dX13_key_79 : decode cX13_key 79 = .ok (.iaload, 1) := by decide +kernel
theorem dX13_key_80 : decode cX13_key 80 = .ok (.iload 5, 2) := by decide +kernel
theorem dX13_key_82 : decode cX13_key 82 = .ok (.iadd, 1) := by decide +kernel
theorem dX13_key_83 : decode cX13_key 83 = .ok (.istore 9, 2) := by decide +kernel
theorem dX13_key_85 : decode cX13_key 85 = .ok (.aload_n 0, 1) := by decide +kernel
theorem dX13_key_86 : decode cX13_key 86 = .ok (.iload 9, 2) := by decide +kernel
theorem dX13_key_88 : decode cX13_key 88 = .ok (.iload_n 1, 1) := by decide +kernel
theorem dX13_key_89 : decode cX13_key 89 = .ok (.iload_n 2, 1) := by decide +kernel
theorem dX13_key_90 : decode cX13_key 90 = .ok (.invokevirtual 412, 3) := by decide +kernel
theorem dX13_key_93 : decode cX13_key 93 = .ok (.ifCond .eq 6, 3) := by decide +kernel
theorem dX13_key_96 : decode cX13_key 96 = .ok (.goto 40, 3) := by decide +kernel
theorem dX13_key_99 : decode cX13_key 99 = .ok (.aload_n 0, 1) := by decide +kernel
theorem dX13_key_100 : decode cX13_key 100 = .ok (.iload 9, 2) := by decide +kernel
theorem dX13_key_102 : decode cX13_key 102 = .ok (.bipush 12, 2) := by decide +kernel
theorem dX13_key_104 : decode cX13_key 104 = .ok (.iadd, 1) := by decide +kernel
theorem dX13_key_105 : decode cX13_key 105 = .ok (.iload_n 1, 1) := by decide +kernel
theorem dX13_key_106 : decode cX13_key 106 = .ok (.iload_n 2, 1) := by decide +kernel
theorem dX13_key_107 : decode cX13_key 107 = .ok (.invokevirtual 412, 3) := by decide +kernel
theorem dX13_key_110 : decode cX13_key 110 = .ok (.ifCond .ne 17, 3) := by decide +kernel
theorem dX13_key_113 : decode cX13_key 113 = .ok (.aload_n 0, 1) := by decide +kernel
theorem dX13_key_114 : decode cX13_key 114 = .ok (.iload 9, 2) := by decide +kernel
theorem dX13_key_116 : decode cX13_key 116 = .ok (.bipush 12, 2) := by decide +kernel
theorem dX13_key_118 : decode cX13_key 118 = .ok (.isub, 1) := by decide +kernel
theorem dX13_key_119 : decode cX13_key 119 = .ok (.iload_n 1, 1) := by decide +kernel
theorem dX13_key_120 : decode cX13_key 120 = .ok (.iload_n 2, 1) := by decide +kernel
theorem dX13_key_121 : decode cX13_key 121 = .ok (.invokevirtual 412, 3) := by decide +kernel
theorem dX13_key_124 : decode cX13_key 124 = .ok (.ifCond .eq 9, 3) := by decide +kernel
theorem dX13_key_127 : decode cX13_key 127 = .ok (.iinc 7 1, 3) := by decide +kernel
theorem dX13_key_130 : decode cX13_key 130 = .ok (.goto 6, 3) := by decide +kernel
theorem dX13_key_133 : decode cX13_key 133 = .ok (.iinc 6 1, 3) := by decide +kernel
theorem dX13_key_136 : decode cX13_key 136 = .ok (.iinc 8 1, 3) := by decide +kernel
theorem dX13_key_139 : decode cX13_key 139 = .ok (.goto (-75), 3) := by decide +kernel
theorem dX13_key_142 : decode cX13_key 142 = .ok (.iconst 3, 1) := by decide +kernel
theorem dX13_key_143 : decode cX13_key 143 = .ok (.iload 6, 2) := by decide +kernel
theorem dX13_key_145 : decode cX13_key 145 = .ok (.imul, 1) := by decide +kernel
theorem dX13_key_146 : decode cX13_key 146 = .ok (.iload 7, 2) := by decide +kernel
theorem dX13_key_148 : decode cX13_key 148 = .ok (.iadd, 1) := by decide +kernel
theorem dX13_key_149 : decode cX13_key 149 = .ok (.iload_n 3, 1) := by decide +kernel
theorem dX13_key_150 : decode cX13_key 150 = .ok (.if_icmp .lt 6, 3) := by decide +kernel
theorem dX13_key_153 : decode cX13_key 153 = .ok (.goto 29, 3) := by decide +kernel
theorem dX13_key_156 : decode cX13_key 156 = .ok (.iconst 3, 1) := by decide +kernel
theorem dX13_key_157 : decode cX13_key 157 = .ok (.iload 6, 2) := by decide +kernel
theorem dX13_key_159 : decode cX13_key 159 = .ok (.imul, 1) := by decide +kernel
theorem dX13_key_160 : decode cX13_key 160 = .ok (.iload 7, 2) := by decide +kernel
theorem dX13_key_162 : decode cX13_key 162 = .ok (.iadd, 1) := by decide +kernel
theorem dX13_key_163 : decode cX13_key 163 = .ok (.istore_n 3, 1) := by decide +kernel
theorem dX13_key_164 : decode cX13_key 164 = .ok (.aload_n 0, 1) := by decide +kernel
theorem dX13_key_165 : decode cX13_key 165 = .ok (.iload 5, 2) := by decide +kernel
theorem dX13_key_167 : decode cX13_key 167 = .ok (.putfield 415, 3) := by decide +kernel
theorem dX13_key_170 : decode cX13_key 170 = .ok (.aload_n 0, 1) := by decide +kernel
theorem dX13_key_171 : decode cX13_key 171 = .ok (.iload 6, 2) := by decide +kernel
theorem dX13_key_173 : decode cX13_key 173 = .ok (.putfield 418, 3) := by decide +kernel
theorem dX13_key_176 : decode cX13_key 176 = .ok (.aload_n 0, 1) := by decide +kernel
theorem dX13_key_177 : decode cX13_key 177 = .ok (.iload 7, 2) := by decide +kernel
theorem dX13_key_179 : decode cX13_key 179 = .ok (.putfield 421, 3) := by decide +kernel
theorem dX13_key_182 : decode cX13_key 182 = .ok (.iinc 4 1, 3) := by decide +kernel
theorem dX13_key_185 : decode cX13_key 185 = .ok (.goto (-161), 3) := by decide +kernel
theorem dX13_key_188 : decode cX13_key 188 = .ok (.aload_n 0, 1) := by decide +kernel
theorem dX13_key_189 : decode cX13_key 189 = .ok (.iconst 1, 1) := by decide +kernel
theorem dX13_key_190 : decode cX13_key 190 = .ok (.putfield 249, 3) := by decide +kernel
theorem dX13_key_193 : decode cX13_key 193 = .ok (.iload_n 3, 1) := by decide +kernel
theorem dX13_key_194 : decode cX13_key 194 = .ok (.ireturn, 1) := by decide +kernel
theorem dX13_keyed_0 : decode cX13_keyed 0 = .ok (.aload_n 0, 1) := by decide +kernel
theorem dX13_keyed_1 : decode cX13_keyed 1 = .ok (.getfield 249, 3) := by decide +kernel
theorem dX13_keyed_4 : decode cX13_keyed 4 = .ok (.ifCond .ne 8, 3) := by decide +kernel
theorem dX13_keyed_7 : decode cX13_keyed 7 = .ok (.bipush (-99), 2) := by decide +kernel
theorem dX13_keyed_9 : decode cX13_keyed 9 = .ok (.goto 40, 3) := by decide +kernel
theorem dX13_keyed_12 : decode cX13_keyed 12 = .ok (.iload_n 1, 1) := by decide +kernel
theorem dX13_keyed_13 : decode cX13_keyed 13 = .ok (.ifCond .ne 10, 3) := by decide +kernel
theorem dX13_keyed_16 : decode cX13_keyed 16 = .ok (.aload_n 0, 1) := by decide +kernel
theorem dX13_keyed_17 : decode cX13_keyed 17 = .ok (.getfield 415, 3) := by decide +kernel
theorem dX13_keyed_20 : decode cX13_keyed 20 = .ok (.goto 29, 3) := by decide +kernel
theorem dX13_keyed_23 : decode cX13_keyed 23 = .ok (.iload_n 1, 1) := by decide +kernel
theorem dX13_keyed_24 : decode cX13_keyed 24 = .ok (.iconst 1, 1) := by decide +kernel
theorem dX13_keyed_25 : decode cX13_keyed 25 = .ok (.if_icmp .ne 10, 3) := by decide +kernel
theorem dX13_keyed_28 : decode cX13_keyed 28 = .ok (.aload_n 0, 1) := by decide +kernel
theorem dX13_keyed_29 : decode cX13_keyed 29 = .ok (.getfield 418, 3) := by decide +kernel
theorem dX13_keyed_32 : decode cX13_keyed 32 = .ok (.goto 17, 3) := by decide +kernel
theorem dX13_keyed_35 : decode cX13_keyed 35 = .ok (.iload_n 1, 1) := by decide +kernel
theorem dX13_keyed_36 : decode cX13_keyed 36 = .ok (.iconst 2, 1) := by decide +kernel
theorem dX13_keyed_37 : decode cX13_keyed 37 = .ok (.if_icmp .ne 10, 3) := by decide +kernel
theorem dX13_keyed_40 : decode cX13_keyed 40 = .ok (.aload_n 0, 1) := by decide +kernel
theorem dX13_keyed_41 : decode cX13_keyed 41 = .ok (.getfield 421, 3) := by decide +kernel
theorem dX13_keyed_44 : decode cX13_keyed 44 = .ok (.goto 5, 3) := by decide +kernel
theorem dX13_keyed_47 : decode cX13_keyed 47 = .ok (.bipush (-99), 2) := by decide +kernel
theorem dX13_keyed_49 : decode cX13_keyed 49 = .ok (.ireturn, 1) := by decide +kernel
theorem dX13_count_0 : decode cX13_count 0 = .ok (.iconst 0, 1) := by decide +kernel
theorem dX13_count_1 : decode cX13_count 1 = .ok (.istore_n 2, 1) := by decide +kernel
theorem dX13_count_2 : decode cX13_count 2 = .ok (.iload_n 1, 1) := by decide +kernel
theorem dX13_count_3 : decode cX13_count 3 = .ok (.tableswitch 174 0 8 #[49, 54, 63, 68, 103, 116, 159, 164, 169], 49) := by decide +kernel
theorem dX13_count_52 : decode cX13_count 52 = .ok (.aload_n 0, 1) := by decide +kernel
theorem dX13_count_53 : decode cX13_count 53 = .ok (.getfield 233, 3) := by decide +kernel
theorem dX13_count_56 : decode cX13_count 56 = .ok (.ireturn, 1) := by decide +kernel
theorem dX13_count_57 : decode cX13_count 57 = .ok (.aload_n 0, 1) := by decide +kernel
theorem dX13_count_58 : decode cX13_count 58 = .ok (.invokevirtual 340, 3) := by decide +kernel
theorem dX13_count_61 : decode cX13_count 61 = .ok (.aload_n 0, 1) := by decide +kernel
theorem dX13_count_62 : decode cX13_count 62 = .ok (.getfield 314, 3) := by decide +kernel
theorem dX13_count_65 : decode cX13_count 65 = .ok (.ireturn, 1) := by decide +kernel
theorem dX13_count_66 : decode cX13_count 66 = .ok (.aload_n 0, 1) := by decide +kernel
theorem dX13_count_67 : decode cX13_count 67 = .ok (.getfield 147, 3) := by decide +kernel
theorem dX13_count_70 : decode cX13_count 70 = .ok (.ireturn, 1) := by decide +kernel
theorem dX13_count_71 : decode cX13_count 71 = .ok (.iconst 0, 1) := by decide +kernel
theorem dX13_count_72 : decode cX13_count 72 = .ok (.istore_n 3, 1) := by decide +kernel
theorem dX13_count_73 : decode cX13_count 73 = .ok (.iload_n 3, 1) := by decide +kernel
theorem dX13_count_74 : decode cX13_count 74 = .ok (.aload_n 0, 1) := by decide +kernel
theorem dX13_count_75 : decode cX13_count 75 = .ok (.getfield 147, 3) := by decide +kernel
theorem dX13_count_78 : decode cX13_count 78 = .ok (.if_icmp .ge 26, 3) := by decide +kernel
theorem dX13_count_81 : decode cX13_count 81 = .ok (.iload_n 2, 1) := by decide +kernel
theorem dX13_count_82 : decode cX13_count 82 = .ok (.aload_n 0, 1) := by decide +kernel
theorem dX13_count_83 : decode cX13_count 83 = .ok (.getfield 150, 3) := by decide +kernel
theorem dX13_count_86 : decode cX13_count 86 = .ok (.iload_n 3, 1) := by decide +kernel
theorem dX13_count_87 : decode cX13_count 87 = .ok (.baload, 1) := by decide +kernel
theorem dX13_count_88 : decode cX13_count 88 = .ok (.ifCond .eq 7, 3) := by decide +kernel
theorem dX13_count_91 : decode cX13_count 91 = .ok (.iconst 1, 1) := by decide +kernel
theorem dX13_count_92 : decode cX13_count 92 = .ok (.goto 4, 3) := by decide +kernel
theorem dX13_count_95 : decode cX13_count 95 = .ok (.iconst 0, 1) := by decide +kernel
theorem dX13_count_96 : decode cX13_count 96 = .ok (.iadd, 1) := by decide +kernel
theorem dX13_count_97 : decode cX13_count 97 = .ok (.istore_n 2, 1) := by decide +kernel
theorem dX13_count_98 : decode cX13_count 98 = .ok (.iinc 3 1, 3) := by decide +kernel
theorem dX13_count_101 : decode cX13_count 101 = .ok (.goto (-28), 3) := by decide +kernel
theorem dX13_count_104 : decode cX13_count 104 = .ok (.iload_n 2, 1) := by decide +kernel
theorem dX13_count_105 : decode cX13_count 105 = .ok (.ireturn, 1) := by decide +kernel
theorem dX13_count_106 : decode cX13_count 106 = .ok (.aload_n 0, 1) := by decide +kernel
theorem dX13_count_107 : decode cX13_count 107 = .ok (.getfield 236, 3) := by decide +kernel
theorem dX13_count_110 : decode cX13_count 110 = .ok (.ifCond .eq 7, 3) := by decide +kernel
theorem dX13_count_113 : decode cX13_count 113 = .ok (.iconst 1, 1) := by decide +kernel
theorem dX13_count_114 : decode cX13_count 114 = .ok (.goto 4, 3) := by decide +kernel
theorem dX13_count_117 : decode cX13_count 117 = .ok (.iconst 0, 1) := by decide +kernel
theorem dX13_count_118 : decode cX13_count 118 = .ok (.ireturn, 1) := by decide +kernel
theorem dX13_count_119 : decode cX13_count 119 = .ok (.iconst 0, 1) := by decide +kernel
theorem dX13_count_120 : decode cX13_count 120 = .ok (.istore_n 3, 1) := by decide +kernel
theorem dX13_count_121 : decode cX13_count 121 = .ok (.iload_n 3, 1) := by decide +kernel
theorem dX13_count_122 : decode cX13_count 122 = .ok (.aload_n 0, 1) := by decide +kernel
theorem dX13_count_123 : decode cX13_count 123 = .ok (.getfield 147, 3) := by decide +kernel
theorem dX13_count_126 : decode cX13_count 126 = .ok (.if_icmp .ge 34, 3) := by decide +kernel
theorem dX13_count_129 : decode cX13_count 129 = .ok (.aload_n 0, 1) := by decide +kernel
theorem dX13_count_130 : decode cX13_count 130 = .ok (.getfield 236, 3) := by decide +kernel
theorem dX13_count_133 : decode cX13_count 133 = .ok (.ifCond .eq 27, 3) := by decide +kernel
theorem dX13_count_136 : decode cX13_count 136 = .ok (.iload_n 2, 1) := by decide +kernel
theorem dX13_count_137 : decode cX13_count 137 = .ok (.aload_n 0, 1) := by decide +kernel
theorem dX13_count_138 : decode cX13_count 138 = .ok (.iload_n 3, 1) := by decide +kernel
theorem dX13_count_139 : decode cX13_count 139 = .ok (.invokevirtual 358, 3) := by decide +kernel
theorem dX13_count_142 : decode cX13_count 142 = .ok (.lconst 0, 1) := by decide +kernel
theorem dX13_count_143 : decode cX13_count 143 = .ok (.lcmp, 1) := by decide +kernel
theorem dX13_count_144 : decode cX13_count 144 = .ok (.ifCond .eq 7, 3) := by decide +kernel
theorem dX13_count_147 : decode cX13_count 147 = .ok (.iconst 1, 1) := by decide +kernel
theorem dX13_count_148 : decode cX13_count 148 = .ok (.goto 4, 3) := by decide +kernel
theorem dX13_count_151 : decode cX13_count 151 = .ok (.iconst 0, 1) := by decide +kernel
theorem dX13_count_152 : decode cX13_count 152 = .ok (.iadd, 1) := by decide +kernel
theorem dX13_count_153 : decode cX13_count 153 = .ok (.istore_n 2, 1) := by decide +kernel
theorem dX13_count_154 : decode cX13_count 154 = .ok (.iinc 3 1, 3) := by decide +kernel
theorem dX13_count_157 : decode cX13_count 157 = .ok (.goto (-36), 3) := by decide +kernel
theorem dX13_count_160 : decode cX13_count 160 = .ok (.iload_n 2, 1) := by decide +kernel
theorem dX13_count_161 : decode cX13_count 161 = .ok (.ireturn, 1) := by decide +kernel
theorem dX13_count_162 : decode cX13_count 162 = .ok (.aload_n 0, 1) := by decide +kernel
theorem dX13_count_163 : decode cX13_count 163 = .ok (.getfield 403, 3) := by decide +kernel
theorem dX13_count_166 : decode cX13_count 166 = .ok (.ireturn, 1) := by decide +kernel
theorem dX13_count_167 : decode cX13_count 167 = .ok (.aload_n 0, 1) := by decide +kernel
theorem dX13_count_168 : decode cX13_count 168 = .ok (.getfield 409, 3) := by decide +kernel
theorem dX13_count_171 : decode cX13_count 171 = .ok (.ireturn, 1) := by decide +kernel
theorem dX13_count_172 : decode cX13_count 172 = .ok (.aload_n 0, 1) := by decide +kernel
theorem dX13_count_173 : decode cX13_count 173 = .ok (.getfield 75, 3) := by decide +kernel
theorem dX13_count_176 : decode cX13_count 176 = .ok (.ireturn, 1) := by decide +kernel
theorem dX13_count_177 : decode cX13_count 177 = .ok (.iconst (-1), 1) := by decide +kernel
theorem dX13_count_178 : decode cX13_count 178 = .ok (.ireturn, 1) := by decide +kernel
abbrev mX13_pass : MI := (yX13_pass, cX13_pass, 2, some .int, 2, 46, [])
abbrev mX13_away : MI := (yX13_away, cX13_away, 4, some .int, 3, 66, [])
abbrev mX13_back : MI := (yX13_back, cX13_back, 3, some .int, 3, 66, [])
abbrev mX13_isThere : MI := (yX13_isThere, cX13_isThere, 5, some .boolean, 2, 46, [])
abbrev mX13_there : MI := (yX13_there, cX13_there, 4, some .int, 3, 70, [])
abbrev mX13_key : MI := (yX13_key, cX13_key, 10, some .int, 3, 70, [])
abbrev mX13_keyed : MI := (yX13_keyed, cX13_keyed, 2, some .int, 1, 21, [])
abbrev mX13_count : MI := (yX13_count, cX13_count, 4, some .int, 3, 64, [])
theorem kS_999 : (Int16.ofInt 999).toInt32 = 999 := by decide
theorem co_X13_401 : Cond.constantLong RX13 401 500 ∈ lw_w := lw_in (i := 1639) (by decide +kernel) (by decide +kernel)
theorem fk_X13_205 : Fk RX13 205 13 58 := ⟨RX13, TX13, 66, tyX13, rfl, inX13, by decide, lw_in (i := 1215) (by decide +kernel) (by decide +kernel), tyX13_ok, nmX13⟩
theorem fk_X13_208 : Fk RX13 208 13 59 := ⟨RX13, TX13, 66, tyX13, rfl, inX13, by decide, lw_in (i := 1216) (by decide +kernel) (by decide +kernel), tyX13_ok, nmX13⟩
theorem fk_X13_211 : Fk RX13 211 13 60 := ⟨RX13, TX13, 66, tyX13, rfl, inX13, by decide, lw_in (i := 1217) (by decide +kernel) (by decide +kernel), tyX13_ok, nmX13⟩
theorem fk_X13_214 : Fk RX13 214 13 61 := ⟨RX13, TX13, 66, tyX13, rfl, inX13, by decide, lw_in (i := 1218) (by decide +kernel) (by decide +kernel), tyX13_ok, nmX13⟩
theorem fk_X13_217 : Fk RX13 217 13 62 := ⟨RX13, TX13, 66, tyX13, rfl, inX13, by decide, lw_in (i := 1219) (by decide +kernel) (by decide +kernel), tyX13_ok, nmX13⟩
theorem fk_X13_220 : Fk RX13 220 13 63 := ⟨RX13, TX13, 66, tyX13, rfl, inX13, by decide, lw_in (i := 1220) (by decide +kernel) (by decide +kernel), tyX13_ok, nmX13⟩
theorem fk_X13_223 : Fk RX13 223 13 64 := ⟨RX13, TX13, 66, tyX13, rfl, inX13, by decide, lw_in (i := 1221) (by decide +kernel) (by decide +kernel), tyX13_ok, nmX13⟩
theorem fk_X13_249 : Fk RX13 249 13 65 := ⟨RX13, TX13, 66, tyX13, rfl, inX13, by decide, lw_in (i := 1222) (by decide +kernel) (by decide +kernel), tyX13_ok, nmX13⟩
theorem fk_X13_403 : Fk RX13 403 13 53 := ⟨RX13, TX13, 66, tyX13, rfl, inX13, by decide, lw_in (i := 1210) (by decide +kernel) (by decide +kernel), tyX13_ok, nmX13⟩
theorem fk_X13_409 : Fk RX13 409 13 54 := ⟨RX13, TX13, 66, tyX13, rfl, inX13, by decide, lw_in (i := 1211) (by decide +kernel) (by decide +kernel), tyX13_ok, nmX13⟩
theorem fk_X13_415 : Fk RX13 415 13 55 := ⟨RX13, TX13, 66, tyX13, rfl, inX13, by decide, lw_in (i := 1212) (by decide +kernel) (by decide +kernel), tyX13_ok, nmX13⟩
theorem fk_X13_418 : Fk RX13 418 13 56 := ⟨RX13, TX13, 66, tyX13, rfl, inX13, by decide, lw_in (i := 1213) (by decide +kernel) (by decide +kernel), tyX13_ok, nmX13⟩
theorem fk_X13_421 : Fk RX13 421 13 57 := ⟨RX13, TX13, 66, tyX13, rfl, inX13, by decide, lw_in (i := 1214) (by decide +kernel) (by decide +kernel), tyX13_ok, nmX13⟩
theorem fp_X13_53 : Fp 13 53 .int := ⟨RX13, TX13, 66, rfl, rfl, by decide +kernel⟩
theorem fp_X13_54 : Fp 13 54 .int := ⟨RX13, TX13, 66, rfl, rfl, by decide +kernel⟩
theorem fp_X13_55 : Fp 13 55 .int := ⟨RX13, TX13, 66, rfl, rfl, by decide +kernel⟩
theorem fp_X13_56 : Fp 13 56 .int := ⟨RX13, TX13, 66, rfl, rfl, by decide +kernel⟩
theorem fp_X13_57 : Fp 13 57 .int := ⟨RX13, TX13, 66, rfl, rfl, by decide +kernel⟩
theorem fp_X13_65 : Fp 13 65 .boolean := ⟨RX13, TX13, 66, rfl, rfl, by decide +kernel⟩
theorem ms_X13_isDay : Cond.static mX13_isDay.y ∈ lw_w := lw_in (i := 1645) (by decide +kernel) (by decide +kernel)
theorem mv_X13_isThere : MkV mX13_isThere := ⟨lw_in (i := 1658) (by decide +kernel) (by decide +kernel), lw_se (i := 89) (by decide +kernel) (by decide +kernel)⟩
theorem mk_X13_406 : Mk RX13 406 mX13_isDay 1 := ⟨lw_in (i := 1644) (by decide +kernel) (by decide +kernel), lw_in (i := 14) (by decide +kernel) (by decide +kernel), lw_in (i := 1646) (by decide +kernel) (by decide +kernel), by decide +kernel⟩
theorem mk_X13_412 : Mk RX13 412 mX13_isThere 3 := ⟨lw_in (i := 1656) (by decide +kernel) (by decide +kernel), lw_in (i := 14) (by decide +kernel) (by decide +kernel), lw_in (i := 1659) (by decide +kernel) (by decide +kernel), by decide +kernel⟩
theorem rm_X13_away_X13_in : Rm mX13_away mX13_in := ⟨by decide, by decide⟩
theorem rm_X13_away_X13_isDay : Rm mX13_away mX13_isDay := ⟨by decide, by decide⟩
theorem rm_X13_back_X13_in : Rm mX13_back mX13_in := ⟨by decide, by decide⟩
theorem rm_X13_back_X13_isDay : Rm mX13_back mX13_isDay := ⟨by decide, by decide⟩
theorem rm_X13_count_X13_bellsOf : Rm mX13_count mX13_bellsOf := ⟨by decide, by decide⟩
theorem rm_X13_count_X13_findUsed : Rm mX13_count mX13_findUsed := ⟨by decide, by decide⟩
theorem rm_X13_isThere_X13_in : Rm mX13_isThere mX13_in := ⟨by decide, by decide⟩
theorem rm_X13_key_X13_isDay : Rm mX13_key mX13_isDay := ⟨by decide, by decide⟩
theorem rm_X13_key_X13_isThere : Rm mX13_key mX13_isThere := ⟨by decide, by decide⟩
theorem rm_X13_pass_X13_in : Rm mX13_pass mX13_in := ⟨by decide, by decide⟩
theorem rm_X13_there_X13_in : Rm mX13_there mX13_in := ⟨by decide, by decide⟩
theorem rm_X13_there_X13_isDay : Rm mX13_there mX13_isDay := ⟨by decide, by decide⟩
theorem rm_X13_there_X13_isThere : Rm mX13_there mX13_isThere := ⟨by decide, by decide⟩
section W_model6
variable {l : Launch} {D : va_G} {ad : Nat → Nat} {kA : Nat → ClassId} {M : Mem} {Q : Outcome → Mem → Prop}
theorem t_X13_pass_0 {x1 : Int32} 
    (K1 : ((v_X13_in x1.toInt64 1 500) = 0) → Q (.returned (some (.int (-2)))) M)
    (K2 : (¬ ((v_X13_in x1.toInt64 1 500) = 0)) → (((gI M 54 53) + x1) ≤ 999) → Q (.returned (some (.int ((gI M 54 53) + x1)))) (sI M 54 53 ((gI M 54 53) + x1)))
    (K3 : (¬ ((v_X13_in x1.toInt64 1 500) = 0)) → (¬ (((gI M 54 53) + x1) ≤ 999)) → Q (.returned (some (.int (-2)))) M) : Fw l D ad kA mX13_pass 0 [some (.ref (ad 54)), some (.int x1)] [] M Q := by
  refine r_iload_n dX13_pass_0 rfl ?_
  refine r_i2l dX13_pass_1 ?_
  refine r_lconst (v := 1) dX13_pass_2 kL_1 ?_
  refine r_ldc2 (v := 500) dX13_pass_3 co_X13_401 ?_
  refine r_callS (As := [.long x1.toInt64, .long 1, .long 500]) (rest := []) dX13_pass_6 mk_X13_5 ms_X13_in rm_X13_pass_X13_in rfl rfl (Nat.le_of_ble_eq_true rfl) (ct_X13_in (⟨_, rfl, ?_⟩))
  refine r_if_eq (tgt := 24) dX13_pass_9 (by decide) (fun c1 => ?_) (fun c1 => ?_)
  · skip
    refine r_bipush (v := (-2)) dX13_pass_24 kB_m2 ?_
    exact r_iret dX13_pass_26 rfl (K1 c1)
  · skip
    refine r_aload_n dX13_pass_12 rfl ?_
    refine r_getI dX13_pass_13 fs_54_53 fk_X13_403 ?_
    refine r_iload_n dX13_pass_16 rfl ?_
    refine r_iadd dX13_pass_17 ?_
    refine r_sipush (v := 999) dX13_pass_18 kS_999 ?_
    refine r_icmp_le (tgt := 27) dX13_pass_21 (by decide) (fun c2 => ?_) (fun c2 => ?_)
    · skip
      refine r_aload_n dX13_pass_27 rfl ?_
      refine r_dup dX13_pass_28 rfl ?_
      refine r_getI dX13_pass_29 fs_54_53 fk_X13_403 ?_
      refine r_iload_n dX13_pass_32 rfl ?_
      refine r_iadd dX13_pass_33 ?_
      refine r_putI dX13_pass_34 fs_54_53 fk_X13_403 fp_X13_53 ?_
      refine r_aload_n dX13_pass_37 rfl ?_
      refine q_getI (v := (gI M 54 53) + x1) dX13_pass_38 fs_54_53 fk_X13_403 rfl ?_
      exact r_iret dX13_pass_41 rfl (K2 c1 c2)
    · skip
      refine r_bipush (v := (-2)) dX13_pass_24 kB_m2 ?_
      exact r_iret dX13_pass_26 rfl (K3 c1 c2)
theorem en_X13_pass {x1 : Int32} (K : Fw l D ad kA mX13_pass 0 [some (.ref (ad 54)), some (.int x1)] [] M Q) : Cal l D ad kA mX13_pass [.ref (ad 54), .int x1] M Q := Cal.of (by decide) rfl rfl (Nat.le_of_ble_eq_true rfl) K
theorem t_X13_away_0 {x1 : Int32} {x2 : Int32} {x3 : Int32} 
    (g1 : (¬ ((v_X13_in x1.toInt64 0 47) = 0)) → (¬ ((v_X13_isDay x2) = 0)) → (¬ ((v_X13_in x3.toInt64 x2.toInt64 999) = 0)) → (¬ ((gI M 54 54) = 60)) → vp_in (gI M 54 54) 60)
    (K1 : ((v_X13_in x1.toInt64 0 47) = 0) → Q (.returned (some (.int (-2)))) M)
    (K2 : (¬ ((v_X13_in x1.toInt64 0 47) = 0)) → ((v_X13_isDay x2) = 0) → Q (.returned (some (.int (-2)))) M)
    (K3 : (¬ ((v_X13_in x1.toInt64 0 47) = 0)) → (¬ ((v_X13_isDay x2) = 0)) → (¬ ((v_X13_in x3.toInt64 x2.toInt64 999) = 0)) → (¬ ((gI M 54 54) = 60)) → Q (.returned (some (.int (((gI M 54 54) + 1) - 1)))) (sI (sI (sI (sI (sI M 85 (gI M 54 54).toNatClampNeg x1) 86 (gI M 54 54).toNatClampNeg x2) 87 (gI M 54 54).toNatClampNeg x3) 88 (gI M 54 54).toNatClampNeg (gI M 54 53)) 54 54 ((gI M 54 54) + 1)))
    (K4 : (¬ ((v_X13_in x1.toInt64 0 47) = 0)) → (¬ ((v_X13_isDay x2) = 0)) → (¬ ((v_X13_in x3.toInt64 x2.toInt64 999) = 0)) → ((gI M 54 54) = 60) → Q (.returned (some (.int (-3)))) M)
    (K5 : (¬ ((v_X13_in x1.toInt64 0 47) = 0)) → (¬ ((v_X13_isDay x2) = 0)) → ((v_X13_in x3.toInt64 x2.toInt64 999) = 0) → Q (.returned (some (.int (-2)))) M) : Fw l D ad kA mX13_away 0 [some (.ref (ad 54)), some (.int x1), some (.int x2), some (.int x3)] [] M Q := by
  refine r_iload_n dX13_away_0 rfl ?_
  refine r_i2l dX13_away_1 ?_
  refine r_lconst (v := 0) dX13_away_2 kL_0 ?_
  refine r_ldc2 (v := 47) dX13_away_3 co_X13_356 ?_
  refine r_callS (As := [.long x1.toInt64, .long 0, .long 47]) (rest := []) dX13_away_6 mk_X13_5 ms_X13_in rm_X13_away_X13_in rfl rfl (Nat.le_of_ble_eq_true rfl) (ct_X13_in (⟨_, rfl, ?_⟩))
  refine r_if_eq (tgt := 32) dX13_away_9 (by decide) (fun c1 => ?_) (fun c1 => ?_)
  · skip
    refine r_bipush (v := (-2)) dX13_away_32 kB_m2 ?_
    exact r_iret dX13_away_34 rfl (K1 c1)
  · skip
    refine r_iload_n dX13_away_12 rfl ?_
    refine r_callS (As := [.int x2]) (rest := []) dX13_away_13 mk_X13_406 ms_X13_isDay rm_X13_away_X13_isDay rfl rfl (Nat.le_of_ble_eq_true rfl) (ct_X13_isDay (⟨_, rfl, ?_⟩))
    refine r_if_eq (tgt := 32) dX13_away_16 (by decide) (fun c2 => ?_) (fun c2 => ?_)
    · skip
      refine r_bipush (v := (-2)) dX13_away_32 kB_m2 ?_
      exact r_iret dX13_away_34 rfl (K2 c1 c2)
    · skip
      refine r_iload_n dX13_away_19 rfl ?_
      refine r_i2l dX13_away_20 ?_
      refine r_iload_n dX13_away_21 rfl ?_
      refine r_i2l dX13_away_22 ?_
      refine r_ldc2 (v := 999) dX13_away_23 co_X13_3 ?_
      refine r_callS (As := [.long x3.toInt64, .long x2.toInt64, .long 999]) (rest := []) dX13_away_26 mk_X13_5 ms_X13_in rm_X13_away_X13_in rfl rfl (Nat.le_of_ble_eq_true rfl) (ct_X13_in (⟨_, rfl, ?_⟩))
      refine r_if_ne (tgt := 35) dX13_away_29 (by decide) (fun c3 => ?_) (fun c3 => ?_)
      · skip
        refine r_aload_n dX13_away_35 rfl ?_
        refine r_getI dX13_away_36 fs_54_54 fk_X13_409 ?_
        refine r_bipush (v := 60) dX13_away_39 kB_60 ?_
        refine r_icmp_ne (tgt := 47) dX13_away_41 (by decide) (fun c4 => ?_) (fun c4 => ?_)
        · skip
          refine r_aload_n dX13_away_47 rfl ?_
          refine r_getR dX13_away_48 fs_54_58 fk_X13_205 ?_
          refine r_aload_n dX13_away_51 rfl ?_
          refine r_getI dX13_away_52 fs_54_54 fk_X13_409 ?_
          refine r_iload_n dX13_away_55 rfl ?_
          refine r_iast dX13_away_56 as_85 (g1 c1 c2 c3 c4) ?_
          refine r_aload_n dX13_away_57 rfl ?_
          refine r_getR dX13_away_58 fs_54_59 fk_X13_208 ?_
          refine r_aload_n dX13_away_61 rfl ?_
          refine q_getI (v := gI M 54 54) dX13_away_62 fs_54_54 fk_X13_409 rfl ?_
          refine r_iload_n dX13_away_65 rfl ?_
          refine r_iast dX13_away_66 as_86 (g1 c1 c2 c3 c4) ?_
          refine r_aload_n dX13_away_67 rfl ?_
          refine r_getR dX13_away_68 fs_54_60 fk_X13_211 ?_
          refine r_aload_n dX13_away_71 rfl ?_
          refine q_getI (v := gI M 54 54) dX13_away_72 fs_54_54 fk_X13_409 rfl ?_
          refine r_iload_n dX13_away_75 rfl ?_
          refine r_iast dX13_away_76 as_87 (g1 c1 c2 c3 c4) ?_
          refine r_aload_n dX13_away_77 rfl ?_
          refine r_getR dX13_away_78 fs_54_61 fk_X13_214 ?_
          refine r_aload_n dX13_away_81 rfl ?_
          refine q_getI (v := gI M 54 54) dX13_away_82 fs_54_54 fk_X13_409 rfl ?_
          refine r_aload_n dX13_away_85 rfl ?_
          refine q_getI (v := gI M 54 53) dX13_away_86 fs_54_53 fk_X13_403 rfl ?_
          refine r_iast dX13_away_89 as_88 (g1 c1 c2 c3 c4) ?_
          refine r_aload_n dX13_away_90 rfl ?_
          refine r_dup dX13_away_91 rfl ?_
          refine q_getI (v := gI M 54 54) dX13_away_92 fs_54_54 fk_X13_409 rfl ?_
          refine r_iconst (v := 1) dX13_away_95 kI_1 ?_
          refine r_iadd dX13_away_96 ?_
          refine r_putI dX13_away_97 fs_54_54 fk_X13_409 fp_X13_54 ?_
          refine r_aload_n dX13_away_100 rfl ?_
          refine q_getI (v := (gI M 54 54) + 1) dX13_away_101 fs_54_54 fk_X13_409 rfl ?_
          refine r_iconst (v := 1) dX13_away_104 kI_1 ?_
          refine r_isub dX13_away_105 ?_
          exact r_iret dX13_away_106 rfl (K3 c1 c2 c3 c4)
        · skip
          refine r_bipush (v := (-3)) dX13_away_44 kB_m3 ?_
          exact r_iret dX13_away_46 rfl (K4 c1 c2 c3 c4)
      · skip
        refine r_bipush (v := (-2)) dX13_away_32 kB_m2 ?_
        exact r_iret dX13_away_34 rfl (K5 c1 c2 c3)
theorem en_X13_away {x1 : Int32} {x2 : Int32} {x3 : Int32} (K : Fw l D ad kA mX13_away 0 [some (.ref (ad 54)), some (.int x1), some (.int x2), some (.int x3)] [] M Q) : Cal l D ad kA mX13_away [.ref (ad 54), .int x1, .int x2, .int x3] M Q := Cal.of (by decide) rfl rfl (Nat.le_of_ble_eq_true rfl) K
theorem t_X13_back_0 {x1 : Int32} {x2 : Int32} 
    (g1 : (¬ ((v_X13_in x1.toInt64 0 (((gI M 54 54).toInt64) - 1)) = 0)) → (¬ ((v_X13_isDay x2) = 0)) → vp_in x1 60)
    (K1 : ((v_X13_in x1.toInt64 0 (((gI M 54 54).toInt64) - 1)) = 0) → Q (.returned (some (.int (-2)))) M)
    (K2 : (¬ ((v_X13_in x1.toInt64 0 (((gI M 54 54).toInt64) - 1)) = 0)) → (¬ ((v_X13_isDay x2) = 0)) → ((gI M 91 x1.toNatClampNeg) = 0) → Q (.returned (some (.int 1))) (sI (sI (sI M 91 x1.toNatClampNeg 1) 89 x1.toNatClampNeg x2) 90 x1.toNatClampNeg (gI M 54 53)))
    (K3 : (¬ ((v_X13_in x1.toInt64 0 (((gI M 54 54).toInt64) - 1)) = 0)) → (¬ ((v_X13_isDay x2) = 0)) → (¬ ((gI M 91 x1.toNatClampNeg) = 0)) → Q (.returned (some (.int (-4)))) M)
    (K4 : (¬ ((v_X13_in x1.toInt64 0 (((gI M 54 54).toInt64) - 1)) = 0)) → ((v_X13_isDay x2) = 0) → Q (.returned (some (.int (-2)))) M) : Fw l D ad kA mX13_back 0 [some (.ref (ad 54)), some (.int x1), some (.int x2)] [] M Q := by
  refine r_iload_n dX13_back_0 rfl ?_
  refine r_i2l dX13_back_1 ?_
  refine r_lconst (v := 0) dX13_back_2 kL_0 ?_
  refine r_aload_n dX13_back_3 rfl ?_
  refine r_getI dX13_back_4 fs_54_54 fk_X13_409 ?_
  refine r_i2l dX13_back_7 ?_
  refine r_lconst (v := 1) dX13_back_8 kL_1 ?_
  refine r_lsub dX13_back_9 ?_
  refine r_callS (As := [.long x1.toInt64, .long 0, .long (((gI M 54 54).toInt64) - 1)]) (rest := []) dX13_back_10 mk_X13_5 ms_X13_in rm_X13_back_X13_in rfl rfl (Nat.le_of_ble_eq_true rfl) (ct_X13_in (⟨_, rfl, ?_⟩))
  refine r_if_eq (tgt := 23) dX13_back_13 (by decide) (fun c1 => ?_) (fun c1 => ?_)
  · skip
    refine r_bipush (v := (-2)) dX13_back_23 kB_m2 ?_
    exact r_iret dX13_back_25 rfl (K1 c1)
  · skip
    refine r_iload_n dX13_back_16 rfl ?_
    refine r_callS (As := [.int x2]) (rest := []) dX13_back_17 mk_X13_406 ms_X13_isDay rm_X13_back_X13_isDay rfl rfl (Nat.le_of_ble_eq_true rfl) (ct_X13_isDay (⟨_, rfl, ?_⟩))
    refine r_if_ne (tgt := 26) dX13_back_20 (by decide) (fun c2 => ?_) (fun c2 => ?_)
    · skip
      refine r_aload_n dX13_back_26 rfl ?_
      refine r_getR dX13_back_27 fs_54_64 fk_X13_223 ?_
      refine r_iload_n dX13_back_30 rfl ?_
      refine r_zald dX13_back_31 as_91 (g1 c1 c2) ?_
      refine r_if_eq (tgt := 38) dX13_back_32 (by decide) (fun c3 => ?_) (fun c3 => ?_)
      · skip
        refine r_aload_n dX13_back_38 rfl ?_
        refine r_getR dX13_back_39 fs_54_64 fk_X13_223 ?_
        refine r_iload_n dX13_back_42 rfl ?_
        refine r_iconst (v := 1) dX13_back_43 kI_1 ?_
        refine q_zast dX13_back_44 as_91 (g1 c1 c2) (Or.inr rfl) ?_
        refine r_aload_n dX13_back_45 rfl ?_
        refine r_getR dX13_back_46 fs_54_62 fk_X13_217 ?_
        refine r_iload_n dX13_back_49 rfl ?_
        refine r_iload_n dX13_back_50 rfl ?_
        refine r_iast dX13_back_51 as_89 (g1 c1 c2) ?_
        refine r_aload_n dX13_back_52 rfl ?_
        refine r_getR dX13_back_53 fs_54_63 fk_X13_220 ?_
        refine r_iload_n dX13_back_56 rfl ?_
        refine r_aload_n dX13_back_57 rfl ?_
        refine q_getI (v := gI M 54 53) dX13_back_58 fs_54_53 fk_X13_403 rfl ?_
        refine r_iast dX13_back_61 as_90 (g1 c1 c2) ?_
        refine r_iconst (v := 1) dX13_back_62 kI_1 ?_
        exact r_iret dX13_back_63 rfl (K2 c1 c2 c3)
      · skip
        refine r_bipush (v := (-4)) dX13_back_35 kB_m4 ?_
        exact r_iret dX13_back_37 rfl (K3 c1 c2 c3)
    · skip
      refine r_bipush (v := (-2)) dX13_back_23 kB_m2 ?_
      exact r_iret dX13_back_25 rfl (K4 c1 c2)
theorem en_X13_back {x1 : Int32} {x2 : Int32} (K : Fw l D ad kA mX13_back 0 [some (.ref (ad 54)), some (.int x1), some (.int x2)] [] M Q) : Cal l D ad kA mX13_back [.ref (ad 54), .int x1, .int x2] M Q := Cal.of (by decide) rfl rfl (Nat.le_of_ble_eq_true rfl) K
theorem t_X13_isThere_0 {x1 : Int32} {x2 : Int32} {x3 : Int32} 
    (K1 : (¬ ((v_X13_in x1.toInt64 0 47) = 0)) → Fw l D ad kA mX13_isThere 17 [some (.ref (ad 54)), some (.int x1), some (.int x2), some (.int x3), some (.int 0)] [] M Q)
    (K2 : ((v_X13_in x1.toInt64 0 47) = 0) → Q (.returned (some (.int 0))) M) : Fw l D ad kA mX13_isThere 0 [some (.ref (ad 54)), some (.int x1), some (.int x2), some (.int x3), none] [] M Q := by
  refine r_iload_n dX13_isThere_0 rfl ?_
  refine r_i2l dX13_isThere_1 ?_
  refine r_lconst (v := 0) dX13_isThere_2 kL_0 ?_
  refine r_ldc2 (v := 47) dX13_isThere_3 co_X13_356 ?_
  refine r_callS (As := [.long x1.toInt64, .long 0, .long 47]) (rest := []) dX13_isThere_6 mk_X13_5 ms_X13_in rm_X13_isThere_X13_in rfl rfl (Nat.le_of_ble_eq_true rfl) (ct_X13_in (⟨_, rfl, ?_⟩))
  refine r_if_ne (tgt := 14) dX13_isThere_9 (by decide) (fun c1 => ?_) (fun c1 => ?_)
  · skip
    refine r_iconst (v := 0) dX13_isThere_14 kI_0 ?_
    refine q_istore (lo' := [some (.ref (ad 54)), some (.int x1), some (.int x2), some (.int x3), some (.int 0)]) dX13_isThere_15 (by decide) rfl ?_
    exact (K1 c1)
  · skip
    refine r_iconst (v := 0) dX13_isThere_12 kI_0 ?_
    exact r_zret dX13_isThere_13 rfl (by decide) (K2 c1)
theorem t_X13_isThere_17 {x1 : Int32} {x2 : Int32} {x3 : Int32} {x4 : Int32} 
    (g1 : (¬ ((gI M 54 54) ≤ x4)) → vp_in x4 60)
    (K1 : ((gI M 54 54) ≤ x4) → Q (.returned (some (.int 1))) M)
    (K2 : (¬ ((gI M 54 54) ≤ x4)) → (¬ ((gI M 85 x4.toNatClampNeg) = x1)) → Fw l D ad kA mX13_isThere 17 [some (.ref (ad 54)), some (.int x1), some (.int x2), some (.int x3), some (.int (x4 + 1))] [] M Q)
    (K3 : (¬ ((gI M 54 54) ≤ x4)) → ((gI M 85 x4.toNatClampNeg) = x1) → (x3 < (gI M 88 x4.toNatClampNeg)) → Fw l D ad kA mX13_isThere 17 [some (.ref (ad 54)), some (.int x1), some (.int x2), some (.int x3), some (.int (x4 + 1))] [] M Q)
    (K4 : (¬ ((gI M 54 54) ≤ x4)) → ((gI M 85 x4.toNatClampNeg) = x1) → (¬ (x3 < (gI M 88 x4.toNatClampNeg))) → (¬ ((v_X13_in x2.toInt64 ((gI M 86 x4.toNatClampNeg).toInt64) ((gI M 87 x4.toNatClampNeg).toInt64)) = 0)) → ((gI M 91 x4.toNatClampNeg) = 0) → Q (.returned (some (.int 0))) M)
    (K5 : (¬ ((gI M 54 54) ≤ x4)) → ((gI M 85 x4.toNatClampNeg) = x1) → (¬ (x3 < (gI M 88 x4.toNatClampNeg))) → (¬ ((v_X13_in x2.toInt64 ((gI M 86 x4.toNatClampNeg).toInt64) ((gI M 87 x4.toNatClampNeg).toInt64)) = 0)) → (¬ ((gI M 91 x4.toNatClampNeg) = 0)) → (x3 < (gI M 90 x4.toNatClampNeg)) → Q (.returned (some (.int 0))) M)
    (K6 : (¬ ((gI M 54 54) ≤ x4)) → ((gI M 85 x4.toNatClampNeg) = x1) → (¬ (x3 < (gI M 88 x4.toNatClampNeg))) → (¬ ((v_X13_in x2.toInt64 ((gI M 86 x4.toNatClampNeg).toInt64) ((gI M 87 x4.toNatClampNeg).toInt64)) = 0)) → (¬ ((gI M 91 x4.toNatClampNeg) = 0)) → (¬ (x3 < (gI M 90 x4.toNatClampNeg))) → ((gI M 89 x4.toNatClampNeg) ≤ x2) → Fw l D ad kA mX13_isThere 17 [some (.ref (ad 54)), some (.int x1), some (.int x2), some (.int x3), some (.int (x4 + 1))] [] M Q)
    (K7 : (¬ ((gI M 54 54) ≤ x4)) → ((gI M 85 x4.toNatClampNeg) = x1) → (¬ (x3 < (gI M 88 x4.toNatClampNeg))) → (¬ ((v_X13_in x2.toInt64 ((gI M 86 x4.toNatClampNeg).toInt64) ((gI M 87 x4.toNatClampNeg).toInt64)) = 0)) → (¬ ((gI M 91 x4.toNatClampNeg) = 0)) → (¬ (x3 < (gI M 90 x4.toNatClampNeg))) → (¬ ((gI M 89 x4.toNatClampNeg) ≤ x2)) → Q (.returned (some (.int 0))) M)
    (K8 : (¬ ((gI M 54 54) ≤ x4)) → ((gI M 85 x4.toNatClampNeg) = x1) → (¬ (x3 < (gI M 88 x4.toNatClampNeg))) → ((v_X13_in x2.toInt64 ((gI M 86 x4.toNatClampNeg).toInt64) ((gI M 87 x4.toNatClampNeg).toInt64)) = 0) → Fw l D ad kA mX13_isThere 17 [some (.ref (ad 54)), some (.int x1), some (.int x2), some (.int x3), some (.int (x4 + 1))] [] M Q) : Fw l D ad kA mX13_isThere 17 [some (.ref (ad 54)), some (.int x1), some (.int x2), some (.int x3), some (.int x4)] [] M Q := by
  refine r_iload dX13_isThere_17 rfl ?_
  refine r_aload_n dX13_isThere_19 rfl ?_
  refine r_getI dX13_isThere_20 fs_54_54 fk_X13_409 ?_
  refine r_icmp_ge (tgt := 115) dX13_isThere_23 (by decide) (fun c1 => ?_) (fun c1 => ?_)
  · skip
    refine r_iconst (v := 1) dX13_isThere_115 kI_1 ?_
    exact r_zret dX13_isThere_116 rfl (by decide) (K1 c1)
  · skip
    refine r_aload_n dX13_isThere_26 rfl ?_
    refine r_getR dX13_isThere_27 fs_54_58 fk_X13_205 ?_
    refine r_iload dX13_isThere_30 rfl ?_
    refine r_iald dX13_isThere_32 as_85 (g1 c1) ?_
    refine r_iload_n dX13_isThere_33 rfl ?_
    refine r_icmp_ne (tgt := 109) dX13_isThere_34 (by decide) (fun c2 => ?_) (fun c2 => ?_)
    · skip
      refine q_iinc (v := x4 + 1) (lo' := [some (.ref (ad 54)), some (.int x1), some (.int x2), some (.int x3), some (.int (x4 + 1))]) dX13_isThere_109 rfl (congrArg (fun q => x4 + q) kI_1) (by decide) rfl ?_
      refine r_goto (tgt := 17) dX13_isThere_112 (by decide) ?_
      exact (K2 c1 c2)
    · skip
      refine r_aload_n dX13_isThere_37 rfl ?_
      refine r_getR dX13_isThere_38 fs_54_61 fk_X13_214 ?_
      refine r_iload dX13_isThere_41 rfl ?_
      refine r_iald dX13_isThere_43 as_88 (g1 c1) ?_
      refine r_iload_n dX13_isThere_44 rfl ?_
      refine r_icmp_gt (tgt := 109) dX13_isThere_45 (by decide) (fun c3 => ?_) (fun c3 => ?_)
      · skip
        refine q_iinc (v := x4 + 1) (lo' := [some (.ref (ad 54)), some (.int x1), some (.int x2), some (.int x3), some (.int (x4 + 1))]) dX13_isThere_109 rfl (congrArg (fun q => x4 + q) kI_1) (by decide) rfl ?_
        refine r_goto (tgt := 17) dX13_isThere_112 (by decide) ?_
        exact (K3 c1 c2 c3)
      · skip
        refine r_iload_n dX13_isThere_48 rfl ?_
        refine r_i2l dX13_isThere_49 ?_
        refine r_aload_n dX13_isThere_50 rfl ?_
        refine r_getR dX13_isThere_51 fs_54_59 fk_X13_208 ?_
        refine r_iload dX13_isThere_54 rfl ?_
        refine r_iald dX13_isThere_56 as_86 (g1 c1) ?_
        refine r_i2l dX13_isThere_57 ?_
        refine r_aload_n dX13_isThere_58 rfl ?_
        refine r_getR dX13_isThere_59 fs_54_60 fk_X13_211 ?_
        refine r_iload dX13_isThere_62 rfl ?_
        refine r_iald dX13_isThere_64 as_87 (g1 c1) ?_
        refine r_i2l dX13_isThere_65 ?_
        refine r_callS (As := [.long x2.toInt64, .long ((gI M 86 x4.toNatClampNeg).toInt64), .long ((gI M 87 x4.toNatClampNeg).toInt64)]) (rest := []) dX13_isThere_66 mk_X13_5 ms_X13_in rm_X13_isThere_X13_in rfl rfl (Nat.le_of_ble_eq_true rfl) (ct_X13_in (⟨_, rfl, ?_⟩))
        refine r_if_ne (tgt := 75) dX13_isThere_69 (by decide) (fun c4 => ?_) (fun c4 => ?_)
        · skip
          refine r_aload_n dX13_isThere_75 rfl ?_
          refine r_getR dX13_isThere_76 fs_54_64 fk_X13_223 ?_
          refine r_iload dX13_isThere_79 rfl ?_
          refine r_zald dX13_isThere_81 as_91 (g1 c1) ?_
          refine r_if_eq (tgt := 107) dX13_isThere_82 (by decide) (fun c5 => ?_) (fun c5 => ?_)
          · skip
            refine r_iconst (v := 0) dX13_isThere_107 kI_0 ?_
            exact r_zret dX13_isThere_108 rfl (by decide) (K4 c1 c2 c3 c4 c5)
          · skip
            refine r_aload_n dX13_isThere_85 rfl ?_
            refine r_getR dX13_isThere_86 fs_54_63 fk_X13_220 ?_
            refine r_iload dX13_isThere_89 rfl ?_
            refine r_iald dX13_isThere_91 as_90 (g1 c1) ?_
            refine r_iload_n dX13_isThere_92 rfl ?_
            refine r_icmp_gt (tgt := 107) dX13_isThere_93 (by decide) (fun c6 => ?_) (fun c6 => ?_)
            · skip
              refine r_iconst (v := 0) dX13_isThere_107 kI_0 ?_
              exact r_zret dX13_isThere_108 rfl (by decide) (K5 c1 c2 c3 c4 c5 c6)
            · skip
              refine r_aload_n dX13_isThere_96 rfl ?_
              refine r_getR dX13_isThere_97 fs_54_62 fk_X13_217 ?_
              refine r_iload dX13_isThere_100 rfl ?_
              refine r_iald dX13_isThere_102 as_89 (g1 c1) ?_
              refine r_iload_n dX13_isThere_103 rfl ?_
              refine r_icmp_le (tgt := 109) dX13_isThere_104 (by decide) (fun c7 => ?_) (fun c7 => ?_)
              · skip
                refine q_iinc (v := x4 + 1) (lo' := [some (.ref (ad 54)), some (.int x1), some (.int x2), some (.int x3), some (.int (x4 + 1))]) dX13_isThere_109 rfl (congrArg (fun q => x4 + q) kI_1) (by decide) rfl ?_
                refine r_goto (tgt := 17) dX13_isThere_112 (by decide) ?_
                exact (K6 c1 c2 c3 c4 c5 c6 c7)
              · skip
                refine r_iconst (v := 0) dX13_isThere_107 kI_0 ?_
                exact r_zret dX13_isThere_108 rfl (by decide) (K7 c1 c2 c3 c4 c5 c6 c7)
        · skip
          refine r_goto (tgt := 109) dX13_isThere_72 (by decide) ?_
          refine q_iinc (v := x4 + 1) (lo' := [some (.ref (ad 54)), some (.int x1), some (.int x2), some (.int x3), some (.int (x4 + 1))]) dX13_isThere_109 rfl (congrArg (fun q => x4 + q) kI_1) (by decide) rfl ?_
          refine r_goto (tgt := 17) dX13_isThere_112 (by decide) ?_
          exact (K8 c1 c2 c3 c4)
theorem en_X13_isThere {x1 : Int32} {x2 : Int32} {x3 : Int32} (K : Fw l D ad kA mX13_isThere 0 [some (.ref (ad 54)), some (.int x1), some (.int x2), some (.int x3), none] [] M Q) : Cal l D ad kA mX13_isThere [.ref (ad 54), .int x1, .int x2, .int x3] M Q := Cal.of (by decide) rfl rfl (Nat.le_of_ble_eq_true rfl) K
theorem t_X13_there_0 {x1 : Int32} {x2 : Int32} {x3 : Int32} 
    (K1 : ((v_X13_in x1.toInt64 0 47) = 0) → Q (.returned (some (.int (-2)))) M)
    (K2 : (¬ ((v_X13_in x1.toInt64 0 47) = 0)) → ((v_X13_isDay x2) = 0) → Q (.returned (some (.int (-2)))) M)
    (K3 : (¬ ((v_X13_in x1.toInt64 0 47) = 0)) → (¬ ((v_X13_isDay x2) = 0)) → (¬ ((v_X13_isDay x3) = 0)) → Cal l D ad kA mX13_isThere [.ref (ad 54), .int x1, .int x2, .int x3] M (fun oc M2 => ∃ r : Int32, oc = .returned (some (.int r)) ∧ Fw l D ad kA mX13_there 38 [none, none, none, none] [.int r] M2 Q))
    (K4 : (¬ ((v_X13_in x1.toInt64 0 47) = 0)) → (¬ ((v_X13_isDay x2) = 0)) → ((v_X13_isDay x3) = 0) → Q (.returned (some (.int (-2)))) M) : Fw l D ad kA mX13_there 0 [some (.ref (ad 54)), some (.int x1), some (.int x2), some (.int x3)] [] M Q := by
  refine r_iload_n dX13_there_0 rfl ?_
  refine r_i2l dX13_there_1 ?_
  refine r_lconst (v := 0) dX13_there_2 kL_0 ?_
  refine r_ldc2 (v := 47) dX13_there_3 co_X13_356 ?_
  refine r_callS (As := [.long x1.toInt64, .long 0, .long 47]) (rest := []) dX13_there_6 mk_X13_5 ms_X13_in rm_X13_there_X13_in rfl rfl (Nat.le_of_ble_eq_true rfl) (ct_X13_in (⟨_, rfl, ?_⟩))
  refine r_if_eq (tgt := 26) dX13_there_9 (by decide) (fun c1 => ?_) (fun c1 => ?_)
  · skip
    refine r_bipush (v := (-2)) dX13_there_26 kB_m2 ?_
    refine r_goto (tgt := 46) dX13_there_28 (by decide) ?_
    exact r_iret dX13_there_46 rfl (K1 c1)
  · skip
    refine r_iload_n dX13_there_12 rfl ?_
    refine r_callS (As := [.int x2]) (rest := []) dX13_there_13 mk_X13_406 ms_X13_isDay rm_X13_there_X13_isDay rfl rfl (Nat.le_of_ble_eq_true rfl) (ct_X13_isDay (⟨_, rfl, ?_⟩))
    refine r_if_eq (tgt := 26) dX13_there_16 (by decide) (fun c2 => ?_) (fun c2 => ?_)
    · skip
      refine r_bipush (v := (-2)) dX13_there_26 kB_m2 ?_
      refine r_goto (tgt := 46) dX13_there_28 (by decide) ?_
      exact r_iret dX13_there_46 rfl (K2 c1 c2)
    · skip
      refine r_iload_n dX13_there_19 rfl ?_
      refine r_callS (As := [.int x3]) (rest := []) dX13_there_20 mk_X13_406 ms_X13_isDay rm_X13_there_X13_isDay rfl rfl (Nat.le_of_ble_eq_true rfl) (ct_X13_isDay (⟨_, rfl, ?_⟩))
      refine r_if_ne (tgt := 31) dX13_there_23 (by decide) (fun c3 => ?_) (fun c3 => ?_)
      · skip
        refine r_aload_n dX13_there_31 rfl ?_
        refine r_iload_n dX13_there_32 rfl ?_
        refine r_iload_n dX13_there_33 rfl ?_
        refine r_iload_n dX13_there_34 rfl ?_
        exact r_callV (x := 54) (As := [.int x1, .int x2, .int x3]) (rest := []) dX13_there_35 mk_X13_412 mv_X13_isThere rm_X13_there_X13_isThere rfl rfl (by decide +kernel) (Nat.le_of_ble_eq_true rfl) (cal_i (lo' := [none, none, none, none]) trivial (K3 c1 c2 c3))
      · skip
        refine r_bipush (v := (-2)) dX13_there_26 kB_m2 ?_
        refine r_goto (tgt := 46) dX13_there_28 (by decide) ?_
        exact r_iret dX13_there_46 rfl (K4 c1 c2 c3)
theorem t_X13_there_38 {s1 : Int32} 
    (K1 : Q (.returned (some (.int (if s1 = 0 then 0 else 1)))) M) : Fw l D ad kA mX13_there 38 [none, none, none, none] [.int s1] M Q := by
  suffices hJ1 : Fw l D ad kA mX13_there 46 [none, none, none, none] [.int (if s1 = 0 then 0 else 1)] M Q by
    refine r_if_eq (tgt := 45) dX13_there_38 (by decide) (fun c1 => ?_) (fun c1 => ?_)
    · skip
      refine r_iconst (v := 0) dX13_there_45 kI_0 ?_
      exact q_weak (lo' := [none, none, none, none]) trivial (by have h9 := hJ1; simp only [if_pos c1] at h9; first | exact h9 | (simp only [if_pos c1]; exact h9))
    · skip
      refine r_iconst (v := 1) dX13_there_41 kI_1 ?_
      refine r_goto (tgt := 46) dX13_there_42 (by decide) ?_
      exact q_weak (lo' := [none, none, none, none]) trivial (by have h9 := hJ1; simp only [if_neg c1] at h9; first | exact h9 | (simp only [if_neg c1]; exact h9))
  exact r_iret dX13_there_46 rfl K1
theorem en_X13_there {x1 : Int32} {x2 : Int32} {x3 : Int32} (K : Fw l D ad kA mX13_there 0 [some (.ref (ad 54)), some (.int x1), some (.int x2), some (.int x3)] [] M Q) : Cal l D ad kA mX13_there [.ref (ad 54), .int x1, .int x2, .int x3] M Q := Cal.of (by decide) rfl rfl (Nat.le_of_ble_eq_true rfl) K
theorem t_X13_key_0 {x1 : Int32} {x2 : Int32} 
    (K1 : ((v_X13_isDay x1) = 0) → Q (.returned (some (.int (-2)))) M)
    (K2 : (¬ ((v_X13_isDay x1) = 0)) → (¬ ((v_X13_isDay x2) = 0)) → Fw l D ad kA mX13_key 24 [some (.ref (ad 54)), some (.int x1), some (.int x2), some (.int 1000000), some (.int 0), none, none, none, none, none] [] M Q)
    (K3 : (¬ ((v_X13_isDay x1) = 0)) → ((v_X13_isDay x2) = 0) → Q (.returned (some (.int (-2)))) M) : Fw l D ad kA mX13_key 0 [some (.ref (ad 54)), some (.int x1), some (.int x2), none, none, none, none, none, none, none] [] M Q := by
  refine r_iload_n dX13_key_0 rfl ?_
  refine r_callS (As := [.int x1]) (rest := []) dX13_key_1 mk_X13_406 ms_X13_isDay rm_X13_key_X13_isDay rfl rfl (Nat.le_of_ble_eq_true rfl) (ct_X13_isDay (⟨_, rfl, ?_⟩))
  refine r_if_eq (tgt := 14) dX13_key_4 (by decide) (fun c1 => ?_) (fun c1 => ?_)
  · skip
    refine r_bipush (v := (-2)) dX13_key_14 kB_m2 ?_
    exact r_iret dX13_key_16 rfl (K1 c1)
  · skip
    refine r_iload_n dX13_key_7 rfl ?_
    refine r_callS (As := [.int x2]) (rest := []) dX13_key_8 mk_X13_406 ms_X13_isDay rm_X13_key_X13_isDay rfl rfl (Nat.le_of_ble_eq_true rfl) (ct_X13_isDay (⟨_, rfl, ?_⟩))
    refine r_if_ne (tgt := 17) dX13_key_11 (by decide) (fun c2 => ?_) (fun c2 => ?_)
    · skip
      refine r_ldcw (v := 1000000) dX13_key_17 co_X13_282 ?_
      refine q_istore_n (lo' := [some (.ref (ad 54)), some (.int x1), some (.int x2), some (.int 1000000), none, none, none, none, none, none]) dX13_key_20 (by decide) rfl ?_
      refine r_iconst (v := 0) dX13_key_21 kI_0 ?_
      refine q_istore (lo' := [some (.ref (ad 54)), some (.int x1), some (.int x2), some (.int 1000000), some (.int 0), none, none, none, none, none]) dX13_key_22 (by decide) rfl ?_
      exact (K2 c1 c2)
    · skip
      refine r_bipush (v := (-2)) dX13_key_14 kB_m2 ?_
      exact r_iret dX13_key_16 rfl (K3 c1 c2)
theorem t_X13_key_24 {x1 : Int32} {x2 : Int32} {x3 : Int32} {x4 : Int32} 
    (K1 : (24 < x4) → Q (.returned (some (.int x3))) (sI M 54 65 1))
    (K2 : (¬ (24 < x4)) → Fw l D ad kA mX13_key 64 [some (.ref (ad 54)), some (.int x1), some (.int x2), some (.int x3), some (.int x4), some (.int (if (x4 - x4 / 2 * 2) = 1 then (x4 + 1) / 2 else -(x4 / 2))), some (.int 0), some (.int 0), some (.int 0), none] [] M Q) : Fw l D ad kA mX13_key 24 [some (.ref (ad 54)), some (.int x1), some (.int x2), some (.int x3), some (.int x4), none, none, none, none, none] [] M Q := by
  refine r_iload dX13_key_24 rfl ?_
  refine r_bipush (v := 24) dX13_key_26 kB_24 ?_
  refine r_icmp_gt (tgt := 188) dX13_key_28 (by decide) (fun c1 => ?_) (fun c1 => ?_)
  · skip
    refine r_aload_n dX13_key_188 rfl ?_
    refine r_iconst (v := 1) dX13_key_189 kI_1 ?_
    refine r_putZ dX13_key_190 fs_54_65 fk_X13_249 fp_X13_65 (Or.inr rfl) ?_
    refine r_iload_n dX13_key_193 rfl ?_
    exact r_iret dX13_key_194 rfl (K1 c1)
  · skip
    refine r_iload dX13_key_31 rfl ?_
    refine r_iconst (v := 2) dX13_key_33 kI_2 ?_
    refine r_irem dX13_key_34 (by decide) ?_
    refine r_iconst (v := 1) dX13_key_35 kI_1 ?_
    suffices hJ1 : Fw l D ad kA mX13_key 53 [some (.ref (ad 54)), some (.int x1), some (.int x2), some (.int x3), some (.int x4), none, none, none, none, none] [.int (if (x4 - x4 / 2 * 2) = 1 then (x4 + 1) / 2 else -(x4 / 2))] M Q by
      refine r_icmp_ne (tgt := 48) dX13_key_36 (by decide) (fun c2 => ?_) (fun c2 => ?_)
      · skip
        refine r_iload dX13_key_48 rfl ?_
        refine r_iconst (v := 2) dX13_key_50 kI_2 ?_
        refine r_idiv dX13_key_51 (by decide) ?_
        refine r_ineg dX13_key_52 ?_
        exact q_weak (lo' := [some (.ref (ad 54)), some (.int x1), some (.int x2), some (.int x3), some (.int x4), none, none, none, none, none]) ⟨rfl, rfl, rfl, rfl, rfl, trivial⟩ (by have h9 := hJ1; simp only [if_neg c2] at h9; first | exact h9 | (simp only [if_neg c2]; exact h9))
      · skip
        refine r_iload dX13_key_39 rfl ?_
        refine r_iconst (v := 1) dX13_key_41 kI_1 ?_
        refine r_iadd dX13_key_42 ?_
        refine r_iconst (v := 2) dX13_key_43 kI_2 ?_
        refine r_idiv dX13_key_44 (by decide) ?_
        refine r_goto (tgt := 53) dX13_key_45 (by decide) ?_
        exact q_weak (lo' := [some (.ref (ad 54)), some (.int x1), some (.int x2), some (.int x3), some (.int x4), none, none, none, none, none]) ⟨rfl, rfl, rfl, rfl, rfl, trivial⟩ (by have h9 := hJ1; simp only [if_pos c2] at h9; first | exact h9 | (simp only [if_pos c2]; exact h9))
    refine q_istore (lo' := [some (.ref (ad 54)), some (.int x1), some (.int x2), some (.int x3), some (.int x4), some (.int (if (x4 - x4 / 2 * 2) = 1 then (x4 + 1) / 2 else -(x4 / 2))), none, none, none, none]) dX13_key_53 (by decide) rfl ?_
    refine r_iconst (v := 0) dX13_key_55 kI_0 ?_
    refine q_istore (lo' := [some (.ref (ad 54)), some (.int x1), some (.int x2), some (.int x3), some (.int x4), some (.int (if (x4 - x4 / 2 * 2) = 1 then (x4 + 1) / 2 else -(x4 / 2))), some (.int 0), none, none, none]) dX13_key_56 (by decide) rfl ?_
    refine r_iconst (v := 0) dX13_key_58 kI_0 ?_
    refine q_istore (lo' := [some (.ref (ad 54)), some (.int x1), some (.int x2), some (.int x3), some (.int x4), some (.int (if (x4 - x4 / 2 * 2) = 1 then (x4 + 1) / 2 else -(x4 / 2))), some (.int 0), some (.int 0), none, none]) dX13_key_59 (by decide) rfl ?_
    refine r_iconst (v := 0) dX13_key_61 kI_0 ?_
    refine q_istore (lo' := [some (.ref (ad 54)), some (.int x1), some (.int x2), some (.int x3), some (.int x4), some (.int (if (x4 - x4 / 2 * 2) = 1 then (x4 + 1) / 2 else -(x4 / 2))), some (.int 0), some (.int 0), some (.int 0), none]) dX13_key_62 (by decide) rfl ?_
    exact (K2 c1)
theorem t_X13_key_64 {x1 : Int32} {x2 : Int32} {x3 : Int32} {x4 : Int32} {x5 : Int32} {x6 : Int32} {x7 : Int32} {x8 : Int32} 
    (g1 : (¬ ((gI M 54 10) ≤ x8)) → vp_in x8 160)
    (K1 : ((gI M 54 10) ≤ x8) → (((3 * x6) + x7) < x3) → Fw l D ad kA mX13_key 24 [some (.ref (ad 54)), some (.int x1), some (.int x2), some (.int ((3 * x6) + x7)), some (.int (x4 + 1)), none, none, none, none, none] [] (sI (sI (sI M 54 55 x5) 54 56 x6) 54 57 x7) Q)
    (K2 : ((gI M 54 10) ≤ x8) → (¬ (((3 * x6) + x7) < x3)) → Fw l D ad kA mX13_key 24 [some (.ref (ad 54)), some (.int x1), some (.int x2), some (.int x3), some (.int (x4 + 1)), none, none, none, none, none] [] M Q)
    (K3 : (¬ ((gI M 54 10) ≤ x8)) → Cal l D ad kA mX13_isThere [.ref (ad 54), .int ((gI M 57 x8.toNatClampNeg) + x5), .int x1, .int x2] M (fun oc M2 => ∃ r : Int32, oc = .returned (some (.int r)) ∧ Fw l D ad kA mX13_key 93 [some (.ref (ad 54)), some (.int x1), some (.int x2), some (.int x3), some (.int x4), some (.int x5), some (.int x6), some (.int x7), some (.int x8), some (.int ((gI M 57 x8.toNatClampNeg) + x5))] [.int r] M2 Q)) : Fw l D ad kA mX13_key 64 [some (.ref (ad 54)), some (.int x1), some (.int x2), some (.int x3), some (.int x4), some (.int x5), some (.int x6), some (.int x7), some (.int x8), none] [] M Q := by
  refine r_iload dX13_key_64 rfl ?_
  refine r_aload_n dX13_key_66 rfl ?_
  refine r_getI dX13_key_67 fs_54_10 fk_X13_233 ?_
  refine r_icmp_ge (tgt := 142) dX13_key_70 (by decide) (fun c1 => ?_) (fun c1 => ?_)
  · skip
    refine r_iconst (v := 3) dX13_key_142 kI_3 ?_
    refine r_iload dX13_key_143 rfl ?_
    refine r_imul dX13_key_145 ?_
    refine r_iload dX13_key_146 rfl ?_
    refine r_iadd dX13_key_148 ?_
    refine r_iload_n dX13_key_149 rfl ?_
    refine r_icmp_lt (tgt := 156) dX13_key_150 (by decide) (fun c2 => ?_) (fun c2 => ?_)
    · skip
      refine r_iconst (v := 3) dX13_key_156 kI_3 ?_
      refine r_iload dX13_key_157 rfl ?_
      refine r_imul dX13_key_159 ?_
      refine r_iload dX13_key_160 rfl ?_
      refine r_iadd dX13_key_162 ?_
      refine q_istore_n (lo' := [some (.ref (ad 54)), some (.int x1), some (.int x2), some (.int ((3 * x6) + x7)), some (.int x4), some (.int x5), some (.int x6), some (.int x7), some (.int x8), none]) dX13_key_163 (by decide) rfl ?_
      refine r_aload_n dX13_key_164 rfl ?_
      refine r_iload dX13_key_165 rfl ?_
      refine r_putI dX13_key_167 fs_54_55 fk_X13_415 fp_X13_55 ?_
      refine r_aload_n dX13_key_170 rfl ?_
      refine r_iload dX13_key_171 rfl ?_
      refine r_putI dX13_key_173 fs_54_56 fk_X13_418 fp_X13_56 ?_
      refine r_aload_n dX13_key_176 rfl ?_
      refine r_iload dX13_key_177 rfl ?_
      refine r_putI dX13_key_179 fs_54_57 fk_X13_421 fp_X13_57 ?_
      refine q_iinc (v := x4 + 1) (lo' := [some (.ref (ad 54)), some (.int x1), some (.int x2), some (.int ((3 * x6) + x7)), some (.int (x4 + 1)), some (.int x5), some (.int x6), some (.int x7), some (.int x8), none]) dX13_key_182 rfl (congrArg (fun q => x4 + q) kI_1) (by decide) rfl ?_
      refine r_goto (tgt := 24) dX13_key_185 (by decide) ?_
      exact q_weak (lo' := [some (.ref (ad 54)), some (.int x1), some (.int x2), some (.int ((3 * x6) + x7)), some (.int (x4 + 1)), none, none, none, none, none]) ⟨rfl, rfl, rfl, rfl, rfl, trivial⟩ (K1 c1 c2)
    · skip
      refine r_goto (tgt := 182) dX13_key_153 (by decide) ?_
      refine q_iinc (v := x4 + 1) (lo' := [some (.ref (ad 54)), some (.int x1), some (.int x2), some (.int x3), some (.int (x4 + 1)), some (.int x5), some (.int x6), some (.int x7), some (.int x8), none]) dX13_key_182 rfl (congrArg (fun q => x4 + q) kI_1) (by decide) rfl ?_
      refine r_goto (tgt := 24) dX13_key_185 (by decide) ?_
      exact q_weak (lo' := [some (.ref (ad 54)), some (.int x1), some (.int x2), some (.int x3), some (.int (x4 + 1)), none, none, none, none, none]) ⟨rfl, rfl, rfl, rfl, rfl, trivial⟩ (K2 c1 c2)
  · skip
    refine r_aload_n dX13_key_73 rfl ?_
    refine r_getR dX13_key_74 fs_54_13 fk_X13_128 ?_
    refine r_iload dX13_key_77 rfl ?_
    refine r_iald dX13_key_79 as_57 (g1 c1) ?_
    refine r_iload dX13_key_80 rfl ?_
    refine r_iadd dX13_key_82 ?_
    refine q_istore (lo' := [some (.ref (ad 54)), some (.int x1), some (.int x2), some (.int x3), some (.int x4), some (.int x5), some (.int x6), some (.int x7), some (.int x8), some (.int ((gI M 57 x8.toNatClampNeg) + x5))]) dX13_key_83 (by decide) rfl ?_
    refine r_aload_n dX13_key_85 rfl ?_
    refine r_iload dX13_key_86 rfl ?_
    refine r_iload_n dX13_key_88 rfl ?_
    refine r_iload_n dX13_key_89 rfl ?_
    exact r_callV (x := 54) (As := [.int ((gI M 57 x8.toNatClampNeg) + x5), .int x1, .int x2]) (rest := []) dX13_key_90 mk_X13_412 mv_X13_isThere rm_X13_key_X13_isThere rfl rfl (by decide +kernel) (Nat.le_of_ble_eq_true rfl) (cal_i (lo' := [some (.ref (ad 54)), some (.int x1), some (.int x2), some (.int x3), some (.int x4), some (.int x5), some (.int x6), some (.int x7), some (.int x8), some (.int ((gI M 57 x8.toNatClampNeg) + x5))]) ⟨rfl, rfl, rfl, rfl, rfl, rfl, rfl, rfl, rfl, rfl, trivial⟩ (K3 c1))
theorem t_X13_key_93 {x1 : Int32} {x2 : Int32} {x3 : Int32} {x4 : Int32} {x5 : Int32} {x6 : Int32} {x7 : Int32} {x8 : Int32} {x9 : Int32} {s1 : Int32} 
    (K1 : (s1 = 0) → Cal l D ad kA mX13_isThere [.ref (ad 54), .int (x9 + 12), .int x1, .int x2] M (fun oc M2 => ∃ r : Int32, oc = .returned (some (.int r)) ∧ Fw l D ad kA mX13_key 110 [some (.ref (ad 54)), some (.int x1), some (.int x2), some (.int x3), some (.int x4), some (.int x5), some (.int x6), some (.int x7), some (.int x8), some (.int x9)] [.int r] M2 Q))
    (K2 : (¬ (s1 = 0)) → Fw l D ad kA mX13_key 64 [some (.ref (ad 54)), some (.int x1), some (.int x2), some (.int x3), some (.int x4), some (.int x5), some (.int x6), some (.int x7), some (.int (x8 + 1)), none] [] M Q) : Fw l D ad kA mX13_key 93 [some (.ref (ad 54)), some (.int x1), some (.int x2), some (.int x3), some (.int x4), some (.int x5), some (.int x6), some (.int x7), some (.int x8), some (.int x9)] [.int s1] M Q := by
  refine r_if_eq (tgt := 99) dX13_key_93 (by decide) (fun c1 => ?_) (fun c1 => ?_)
  · skip
    refine r_aload_n dX13_key_99 rfl ?_
    refine r_iload dX13_key_100 rfl ?_
    refine r_bipush (v := 12) dX13_key_102 kB_12 ?_
    refine r_iadd dX13_key_104 ?_
    refine r_iload_n dX13_key_105 rfl ?_
    refine r_iload_n dX13_key_106 rfl ?_
    exact r_callV (x := 54) (As := [.int (x9 + 12), .int x1, .int x2]) (rest := []) dX13_key_107 mk_X13_412 mv_X13_isThere rm_X13_key_X13_isThere rfl rfl (by decide +kernel) (Nat.le_of_ble_eq_true rfl) (cal_i (lo' := [some (.ref (ad 54)), some (.int x1), some (.int x2), some (.int x3), some (.int x4), some (.int x5), some (.int x6), some (.int x7), some (.int x8), some (.int x9)]) ⟨rfl, rfl, rfl, rfl, rfl, rfl, rfl, rfl, rfl, rfl, trivial⟩ (K1 c1))
  · skip
    refine r_goto (tgt := 136) dX13_key_96 (by decide) ?_
    refine q_iinc (v := x8 + 1) (lo' := [some (.ref (ad 54)), some (.int x1), some (.int x2), some (.int x3), some (.int x4), some (.int x5), some (.int x6), some (.int x7), some (.int (x8 + 1)), some (.int x9)]) dX13_key_136 rfl (congrArg (fun q => x8 + q) kI_1) (by decide) rfl ?_
    refine r_goto (tgt := 64) dX13_key_139 (by decide) ?_
    exact q_weak (lo' := [some (.ref (ad 54)), some (.int x1), some (.int x2), some (.int x3), some (.int x4), some (.int x5), some (.int x6), some (.int x7), some (.int (x8 + 1)), none]) ⟨rfl, rfl, rfl, rfl, rfl, rfl, rfl, rfl, rfl, trivial⟩ (K2 c1)
theorem t_X13_key_110 {x1 : Int32} {x2 : Int32} {x3 : Int32} {x4 : Int32} {x5 : Int32} {x6 : Int32} {x7 : Int32} {x8 : Int32} {x9 : Int32} {s1 : Int32} 
    (K1 : (¬ (s1 = 0)) → Fw l D ad kA mX13_key 64 [some (.ref (ad 54)), some (.int x1), some (.int x2), some (.int x3), some (.int x4), some (.int x5), some (.int x6), some (.int (x7 + 1)), some (.int (x8 + 1)), none] [] M Q)
    (K2 : (s1 = 0) → Cal l D ad kA mX13_isThere [.ref (ad 54), .int (x9 - 12), .int x1, .int x2] M (fun oc M2 => ∃ r : Int32, oc = .returned (some (.int r)) ∧ Fw l D ad kA mX13_key 124 [some (.ref (ad 54)), some (.int x1), some (.int x2), some (.int x3), some (.int x4), some (.int x5), some (.int x6), some (.int x7), some (.int x8), none] [.int r] M2 Q)) : Fw l D ad kA mX13_key 110 [some (.ref (ad 54)), some (.int x1), some (.int x2), some (.int x3), some (.int x4), some (.int x5), some (.int x6), some (.int x7), some (.int x8), some (.int x9)] [.int s1] M Q := by
  refine r_if_ne (tgt := 127) dX13_key_110 (by decide) (fun c1 => ?_) (fun c1 => ?_)
  · skip
    refine q_iinc (v := x7 + 1) (lo' := [some (.ref (ad 54)), some (.int x1), some (.int x2), some (.int x3), some (.int x4), some (.int x5), some (.int x6), some (.int (x7 + 1)), some (.int x8), some (.int x9)]) dX13_key_127 rfl (congrArg (fun q => x7 + q) kI_1) (by decide) rfl ?_
    refine r_goto (tgt := 136) dX13_key_130 (by decide) ?_
    refine q_iinc (v := x8 + 1) (lo' := [some (.ref (ad 54)), some (.int x1), some (.int x2), some (.int x3), some (.int x4), some (.int x5), some (.int x6), some (.int (x7 + 1)), some (.int (x8 + 1)), some (.int x9)]) dX13_key_136 rfl (congrArg (fun q => x8 + q) kI_1) (by decide) rfl ?_
    refine r_goto (tgt := 64) dX13_key_139 (by decide) ?_
    exact q_weak (lo' := [some (.ref (ad 54)), some (.int x1), some (.int x2), some (.int x3), some (.int x4), some (.int x5), some (.int x6), some (.int (x7 + 1)), some (.int (x8 + 1)), none]) ⟨rfl, rfl, rfl, rfl, rfl, rfl, rfl, rfl, rfl, trivial⟩ (K1 c1)
  · skip
    refine r_aload_n dX13_key_113 rfl ?_
    refine r_iload dX13_key_114 rfl ?_
    refine r_bipush (v := 12) dX13_key_116 kB_12 ?_
    refine r_isub dX13_key_118 ?_
    refine r_iload_n dX13_key_119 rfl ?_
    refine r_iload_n dX13_key_120 rfl ?_
    exact r_callV (x := 54) (As := [.int (x9 - 12), .int x1, .int x2]) (rest := []) dX13_key_121 mk_X13_412 mv_X13_isThere rm_X13_key_X13_isThere rfl rfl (by decide +kernel) (Nat.le_of_ble_eq_true rfl) (cal_i (lo' := [some (.ref (ad 54)), some (.int x1), some (.int x2), some (.int x3), some (.int x4), some (.int x5), some (.int x6), some (.int x7), some (.int x8), none]) ⟨rfl, rfl, rfl, rfl, rfl, rfl, rfl, rfl, rfl, trivial⟩ (K2 c1))
theorem t_X13_key_124 {x1 : Int32} {x2 : Int32} {x3 : Int32} {x4 : Int32} {x5 : Int32} {x6 : Int32} {x7 : Int32} {x8 : Int32} {s1 : Int32} 
    (K1 : Fw l D ad kA mX13_key 64 [some (.ref (ad 54)), some (.int x1), some (.int x2), some (.int x3), some (.int x4), some (.int x5), some (.int (if s1 = 0 then x6 + 1 else x6)), some (.int (if s1 = 0 then x7 else x7 + 1)), some (.int (x8 + 1)), none] [] M Q) : Fw l D ad kA mX13_key 124 [some (.ref (ad 54)), some (.int x1), some (.int x2), some (.int x3), some (.int x4), some (.int x5), some (.int x6), some (.int x7), some (.int x8), none] [.int s1] M Q := by
  suffices hJ1 : Fw l D ad kA mX13_key 136 [some (.ref (ad 54)), some (.int x1), some (.int x2), some (.int x3), some (.int x4), some (.int x5), some (.int (if s1 = 0 then x6 + 1 else x6)), some (.int (if s1 = 0 then x7 else x7 + 1)), some (.int x8), none] [] M Q by
    refine r_if_eq (tgt := 133) dX13_key_124 (by decide) (fun c1 => ?_) (fun c1 => ?_)
    · skip
      refine q_iinc (v := x6 + 1) (lo' := [some (.ref (ad 54)), some (.int x1), some (.int x2), some (.int x3), some (.int x4), some (.int x5), some (.int (x6 + 1)), some (.int x7), some (.int x8), none]) dX13_key_133 rfl (congrArg (fun q => x6 + q) kI_1) (by decide) rfl ?_
      exact q_weak (lo' := [some (.ref (ad 54)), some (.int x1), some (.int x2), some (.int x3), some (.int x4), some (.int x5), some (.int (x6 + 1)), some (.int x7), some (.int x8), none]) ⟨rfl, rfl, rfl, rfl, rfl, rfl, rfl, rfl, rfl, trivial⟩ (by have h9 := hJ1; simp only [if_pos c1] at h9; first | exact h9 | (simp only [if_pos c1]; exact h9))
    · skip
      refine q_iinc (v := x7 + 1) (lo' := [some (.ref (ad 54)), some (.int x1), some (.int x2), some (.int x3), some (.int x4), some (.int x5), some (.int x6), some (.int (x7 + 1)), some (.int x8), none]) dX13_key_127 rfl (congrArg (fun q => x7 + q) kI_1) (by decide) rfl ?_
      refine r_goto (tgt := 136) dX13_key_130 (by decide) ?_
      exact q_weak (lo' := [some (.ref (ad 54)), some (.int x1), some (.int x2), some (.int x3), some (.int x4), some (.int x5), some (.int x6), some (.int (x7 + 1)), some (.int x8), none]) ⟨rfl, rfl, rfl, rfl, rfl, rfl, rfl, rfl, rfl, trivial⟩ (by have h9 := hJ1; simp only [if_neg c1] at h9; first | exact h9 | (simp only [if_neg c1]; exact h9))
  refine q_iinc (v := x8 + 1) (lo' := [some (.ref (ad 54)), some (.int x1), some (.int x2), some (.int x3), some (.int x4), some (.int x5), some (.int (if s1 = 0 then x6 + 1 else x6)), some (.int (if s1 = 0 then x7 else x7 + 1)), some (.int (x8 + 1)), none]) dX13_key_136 rfl (congrArg (fun q => x8 + q) kI_1) (by decide) rfl ?_
  refine r_goto (tgt := 64) dX13_key_139 (by decide) ?_
  exact K1
theorem en_X13_key {x1 : Int32} {x2 : Int32} (K : Fw l D ad kA mX13_key 0 [some (.ref (ad 54)), some (.int x1), some (.int x2), none, none, none, none, none, none, none] [] M Q) : Cal l D ad kA mX13_key [.ref (ad 54), .int x1, .int x2] M Q := Cal.of (by decide) rfl rfl (Nat.le_of_ble_eq_true rfl) K
def v_X13_keyed (M : Mem) (x1 : Int32) : Int32 := if (gI M 54 65) = 0 then (-99) else if x1 = 0 then gI M 54 55 else if x1 = 1 then gI M 54 56 else if x1 = 2 then gI M 54 57 else (-99)
theorem ct_X13_keyed {x1 : Int32}  (h : Q (.returned (some (.int (v_X13_keyed M x1)))) M) : Cal l D ad kA mX13_keyed [.ref (ad 54), .int x1] M Q := by
  refine Cal.of (lo := [some (.ref (ad 54)), some (.int x1)]) (by decide) rfl rfl (Nat.le_of_ble_eq_true rfl) ?_
  refine r_aload_n dX13_keyed_0 rfl ?_
  refine r_getI dX13_keyed_1 fs_54_65 fk_X13_249 ?_
  suffices hJ1 : Fw l D ad kA mX13_keyed 49 [none, none] [.int (if (gI M 54 65) = 0 then (-99) else if x1 = 0 then gI M 54 55 else if x1 = 1 then gI M 54 56 else if x1 = 2 then gI M 54 57 else (-99))] M Q by
    refine r_if_ne (tgt := 12) dX13_keyed_4 (by decide) (fun c1 => ?_) (fun c1 => ?_)
    · skip
      refine r_iload_n dX13_keyed_12 rfl ?_
      refine r_if_ne (tgt := 23) dX13_keyed_13 (by decide) (fun c2 => ?_) (fun c2 => ?_)
      · skip
        refine r_iload_n dX13_keyed_23 rfl ?_
        refine r_iconst (v := 1) dX13_keyed_24 kI_1 ?_
        refine r_icmp_ne (tgt := 35) dX13_keyed_25 (by decide) (fun c3 => ?_) (fun c3 => ?_)
        · skip
          refine r_iload_n dX13_keyed_35 rfl ?_
          refine r_iconst (v := 2) dX13_keyed_36 kI_2 ?_
          refine r_icmp_ne (tgt := 47) dX13_keyed_37 (by decide) (fun c4 => ?_) (fun c4 => ?_)
          · skip
            refine r_bipush (v := (-99)) dX13_keyed_47 kB_m99 ?_
            exact q_weak (lo' := [none, none]) trivial (by have h9 := hJ1; simp only [if_neg c1, if_neg c2, if_neg c3, if_neg c4] at h9; first | exact h9 | (simp only [if_neg c1, if_neg c2, if_neg c3, if_neg c4]; exact h9))
          · skip
            refine r_aload_n dX13_keyed_40 rfl ?_
            refine r_getI dX13_keyed_41 fs_54_57 fk_X13_421 ?_
            refine r_goto (tgt := 49) dX13_keyed_44 (by decide) ?_
            exact q_weak (lo' := [none, none]) trivial (by have h9 := hJ1; simp only [if_neg c1, if_neg c2, if_neg c3, if_pos c4] at h9; first | exact h9 | (simp only [if_neg c1, if_neg c2, if_neg c3, if_pos c4]; exact h9))
        · skip
          refine r_aload_n dX13_keyed_28 rfl ?_
          refine r_getI dX13_keyed_29 fs_54_56 fk_X13_418 ?_
          refine r_goto (tgt := 49) dX13_keyed_32 (by decide) ?_
          exact q_weak (lo' := [none, none]) trivial (by have h9 := hJ1; simp only [if_neg c1, if_neg c2, if_pos c3] at h9; first | exact h9 | (simp only [if_neg c1, if_neg c2, if_pos c3]; exact h9))
      · skip
        refine r_aload_n dX13_keyed_16 rfl ?_
        refine r_getI dX13_keyed_17 fs_54_55 fk_X13_415 ?_
        refine r_goto (tgt := 49) dX13_keyed_20 (by decide) ?_
        exact q_weak (lo' := [none, none]) trivial (by have h9 := hJ1; simp only [if_neg c1, if_pos c2] at h9; first | exact h9 | (simp only [if_neg c1, if_pos c2]; exact h9))
    · skip
      refine r_bipush (v := (-99)) dX13_keyed_7 kB_m99 ?_
      refine r_goto (tgt := 49) dX13_keyed_9 (by decide) ?_
      exact q_weak (lo' := [none, none]) trivial (by have h9 := hJ1; simp only [if_pos c1] at h9; first | exact h9 | (simp only [if_pos c1]; exact h9))
  exact r_iret dX13_keyed_49 rfl h
theorem t_X13_count_0 {x1 : Int32} 
    (K1 : (x1 = 0) → Q (.returned (some (.int (gI M 54 10)))) M)
    (K2 : (¬ (x1 = 0)) → (x1 = 1) → Cal l D ad kA mX13_findUsed [.ref (ad 54)] M (fun oc M2 => oc = .returned none ∧ Fw l D ad kA mX13_count 61 [some (.ref (ad 54)), none, none, none] [] M2 Q))
    (K3 : (¬ (x1 = 0)) → (¬ (x1 = 1)) → (x1 = 2) → Q (.returned (some (.int (gI M 54 23)))) M)
    (K4 : (¬ (x1 = 0)) → (¬ (x1 = 1)) → (¬ (x1 = 2)) → (x1 = 3) → Fw l D ad kA mX13_count 73 [some (.ref (ad 54)), none, some (.int 0), some (.int 0)] [] M Q)
    (K5 : (¬ (x1 = 0)) → (¬ (x1 = 1)) → (¬ (x1 = 2)) → (¬ (x1 = 3)) → (x1 = 4) → Q (.returned (some (.int (if (gI M 54 26) = 0 then 0 else 1)))) M)
    (K6 : (¬ (x1 = 0)) → (¬ (x1 = 1)) → (¬ (x1 = 2)) → (¬ (x1 = 3)) → (¬ (x1 = 4)) → (x1 = 5) → Fw l D ad kA mX13_count 121 [some (.ref (ad 54)), none, some (.int 0), some (.int 0)] [] M Q)
    (K7 : (¬ (x1 = 0)) → (¬ (x1 = 1)) → (¬ (x1 = 2)) → (¬ (x1 = 3)) → (¬ (x1 = 4)) → (¬ (x1 = 5)) → (x1 = 6) → Q (.returned (some (.int (gI M 54 53)))) M)
    (K8 : (¬ (x1 = 0)) → (¬ (x1 = 1)) → (¬ (x1 = 2)) → (¬ (x1 = 3)) → (¬ (x1 = 4)) → (¬ (x1 = 5)) → (¬ (x1 = 6)) → (x1 = 7) → Q (.returned (some (.int (gI M 54 54)))) M)
    (K9 : (¬ (x1 = 0)) → (¬ (x1 = 1)) → (¬ (x1 = 2)) → (¬ (x1 = 3)) → (¬ (x1 = 4)) → (¬ (x1 = 5)) → (¬ (x1 = 6)) → (¬ (x1 = 7)) → (x1 = 8) → Q (.returned (some (.int (gI M 54 2)))) M)
    (K10 : (¬ (x1 = 0)) → (¬ (x1 = 1)) → (¬ (x1 = 2)) → (¬ (x1 = 3)) → (¬ (x1 = 4)) → (¬ (x1 = 5)) → (¬ (x1 = 6)) → (¬ (x1 = 7)) → (¬ (x1 = 8)) → Q (.returned (some (.int (-1)))) M) : Fw l D ad kA mX13_count 0 [some (.ref (ad 54)), some (.int x1), none, none] [] M Q := by
  refine r_iconst (v := 0) dX13_count_0 kI_0 ?_
  refine q_istore_n (lo' := [some (.ref (ad 54)), some (.int x1), some (.int 0), none]) dX13_count_1 (by decide) rfl ?_
  refine r_iload_n dX13_count_2 rfl ?_
  by_cases c1 : x1 = 0
  · refine r_tableIn (off := 49) (tgt := 52) dX13_count_3 (by rw [c1]; decide) (by rw [c1]; decide) (by rw [c1]; decide) (by decide) ?_
    refine r_aload_n dX13_count_52 rfl ?_
    refine r_getI dX13_count_53 fs_54_10 fk_X13_233 ?_
    exact r_iret dX13_count_56 rfl (K1 c1)
  by_cases c2 : x1 = 1
  · refine r_tableIn (off := 54) (tgt := 57) dX13_count_3 (by rw [c2]; decide) (by rw [c2]; decide) (by rw [c2]; decide) (by decide) ?_
    refine r_aload_n dX13_count_57 rfl ?_
    exact r_callV (x := 54) (As := []) (rest := []) dX13_count_58 mk_X13_340 mv_X13_findUsed rm_X13_count_X13_findUsed rfl rfl (by decide +kernel) (Nat.le_of_ble_eq_true rfl) (cal_v (lo' := [some (.ref (ad 54)), none, none, none]) ⟨rfl, trivial⟩ (K2 c1 c2))
  by_cases c3 : x1 = 2
  · refine r_tableIn (off := 63) (tgt := 66) dX13_count_3 (by rw [c3]; decide) (by rw [c3]; decide) (by rw [c3]; decide) (by decide) ?_
    refine r_aload_n dX13_count_66 rfl ?_
    refine r_getI dX13_count_67 fs_54_23 fk_X13_147 ?_
    exact r_iret dX13_count_70 rfl (K3 c1 c2 c3)
  by_cases c4 : x1 = 3
  · refine r_tableIn (off := 68) (tgt := 71) dX13_count_3 (by rw [c4]; decide) (by rw [c4]; decide) (by rw [c4]; decide) (by decide) ?_
    refine r_iconst (v := 0) dX13_count_71 kI_0 ?_
    refine q_istore_n (lo' := [some (.ref (ad 54)), some (.int x1), some (.int 0), some (.int 0)]) dX13_count_72 (by decide) rfl ?_
    exact q_weak (lo' := [some (.ref (ad 54)), none, some (.int 0), some (.int 0)]) ⟨rfl, rfl, rfl, trivial⟩ (K4 c1 c2 c3 c4)
  by_cases c5 : x1 = 4
  · refine r_tableIn (off := 103) (tgt := 106) dX13_count_3 (by rw [c5]; decide) (by rw [c5]; decide) (by rw [c5]; decide) (by decide) ?_
    refine r_aload_n dX13_count_106 rfl ?_
    refine r_getI dX13_count_107 fs_54_26 fk_X13_236 ?_
    suffices hJ1 : Fw l D ad kA mX13_count 118 [none, none, none, none] [.int (if (gI M 54 26) = 0 then 0 else 1)] M Q by
      refine r_if_eq (tgt := 117) dX13_count_110 (by decide) (fun c6 => ?_) (fun c6 => ?_)
      · skip
        refine r_iconst (v := 0) dX13_count_117 kI_0 ?_
        exact q_weak (lo' := [none, none, none, none]) trivial (by have h9 := hJ1; simp only [if_pos c6] at h9; first | exact h9 | (simp only [if_pos c6]; exact h9))
      · skip
        refine r_iconst (v := 1) dX13_count_113 kI_1 ?_
        refine r_goto (tgt := 118) dX13_count_114 (by decide) ?_
        exact q_weak (lo' := [none, none, none, none]) trivial (by have h9 := hJ1; simp only [if_neg c6] at h9; first | exact h9 | (simp only [if_neg c6]; exact h9))
    exact r_iret dX13_count_118 rfl (K5 c1 c2 c3 c4 c5)
  by_cases c7 : x1 = 5
  · refine r_tableIn (off := 116) (tgt := 119) dX13_count_3 (by rw [c7]; decide) (by rw [c7]; decide) (by rw [c7]; decide) (by decide) ?_
    refine r_iconst (v := 0) dX13_count_119 kI_0 ?_
    refine q_istore_n (lo' := [some (.ref (ad 54)), some (.int x1), some (.int 0), some (.int 0)]) dX13_count_120 (by decide) rfl ?_
    exact q_weak (lo' := [some (.ref (ad 54)), none, some (.int 0), some (.int 0)]) ⟨rfl, rfl, rfl, trivial⟩ (K6 c1 c2 c3 c4 c5 c7)
  by_cases c8 : x1 = 6
  · refine r_tableIn (off := 159) (tgt := 162) dX13_count_3 (by rw [c8]; decide) (by rw [c8]; decide) (by rw [c8]; decide) (by decide) ?_
    refine r_aload_n dX13_count_162 rfl ?_
    refine r_getI dX13_count_163 fs_54_53 fk_X13_403 ?_
    exact r_iret dX13_count_166 rfl (K7 c1 c2 c3 c4 c5 c7 c8)
  by_cases c9 : x1 = 7
  · refine r_tableIn (off := 164) (tgt := 167) dX13_count_3 (by rw [c9]; decide) (by rw [c9]; decide) (by rw [c9]; decide) (by decide) ?_
    refine r_aload_n dX13_count_167 rfl ?_
    refine r_getI dX13_count_168 fs_54_54 fk_X13_409 ?_
    exact r_iret dX13_count_171 rfl (K8 c1 c2 c3 c4 c5 c7 c8 c9)
  by_cases c10 : x1 = 8
  · refine r_tableIn (off := 169) (tgt := 172) dX13_count_3 (by rw [c10]; decide) (by rw [c10]; decide) (by rw [c10]; decide) (by decide) ?_
    refine r_aload_n dX13_count_172 rfl ?_
    refine r_getI dX13_count_173 fs_54_2 fk_X13_75 ?_
    exact r_iret dX13_count_176 rfl (K9 c1 c2 c3 c4 c5 c7 c8 c9 c10)
  refine r_tableOut (tgt := 177) dX13_count_3 (sw_out 9 (fun q hq => (by match q, hq with
      | 0, _ => exact c1
      | 1, _ => exact c2
      | 2, _ => exact c3
      | 3, _ => exact c4
      | 4, _ => exact c5
      | 5, _ => exact c7
      | 6, _ => exact c8
      | 7, _ => exact c9
      | 8, _ => exact c10))) (by decide) ?_
  refine r_iconst (v := (-1)) dX13_count_177 kI_m1 ?_
  exact r_iret dX13_count_178 rfl (K10 c1 c2 c3 c4 c5 c7 c8 c9 c10)
theorem t_X13_count_61  
    (K1 : Q (.returned (some (.int (gI M 54 40)))) M) : Fw l D ad kA mX13_count 61 [some (.ref (ad 54)), none, none, none] [] M Q := by
  refine r_aload_n dX13_count_61 rfl ?_
  refine r_getI dX13_count_62 fs_54_40 fk_X13_314 ?_
  exact r_iret dX13_count_65 rfl K1
theorem t_X13_count_73 {x2 : Int32} {x3 : Int32} 
    (g1 : (¬ ((gI M 54 23) ≤ x3)) → vp_in x3 12)
    (K1 : ((gI M 54 23) ≤ x3) → Q (.returned (some (.int x2))) M)
    (K2 : (¬ ((gI M 54 23) ≤ x3)) → Fw l D ad kA mX13_count 73 [some (.ref (ad 54)), none, some (.int (x2 + (if (gI M 67 x3.toNatClampNeg) = 0 then 0 else 1))), some (.int (x3 + 1))] [] M Q) : Fw l D ad kA mX13_count 73 [some (.ref (ad 54)), none, some (.int x2), some (.int x3)] [] M Q := by
  refine r_iload_n dX13_count_73 rfl ?_
  refine r_aload_n dX13_count_74 rfl ?_
  refine r_getI dX13_count_75 fs_54_23 fk_X13_147 ?_
  refine r_icmp_ge (tgt := 104) dX13_count_78 (by decide) (fun c1 => ?_) (fun c1 => ?_)
  · skip
    refine r_iload_n dX13_count_104 rfl ?_
    exact r_iret dX13_count_105 rfl (K1 c1)
  · skip
    refine r_iload_n dX13_count_81 rfl ?_
    refine r_aload_n dX13_count_82 rfl ?_
    refine r_getR dX13_count_83 fs_54_24 fk_X13_150 ?_
    refine r_iload_n dX13_count_86 rfl ?_
    refine r_zald dX13_count_87 as_67 (g1 c1) ?_
    suffices hJ1 : Fw l D ad kA mX13_count 96 [some (.ref (ad 54)), none, none, some (.int x3)] [.int (if (gI M 67 x3.toNatClampNeg) = 0 then 0 else 1), .int x2] M Q by
      refine r_if_eq (tgt := 95) dX13_count_88 (by decide) (fun c2 => ?_) (fun c2 => ?_)
      · skip
        refine r_iconst (v := 0) dX13_count_95 kI_0 ?_
        exact q_weak (lo' := [some (.ref (ad 54)), none, none, some (.int x3)]) ⟨rfl, rfl, trivial⟩ (by have h9 := hJ1; simp only [if_pos c2] at h9; first | exact h9 | (simp only [if_pos c2]; exact h9))
      · skip
        refine r_iconst (v := 1) dX13_count_91 kI_1 ?_
        refine r_goto (tgt := 96) dX13_count_92 (by decide) ?_
        exact q_weak (lo' := [some (.ref (ad 54)), none, none, some (.int x3)]) ⟨rfl, rfl, trivial⟩ (by have h9 := hJ1; simp only [if_neg c2] at h9; first | exact h9 | (simp only [if_neg c2]; exact h9))
    refine r_iadd dX13_count_96 ?_
    refine q_istore_n (lo' := [some (.ref (ad 54)), none, some (.int (x2 + (if (gI M 67 x3.toNatClampNeg) = 0 then 0 else 1))), some (.int x3)]) dX13_count_97 (by decide) rfl ?_
    refine q_iinc (v := x3 + 1) (lo' := [some (.ref (ad 54)), none, some (.int (x2 + (if (gI M 67 x3.toNatClampNeg) = 0 then 0 else 1))), some (.int (x3 + 1))]) dX13_count_98 rfl (congrArg (fun q => x3 + q) kI_1) (by decide) rfl ?_
    refine r_goto (tgt := 73) dX13_count_101 (by decide) ?_
    exact (K2 c1)
theorem t_X13_count_121 {x2 : Int32} {x3 : Int32} 
    (K1 : ((gI M 54 23) ≤ x3) → Q (.returned (some (.int x2))) M)
    (K2 : (¬ ((gI M 54 23) ≤ x3)) → ((gI M 54 26) = 0) → Q (.returned (some (.int x2))) M)
    (K3 : (¬ ((gI M 54 23) ≤ x3)) → (¬ ((gI M 54 26) = 0)) → Cal l D ad kA mX13_bellsOf [.ref (ad 54), .int x3] M (fun oc M2 => ∃ r : Int64, oc = .returned (some (.long r)) ∧ Fw l D ad kA mX13_count 142 [some (.ref (ad 54)), none, none, some (.int x3)] [.long r, .int x2] M2 Q)) : Fw l D ad kA mX13_count 121 [some (.ref (ad 54)), none, some (.int x2), some (.int x3)] [] M Q := by
  refine r_iload_n dX13_count_121 rfl ?_
  refine r_aload_n dX13_count_122 rfl ?_
  refine r_getI dX13_count_123 fs_54_23 fk_X13_147 ?_
  refine r_icmp_ge (tgt := 160) dX13_count_126 (by decide) (fun c1 => ?_) (fun c1 => ?_)
  · skip
    refine r_iload_n dX13_count_160 rfl ?_
    exact r_iret dX13_count_161 rfl (K1 c1)
  · skip
    refine r_aload_n dX13_count_129 rfl ?_
    refine r_getI dX13_count_130 fs_54_26 fk_X13_236 ?_
    refine r_if_eq (tgt := 160) dX13_count_133 (by decide) (fun c2 => ?_) (fun c2 => ?_)
    · skip
      refine r_iload_n dX13_count_160 rfl ?_
      exact r_iret dX13_count_161 rfl (K2 c1 c2)
    · skip
      refine r_iload_n dX13_count_136 rfl ?_
      refine r_aload_n dX13_count_137 rfl ?_
      refine r_iload_n dX13_count_138 rfl ?_
      exact r_callV (x := 54) (As := [.int x3]) (rest := [.int x2]) dX13_count_139 mk_X13_358 mv_X13_bellsOf rm_X13_count_X13_bellsOf rfl rfl (by decide +kernel) (Nat.le_of_ble_eq_true rfl) (cal_l (lo' := [some (.ref (ad 54)), none, none, some (.int x3)]) ⟨rfl, rfl, trivial⟩ (K3 c1 c2))
theorem t_X13_count_142 {x3 : Int32} {t2 : Int64} {s1 : Int32} 
    (K1 : Fw l D ad kA mX13_count 121 [some (.ref (ad 54)), none, some (.int (s1 + (if (lg_cmp t2 0) = 0 then 0 else 1))), some (.int (x3 + 1))] [] M Q) : Fw l D ad kA mX13_count 142 [some (.ref (ad 54)), none, none, some (.int x3)] [.long t2, .int s1] M Q := by
  refine r_lconst (v := 0) dX13_count_142 kL_0 ?_
  refine r_lcmp dX13_count_143 ?_
  suffices hJ1 : Fw l D ad kA mX13_count 152 [some (.ref (ad 54)), none, none, some (.int x3)] [.int (if (lg_cmp t2 0) = 0 then 0 else 1), .int s1] M Q by
    refine r_if_eq (tgt := 151) dX13_count_144 (by decide) (fun c1 => ?_) (fun c1 => ?_)
    · skip
      refine r_iconst (v := 0) dX13_count_151 kI_0 ?_
      exact q_weak (lo' := [some (.ref (ad 54)), none, none, some (.int x3)]) ⟨rfl, rfl, trivial⟩ (by have h9 := hJ1; simp only [if_pos c1] at h9; first | exact h9 | (simp only [if_pos c1]; exact h9))
    · skip
      refine r_iconst (v := 1) dX13_count_147 kI_1 ?_
      refine r_goto (tgt := 152) dX13_count_148 (by decide) ?_
      exact q_weak (lo' := [some (.ref (ad 54)), none, none, some (.int x3)]) ⟨rfl, rfl, trivial⟩ (by have h9 := hJ1; simp only [if_neg c1] at h9; first | exact h9 | (simp only [if_neg c1]; exact h9))
  refine r_iadd dX13_count_152 ?_
  refine q_istore_n (lo' := [some (.ref (ad 54)), none, some (.int (s1 + (if (lg_cmp t2 0) = 0 then 0 else 1))), some (.int x3)]) dX13_count_153 (by decide) rfl ?_
  refine q_iinc (v := x3 + 1) (lo' := [some (.ref (ad 54)), none, some (.int (s1 + (if (lg_cmp t2 0) = 0 then 0 else 1))), some (.int (x3 + 1))]) dX13_count_154 rfl (congrArg (fun q => x3 + q) kI_1) (by decide) rfl ?_
  refine r_goto (tgt := 121) dX13_count_157 (by decide) ?_
  exact K1
theorem en_X13_count {x1 : Int32} (K : Fw l D ad kA mX13_count 0 [some (.ref (ad 54)), some (.int x1), none, none] [] M Q) : Cal l D ad kA mX13_count [.ref (ad 54), .int x1] M Q := Cal.of (by decide) rfl rfl (Nat.le_of_ble_eq_true rfl) K
end W_model6
