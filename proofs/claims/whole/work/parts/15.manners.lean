/-! Manners: decode rows, links, walks from cut to cut (printed by wip/gen) -/
theorem dX6_ruleNamed_0 : decode cX6_ruleNamed 0 = .ok (.aload_n 0, 1) := by decide +kernel
theorem dX6_ruleNamed_1 : decode cX6_ruleNamed 1 = .ok (.ldc 78, 2) := by decide +kernel
theorem dX6_ruleNamed_3 : decode cX6_ruleNamed 3 = .ok (.invokevirtual 79, 3) := by decide +kernel
theorem dX6_ruleNamed_6 : decode cX6_ruleNamed 6 = .ok (.ifCond .eq 5, 3) := by decide +kernel
theorem dX6_ruleNamed_9 : decode cX6_ruleNamed 9 = .ok (.iconst 0, 1) := by decide +kernel
theorem dX6_ruleNamed_10 : decode cX6_ruleNamed 10 = .ok (.ireturn, 1) := by decide +kernel
theorem dX6_ruleNamed_11 : decode cX6_ruleNamed 11 = .ok (.aload_n 0, 1) := by decide +kernel
theorem dX6_ruleNamed_12 : decode cX6_ruleNamed 12 = .ok (.ldc 83, 2) := by decide +kernel
theorem dX6_ruleNamed_14 : decode cX6_ruleNamed 14 = .ok (.invokevirtual 79, 3) := by decide +kernel
theorem dX6_ruleNamed_17 : decode cX6_ruleNamed 17 = .ok (.ifCond .eq 5, 3) := by decide +kernel
theorem dX6_ruleNamed_20 : decode cX6_ruleNamed 20 = .ok (.iconst 1, 1) := by decide +kernel
theorem dX6_ruleNamed_21 : decode cX6_ruleNamed 21 = .ok (.ireturn, 1) := by decide +kernel
theorem dX6_ruleNamed_22 : decode cX6_ruleNamed 22 = .ok (.aload_n 0, 1) := by decide +kernel
theorem dX6_ruleNamed_23 : decode cX6_ruleNamed 23 = .ok (.ldc 85, 2) := by decide +kernel
theorem dX6_ruleNamed_25 : decode cX6_ruleNamed 25 = .ok (.invokevirtual 79, 3) := by decide +kernel
theorem dX6_ruleNamed_28 : decode cX6_ruleNamed 28 = .ok (.ifCond .eq 5, 3) := by decide +kernel
theorem dX6_ruleNamed_31 : decode cX6_ruleNamed 31 = .ok (.iconst 2, 1) := by decide +kernel
theorem dX6_ruleNamed_32 : decode cX6_ruleNamed 32 = .ok (.ireturn, 1) := by decide +kernel
theorem dX6_ruleNamed_33 : decode cX6_ruleNamed 33 = .ok (.aload_n 0, 1) := by decide +kernel
theorem dX6_ruleNamed_34 : decode cX6_ruleNamed 34 = .ok (.ldc 87, 2) := by decide +kernel
theorem dX6_ruleNamed_36 : decode cX6_ruleNamed 36 = .ok (.invokevirtual 79, 3) := by decide +kernel
theorem dX6_ruleNamed_39 : decode cX6_ruleNamed 39 = .ok (.ifCond .eq 7, 3) := by decide +kernel
theorem dX6_ruleNamed_42 : decode cX6_ruleNamed 42 = .ok (.iconst 3, 1) := by decide +kernel
theorem dX6_ruleNamed_43 : decode cX6_ruleNamed 43 = .ok (.goto 4, 3) := by decide +kernel
theorem dX6_ruleNamed_46 : decode cX6_ruleNamed 46 = .ok (.iconst (-1), 1) := by decide +kernel
theorem dX6_ruleNamed_47 : decode cX6_ruleNamed 47 = .ok (.ireturn, 1) := by decide +kernel
theorem dX6_takeWord_0 : decode cX6_takeWord 0 = .ok (.aload_n 0, 1) := by decide +kernel
theorem dX6_takeWord_1 : decode cX6_takeWord 1 = .ok (.aload_n 1, 1) := by decide +kernel
theorem dX6_takeWord_2 : decode cX6_takeWord 2 = .ok (.invokestatic 62, 3) := by decide +kernel
theorem dX6_takeWord_5 : decode cX6_takeWord 5 = .ok (.putfield 66, 3) := by decide +kernel
theorem dX6_takeWord_8 : decode cX6_takeWord 8 = .ok (.aload_n 0, 1) := by decide +kernel
theorem dX6_takeWord_9 : decode cX6_takeWord 9 = .ok (.getfield 66, 3) := by decide +kernel
theorem dX6_takeWord_12 : decode cX6_takeWord 12 = .ok (.iconst (-1), 1) := by decide +kernel
theorem dX6_takeWord_13 : decode cX6_takeWord 13 = .ok (.if_icmp .ne 11, 3) := by decide +kernel
theorem dX6_takeWord_16 : decode cX6_takeWord 16 = .ok (.aload_n 1, 1) := by decide +kernel
theorem dX6_takeWord_17 : decode cX6_takeWord 17 = .ok (.iconst 1, 1) := by decide +kernel
theorem dX6_takeWord_18 : decode cX6_takeWord 18 = .ok (.invokevirtual 58, 3) := by decide +kernel
theorem dX6_takeWord_21 : decode cX6_takeWord 21 = .ok (.goto 29, 3) := by decide +kernel
theorem dX6_takeWord_24 : decode cX6_takeWord 24 = .ok (.aload_n 0, 1) := by decide +kernel
theorem dX6_takeWord_25 : decode cX6_takeWord 25 = .ok (.getfield 15, 3) := by decide +kernel
theorem dX6_takeWord_28 : decode cX6_takeWord 28 = .ok (.aload_n 0, 1) := by decide +kernel
theorem dX6_takeWord_29 : decode cX6_takeWord 29 = .ok (.getfield 66, 3) := by decide +kernel
theorem dX6_takeWord_32 : decode cX6_takeWord 32 = .ok (.iaload, 1) := by decide +kernel
theorem dX6_takeWord_33 : decode cX6_takeWord 33 = .ok (.iconst (-1), 1) := by decide +kernel
theorem dX6_takeWord_34 : decode cX6_takeWord 34 = .ok (.if_icmp .eq 11, 3) := by decide +kernel
theorem dX6_takeWord_37 : decode cX6_takeWord 37 = .ok (.aload_n 1, 1) := by decide +kernel
theorem dX6_takeWord_38 : decode cX6_takeWord 38 = .ok (.iconst 3, 1) := by decide +kernel
theorem dX6_takeWord_39 : decode cX6_takeWord 39 = .ok (.invokevirtual 58, 3) := by decide +kernel
theorem dX6_takeWord_42 : decode cX6_takeWord 42 = .ok (.goto 8, 3) := by decide +kernel
theorem dX6_takeWord_45 : decode cX6_takeWord 45 = .ok (.aload_n 0, 1) := by decide +kernel
theorem dX6_takeWord_46 : decode cX6_takeWord 46 = .ok (.iconst 1, 1) := by decide +kernel
theorem dX6_takeWord_47 : decode cX6_takeWord 47 = .ok (.putfield 32, 3) := by decide +kernel
theorem dX6_takeWord_50 : decode cX6_takeWord 50 = .ok (.return_, 1) := by decide +kernel
theorem dX6_takeNumber_0 : decode cX6_takeNumber 0 = .ok (.aload_n 0, 1) := by decide +kernel
theorem dX6_takeNumber_1 : decode cX6_takeNumber 1 = .ok (.getfield 66, 3) := by decide +kernel
theorem dX6_takeNumber_4 : decode cX6_takeNumber 4 = .ok (.ifCond .lt 33, 3) := by decide +kernel
theorem dX6_takeNumber_7 : decode cX6_takeNumber 7 = .ok (.aload_n 1, 1) := by decide +kernel
theorem dX6_takeNumber_8 : decode cX6_takeNumber 8 = .ok (.getfield 69, 3) := by decide +kernel
theorem dX6_takeNumber_11 : decode cX6_takeNumber 11 = .ok (.getstatic 72, 3) := by decide +kernel
theorem dX6_takeNumber_14 : decode cX6_takeNumber 14 = .ok (.aload_n 0, 1) := by decide +kernel
theorem dX6_takeNumber_15 : decode cX6_takeNumber 15 = .ok (.getfield 66, 3) := by decide +kernel
theorem dX6_takeNumber_18 : decode cX6_takeNumber 18 = .ok (.iaload, 1) := by decide +kernel
theorem dX6_takeNumber_19 : decode cX6_takeNumber 19 = .ok (.if_icmp .lt 18, 3) := by decide +kernel
theorem dX6_takeNumber_22 : decode cX6_takeNumber 22 = .ok (.aload_n 1, 1) := by decide +kernel
theorem dX6_takeNumber_23 : decode cX6_takeNumber 23 = .ok (.getfield 69, 3) := by decide +kernel
theorem dX6_takeNumber_26 : decode cX6_takeNumber 26 = .ok (.getstatic 75, 3) := by decide +kernel
theorem dX6_takeNumber_29 : decode cX6_takeNumber 29 = .ok (.aload_n 0, 1) := by decide +kernel
theorem dX6_takeNumber_30 : decode cX6_takeNumber 30 = .ok (.getfield 66, 3) := by decide +kernel
theorem dX6_takeNumber_33 : decode cX6_takeNumber 33 = .ok (.iaload, 1) := by decide +kernel
theorem dX6_takeNumber_34 : decode cX6_takeNumber 34 = .ok (.if_icmp .le 11, 3) := by decide +kernel
theorem dX6_takeNumber_37 : decode cX6_takeNumber 37 = .ok (.aload_n 1, 1) := by decide +kernel
theorem dX6_takeNumber_38 : decode cX6_takeNumber 38 = .ok (.iconst 2, 1) := by decide +kernel
theorem dX6_takeNumber_39 : decode cX6_takeNumber 39 = .ok (.invokevirtual 58, 3) := by decide +kernel
theorem dX6_takeNumber_42 : decode cX6_takeNumber 42 = .ok (.goto 21, 3) := by decide +kernel
theorem dX6_takeNumber_45 : decode cX6_takeNumber 45 = .ok (.aload_n 0, 1) := by decide +kernel
theorem dX6_takeNumber_46 : decode cX6_takeNumber 46 = .ok (.getfield 15, 3) := by decide +kernel
theorem dX6_takeNumber_49 : decode cX6_takeNumber 49 = .ok (.aload_n 0, 1) := by decide +kernel
theorem dX6_takeNumber_50 : decode cX6_takeNumber 50 = .ok (.getfield 66, 3) := by decide +kernel
theorem dX6_takeNumber_53 : decode cX6_takeNumber 53 = .ok (.aload_n 1, 1) := by decide +kernel
theorem dX6_takeNumber_54 : decode cX6_takeNumber 54 = .ok (.getfield 69, 3) := by decide +kernel
theorem dX6_takeNumber_57 : decode cX6_takeNumber 57 = .ok (.iastore, 1) := by decide +kernel
theorem dX6_takeNumber_58 : decode cX6_takeNumber 58 = .ok (.aload_n 0, 1) := by decide +kernel
theorem dX6_takeNumber_59 : decode cX6_takeNumber 59 = .ok (.iconst 2, 1) := by decide +kernel
theorem dX6_takeNumber_60 : decode cX6_takeNumber 60 = .ok (.putfield 32, 3) := by decide +kernel
theorem dX6_takeNumber_63 : decode cX6_takeNumber 63 = .ok (.return_, 1) := by decide +kernel
theorem dX6_take_0 : decode cX6_take 0 = .ok (.aload_n 0, 1) := by decide +kernel
theorem dX6_take_1 : decode cX6_take 1 = .ok (.getfield 32, 3) := by decide +kernel
theorem dX6_take_4 : decode cX6_take 4 = .ok (.ifCond .ne 11, 3) := by decide +kernel
theorem dX6_take_7 : decode cX6_take 7 = .ok (.aload_n 0, 1) := by decide +kernel
theorem dX6_take_8 : decode cX6_take 8 = .ok (.aload_n 1, 1) := by decide +kernel
theorem dX6_take_9 : decode cX6_take 9 = .ok (.invokevirtual 52, 3) := by decide +kernel
theorem dX6_take_12 : decode cX6_take 12 = .ok (.goto 66, 3) := by decide +kernel
theorem dX6_take_15 : decode cX6_take 15 = .ok (.aload_n 0, 1) := by decide +kernel
theorem dX6_take_16 : decode cX6_take 16 = .ok (.getfield 32, 3) := by decide +kernel
theorem dX6_take_19 : decode cX6_take 19 = .ok (.iconst 1, 1) := by decide +kernel
theorem dX6_take_20 : decode cX6_take 20 = .ok (.if_icmp .ne 19, 3) := by decide +kernel
theorem dX6_take_23 : decode cX6_take 23 = .ok (.aload_n 1, 1) := by decide +kernel
theorem dX6_take_24 : decode cX6_take 24 = .ok (.getfield 45, 3) := by decide +kernel
theorem dX6_take_27 : decode cX6_take 27 = .ok (.iconst 2, 1) := by decide +kernel
theorem dX6_take_28 : decode cX6_take 28 = .ok (.if_icmp .ne 11, 3) := by decide +kernel
theorem dX6_take_31 : decode cX6_take 31 = .ok (.aload_n 0, 1) := by decide +kernel
theorem dX6_take_32 : decode cX6_take 32 = .ok (.aload_n 1, 1) := by decide +kernel
theorem dX6_take_33 : decode cX6_take 33 = .ok (.invokevirtual 55, 3) := by decide +kernel
theorem dX6_take_36 : decode cX6_take 36 = .ok (.goto 42, 3) := by decide +kernel
theorem dX6_take_39 : decode cX6_take 39 = .ok (.aload_n 0, 1) := by decide +kernel
theorem dX6_take_40 : decode cX6_take 40 = .ok (.getfield 32, 3) := by decide +kernel
theorem dX6_take_43 : decode cX6_take 43 = .ok (.iconst 2, 1) := by decide +kernel
theorem dX6_take_44 : decode cX6_take 44 = .ok (.if_icmp .ne 29, 3) := by decide +kernel
theorem dX6_take_47 : decode cX6_take 47 = .ok (.aload_n 1, 1) := by decide +kernel
theorem dX6_take_48 : decode cX6_take 48 = .ok (.getfield 45, 3) := by decide +kernel
theorem dX6_take_51 : decode cX6_take 51 = .ok (.iconst 3, 1) := by decide +kernel
theorem dX6_take_52 : decode cX6_take 52 = .ok (.if_icmp .ne 21, 3) := by decide +kernel
theorem dX6_take_55 : decode cX6_take 55 = .ok (.aload_n 0, 1) := by decide +kernel
theorem dX6_take_56 : decode cX6_take 56 = .ok (.dup, 1) := by decide +kernel
theorem dX6_take_57 : decode cX6_take 57 = .ok (.getfield 36, 3) := by decide +kernel
theorem dX6_take_60 : decode cX6_take 60 = .ok (.iconst 1, 1) := by decide +kernel
theorem dX6_take_61 : decode cX6_take 61 = .ok (.iadd, 1) := by decide +kernel
theorem dX6_take_62 : decode cX6_take 62 = .ok (.putfield 36, 3) := by decide +kernel
theorem dX6_take_65 : decode cX6_take 65 = .ok (.aload_n 0, 1) := by decide +kernel
theorem dX6_take_66 : decode cX6_take 66 = .ok (.iconst 0, 1) := by decide +kernel
theorem dX6_take_67 : decode cX6_take 67 = .ok (.putfield 32, 3) := by decide +kernel
theorem dX6_take_70 : decode cX6_take 70 = .ok (.goto 8, 3) := by decide +kernel
theorem dX6_take_73 : decode cX6_take 73 = .ok (.aload_n 1, 1) := by decide +kernel
theorem dX6_take_74 : decode cX6_take 74 = .ok (.iconst 1, 1) := by decide +kernel
theorem dX6_take_75 : decode cX6_take 75 = .ok (.invokevirtual 58, 3) := by decide +kernel
theorem dX6_take_78 : decode cX6_take 78 = .ok (.return_, 1) := by decide +kernel
theorem dX6_readAll_0 : decode cX6_readAll 0 = .ok (.aload_n 1, 1) := by decide +kernel
theorem dX6_readAll_1 : decode cX6_readAll 1 = .ok (.invokevirtual 27, 3) := by decide +kernel
theorem dX6_readAll_4 : decode cX6_readAll 4 = .ok (.iconst 0, 1) := by decide +kernel
theorem dX6_readAll_5 : decode cX6_readAll 5 = .ok (.istore_n 2, 1) := by decide +kernel
theorem dX6_readAll_6 : decode cX6_readAll 6 = .ok (.iload_n 2, 1) := by decide +kernel
theorem dX6_readAll_7 : decode cX6_readAll 7 = .ok (.iconst 4, 1) := by decide +kernel
theorem dX6_readAll_8 : decode cX6_readAll 8 = .ok (.if_icmp .ge 16, 3) := by decide +kernel
theorem dX6_readAll_11 : decode cX6_readAll 11 = .ok (.aload_n 0, 1) := by decide +kernel
theorem dX6_readAll_12 : decode cX6_readAll 12 = .ok (.getfield 15, 3) := by decide +kernel
theorem dX6_readAll_15 : decode cX6_readAll 15 = .ok (.iload_n 2, 1) := by decide +kernel
theorem dX6_readAll_16 : decode cX6_readAll 16 = .ok (.iconst (-1), 1) := by decide +kernel
theorem dX6_readAll_17 : decode cX6_readAll 17 = .ok (.iastore, 1) := by decide +kernel
theorem dX6_readAll_18 : decode cX6_readAll 18 = .ok (.iinc 2 1, 3) := by decide +kernel
theorem dX6_readAll_21 : decode cX6_readAll 21 = .ok (.goto (-15), 3) := by decide +kernel
theorem dX6_readAll_24 : decode cX6_readAll 24 = .ok (.aload_n 0, 1) := by decide +kernel
theorem dX6_readAll_25 : decode cX6_readAll 25 = .ok (.iconst 0, 1) := by decide +kernel
theorem dX6_readAll_26 : decode cX6_readAll 26 = .ok (.putfield 32, 3) := by decide +kernel
theorem dX6_readAll_29 : decode cX6_readAll 29 = .ok (.aload_n 0, 1) := by decide +kernel
theorem dX6_readAll_30 : decode cX6_readAll 30 = .ok (.iconst 0, 1) := by decide +kernel
theorem dX6_readAll_31 : decode cX6_readAll 31 = .ok (.putfield 36, 3) := by decide +kernel
theorem dX6_readAll_34 : decode cX6_readAll 34 = .ok (.iconst 0, 1) := by decide +kernel
theorem dX6_readAll_35 : decode cX6_readAll 35 = .ok (.istore_n 2, 1) := by decide +kernel
theorem dX6_readAll_36 : decode cX6_readAll 36 = .ok (.iconst 0, 1) := by decide +kernel
theorem dX6_readAll_37 : decode cX6_readAll 37 = .ok (.istore_n 3, 1) := by decide +kernel
theorem dX6_readAll_38 : decode cX6_readAll 38 = .ok (.iload_n 3, 1) := by decide +kernel
theorem dX6_readAll_39 : decode cX6_readAll 39 = .ok (.sipush 1200, 3) := by decide +kernel
theorem dX6_readAll_42 : decode cX6_readAll 42 = .ok (.if_icmp .gt 53, 3) := by decide +kernel
theorem dX6_readAll_45 : decode cX6_readAll 45 = .ok (.iload_n 2, 1) := by decide +kernel
theorem dX6_readAll_46 : decode cX6_readAll 46 = .ok (.ifCond .ne 49, 3) := by decide +kernel
theorem dX6_readAll_49 : decode cX6_readAll 49 = .ok (.aload_n 1, 1) := by decide +kernel
theorem dX6_readAll_50 : decode cX6_readAll 50 = .ok (.getfield 39, 3) := by decide +kernel
theorem dX6_readAll_53 : decode cX6_readAll 53 = .ok (.ifCond .ne 42, 3) := by decide +kernel
theorem dX6_readAll_56 : decode cX6_readAll 56 = .ok (.aload_n 1, 1) := by decide +kernel
theorem dX6_readAll_57 : decode cX6_readAll 57 = .ok (.invokevirtual 42, 3) := by decide +kernel
theorem dX6_readAll_60 : decode cX6_readAll 60 = .ok (.aload_n 1, 1) := by decide +kernel
theorem dX6_readAll_61 : decode cX6_readAll 61 = .ok (.getfield 45, 3) := by decide +kernel
theorem dX6_readAll_64 : decode cX6_readAll 64 = .ok (.ifCond .ne 14, 3) := by decide +kernel
theorem dX6_readAll_67 : decode cX6_readAll 67 = .ok (.aload_n 0, 1) := by decide +kernel
theorem dX6_readAll_68 : decode cX6_readAll 68 = .ok (.getfield 32, 3) := by decide +kernel
theorem dX6_readAll_71 : decode cX6_readAll 71 = .ok (.ifCond .ne 7, 3) := by decide +kernel
theorem dX6_readAll_74 : decode cX6_readAll 74 = .ok (.iconst 1, 1) := by decide +kernel
theorem dX6_readAll_75 : decode cX6_readAll 75 = .ok (.goto 4, 3) := by decide +kernel
theorem dX6_readAll_78 : decode cX6_readAll 78 = .ok (.iconst 0, 1) := by decide +kernel
theorem dX6_readAll_79 : decode cX6_readAll 79 = .ok (.istore_n 2, 1) := by decide +kernel
theorem dX6_readAll_80 : decode cX6_readAll 80 = .ok (.iload_n 2, 1) := by decide +kernel
theorem dX6_readAll_81 : decode cX6_readAll 81 = .ok (.ifCond .ne 8, 3) := by decide +kernel
theorem dX6_readAll_84 : decode cX6_readAll 84 = .ok (.aload_n 0, 1) := by decide +kernel
theorem dX6_readAll_85 : decode cX6_readAll 85 = .ok (.aload_n 1, 1) := by decide +kernel
theorem dX6_readAll_86 : decode cX6_readAll 86 = .ok (.invokevirtual 48, 3) := by decide +kernel
theorem dX6_readAll_89 : decode cX6_readAll 89 = .ok (.iinc 3 1, 3) := by decide +kernel
theorem dX6_readAll_92 : decode cX6_readAll 92 = .ok (.goto (-54), 3) := by decide +kernel
theorem dX6_readAll_95 : decode cX6_readAll 95 = .ok (.iload_n 2, 1) := by decide +kernel
theorem dX6_readAll_96 : decode cX6_readAll 96 = .ok (.ifCond .ne 5, 3) := by decide +kernel
theorem dX6_readAll_99 : decode cX6_readAll 99 = .ok (.iconst (-1), 1) := by decide +kernel
theorem dX6_readAll_100 : decode cX6_readAll 100 = .ok (.ireturn, 1) := by decide +kernel
theorem dX6_readAll_101 : decode cX6_readAll 101 = .ok (.iconst 0, 1) := by decide +kernel
theorem dX6_readAll_102 : decode cX6_readAll 102 = .ok (.istore_n 3, 1) := by decide +kernel
theorem dX6_readAll_103 : decode cX6_readAll 103 = .ok (.iload_n 3, 1) := by decide +kernel
theorem dX6_readAll_104 : decode cX6_readAll 104 = .ok (.iconst 4, 1) := by decide +kernel
theorem dX6_readAll_105 : decode cX6_readAll 105 = .ok (.if_icmp .ge 39, 3) := by decide +kernel
theorem dX6_readAll_108 : decode cX6_readAll 108 = .ok (.aload_n 0, 1) := by decide +kernel
theorem dX6_readAll_109 : decode cX6_readAll 109 = .ok (.getfield 11, 3) := by decide +kernel
theorem dX6_readAll_112 : decode cX6_readAll 112 = .ok (.iload_n 3, 1) := by decide +kernel
theorem dX6_readAll_113 : decode cX6_readAll 113 = .ok (.aload_n 0, 1) := by decide +kernel
theorem dX6_readAll_114 : decode cX6_readAll 114 = .ok (.getfield 15, 3) := by decide +kernel
theorem dX6_readAll_117 : decode cX6_readAll 117 = .ok (.iload_n 3, 1) := by decide +kernel
theorem dX6_readAll_118 : decode cX6_readAll 118 = .ok (.iaload, 1) := by decide +kernel
theorem dX6_readAll_119 : decode cX6_readAll 119 = .ok (.iconst (-1), 1) := by decide +kernel
theorem dX6_readAll_120 : decode cX6_readAll 120 = .ok (.if_icmp .ne 11, 3) := by decide +kernel
theorem dX6_readAll_123 : decode cX6_readAll 123 = .ok (.getstatic 18, 3) := by decide +kernel
theorem dX6_readAll_126 : decode cX6_readAll 126 = .ok (.iload_n 3, 1) := by decide +kernel
theorem dX6_readAll_127 : decode cX6_readAll 127 = .ok (.iaload, 1) := by decide +kernel
theorem dX6_readAll_128 : decode cX6_readAll 128 = .ok (.goto 9, 3) := by decide +kernel
theorem dX6_readAll_131 : decode cX6_readAll 131 = .ok (.aload_n 0, 1) := by decide +kernel
theorem dX6_readAll_132 : decode cX6_readAll 132 = .ok (.getfield 15, 3) := by decide +kernel
theorem dX6_readAll_135 : decode cX6_readAll 135 = .ok (.iload_n 3, 1) := by decide +kernel
theorem dX6_readAll_136 : decode cX6_readAll 136 = .ok (.iaload, 1) := by decide +kernel
theorem dX6_readAll_137 : decode cX6_readAll 137 = .ok (.iastore, 1) := by decide +kernel
theorem dX6_readAll_138 : decode cX6_readAll 138 = .ok (.iinc 3 1, 3) := by decide +kernel
theorem dX6_readAll_141 : decode cX6_readAll 141 = .ok (.goto (-38), 3) := by decide +kernel
theorem dX6_readAll_144 : decode cX6_readAll 144 = .ok (.aload_n 0, 1) := by decide +kernel
theorem dX6_readAll_145 : decode cX6_readAll 145 = .ok (.getfield 36, 3) := by decide +kernel
theorem dX6_readAll_148 : decode cX6_readAll 148 = .ok (.ireturn, 1) := by decide +kernel
abbrev mX6_ruleNamed : MI := (yX6_ruleNamed, cX6_ruleNamed, 1, some .int, 6, 129, [])
abbrev mX6_takeWord : MI := (yX6_takeWord, cX6_takeWord, 2, none, 7, 149, [])
abbrev mX6_takeNumber : MI := (yX6_takeNumber, cX6_takeNumber, 2, none, 2, 42, [])
abbrev mX6_take : MI := (yX6_take, cX6_take, 2, none, 8, 170, [])
abbrev mX6_readAll : MI := (yX6_readAll, cX6_readAll, 4, some .int, 9, 191, [])
theorem fk_X6_11 : Fk RX6 11 6 0 := ⟨RX6, TX6, 5, tyX6, rfl, inX6, by decide, lw_in (i := 156) (by decide +kernel) (by decide +kernel), tyX6_ok, nmX6⟩
theorem fk_X6_15 : Fk RX6 15 6 1 := ⟨RX6, TX6, 5, tyX6, rfl, inX6, by decide, lw_in (i := 160) (by decide +kernel) (by decide +kernel), tyX6_ok, nmX6⟩
theorem fl_X6_18 : Cond.fieldLink RX6 18 "BellTable$Manners" "AT_FIRST" "[I" ∈ lw_w := lw_in (i := 151) (by decide +kernel) (by decide +kernel)
theorem fk_X6_32 : Fk RX6 32 6 2 := ⟨RX6, TX6, 5, tyX6, rfl, inX6, by decide, lw_in (i := 161) (by decide +kernel) (by decide +kernel), tyX6_ok, nmX6⟩
theorem fk_X6_36 : Fk RX6 36 6 4 := ⟨RX6, TX6, 5, tyX6, rfl, inX6, by decide, lw_in (i := 163) (by decide +kernel) (by decide +kernel), tyX6_ok, nmX6⟩
theorem fk_X6_39 : Fk RX6 39 10 3 := ⟨RX10, TX10, 8, tyX10, rfl, inX10, by decide, lw_in (i := 46) (by decide +kernel) (by decide +kernel), tyX10_ok, nmX10⟩
theorem fk_X6_45 : Fk RX6 45 10 1 := ⟨RX10, TX10, 8, tyX10, rfl, inX10, by decide, lw_in (i := 40) (by decide +kernel) (by decide +kernel), tyX10_ok, nmX10⟩
theorem fk_X6_66 : Fk RX6 66 6 3 := ⟨RX6, TX6, 5, tyX6, rfl, inX6, by decide, lw_in (i := 162) (by decide +kernel) (by decide +kernel), tyX6_ok, nmX6⟩
theorem fk_X6_69 : Fk RX6 69 10 2 := ⟨RX10, TX10, 8, tyX10, rfl, inX10, by decide, lw_in (i := 42) (by decide +kernel) (by decide +kernel), tyX10_ok, nmX10⟩
theorem fl_X6_72 : Cond.fieldLink RX6 72 "BellTable$Manners" "LEAST" "[I" ∈ lw_w := lw_in (i := 677) (by decide +kernel) (by decide +kernel)
theorem fl_X6_75 : Cond.fieldLink RX6 75 "BellTable$Manners" "GREATEST" "[I" ∈ lw_w := lw_in (i := 679) (by decide +kernel) (by decide +kernel)
theorem fp_X6_2 : Fp 6 2 .int := ⟨RX6, TX6, 5, rfl, rfl, by decide +kernel⟩
theorem fp_X6_3 : Fp 6 3 .int := ⟨RX6, TX6, 5, rfl, rfl, by decide +kernel⟩
theorem fp_X6_4 : Fp 6 4 .int := ⟨RX6, TX6, 5, rfl, rfl, by decide +kernel⟩
theorem ms_X6_ruleNamed : Cond.static mX6_ruleNamed.y ∈ lw_w := lw_in (i := 665) (by decide +kernel) (by decide +kernel)
theorem mv_X6_take : MkV mX6_take := ⟨lw_in (i := 658) (by decide +kernel) (by decide +kernel), lw_se (i := 9) (by decide +kernel) (by decide +kernel)⟩
theorem mv_X6_takeNumber : MkV mX6_takeNumber := ⟨lw_in (i := 675) (by decide +kernel) (by decide +kernel), lw_se (i := 11) (by decide +kernel) (by decide +kernel)⟩
theorem mv_X6_takeWord : MkV mX6_takeWord := ⟨lw_in (i := 662) (by decide +kernel) (by decide +kernel), lw_se (i := 10) (by decide +kernel) (by decide +kernel)⟩
theorem mk_X6_27 : Mk RX6 27 mX10_start 0 := ⟨lw_in (i := 654) (by decide +kernel) (by decide +kernel), lw_in (i := 2) (by decide +kernel) (by decide +kernel), lw_in (i := 487) (by decide +kernel) (by decide +kernel), by decide +kernel⟩
theorem mk_X6_42 : Mk RX6 42 mX10_readToken 0 := ⟨lw_in (i := 655) (by decide +kernel) (by decide +kernel), lw_in (i := 2) (by decide +kernel) (by decide +kernel), lw_in (i := 491) (by decide +kernel) (by decide +kernel), by decide +kernel⟩
theorem mk_X6_48 : Mk RX6 48 mX6_take 1 := ⟨lw_in (i := 656) (by decide +kernel) (by decide +kernel), lw_in (i := 5) (by decide +kernel) (by decide +kernel), lw_in (i := 659) (by decide +kernel) (by decide +kernel), by decide +kernel⟩
theorem mk_X6_52 : Mk RX6 52 mX6_takeWord 1 := ⟨lw_in (i := 660) (by decide +kernel) (by decide +kernel), lw_in (i := 5) (by decide +kernel) (by decide +kernel), lw_in (i := 663) (by decide +kernel) (by decide +kernel), by decide +kernel⟩
theorem mk_X6_55 : Mk RX6 55 mX6_takeNumber 1 := ⟨lw_in (i := 673) (by decide +kernel) (by decide +kernel), lw_in (i := 5) (by decide +kernel) (by decide +kernel), lw_in (i := 676) (by decide +kernel) (by decide +kernel), by decide +kernel⟩
theorem mk_X6_58 : Mk RX6 58 mX10_refuse 1 := ⟨lw_in (i := 672) (by decide +kernel) (by decide +kernel), lw_in (i := 2) (by decide +kernel) (by decide +kernel), lw_in (i := 577) (by decide +kernel) (by decide +kernel), by decide +kernel⟩
theorem mk_X6_62 : Mk RX6 62 mX6_ruleNamed 1 := ⟨lw_in (i := 664) (by decide +kernel) (by decide +kernel), lw_in (i := 5) (by decide +kernel) (by decide +kernel), lw_in (i := 666) (by decide +kernel) (by decide +kernel), by decide +kernel⟩
theorem mk_X6_79 : Mk RX6 79 mX10_isWord 1 := ⟨lw_in (i := 668) (by decide +kernel) (by decide +kernel), lw_in (i := 2) (by decide +kernel) (by decide +kernel), lw_in (i := 521) (by decide +kernel) (by decide +kernel), by decide +kernel⟩
theorem rm_X6_readAll_X10_readToken : Rm mX6_readAll mX10_readToken := ⟨by decide, by decide⟩
theorem rm_X6_readAll_X10_start : Rm mX6_readAll mX10_start := ⟨by decide, by decide⟩
theorem rm_X6_readAll_X6_take : Rm mX6_readAll mX6_take := ⟨by decide, by decide⟩
theorem rm_X6_ruleNamed_X10_isWord : Rm mX6_ruleNamed mX10_isWord := ⟨by decide, by decide⟩
theorem rm_X6_take_X10_refuse : Rm mX6_take mX10_refuse := ⟨by decide, by decide⟩
theorem rm_X6_take_X6_takeNumber : Rm mX6_take mX6_takeNumber := ⟨by decide, by decide⟩
theorem rm_X6_take_X6_takeWord : Rm mX6_take mX6_takeWord := ⟨by decide, by decide⟩
theorem rm_X6_takeNumber_X10_refuse : Rm mX6_takeNumber mX10_refuse := ⟨by decide, by decide⟩
theorem rm_X6_takeWord_X10_refuse : Rm mX6_takeWord mX10_refuse := ⟨by decide, by decide⟩
theorem rm_X6_takeWord_X6_ruleNamed : Rm mX6_takeWord mX6_ruleNamed := ⟨by decide, by decide⟩
section W_manners
variable {l : Launch} {D : va_G} {ad : Nat → Nat} {kA : Nat → ClassId} {M : Mem} {Q : Outcome → Mem → Prop}
theorem t_X6_ruleNamed_0  
    (K1 : Cal l D ad kA mX10_isWord [.ref (ad 1), .ref (ad (210 + 4))] M (fun oc M2 => ∃ r : Int32, oc = .returned (some (.int r)) ∧ Fw l D ad kA mX6_ruleNamed 6 [some (.ref (ad 1))] [.int r] M2 Q)) : Fw l D ad kA mX6_ruleNamed 0 [some (.ref (ad 1))] [] M Q := by
  refine r_aload_n dX6_ruleNamed_0 rfl ?_
  refine r_ldcS (i := 4) dX6_ruleNamed_1 (by decide) rfl ?_
  exact r_callV (x := 1) (As := [.ref (ad (210 + 4))]) (rest := []) dX6_ruleNamed_3 mk_X6_79 mv_X10_isWord rm_X6_ruleNamed_X10_isWord rfl rfl (by decide +kernel) (Nat.le_of_ble_eq_true rfl) (cal_i (lo' := [some (.ref (ad 1))]) ⟨rfl, trivial⟩ K1)
theorem t_X6_ruleNamed_6 {s1 : Int32} 
    (K1 : (s1 = 0) → Cal l D ad kA mX10_isWord [.ref (ad 1), .ref (ad (210 + 5))] M (fun oc M2 => ∃ r : Int32, oc = .returned (some (.int r)) ∧ Fw l D ad kA mX6_ruleNamed 17 [some (.ref (ad 1))] [.int r] M2 Q))
    (K2 : (¬ (s1 = 0)) → Q (.returned (some (.int 0))) M) : Fw l D ad kA mX6_ruleNamed 6 [some (.ref (ad 1))] [.int s1] M Q := by
  refine r_if_eq (tgt := 11) dX6_ruleNamed_6 (by decide) (fun c1 => ?_) (fun c1 => ?_)
  · skip
    refine r_aload_n dX6_ruleNamed_11 rfl ?_
    refine r_ldcS (i := 5) dX6_ruleNamed_12 (by decide) rfl ?_
    exact r_callV (x := 1) (As := [.ref (ad (210 + 5))]) (rest := []) dX6_ruleNamed_14 mk_X6_79 mv_X10_isWord rm_X6_ruleNamed_X10_isWord rfl rfl (by decide +kernel) (Nat.le_of_ble_eq_true rfl) (cal_i (lo' := [some (.ref (ad 1))]) ⟨rfl, trivial⟩ (K1 c1))
  · skip
    refine r_iconst (v := 0) dX6_ruleNamed_9 kI_0 ?_
    exact r_iret dX6_ruleNamed_10 rfl (K2 c1)
theorem t_X6_ruleNamed_17 {s1 : Int32} 
    (K1 : (s1 = 0) → Cal l D ad kA mX10_isWord [.ref (ad 1), .ref (ad (210 + 6))] M (fun oc M2 => ∃ r : Int32, oc = .returned (some (.int r)) ∧ Fw l D ad kA mX6_ruleNamed 28 [some (.ref (ad 1))] [.int r] M2 Q))
    (K2 : (¬ (s1 = 0)) → Q (.returned (some (.int 1))) M) : Fw l D ad kA mX6_ruleNamed 17 [some (.ref (ad 1))] [.int s1] M Q := by
  refine r_if_eq (tgt := 22) dX6_ruleNamed_17 (by decide) (fun c1 => ?_) (fun c1 => ?_)
  · skip
    refine r_aload_n dX6_ruleNamed_22 rfl ?_
    refine r_ldcS (i := 6) dX6_ruleNamed_23 (by decide) rfl ?_
    exact r_callV (x := 1) (As := [.ref (ad (210 + 6))]) (rest := []) dX6_ruleNamed_25 mk_X6_79 mv_X10_isWord rm_X6_ruleNamed_X10_isWord rfl rfl (by decide +kernel) (Nat.le_of_ble_eq_true rfl) (cal_i (lo' := [some (.ref (ad 1))]) ⟨rfl, trivial⟩ (K1 c1))
  · skip
    refine r_iconst (v := 1) dX6_ruleNamed_20 kI_1 ?_
    exact r_iret dX6_ruleNamed_21 rfl (K2 c1)
theorem t_X6_ruleNamed_28 {s1 : Int32} 
    (K1 : (s1 = 0) → Cal l D ad kA mX10_isWord [.ref (ad 1), .ref (ad (210 + 7))] M (fun oc M2 => ∃ r : Int32, oc = .returned (some (.int r)) ∧ Fw l D ad kA mX6_ruleNamed 39 [none] [.int r] M2 Q))
    (K2 : (¬ (s1 = 0)) → Q (.returned (some (.int 2))) M) : Fw l D ad kA mX6_ruleNamed 28 [some (.ref (ad 1))] [.int s1] M Q := by
  refine r_if_eq (tgt := 33) dX6_ruleNamed_28 (by decide) (fun c1 => ?_) (fun c1 => ?_)
  · skip
    refine r_aload_n dX6_ruleNamed_33 rfl ?_
    refine r_ldcS (i := 7) dX6_ruleNamed_34 (by decide) rfl ?_
    exact r_callV (x := 1) (As := [.ref (ad (210 + 7))]) (rest := []) dX6_ruleNamed_36 mk_X6_79 mv_X10_isWord rm_X6_ruleNamed_X10_isWord rfl rfl (by decide +kernel) (Nat.le_of_ble_eq_true rfl) (cal_i (lo' := [none]) trivial (K1 c1))
  · skip
    refine r_iconst (v := 2) dX6_ruleNamed_31 kI_2 ?_
    exact r_iret dX6_ruleNamed_32 rfl (K2 c1)
theorem t_X6_ruleNamed_39 {s1 : Int32} 
    (K1 : Q (.returned (some (.int (if s1 = 0 then (-1) else 3)))) M) : Fw l D ad kA mX6_ruleNamed 39 [none] [.int s1] M Q := by
  suffices hJ1 : Fw l D ad kA mX6_ruleNamed 47 [none] [.int (if s1 = 0 then (-1) else 3)] M Q by
    refine r_if_eq (tgt := 46) dX6_ruleNamed_39 (by decide) (fun c1 => ?_) (fun c1 => ?_)
    · skip
      refine r_iconst (v := (-1)) dX6_ruleNamed_46 kI_m1 ?_
      exact q_weak (lo' := [none]) trivial (by have h9 := hJ1; simp only [if_pos c1] at h9; first | exact h9 | (simp only [if_pos c1]; exact h9))
    · skip
      refine r_iconst (v := 3) dX6_ruleNamed_42 kI_3 ?_
      refine r_goto (tgt := 47) dX6_ruleNamed_43 (by decide) ?_
      exact q_weak (lo' := [none]) trivial (by have h9 := hJ1; simp only [if_neg c1] at h9; first | exact h9 | (simp only [if_neg c1]; exact h9))
  exact r_iret dX6_ruleNamed_47 rfl K1
theorem en_X6_ruleNamed  (K : Fw l D ad kA mX6_ruleNamed 0 [some (.ref (ad 1))] [] M Q) : Cal l D ad kA mX6_ruleNamed [.ref (ad 1)] M Q := Cal.of (by decide) rfl rfl (Nat.le_of_ble_eq_true rfl) K
theorem t_X6_takeWord_0  
    (K1 : Cal l D ad kA mX6_ruleNamed [.ref (ad 1)] M (fun oc M2 => ∃ r : Int32, oc = .returned (some (.int r)) ∧ Fw l D ad kA mX6_takeWord 5 [some (.ref (ad 14)), some (.ref (ad 1))] [.int r, .ref (ad 14)] M2 Q)) : Fw l D ad kA mX6_takeWord 0 [some (.ref (ad 14)), some (.ref (ad 1))] [] M Q := by
  refine r_aload_n dX6_takeWord_0 rfl ?_
  refine r_aload_n dX6_takeWord_1 rfl ?_
  exact r_callS (As := [.ref (ad 1)]) (rest := [.ref (ad 14)]) dX6_takeWord_2 mk_X6_62 ms_X6_ruleNamed rm_X6_takeWord_X6_ruleNamed rfl rfl (Nat.le_of_ble_eq_true rfl) (cal_i (lo' := [some (.ref (ad 14)), some (.ref (ad 1))]) ⟨rfl, rfl, trivial⟩ K1)
theorem t_X6_takeWord_5 {s2 : Int32} 
    (g1 : (¬ (s2 = (-1))) → vp_in s2 4)
    (K1 : (¬ (s2 = (-1))) → ((gI M 16 s2.toNatClampNeg) = (-1)) → Q (.returned none) (sI (sI M 14 3 s2) 14 2 1))
    (K2 : (¬ (s2 = (-1))) → (¬ ((gI M 16 s2.toNatClampNeg) = (-1))) → Cal l D ad kA mX10_refuse [.ref (ad 1), .int 3] (sI M 14 3 s2) (fun oc M2 => oc = .returned none ∧ Fw l D ad kA mX6_takeWord 42 [none, none] [] M2 Q))
    (K3 : (s2 = (-1)) → Cal l D ad kA mX10_refuse [.ref (ad 1), .int 1] (sI M 14 3 s2) (fun oc M2 => oc = .returned none ∧ Fw l D ad kA mX6_takeWord 21 [none, none] [] M2 Q)) : Fw l D ad kA mX6_takeWord 5 [some (.ref (ad 14)), some (.ref (ad 1))] [.int s2, .ref (ad 14)] M Q := by
  refine r_putI dX6_takeWord_5 fs_14_3 fk_X6_66 fp_X6_3 ?_
  refine r_aload_n dX6_takeWord_8 rfl ?_
  refine q_getI (v := s2) dX6_takeWord_9 fs_14_3 fk_X6_66 rfl ?_
  refine r_iconst (v := (-1)) dX6_takeWord_12 kI_m1 ?_
  refine r_icmp_ne (tgt := 24) dX6_takeWord_13 (by decide) (fun c1 => ?_) (fun c1 => ?_)
  · skip
    refine r_aload_n dX6_takeWord_24 rfl ?_
    refine r_getR dX6_takeWord_25 fs_14_1 fk_X6_15 ?_
    refine r_aload_n dX6_takeWord_28 rfl ?_
    refine q_getI (v := s2) dX6_takeWord_29 fs_14_3 fk_X6_66 rfl ?_
    refine q_iald (v := gI M 16 s2.toNatClampNeg) dX6_takeWord_32 as_16 (g1 c1) rfl ?_
    refine r_iconst (v := (-1)) dX6_takeWord_33 kI_m1 ?_
    refine r_icmp_eq (tgt := 45) dX6_takeWord_34 (by decide) (fun c2 => ?_) (fun c2 => ?_)
    · skip
      refine r_aload_n dX6_takeWord_45 rfl ?_
      refine r_iconst (v := 1) dX6_takeWord_46 kI_1 ?_
      refine r_putI dX6_takeWord_47 fs_14_2 fk_X6_32 fp_X6_2 ?_
      exact r_vret dX6_takeWord_50 rfl (K1 c1 c2)
    · skip
      refine r_aload_n dX6_takeWord_37 rfl ?_
      refine r_iconst (v := 3) dX6_takeWord_38 kI_3 ?_
      exact r_callV (x := 1) (As := [.int 3]) (rest := []) dX6_takeWord_39 mk_X6_58 mv_X10_refuse rm_X6_takeWord_X10_refuse rfl rfl (by decide +kernel) (Nat.le_of_ble_eq_true rfl) (cal_v (lo' := [none, none]) trivial (K2 c1 c2))
  · skip
    refine r_aload_n dX6_takeWord_16 rfl ?_
    refine r_iconst (v := 1) dX6_takeWord_17 kI_1 ?_
    exact r_callV (x := 1) (As := [.int 1]) (rest := []) dX6_takeWord_18 mk_X6_58 mv_X10_refuse rm_X6_takeWord_X10_refuse rfl rfl (by decide +kernel) (Nat.le_of_ble_eq_true rfl) (cal_v (lo' := [none, none]) trivial (K3 c1))
theorem t_X6_takeWord_42  
    (K1 : Q (.returned none) M) : Fw l D ad kA mX6_takeWord 42 [none, none] [] M Q := by
  refine r_goto (tgt := 50) dX6_takeWord_42 (by decide) ?_
  exact r_vret dX6_takeWord_50 rfl K1
theorem t_X6_takeWord_21  
    (K1 : Q (.returned none) M) : Fw l D ad kA mX6_takeWord 21 [none, none] [] M Q := by
  refine r_goto (tgt := 50) dX6_takeWord_21 (by decide) ?_
  exact r_vret dX6_takeWord_50 rfl K1
theorem en_X6_takeWord  (K : Fw l D ad kA mX6_takeWord 0 [some (.ref (ad 14)), some (.ref (ad 1))] [] M Q) : Cal l D ad kA mX6_takeWord [.ref (ad 14), .ref (ad 1)] M Q := Cal.of (by decide) rfl rfl (Nat.le_of_ble_eq_true rfl) K
theorem t_X6_takeNumber_0  
    (g1 : (¬ ((gI M 14 3) < 0)) → vp_in (gI M 14 3) 4)
    (K1 : ((gI M 14 3) < 0) → Cal l D ad kA mX10_refuse [.ref (ad 1), .int 2] M (fun oc M2 => oc = .returned none ∧ Fw l D ad kA mX6_takeNumber 42 [none, none] [] M2 Q))
    (K2 : (¬ ((gI M 14 3) < 0)) → ((gI M 1 2) < ((stV.getD 1 []).getD (gI M 14 3).toNatClampNeg 0)) → Cal l D ad kA mX10_refuse [.ref (ad 1), .int 2] M (fun oc M2 => oc = .returned none ∧ Fw l D ad kA mX6_takeNumber 42 [none, none] [] M2 Q))
    (K3 : (¬ ((gI M 14 3) < 0)) → (¬ ((gI M 1 2) < ((stV.getD 1 []).getD (gI M 14 3).toNatClampNeg 0))) → ((gI M 1 2) ≤ ((stV.getD 2 []).getD (gI M 14 3).toNatClampNeg 0)) → Q (.returned none) (sI (sI M 16 (gI M 14 3).toNatClampNeg (gI M 1 2)) 14 2 2))
    (K4 : (¬ ((gI M 14 3) < 0)) → (¬ ((gI M 1 2) < ((stV.getD 1 []).getD (gI M 14 3).toNatClampNeg 0))) → (¬ ((gI M 1 2) ≤ ((stV.getD 2 []).getD (gI M 14 3).toNatClampNeg 0))) → Cal l D ad kA mX10_refuse [.ref (ad 1), .int 2] M (fun oc M2 => oc = .returned none ∧ Fw l D ad kA mX6_takeNumber 42 [none, none] [] M2 Q)) : Fw l D ad kA mX6_takeNumber 0 [some (.ref (ad 14)), some (.ref (ad 1))] [] M Q := by
  refine r_aload_n dX6_takeNumber_0 rfl ?_
  refine r_getI dX6_takeNumber_1 fs_14_3 fk_X6_66 ?_
  refine r_if_lt (tgt := 37) dX6_takeNumber_4 (by decide) (fun c1 => ?_) (fun c1 => ?_)
  · skip
    refine r_aload_n dX6_takeNumber_37 rfl ?_
    refine r_iconst (v := 2) dX6_takeNumber_38 kI_2 ?_
    exact r_callV (x := 1) (As := [.int 2]) (rest := []) dX6_takeNumber_39 mk_X6_58 mv_X10_refuse rm_X6_takeNumber_X10_refuse rfl rfl (by decide +kernel) (Nat.le_of_ble_eq_true rfl) (cal_v (lo' := [none, none]) trivial (K1 c1))
  · skip
    refine r_aload_n dX6_takeNumber_7 rfl ?_
    refine r_getI dX6_takeNumber_8 fs_1_2 fk_X6_69 ?_
    refine r_getst (j := 1) dX6_takeNumber_11 (by decide) fl_X6_72 ?_
    refine r_aload_n dX6_takeNumber_14 rfl ?_
    refine r_getI dX6_takeNumber_15 fs_14_3 fk_X6_66 ?_
    refine r_staticald (j := 1) dX6_takeNumber_18 (by decide) (g1 c1) ?_
    refine r_icmp_lt (tgt := 37) dX6_takeNumber_19 (by decide) (fun c2 => ?_) (fun c2 => ?_)
    · skip
      refine r_aload_n dX6_takeNumber_37 rfl ?_
      refine r_iconst (v := 2) dX6_takeNumber_38 kI_2 ?_
      exact r_callV (x := 1) (As := [.int 2]) (rest := []) dX6_takeNumber_39 mk_X6_58 mv_X10_refuse rm_X6_takeNumber_X10_refuse rfl rfl (by decide +kernel) (Nat.le_of_ble_eq_true rfl) (cal_v (lo' := [none, none]) trivial (K2 c1 c2))
    · skip
      refine r_aload_n dX6_takeNumber_22 rfl ?_
      refine r_getI dX6_takeNumber_23 fs_1_2 fk_X6_69 ?_
      refine r_getst (j := 2) dX6_takeNumber_26 (by decide) fl_X6_75 ?_
      refine r_aload_n dX6_takeNumber_29 rfl ?_
      refine r_getI dX6_takeNumber_30 fs_14_3 fk_X6_66 ?_
      refine r_staticald (j := 2) dX6_takeNumber_33 (by decide) (g1 c1) ?_
      refine r_icmp_le (tgt := 45) dX6_takeNumber_34 (by decide) (fun c3 => ?_) (fun c3 => ?_)
      · skip
        refine r_aload_n dX6_takeNumber_45 rfl ?_
        refine r_getR dX6_takeNumber_46 fs_14_1 fk_X6_15 ?_
        refine r_aload_n dX6_takeNumber_49 rfl ?_
        refine r_getI dX6_takeNumber_50 fs_14_3 fk_X6_66 ?_
        refine r_aload_n dX6_takeNumber_53 rfl ?_
        refine r_getI dX6_takeNumber_54 fs_1_2 fk_X6_69 ?_
        refine r_iast dX6_takeNumber_57 as_16 (g1 c1) ?_
        refine r_aload_n dX6_takeNumber_58 rfl ?_
        refine r_iconst (v := 2) dX6_takeNumber_59 kI_2 ?_
        refine r_putI dX6_takeNumber_60 fs_14_2 fk_X6_32 fp_X6_2 ?_
        exact r_vret dX6_takeNumber_63 rfl (K3 c1 c2 c3)
      · skip
        refine r_aload_n dX6_takeNumber_37 rfl ?_
        refine r_iconst (v := 2) dX6_takeNumber_38 kI_2 ?_
        exact r_callV (x := 1) (As := [.int 2]) (rest := []) dX6_takeNumber_39 mk_X6_58 mv_X10_refuse rm_X6_takeNumber_X10_refuse rfl rfl (by decide +kernel) (Nat.le_of_ble_eq_true rfl) (cal_v (lo' := [none, none]) trivial (K4 c1 c2 c3))
theorem t_X6_takeNumber_42  
    (K1 : Q (.returned none) M) : Fw l D ad kA mX6_takeNumber 42 [none, none] [] M Q := by
  refine r_goto (tgt := 63) dX6_takeNumber_42 (by decide) ?_
  exact r_vret dX6_takeNumber_63 rfl K1
theorem en_X6_takeNumber  (K : Fw l D ad kA mX6_takeNumber 0 [some (.ref (ad 14)), some (.ref (ad 1))] [] M Q) : Cal l D ad kA mX6_takeNumber [.ref (ad 14), .ref (ad 1)] M Q := Cal.of (by decide) rfl rfl (Nat.le_of_ble_eq_true rfl) K
theorem t_X6_take_0  
    (K1 : (¬ ((gI M 14 2) = 0)) → (¬ ((gI M 14 2) = 1)) → (¬ ((gI M 14 2) = 2)) → Cal l D ad kA mX10_refuse [.ref (ad 1), .int 1] M (fun oc M2 => oc = .returned none ∧ Fw l D ad kA mX6_take 78 [none, none] [] M2 Q))
    (K2 : (¬ ((gI M 14 2) = 0)) → (¬ ((gI M 14 2) = 1)) → ((gI M 14 2) = 2) → (¬ ((gI M 1 1) = 3)) → Cal l D ad kA mX10_refuse [.ref (ad 1), .int 1] M (fun oc M2 => oc = .returned none ∧ Fw l D ad kA mX6_take 78 [none, none] [] M2 Q))
    (K3 : (¬ ((gI M 14 2) = 0)) → (¬ ((gI M 14 2) = 1)) → ((gI M 14 2) = 2) → ((gI M 1 1) = 3) → Q (.returned none) (sI (sI M 14 4 ((gI M 14 4) + 1)) 14 2 0))
    (K4 : (¬ ((gI M 14 2) = 0)) → ((gI M 14 2) = 1) → (¬ ((gI M 1 1) = 2)) → (¬ ((gI M 14 2) = 2)) → Cal l D ad kA mX10_refuse [.ref (ad 1), .int 1] M (fun oc M2 => oc = .returned none ∧ Fw l D ad kA mX6_take 78 [none, none] [] M2 Q))
    (K5 : (¬ ((gI M 14 2) = 0)) → ((gI M 14 2) = 1) → (¬ ((gI M 1 1) = 2)) → ((gI M 14 2) = 2) → (¬ ((gI M 1 1) = 3)) → Cal l D ad kA mX10_refuse [.ref (ad 1), .int 1] M (fun oc M2 => oc = .returned none ∧ Fw l D ad kA mX6_take 78 [none, none] [] M2 Q))
    (K6 : (¬ ((gI M 14 2) = 0)) → ((gI M 14 2) = 1) → (¬ ((gI M 1 1) = 2)) → ((gI M 14 2) = 2) → ((gI M 1 1) = 3) → Q (.returned none) (sI (sI M 14 4 ((gI M 14 4) + 1)) 14 2 0))
    (K7 : (¬ ((gI M 14 2) = 0)) → ((gI M 14 2) = 1) → ((gI M 1 1) = 2) → Cal l D ad kA mX6_takeNumber [.ref (ad 14), .ref (ad 1)] M (fun oc M2 => oc = .returned none ∧ Fw l D ad kA mX6_take 36 [none, none] [] M2 Q))
    (K8 : ((gI M 14 2) = 0) → Cal l D ad kA mX6_takeWord [.ref (ad 14), .ref (ad 1)] M (fun oc M2 => oc = .returned none ∧ Fw l D ad kA mX6_take 12 [none, none] [] M2 Q)) : Fw l D ad kA mX6_take 0 [some (.ref (ad 14)), some (.ref (ad 1))] [] M Q := by
  refine r_aload_n dX6_take_0 rfl ?_
  refine r_getI dX6_take_1 fs_14_2 fk_X6_32 ?_
  refine r_if_ne (tgt := 15) dX6_take_4 (by decide) (fun c1 => ?_) (fun c1 => ?_)
  · skip
    refine r_aload_n dX6_take_15 rfl ?_
    refine r_getI dX6_take_16 fs_14_2 fk_X6_32 ?_
    refine r_iconst (v := 1) dX6_take_19 kI_1 ?_
    refine r_icmp_ne (tgt := 39) dX6_take_20 (by decide) (fun c2 => ?_) (fun c2 => ?_)
    · skip
      refine r_aload_n dX6_take_39 rfl ?_
      refine r_getI dX6_take_40 fs_14_2 fk_X6_32 ?_
      refine r_iconst (v := 2) dX6_take_43 kI_2 ?_
      refine r_icmp_ne (tgt := 73) dX6_take_44 (by decide) (fun c3 => ?_) (fun c3 => ?_)
      · skip
        refine r_aload_n dX6_take_73 rfl ?_
        refine r_iconst (v := 1) dX6_take_74 kI_1 ?_
        exact r_callV (x := 1) (As := [.int 1]) (rest := []) dX6_take_75 mk_X6_58 mv_X10_refuse rm_X6_take_X10_refuse rfl rfl (by decide +kernel) (Nat.le_of_ble_eq_true rfl) (cal_v (lo' := [none, none]) trivial (K1 c1 c2 c3))
      · skip
        refine r_aload_n dX6_take_47 rfl ?_
        refine r_getI dX6_take_48 fs_1_1 fk_X6_45 ?_
        refine r_iconst (v := 3) dX6_take_51 kI_3 ?_
        refine r_icmp_ne (tgt := 73) dX6_take_52 (by decide) (fun c4 => ?_) (fun c4 => ?_)
        · skip
          refine r_aload_n dX6_take_73 rfl ?_
          refine r_iconst (v := 1) dX6_take_74 kI_1 ?_
          exact r_callV (x := 1) (As := [.int 1]) (rest := []) dX6_take_75 mk_X6_58 mv_X10_refuse rm_X6_take_X10_refuse rfl rfl (by decide +kernel) (Nat.le_of_ble_eq_true rfl) (cal_v (lo' := [none, none]) trivial (K2 c1 c2 c3 c4))
        · skip
          refine r_aload_n dX6_take_55 rfl ?_
          refine r_dup dX6_take_56 rfl ?_
          refine r_getI dX6_take_57 fs_14_4 fk_X6_36 ?_
          refine r_iconst (v := 1) dX6_take_60 kI_1 ?_
          refine r_iadd dX6_take_61 ?_
          refine r_putI dX6_take_62 fs_14_4 fk_X6_36 fp_X6_4 ?_
          refine r_aload_n dX6_take_65 rfl ?_
          refine r_iconst (v := 0) dX6_take_66 kI_0 ?_
          refine r_putI dX6_take_67 fs_14_2 fk_X6_32 fp_X6_2 ?_
          refine r_goto (tgt := 78) dX6_take_70 (by decide) ?_
          exact r_vret dX6_take_78 rfl (K3 c1 c2 c3 c4)
    · skip
      refine r_aload_n dX6_take_23 rfl ?_
      refine r_getI dX6_take_24 fs_1_1 fk_X6_45 ?_
      refine r_iconst (v := 2) dX6_take_27 kI_2 ?_
      refine r_icmp_ne (tgt := 39) dX6_take_28 (by decide) (fun c5 => ?_) (fun c5 => ?_)
      · skip
        refine r_aload_n dX6_take_39 rfl ?_
        refine r_getI dX6_take_40 fs_14_2 fk_X6_32 ?_
        refine r_iconst (v := 2) dX6_take_43 kI_2 ?_
        refine r_icmp_ne (tgt := 73) dX6_take_44 (by decide) (fun c6 => ?_) (fun c6 => ?_)
        · skip
          refine r_aload_n dX6_take_73 rfl ?_
          refine r_iconst (v := 1) dX6_take_74 kI_1 ?_
          exact r_callV (x := 1) (As := [.int 1]) (rest := []) dX6_take_75 mk_X6_58 mv_X10_refuse rm_X6_take_X10_refuse rfl rfl (by decide +kernel) (Nat.le_of_ble_eq_true rfl) (cal_v (lo' := [none, none]) trivial (K4 c1 c2 c5 c6))
        · skip
          refine r_aload_n dX6_take_47 rfl ?_
          refine r_getI dX6_take_48 fs_1_1 fk_X6_45 ?_
          refine r_iconst (v := 3) dX6_take_51 kI_3 ?_
          refine r_icmp_ne (tgt := 73) dX6_take_52 (by decide) (fun c7 => ?_) (fun c7 => ?_)
          · skip
            refine r_aload_n dX6_take_73 rfl ?_
            refine r_iconst (v := 1) dX6_take_74 kI_1 ?_
            exact r_callV (x := 1) (As := [.int 1]) (rest := []) dX6_take_75 mk_X6_58 mv_X10_refuse rm_X6_take_X10_refuse rfl rfl (by decide +kernel) (Nat.le_of_ble_eq_true rfl) (cal_v (lo' := [none, none]) trivial (K5 c1 c2 c5 c6 c7))
          · skip
            refine r_aload_n dX6_take_55 rfl ?_
            refine r_dup dX6_take_56 rfl ?_
            refine r_getI dX6_take_57 fs_14_4 fk_X6_36 ?_
            refine r_iconst (v := 1) dX6_take_60 kI_1 ?_
            refine r_iadd dX6_take_61 ?_
            refine r_putI dX6_take_62 fs_14_4 fk_X6_36 fp_X6_4 ?_
            refine r_aload_n dX6_take_65 rfl ?_
            refine r_iconst (v := 0) dX6_take_66 kI_0 ?_
            refine r_putI dX6_take_67 fs_14_2 fk_X6_32 fp_X6_2 ?_
            refine r_goto (tgt := 78) dX6_take_70 (by decide) ?_
            exact r_vret dX6_take_78 rfl (K6 c1 c2 c5 c6 c7)
      · skip
        refine r_aload_n dX6_take_31 rfl ?_
        refine r_aload_n dX6_take_32 rfl ?_
        exact r_callV (x := 14) (As := [.ref (ad 1)]) (rest := []) dX6_take_33 mk_X6_55 mv_X6_takeNumber rm_X6_take_X6_takeNumber rfl rfl (by decide +kernel) (Nat.le_of_ble_eq_true rfl) (cal_v (lo' := [none, none]) trivial (K7 c1 c2 c5))
  · skip
    refine r_aload_n dX6_take_7 rfl ?_
    refine r_aload_n dX6_take_8 rfl ?_
    exact r_callV (x := 14) (As := [.ref (ad 1)]) (rest := []) dX6_take_9 mk_X6_52 mv_X6_takeWord rm_X6_take_X6_takeWord rfl rfl (by decide +kernel) (Nat.le_of_ble_eq_true rfl) (cal_v (lo' := [none, none]) trivial (K8 c1))
theorem t_X6_take_78  
    (K1 : Q (.returned none) M) : Fw l D ad kA mX6_take 78 [none, none] [] M Q := by
  exact r_vret dX6_take_78 rfl K1
theorem t_X6_take_36  
    (K1 : Q (.returned none) M) : Fw l D ad kA mX6_take 36 [none, none] [] M Q := by
  refine r_goto (tgt := 78) dX6_take_36 (by decide) ?_
  exact r_vret dX6_take_78 rfl K1
theorem t_X6_take_12  
    (K1 : Q (.returned none) M) : Fw l D ad kA mX6_take 12 [none, none] [] M Q := by
  refine r_goto (tgt := 78) dX6_take_12 (by decide) ?_
  exact r_vret dX6_take_78 rfl K1
theorem en_X6_take  (K : Fw l D ad kA mX6_take 0 [some (.ref (ad 14)), some (.ref (ad 1))] [] M Q) : Cal l D ad kA mX6_take [.ref (ad 14), .ref (ad 1)] M Q := Cal.of (by decide) rfl rfl (Nat.le_of_ble_eq_true rfl) K
theorem t_X6_readAll_0  
    (K1 : Cal l D ad kA mX10_start [.ref (ad 1)] M (fun oc M2 => oc = .returned none ∧ Fw l D ad kA mX6_readAll 4 [some (.ref (ad 14)), some (.ref (ad 1)), none, none] [] M2 Q)) : Fw l D ad kA mX6_readAll 0 [some (.ref (ad 14)), some (.ref (ad 1)), none, none] [] M Q := by
  refine r_aload_n dX6_readAll_0 rfl ?_
  exact r_callV (x := 1) (As := []) (rest := []) dX6_readAll_1 mk_X6_27 mv_X10_start rm_X6_readAll_X10_start rfl rfl (by decide +kernel) (Nat.le_of_ble_eq_true rfl) (cal_v (lo' := [some (.ref (ad 14)), some (.ref (ad 1)), none, none]) ⟨rfl, rfl, trivial⟩ K1)
theorem t_X6_readAll_4  
    (K1 : Fw l D ad kA mX6_readAll 6 [some (.ref (ad 14)), some (.ref (ad 1)), some (.int 0), none] [] M Q) : Fw l D ad kA mX6_readAll 4 [some (.ref (ad 14)), some (.ref (ad 1)), none, none] [] M Q := by
  refine r_iconst (v := 0) dX6_readAll_4 kI_0 ?_
  refine q_istore_n (lo' := [some (.ref (ad 14)), some (.ref (ad 1)), some (.int 0), none]) dX6_readAll_5 (by decide) rfl ?_
  exact K1
theorem t_X6_readAll_6 {x2 : Int32} 
    (g1 : (¬ (4 ≤ x2)) → vp_in x2 4)
    (K1 : (4 ≤ x2) → Fw l D ad kA mX6_readAll 38 [some (.ref (ad 14)), some (.ref (ad 1)), some (.int 0), some (.int 0)] [] (sI (sI M 14 2 0) 14 4 0) Q)
    (K2 : (¬ (4 ≤ x2)) → Fw l D ad kA mX6_readAll 6 [some (.ref (ad 14)), some (.ref (ad 1)), some (.int (x2 + 1)), none] [] (sI M 16 x2.toNatClampNeg (-1)) Q) : Fw l D ad kA mX6_readAll 6 [some (.ref (ad 14)), some (.ref (ad 1)), some (.int x2), none] [] M Q := by
  refine r_iload_n dX6_readAll_6 rfl ?_
  refine r_iconst (v := 4) dX6_readAll_7 kI_4 ?_
  refine r_icmp_ge (tgt := 24) dX6_readAll_8 (by decide) (fun c1 => ?_) (fun c1 => ?_)
  · skip
    refine r_aload_n dX6_readAll_24 rfl ?_
    refine r_iconst (v := 0) dX6_readAll_25 kI_0 ?_
    refine r_putI dX6_readAll_26 fs_14_2 fk_X6_32 fp_X6_2 ?_
    refine r_aload_n dX6_readAll_29 rfl ?_
    refine r_iconst (v := 0) dX6_readAll_30 kI_0 ?_
    refine r_putI dX6_readAll_31 fs_14_4 fk_X6_36 fp_X6_4 ?_
    refine r_iconst (v := 0) dX6_readAll_34 kI_0 ?_
    refine q_istore_n (lo' := [some (.ref (ad 14)), some (.ref (ad 1)), some (.int 0), none]) dX6_readAll_35 (by decide) rfl ?_
    refine r_iconst (v := 0) dX6_readAll_36 kI_0 ?_
    refine q_istore_n (lo' := [some (.ref (ad 14)), some (.ref (ad 1)), some (.int 0), some (.int 0)]) dX6_readAll_37 (by decide) rfl ?_
    exact (K1 c1)
  · skip
    refine r_aload_n dX6_readAll_11 rfl ?_
    refine r_getR dX6_readAll_12 fs_14_1 fk_X6_15 ?_
    refine r_iload_n dX6_readAll_15 rfl ?_
    refine r_iconst (v := (-1)) dX6_readAll_16 kI_m1 ?_
    refine r_iast dX6_readAll_17 as_16 (g1 c1) ?_
    refine q_iinc (v := x2 + 1) (lo' := [some (.ref (ad 14)), some (.ref (ad 1)), some (.int (x2 + 1)), none]) dX6_readAll_18 rfl (congrArg (fun q => x2 + q) kI_1) (by decide) rfl ?_
    refine r_goto (tgt := 6) dX6_readAll_21 (by decide) ?_
    exact (K2 c1)
theorem t_X6_readAll_38 {x2 : Int32} {x3 : Int32} 
    (K1 : (1200 < x3) → (¬ (x2 = 0)) → Fw l D ad kA mX6_readAll 103 [some (.ref (ad 14)), none, none, some (.int 0)] [] M Q)
    (K2 : (1200 < x3) → (x2 = 0) → Q (.returned (some (.int (-1)))) M)
    (K3 : (¬ (1200 < x3)) → (¬ (x2 = 0)) → Fw l D ad kA mX6_readAll 103 [some (.ref (ad 14)), none, none, some (.int 0)] [] M Q)
    (K4 : (¬ (1200 < x3)) → (x2 = 0) → (¬ ((gI M 1 3) = 0)) → Q (.returned (some (.int (-1)))) M)
    (K5 : (¬ (1200 < x3)) → (x2 = 0) → ((gI M 1 3) = 0) → Cal l D ad kA mX10_readToken [.ref (ad 1)] M (fun oc M2 => oc = .returned none ∧ Fw l D ad kA mX6_readAll 60 [some (.ref (ad 14)), some (.ref (ad 1)), none, some (.int x3)] [] M2 Q)) : Fw l D ad kA mX6_readAll 38 [some (.ref (ad 14)), some (.ref (ad 1)), some (.int x2), some (.int x3)] [] M Q := by
  refine r_iload_n dX6_readAll_38 rfl ?_
  refine r_sipush (v := 1200) dX6_readAll_39 kS_1200 ?_
  refine r_icmp_gt (tgt := 95) dX6_readAll_42 (by decide) (fun c1 => ?_) (fun c1 => ?_)
  · skip
    refine r_iload_n dX6_readAll_95 rfl ?_
    refine r_if_ne (tgt := 101) dX6_readAll_96 (by decide) (fun c2 => ?_) (fun c2 => ?_)
    · skip
      refine r_iconst (v := 0) dX6_readAll_101 kI_0 ?_
      refine q_istore_n (lo' := [some (.ref (ad 14)), some (.ref (ad 1)), some (.int x2), some (.int 0)]) dX6_readAll_102 (by decide) rfl ?_
      exact q_weak (lo' := [some (.ref (ad 14)), none, none, some (.int 0)]) ⟨rfl, rfl, trivial⟩ (K1 c1 c2)
    · skip
      refine r_iconst (v := (-1)) dX6_readAll_99 kI_m1 ?_
      exact r_iret dX6_readAll_100 rfl (K2 c1 c2)
  · skip
    refine r_iload_n dX6_readAll_45 rfl ?_
    refine r_if_ne (tgt := 95) dX6_readAll_46 (by decide) (fun c3 => ?_) (fun c3 => ?_)
    · skip
      refine r_iload_n dX6_readAll_95 rfl ?_
      refine r_if_ne (tgt := 101) dX6_readAll_96 (by decide) (fun _ => ?_) (fun q => absurd q c3)
      refine r_iconst (v := 0) dX6_readAll_101 kI_0 ?_
      refine q_istore_n (lo' := [some (.ref (ad 14)), some (.ref (ad 1)), some (.int x2), some (.int 0)]) dX6_readAll_102 (by decide) rfl ?_
      exact q_weak (lo' := [some (.ref (ad 14)), none, none, some (.int 0)]) ⟨rfl, rfl, trivial⟩ (K3 c1 c3)
    · skip
      refine r_aload_n dX6_readAll_49 rfl ?_
      refine r_getI dX6_readAll_50 fs_1_3 fk_X6_39 ?_
      refine r_if_ne (tgt := 95) dX6_readAll_53 (by decide) (fun c4 => ?_) (fun c4 => ?_)
      · skip
        refine r_iload_n dX6_readAll_95 rfl ?_
        refine r_if_ne (tgt := 101) dX6_readAll_96 (by decide) (fun q => absurd c3 q) (fun _ => ?_)
        refine r_iconst (v := (-1)) dX6_readAll_99 kI_m1 ?_
        exact r_iret dX6_readAll_100 rfl (K4 c1 c3 c4)
      · skip
        refine r_aload_n dX6_readAll_56 rfl ?_
        exact r_callV (x := 1) (As := []) (rest := []) dX6_readAll_57 mk_X6_42 mv_X10_readToken rm_X6_readAll_X10_readToken rfl rfl (by decide +kernel) (Nat.le_of_ble_eq_true rfl) (cal_v (lo' := [some (.ref (ad 14)), some (.ref (ad 1)), none, some (.int x3)]) ⟨rfl, rfl, rfl, trivial⟩ (K5 c1 c3 c4))
theorem t_X6_readAll_103 {x3 : Int32} 
    (g1 : (¬ (4 ≤ x3)) → vp_in x3 4)
    (K1 : (4 ≤ x3) → Q (.returned (some (.int (gI M 14 4)))) M)
    (K2 : (¬ (4 ≤ x3)) → Fw l D ad kA mX6_readAll 103 [some (.ref (ad 14)), none, none, some (.int (x3 + 1))] [] (sI M 15 x3.toNatClampNeg (if (gI M 16 x3.toNatClampNeg) = (-1) then (stV.getD 0 []).getD x3.toNatClampNeg 0 else gI M 16 x3.toNatClampNeg)) Q) : Fw l D ad kA mX6_readAll 103 [some (.ref (ad 14)), none, none, some (.int x3)] [] M Q := by
  refine r_iload_n dX6_readAll_103 rfl ?_
  refine r_iconst (v := 4) dX6_readAll_104 kI_4 ?_
  refine r_icmp_ge (tgt := 144) dX6_readAll_105 (by decide) (fun c1 => ?_) (fun c1 => ?_)
  · skip
    refine r_aload_n dX6_readAll_144 rfl ?_
    refine r_getI dX6_readAll_145 fs_14_4 fk_X6_36 ?_
    exact r_iret dX6_readAll_148 rfl (K1 c1)
  · skip
    refine r_aload_n dX6_readAll_108 rfl ?_
    refine r_getR dX6_readAll_109 fs_14_0 fk_X6_11 ?_
    refine r_iload_n dX6_readAll_112 rfl ?_
    refine r_aload_n dX6_readAll_113 rfl ?_
    refine r_getR dX6_readAll_114 fs_14_1 fk_X6_15 ?_
    refine r_iload_n dX6_readAll_117 rfl ?_
    refine r_iald dX6_readAll_118 as_16 (g1 c1) ?_
    refine r_iconst (v := (-1)) dX6_readAll_119 kI_m1 ?_
    suffices hJ1 : Fw l D ad kA mX6_readAll 137 [some (.ref (ad 14)), none, none, some (.int x3)] [.int (if (gI M 16 x3.toNatClampNeg) = (-1) then (stV.getD 0 []).getD x3.toNatClampNeg 0 else gI M 16 x3.toNatClampNeg), .int x3, .ref (ad 15)] M Q by
      refine r_icmp_ne (tgt := 131) dX6_readAll_120 (by decide) (fun c2 => ?_) (fun c2 => ?_)
      · skip
        refine r_aload_n dX6_readAll_131 rfl ?_
        refine r_getR dX6_readAll_132 fs_14_1 fk_X6_15 ?_
        refine r_iload_n dX6_readAll_135 rfl ?_
        refine r_iald dX6_readAll_136 as_16 (g1 c1) ?_
        exact q_weak (lo' := [some (.ref (ad 14)), none, none, some (.int x3)]) ⟨rfl, rfl, trivial⟩ (by have h9 := hJ1; simp only [if_neg c2] at h9; first | exact h9 | (simp only [if_neg c2]; exact h9))
      · skip
        refine r_getst (j := 0) dX6_readAll_123 (by decide) fl_X6_18 ?_
        refine r_iload_n dX6_readAll_126 rfl ?_
        refine r_staticald (j := 0) dX6_readAll_127 (by decide) (g1 c1) ?_
        refine r_goto (tgt := 137) dX6_readAll_128 (by decide) ?_
        exact q_weak (lo' := [some (.ref (ad 14)), none, none, some (.int x3)]) ⟨rfl, rfl, trivial⟩ (by have h9 := hJ1; simp only [if_pos c2] at h9; first | exact h9 | (simp only [if_pos c2]; exact h9))
    refine r_iast dX6_readAll_137 as_15 (g1 c1) ?_
    refine q_iinc (v := x3 + 1) (lo' := [some (.ref (ad 14)), none, none, some (.int (x3 + 1))]) dX6_readAll_138 rfl (congrArg (fun q => x3 + q) kI_1) (by decide) rfl ?_
    refine r_goto (tgt := 103) dX6_readAll_141 (by decide) ?_
    exact (K2 c1)
theorem t_X6_readAll_60 {x3 : Int32} 
    (K1 : (¬ ((if (gI M 1 1) = 0 then if (gI M 14 2) = 0 then 1 else 0 else 0 : Int32) = 0)) → Fw l D ad kA mX6_readAll 38 [some (.ref (ad 14)), some (.ref (ad 1)), some (.int (if (gI M 1 1) = 0 then if (gI M 14 2) = 0 then 1 else 0 else 0)), some (.int (x3 + 1))] [] M Q)
    (K2 : ((if (gI M 1 1) = 0 then if (gI M 14 2) = 0 then 1 else 0 else 0 : Int32) = 0) → Cal l D ad kA mX6_take [.ref (ad 14), .ref (ad 1)] M (fun oc M2 => oc = .returned none ∧ Fw l D ad kA mX6_readAll 89 [some (.ref (ad 14)), some (.ref (ad 1)), some (.int (if (gI M 1 1) = 0 then if (gI M 14 2) = 0 then 1 else 0 else 0)), some (.int x3)] [] M2 Q)) : Fw l D ad kA mX6_readAll 60 [some (.ref (ad 14)), some (.ref (ad 1)), none, some (.int x3)] [] M Q := by
  refine r_aload_n dX6_readAll_60 rfl ?_
  refine r_getI dX6_readAll_61 fs_1_1 fk_X6_45 ?_
  suffices hJ1 : Fw l D ad kA mX6_readAll 79 [some (.ref (ad 14)), some (.ref (ad 1)), none, some (.int x3)] [.int (if (gI M 1 1) = 0 then if (gI M 14 2) = 0 then 1 else 0 else 0)] M Q by
    refine r_if_ne (tgt := 78) dX6_readAll_64 (by decide) (fun c1 => ?_) (fun c1 => ?_)
    · skip
      refine r_iconst (v := 0) dX6_readAll_78 kI_0 ?_
      exact q_weak (lo' := [some (.ref (ad 14)), some (.ref (ad 1)), none, some (.int x3)]) ⟨rfl, rfl, rfl, trivial⟩ (by have h9 := hJ1; simp only [if_neg c1] at h9; first | exact h9 | (simp only [if_neg c1]; exact h9))
    · skip
      refine r_aload_n dX6_readAll_67 rfl ?_
      refine r_getI dX6_readAll_68 fs_14_2 fk_X6_32 ?_
      refine r_if_ne (tgt := 78) dX6_readAll_71 (by decide) (fun c2 => ?_) (fun c2 => ?_)
      · skip
        refine r_iconst (v := 0) dX6_readAll_78 kI_0 ?_
        exact q_weak (lo' := [some (.ref (ad 14)), some (.ref (ad 1)), none, some (.int x3)]) ⟨rfl, rfl, rfl, trivial⟩ (by have h9 := hJ1; simp only [if_pos c1, if_neg c2] at h9; first | exact h9 | (simp only [if_pos c1, if_neg c2]; exact h9))
      · skip
        refine r_iconst (v := 1) dX6_readAll_74 kI_1 ?_
        refine r_goto (tgt := 79) dX6_readAll_75 (by decide) ?_
        exact q_weak (lo' := [some (.ref (ad 14)), some (.ref (ad 1)), none, some (.int x3)]) ⟨rfl, rfl, rfl, trivial⟩ (by have h9 := hJ1; simp only [if_pos c1, if_pos c2] at h9; first | exact h9 | (simp only [if_pos c1, if_pos c2]; exact h9))
  refine q_istore_n (lo' := [some (.ref (ad 14)), some (.ref (ad 1)), some (.int (if (gI M 1 1) = 0 then if (gI M 14 2) = 0 then 1 else 0 else 0)), some (.int x3)]) dX6_readAll_79 (by decide) rfl ?_
  refine r_iload_n dX6_readAll_80 rfl ?_
  refine r_if_ne (tgt := 89) dX6_readAll_81 (by decide) (fun c3 => ?_) (fun c3 => ?_)
  · skip
    refine q_iinc (v := x3 + 1) (lo' := [some (.ref (ad 14)), some (.ref (ad 1)), some (.int (if (gI M 1 1) = 0 then if (gI M 14 2) = 0 then 1 else 0 else 0)), some (.int (x3 + 1))]) dX6_readAll_89 rfl (congrArg (fun q => x3 + q) kI_1) (by decide) rfl ?_
    refine r_goto (tgt := 38) dX6_readAll_92 (by decide) ?_
    exact (K1 c3)
  · skip
    refine r_aload_n dX6_readAll_84 rfl ?_
    refine r_aload_n dX6_readAll_85 rfl ?_
    exact r_callV (x := 14) (As := [.ref (ad 1)]) (rest := []) dX6_readAll_86 mk_X6_48 mv_X6_take rm_X6_readAll_X6_take rfl rfl (by decide +kernel) (Nat.le_of_ble_eq_true rfl) (cal_v (lo' := [some (.ref (ad 14)), some (.ref (ad 1)), some (.int (if (gI M 1 1) = 0 then if (gI M 14 2) = 0 then 1 else 0 else 0)), some (.int x3)]) ⟨rfl, rfl, rfl, rfl, trivial⟩ (K2 c3))
theorem t_X6_readAll_89 {x2 : Int32} {x3 : Int32} 
    (K1 : Fw l D ad kA mX6_readAll 38 [some (.ref (ad 14)), some (.ref (ad 1)), some (.int x2), some (.int (x3 + 1))] [] M Q) : Fw l D ad kA mX6_readAll 89 [some (.ref (ad 14)), some (.ref (ad 1)), some (.int x2), some (.int x3)] [] M Q := by
  refine q_iinc (v := x3 + 1) (lo' := [some (.ref (ad 14)), some (.ref (ad 1)), some (.int x2), some (.int (x3 + 1))]) dX6_readAll_89 rfl (congrArg (fun q => x3 + q) kI_1) (by decide) rfl ?_
  refine r_goto (tgt := 38) dX6_readAll_92 (by decide) ?_
  exact K1
theorem en_X6_readAll  (K : Fw l D ad kA mX6_readAll 0 [some (.ref (ad 14)), some (.ref (ad 1)), none, none] [] M Q) : Cal l D ad kA mX6_readAll [.ref (ad 14), .ref (ad 1)] M Q := Cal.of (by decide) rfl rfl (Nat.le_of_ble_eq_true rfl) K
end W_manners
