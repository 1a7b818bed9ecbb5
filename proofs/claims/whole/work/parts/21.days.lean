/-! Days: decode rows, links, walks from cut to cut (printed by wip/gen) -/
theorem dX2_forgetKey_0 : decode cX2_forgetKey 0 = .ok (.aload_n 0, 1) := by decide +kernel
theorem dX2_forgetKey_1 : decode cX2_forgetKey 1 = .ok (.iconst 0, 1) := by decide +kernel
theorem dX2_forgetKey_2 : decode cX2_forgetKey 2 = .ok (.putfield 38, 3) := by decide +kernel
theorem dX2_forgetKey_5 : decode cX2_forgetKey 5 = .ok (.return_, 1) := by decide +kernel
theorem dX2_add_0 : decode cX2_add 0 = .ok (.aload_n 0, 1) := by decide +kernel
theorem dX2_add_1 : decode cX2_add 1 = .ok (.getfield 42, 3) := by decide +kernel
theorem dX2_add_4 : decode cX2_add 4 = .ok (.istore 4, 2) := by decide +kernel
theorem dX2_add_6 : decode cX2_add 6 = .ok (.aload_n 0, 1) := by decide +kernel
theorem dX2_add_7 : decode cX2_add 7 = .ok (.getfield 9, 3) := by decide +kernel
theorem dX2_add_10 : decode cX2_add 10 = .ok (.iload 4, 2) := by decide +kernel
theorem dX2_add_12 : decode cX2_add 12 = .ok (.iload_n 1, 1) := by decide +kernel
theorem dX2_add_13 : decode cX2_add 13 = .ok (.iastore, 1) := by decide +kernel
theorem dX2_add_14 : decode cX2_add 14 = .ok (.aload_n 0, 1) := by decide +kernel
theorem dX2_add_15 : decode cX2_add 15 = .ok (.getfield 15, 3) := by decide +kernel
theorem dX2_add_18 : decode cX2_add 18 = .ok (.iload 4, 2) := by decide +kernel
theorem dX2_add_20 : decode cX2_add 20 = .ok (.iload_n 2, 1) := by decide +kernel
theorem dX2_add_21 : decode cX2_add 21 = .ok (.iastore, 1) := by decide +kernel
theorem dX2_add_22 : decode cX2_add 22 = .ok (.aload_n 0, 1) := by decide +kernel
theorem dX2_add_23 : decode cX2_add 23 = .ok (.getfield 18, 3) := by decide +kernel
theorem dX2_add_26 : decode cX2_add 26 = .ok (.iload 4, 2) := by decide +kernel
theorem dX2_add_28 : decode cX2_add 28 = .ok (.iload_n 3, 1) := by decide +kernel
theorem dX2_add_29 : decode cX2_add 29 = .ok (.iastore, 1) := by decide +kernel
theorem dX2_add_30 : decode cX2_add 30 = .ok (.aload_n 0, 1) := by decide +kernel
theorem dX2_add_31 : decode cX2_add 31 = .ok (.getfield 21, 3) := by decide +kernel
theorem dX2_add_34 : decode cX2_add 34 = .ok (.iload 4, 2) := by decide +kernel
theorem dX2_add_36 : decode cX2_add 36 = .ok (.aload_n 0, 1) := by decide +kernel
theorem dX2_add_37 : decode cX2_add 37 = .ok (.getfield 46, 3) := by decide +kernel
theorem dX2_add_40 : decode cX2_add 40 = .ok (.iastore, 1) := by decide +kernel
theorem dX2_add_41 : decode cX2_add 41 = .ok (.aload_n 0, 1) := by decide +kernel
theorem dX2_add_42 : decode cX2_add 42 = .ok (.getfield 24, 3) := by decide +kernel
theorem dX2_add_45 : decode cX2_add 45 = .ok (.iload 4, 2) := by decide +kernel
theorem dX2_add_47 : decode cX2_add 47 = .ok (.iconst (-1), 1) := by decide +kernel
theorem dX2_add_48 : decode cX2_add 48 = .ok (.iastore, 1) := by decide +kernel
theorem dX2_add_49 : decode cX2_add 49 = .ok (.aload_n 0, 1) := by decide +kernel
theorem dX2_add_50 : decode cX2_add 50 = .ok (.dup, 1) := by decide +kernel
theorem dX2_add_51 : decode cX2_add 51 = .ok (.getfield 42, 3) := by decide +kernel
theorem dX2_add_54 : decode cX2_add 54 = .ok (.iconst 1, 1) := by decide +kernel
theorem dX2_add_55 : decode cX2_add 55 = .ok (.iadd, 1) := by decide +kernel
theorem dX2_add_56 : decode cX2_add 56 = .ok (.putfield 42, 3) := by decide +kernel
theorem dX2_add_59 : decode cX2_add 59 = .ok (.iload 4, 2) := by decide +kernel
theorem dX2_add_61 : decode cX2_add 61 = .ok (.ireturn, 1) := by decide +kernel
theorem dX2_addBack_0 : decode cX2_addBack 0 = .ok (.aload_n 0, 1) := by decide +kernel
theorem dX2_addBack_1 : decode cX2_addBack 1 = .ok (.getfield 24, 3) := by decide +kernel
theorem dX2_addBack_4 : decode cX2_addBack 4 = .ok (.iload_n 1, 1) := by decide +kernel
theorem dX2_addBack_5 : decode cX2_addBack 5 = .ok (.iaload, 1) := by decide +kernel
theorem dX2_addBack_6 : decode cX2_addBack 6 = .ok (.iconst (-1), 1) := by decide +kernel
theorem dX2_addBack_7 : decode cX2_addBack 7 = .ok (.if_icmp .eq 5, 3) := by decide +kernel
theorem dX2_addBack_10 : decode cX2_addBack 10 = .ok (.iconst 0, 1) := by decide +kernel
theorem dX2_addBack_11 : decode cX2_addBack 11 = .ok (.ireturn, 1) := by decide +kernel
theorem dX2_addBack_12 : decode cX2_addBack 12 = .ok (.aload_n 0, 1) := by decide +kernel
theorem dX2_addBack_13 : decode cX2_addBack 13 = .ok (.getfield 24, 3) := by decide +kernel
theorem dX2_addBack_16 : decode cX2_addBack 16 = .ok (.iload_n 1, 1) := by decide +kernel
theorem dX2_addBack_17 : decode cX2_addBack 17 = .ok (.iload_n 2, 1) := by decide +kernel
theorem dX2_addBack_18 : decode cX2_addBack 18 = .ok (.iastore, 1) := by decide +kernel
theorem dX2_addBack_19 : decode cX2_addBack 19 = .ok (.aload_n 0, 1) := by decide +kernel
theorem dX2_addBack_20 : decode cX2_addBack 20 = .ok (.getfield 27, 3) := by decide +kernel
theorem dX2_addBack_23 : decode cX2_addBack 23 = .ok (.iload_n 1, 1) := by decide +kernel
theorem dX2_addBack_24 : decode cX2_addBack 24 = .ok (.aload_n 0, 1) := by decide +kernel
theorem dX2_addBack_25 : decode cX2_addBack 25 = .ok (.getfield 46, 3) := by decide +kernel
theorem dX2_addBack_28 : decode cX2_addBack 28 = .ok (.iastore, 1) := by decide +kernel
theorem dX2_addBack_29 : decode cX2_addBack 29 = .ok (.iconst 1, 1) := by decide +kernel
theorem dX2_addBack_30 : decode cX2_addBack 30 = .ok (.ireturn, 1) := by decide +kernel
theorem dX2_isBackBy_0 : decode cX2_isBackBy 0 = .ok (.aload_n 0, 1) := by decide +kernel
theorem dX2_isBackBy_1 : decode cX2_isBackBy 1 = .ok (.getfield 24, 3) := by decide +kernel
theorem dX2_isBackBy_4 : decode cX2_isBackBy 4 = .ok (.iload_n 1, 1) := by decide +kernel
theorem dX2_isBackBy_5 : decode cX2_isBackBy 5 = .ok (.iaload, 1) := by decide +kernel
theorem dX2_isBackBy_6 : decode cX2_isBackBy 6 = .ok (.iconst (-1), 1) := by decide +kernel
theorem dX2_isBackBy_7 : decode cX2_isBackBy 7 = .ok (.if_icmp .eq 27, 3) := by decide +kernel
theorem dX2_isBackBy_10 : decode cX2_isBackBy 10 = .ok (.aload_n 0, 1) := by decide +kernel
theorem dX2_isBackBy_11 : decode cX2_isBackBy 11 = .ok (.getfield 27, 3) := by decide +kernel
theorem dX2_isBackBy_14 : decode cX2_isBackBy 14 = .ok (.iload_n 1, 1) := by decide +kernel
theorem dX2_isBackBy_15 : decode cX2_isBackBy 15 = .ok (.iaload, 1) := by decide +kernel
theorem dX2_isBackBy_16 : decode cX2_isBackBy 16 = .ok (.iload_n 3, 1) := by decide +kernel
theorem dX2_isBackBy_17 : decode cX2_isBackBy 17 = .ok (.if_icmp .gt 17, 3) := by decide +kernel
theorem dX2_isBackBy_20 : decode cX2_isBackBy 20 = .ok (.aload_n 0, 1) := by decide +kernel
theorem dX2_isBackBy_21 : decode cX2_isBackBy 21 = .ok (.getfield 24, 3) := by decide +kernel
theorem dX2_isBackBy_24 : decode cX2_isBackBy 24 = .ok (.iload_n 1, 1) := by decide +kernel
theorem dX2_isBackBy_25 : decode cX2_isBackBy 25 = .ok (.iaload, 1) := by decide +kernel
theorem dX2_isBackBy_26 : decode cX2_isBackBy 26 = .ok (.iload_n 2, 1) := by decide +kernel
theorem dX2_isBackBy_27 : decode cX2_isBackBy 27 = .ok (.if_icmp .gt 7, 3) := by decide +kernel
theorem dX2_isBackBy_30 : decode cX2_isBackBy 30 = .ok (.iconst 1, 1) := by decide +kernel
theorem dX2_isBackBy_31 : decode cX2_isBackBy 31 = .ok (.goto 4, 3) := by decide +kernel
theorem dX2_isBackBy_34 : decode cX2_isBackBy 34 = .ok (.iconst 0, 1) := by decide +kernel
theorem dX2_isBackBy_35 : decode cX2_isBackBy 35 = .ok (.ireturn, 1) := by decide +kernel
theorem dX2_lies_0 : decode cX2_lies 0 = .ok (.iconst 1, 1) := by decide +kernel
theorem dX2_lies_1 : decode cX2_lies 1 = .ok (.istore 4, 2) := by decide +kernel
theorem dX2_lies_3 : decode cX2_lies 3 = .ok (.iconst 0, 1) := by decide +kernel
theorem dX2_lies_4 : decode cX2_lies 4 = .ok (.istore 5, 2) := by decide +kernel
theorem dX2_lies_6 : decode cX2_lies 6 = .ok (.iload 5, 2) := by decide +kernel
theorem dX2_lies_8 : decode cX2_lies 8 = .ok (.aload_n 0, 1) := by decide +kernel
theorem dX2_lies_9 : decode cX2_lies 9 = .ok (.getfield 42, 3) := by decide +kernel
theorem dX2_lies_12 : decode cX2_lies 12 = .ok (.if_icmp .ge 88, 3) := by decide +kernel
theorem dX2_lies_15 : decode cX2_lies 15 = .ok (.iload 4, 2) := by decide +kernel
theorem dX2_lies_17 : decode cX2_lies 17 = .ok (.ifCond .eq 83, 3) := by decide +kernel
theorem dX2_lies_20 : decode cX2_lies 20 = .ok (.aload_n 0, 1) := by decide +kernel
theorem dX2_lies_21 : decode cX2_lies 21 = .ok (.getfield 9, 3) := by decide +kernel
theorem dX2_lies_24 : decode cX2_lies 24 = .ok (.iload 5, 2) := by decide +kernel
theorem dX2_lies_26 : decode cX2_lies 26 = .ok (.iaload, 1) := by decide +kernel
theorem dX2_lies_27 : decode cX2_lies 27 = .ok (.iload_n 1, 1) := by decide +kernel
theorem dX2_lies_28 : decode cX2_lies 28 = .ok (.if_icmp .ne 29, 3) := by decide +kernel
theorem dX2_lies_31 : decode cX2_lies 31 = .ok (.aload_n 0, 1) := by decide +kernel
theorem dX2_lies_32 : decode cX2_lies 32 = .ok (.getfield 15, 3) := by decide +kernel
theorem dX2_lies_35 : decode cX2_lies 35 = .ok (.iload 5, 2) := by decide +kernel
theorem dX2_lies_37 : decode cX2_lies 37 = .ok (.iaload, 1) := by decide +kernel
theorem dX2_lies_38 : decode cX2_lies 38 = .ok (.iload_n 2, 1) := by decide +kernel
theorem dX2_lies_39 : decode cX2_lies 39 = .ok (.if_icmp .gt 18, 3) := by decide +kernel
theorem dX2_lies_42 : decode cX2_lies 42 = .ok (.iload_n 2, 1) := by decide +kernel
theorem dX2_lies_43 : decode cX2_lies 43 = .ok (.aload_n 0, 1) := by decide +kernel
theorem dX2_lies_44 : decode cX2_lies 44 = .ok (.getfield 18, 3) := by decide +kernel
theorem dX2_lies_47 : decode cX2_lies 47 = .ok (.iload 5, 2) := by decide +kernel
theorem dX2_lies_49 : decode cX2_lies 49 = .ok (.iaload, 1) := by decide +kernel
theorem dX2_lies_50 : decode cX2_lies 50 = .ok (.if_icmp .gt 7, 3) := by decide +kernel
theorem dX2_lies_53 : decode cX2_lies 53 = .ok (.iconst 1, 1) := by decide +kernel
theorem dX2_lies_54 : decode cX2_lies 54 = .ok (.goto 4, 3) := by decide +kernel
theorem dX2_lies_57 : decode cX2_lies 57 = .ok (.iconst 0, 1) := by decide +kernel
theorem dX2_lies_58 : decode cX2_lies 58 = .ok (.istore 6, 2) := by decide +kernel
theorem dX2_lies_60 : decode cX2_lies 60 = .ok (.iload 6, 2) := by decide +kernel
theorem dX2_lies_62 : decode cX2_lies 62 = .ok (.ifCond .eq 25, 3) := by decide +kernel
theorem dX2_lies_65 : decode cX2_lies 65 = .ok (.aload_n 0, 1) := by decide +kernel
theorem dX2_lies_66 : decode cX2_lies 66 = .ok (.getfield 21, 3) := by decide +kernel
theorem dX2_lies_69 : decode cX2_lies 69 = .ok (.iload 5, 2) := by decide +kernel
theorem dX2_lies_71 : decode cX2_lies 71 = .ok (.iaload, 1) := by decide +kernel
theorem dX2_lies_72 : decode cX2_lies 72 = .ok (.iload_n 3, 1) := by decide +kernel
theorem dX2_lies_73 : decode cX2_lies 73 = .ok (.if_icmp .gt 14, 3) := by decide +kernel
theorem dX2_lies_76 : decode cX2_lies 76 = .ok (.aload_n 0, 1) := by decide +kernel
theorem dX2_lies_77 : decode cX2_lies 77 = .ok (.iload 5, 2) := by decide +kernel
theorem dX2_lies_79 : decode cX2_lies 79 = .ok (.iload_n 2, 1) := by decide +kernel
theorem dX2_lies_80 : decode cX2_lies 80 = .ok (.iload_n 3, 1) := by decide +kernel
theorem dX2_lies_81 : decode cX2_lies 81 = .ok (.invokevirtual 49, 3) := by decide +kernel
theorem dX2_lies_84 : decode cX2_lies 84 = .ok (.ifCond .eq 7, 3) := by decide +kernel
theorem dX2_lies_87 : decode cX2_lies 87 = .ok (.iconst 1, 1) := by decide +kernel
theorem dX2_lies_88 : decode cX2_lies 88 = .ok (.goto 4, 3) := by decide +kernel
theorem dX2_lies_91 : decode cX2_lies 91 = .ok (.iconst 0, 1) := by decide +kernel
theorem dX2_lies_92 : decode cX2_lies 92 = .ok (.istore 4, 2) := by decide +kernel
theorem dX2_lies_94 : decode cX2_lies 94 = .ok (.iinc 5 1, 3) := by decide +kernel
theorem dX2_lies_97 : decode cX2_lies 97 = .ok (.goto (-91), 3) := by decide +kernel
theorem dX2_lies_100 : decode cX2_lies 100 = .ok (.iload 4, 2) := by decide +kernel
theorem dX2_lies_102 : decode cX2_lies 102 = .ok (.ireturn, 1) := by decide +kernel
theorem dX2_isLying_0 : decode cX2_isLying 0 = .ok (.iload_n 1, 1) := by decide +kernel
theorem dX2_isLying_1 : decode cX2_isLying 1 = .ok (.invokestatic 80, 3) := by decide +kernel
theorem dX2_isLying_4 : decode cX2_isLying 4 = .ok (.ifCond .eq 16, 3) := by decide +kernel
theorem dX2_isLying_7 : decode cX2_isLying 7 = .ok (.aload_n 0, 1) := by decide +kernel
theorem dX2_isLying_8 : decode cX2_isLying 8 = .ok (.getfield 30, 3) := by decide +kernel
theorem dX2_isLying_11 : decode cX2_isLying 11 = .ok (.iload_n 1, 1) := by decide +kernel
theorem dX2_isLying_12 : decode cX2_isLying 12 = .ok (.baload, 1) := by decide +kernel
theorem dX2_isLying_13 : decode cX2_isLying 13 = .ok (.ifCond .eq 7, 3) := by decide +kernel
theorem dX2_isLying_16 : decode cX2_isLying 16 = .ok (.iconst 1, 1) := by decide +kernel
theorem dX2_isLying_17 : decode cX2_isLying 17 = .ok (.goto 4, 3) := by decide +kernel
theorem dX2_isLying_20 : decode cX2_isLying 20 = .ok (.iconst 0, 1) := by decide +kernel
theorem dX2_isLying_21 : decode cX2_isLying 21 = .ok (.ireturn, 1) := by decide +kernel
theorem dX2_tryMove_0 : decode cX2_tryMove 0 = .ok (.iconst 0, 1) := by decide +kernel
theorem dX2_tryMove_1 : decode cX2_tryMove 1 = .ok (.istore_n 3, 1) := by decide +kernel
theorem dX2_tryMove_2 : decode cX2_tryMove 2 = .ok (.iconst 0, 1) := by decide +kernel
theorem dX2_tryMove_3 : decode cX2_tryMove 3 = .ok (.istore 4, 2) := by decide +kernel
theorem dX2_tryMove_5 : decode cX2_tryMove 5 = .ok (.iconst 0, 1) := by decide +kernel
theorem dX2_tryMove_6 : decode cX2_tryMove 6 = .ok (.istore 5, 2) := by decide +kernel
theorem dX2_tryMove_8 : decode cX2_tryMove 8 = .ok (.iload 5, 2) := by decide +kernel
theorem dX2_tryMove_10 : decode cX2_tryMove 10 = .ok (.aload_n 0, 1) := by decide +kernel
theorem dX2_tryMove_11 : decode cX2_tryMove 11 = .ok (.getfield 34, 3) := by decide +kernel
theorem dX2_tryMove_14 : decode cX2_tryMove 14 = .ok (.getfield 61, 3) := by decide +kernel
theorem dX2_tryMove_17 : decode cX2_tryMove 17 = .ok (.if_icmp .ge 91, 3) := by decide +kernel
theorem dX2_tryMove_20 : decode cX2_tryMove 20 = .ok (.aload_n 0, 1) := by decide +kernel
theorem dX2_tryMove_21 : decode cX2_tryMove 21 = .ok (.getfield 34, 3) := by decide +kernel
theorem dX2_tryMove_24 : decode cX2_tryMove 24 = .ok (.getfield 64, 3) := by decide +kernel
theorem dX2_tryMove_27 : decode cX2_tryMove 27 = .ok (.iload 5, 2) := by decide +kernel
theorem dX2_tryMove_29 : decode cX2_tryMove 29 = .ok (.iaload, 1) := by decide +kernel
theorem dX2_tryMove_30 : decode cX2_tryMove 30 = .ok (.iload_n 1, 1) := by decide +kernel
theorem dX2_tryMove_31 : decode cX2_tryMove 31 = .ok (.iadd, 1) := by decide +kernel
theorem dX2_tryMove_32 : decode cX2_tryMove 32 = .ok (.istore 6, 2) := by decide +kernel
theorem dX2_tryMove_34 : decode cX2_tryMove 34 = .ok (.aload_n 0, 1) := by decide +kernel
theorem dX2_tryMove_35 : decode cX2_tryMove 35 = .ok (.iload 6, 2) := by decide +kernel
theorem dX2_tryMove_37 : decode cX2_tryMove 37 = .ok (.invokevirtual 67, 3) := by decide +kernel
theorem dX2_tryMove_40 : decode cX2_tryMove 40 = .ok (.ifCond .ne 62, 3) := by decide +kernel
theorem dX2_tryMove_43 : decode cX2_tryMove 43 = .ok (.aload_n 0, 1) := by decide +kernel
theorem dX2_tryMove_44 : decode cX2_tryMove 44 = .ok (.iload 6, 2) := by decide +kernel
theorem dX2_tryMove_46 : decode cX2_tryMove 46 = .ok (.bipush 12, 2) := by decide +kernel
theorem dX2_tryMove_48 : decode cX2_tryMove 48 = .ok (.iadd, 1) := by decide +kernel
theorem dX2_tryMove_49 : decode cX2_tryMove 49 = .ok (.invokevirtual 67, 3) := by decide +kernel
theorem dX2_tryMove_52 : decode cX2_tryMove 52 = .ok (.ifCond .ne 15, 3) := by decide +kernel
theorem dX2_tryMove_55 : decode cX2_tryMove 55 = .ok (.aload_n 0, 1) := by decide +kernel
theorem dX2_tryMove_56 : decode cX2_tryMove 56 = .ok (.iload 6, 2) := by decide +kernel
theorem dX2_tryMove_58 : decode cX2_tryMove 58 = .ok (.bipush 12, 2) := by decide +kernel
theorem dX2_tryMove_60 : decode cX2_tryMove 60 = .ok (.isub, 1) := by decide +kernel
theorem dX2_tryMove_61 : decode cX2_tryMove 61 = .ok (.invokevirtual 67, 3) := by decide +kernel
theorem dX2_tryMove_64 : decode cX2_tryMove 64 = .ok (.ifCond .eq 7, 3) := by decide +kernel
theorem dX2_tryMove_67 : decode cX2_tryMove 67 = .ok (.iconst 1, 1) := by decide +kernel
theorem dX2_tryMove_68 : decode cX2_tryMove 68 = .ok (.goto 4, 3) := by decide +kernel
theorem dX2_tryMove_71 : decode cX2_tryMove 71 = .ok (.iconst 0, 1) := by decide +kernel
theorem dX2_tryMove_72 : decode cX2_tryMove 72 = .ok (.istore 7, 2) := by decide +kernel
theorem dX2_tryMove_74 : decode cX2_tryMove 74 = .ok (.iload 4, 2) := by decide +kernel
theorem dX2_tryMove_76 : decode cX2_tryMove 76 = .ok (.iload 7, 2) := by decide +kernel
theorem dX2_tryMove_78 : decode cX2_tryMove 78 = .ok (.ifCond .eq 7, 3) := by decide +kernel
theorem dX2_tryMove_81 : decode cX2_tryMove 81 = .ok (.iconst 1, 1) := by decide +kernel
theorem dX2_tryMove_82 : decode cX2_tryMove 82 = .ok (.goto 4, 3) := by decide +kernel
theorem dX2_tryMove_85 : decode cX2_tryMove 85 = .ok (.iconst 0, 1) := by decide +kernel
theorem dX2_tryMove_86 : decode cX2_tryMove 86 = .ok (.iadd, 1) := by decide +kernel
theorem dX2_tryMove_87 : decode cX2_tryMove 87 = .ok (.istore 4, 2) := by decide +kernel
theorem dX2_tryMove_89 : decode cX2_tryMove 89 = .ok (.iload_n 3, 1) := by decide +kernel
theorem dX2_tryMove_90 : decode cX2_tryMove 90 = .ok (.iload 7, 2) := by decide +kernel
theorem dX2_tryMove_92 : decode cX2_tryMove 92 = .ok (.ifCond .eq 7, 3) := by decide +kernel
theorem dX2_tryMove_95 : decode cX2_tryMove 95 = .ok (.iconst 0, 1) := by decide +kernel
theorem dX2_tryMove_96 : decode cX2_tryMove 96 = .ok (.goto 4, 3) := by decide +kernel
theorem dX2_tryMove_99 : decode cX2_tryMove 99 = .ok (.iconst 1, 1) := by decide +kernel
theorem dX2_tryMove_100 : decode cX2_tryMove 100 = .ok (.iadd, 1) := by decide +kernel
theorem dX2_tryMove_101 : decode cX2_tryMove 101 = .ok (.istore_n 3, 1) := by decide +kernel
theorem dX2_tryMove_102 : decode cX2_tryMove 102 = .ok (.iinc 5 1, 3) := by decide +kernel
theorem dX2_tryMove_105 : decode cX2_tryMove 105 = .ok (.goto (-97), 3) := by decide +kernel
theorem dX2_tryMove_108 : decode cX2_tryMove 108 = .ok (.iload 4, 2) := by decide +kernel
theorem dX2_tryMove_110 : decode cX2_tryMove 110 = .ok (.iload_n 3, 1) := by decide +kernel
theorem dX2_tryMove_111 : decode cX2_tryMove 111 = .ok (.iconst 3, 1) := by decide +kernel
theorem dX2_tryMove_112 : decode cX2_tryMove 112 = .ok (.imul, 1) := by decide +kernel
theorem dX2_tryMove_113 : decode cX2_tryMove 113 = .ok (.iadd, 1) := by decide +kernel
theorem dX2_tryMove_114 : decode cX2_tryMove 114 = .ok (.istore 5, 2) := by decide +kernel
theorem dX2_tryMove_116 : decode cX2_tryMove 116 = .ok (.iload 5, 2) := by decide +kernel
theorem dX2_tryMove_118 : decode cX2_tryMove 118 = .ok (.iload_n 2, 1) := by decide +kernel
theorem dX2_tryMove_119 : decode cX2_tryMove 119 = .ok (.if_icmp .lt 5, 3) := by decide +kernel
theorem dX2_tryMove_122 : decode cX2_tryMove 122 = .ok (.iload_n 2, 1) := by decide +kernel
theorem dX2_tryMove_123 : decode cX2_tryMove 123 = .ok (.ireturn, 1) := by decide +kernel
theorem dX2_tryMove_124 : decode cX2_tryMove 124 = .ok (.aload_n 0, 1) := by decide +kernel
theorem dX2_tryMove_125 : decode cX2_tryMove 125 = .ok (.iload_n 1, 1) := by decide +kernel
theorem dX2_tryMove_126 : decode cX2_tryMove 126 = .ok (.putfield 71, 3) := by decide +kernel
theorem dX2_tryMove_129 : decode cX2_tryMove 129 = .ok (.aload_n 0, 1) := by decide +kernel
theorem dX2_tryMove_130 : decode cX2_tryMove 130 = .ok (.iload_n 3, 1) := by decide +kernel
theorem dX2_tryMove_131 : decode cX2_tryMove 131 = .ok (.putfield 74, 3) := by decide +kernel
theorem dX2_tryMove_134 : decode cX2_tryMove 134 = .ok (.aload_n 0, 1) := by decide +kernel
theorem dX2_tryMove_135 : decode cX2_tryMove 135 = .ok (.iload 4, 2) := by decide +kernel
theorem dX2_tryMove_137 : decode cX2_tryMove 137 = .ok (.putfield 77, 3) := by decide +kernel
theorem dX2_tryMove_140 : decode cX2_tryMove 140 = .ok (.iload 5, 2) := by decide +kernel
theorem dX2_tryMove_142 : decode cX2_tryMove 142 = .ok (.ireturn, 1) := by decide +kernel
theorem dX2_seekKey_0 : decode cX2_seekKey 0 = .ok (.iconst 0, 1) := by decide +kernel
theorem dX2_seekKey_1 : decode cX2_seekKey 1 = .ok (.istore_n 3, 1) := by decide +kernel
theorem dX2_seekKey_2 : decode cX2_seekKey 2 = .ok (.iload_n 3, 1) := by decide +kernel
theorem dX2_seekKey_3 : decode cX2_seekKey 3 = .ok (.bipush 48, 2) := by decide +kernel
theorem dX2_seekKey_5 : decode cX2_seekKey 5 = .ok (.if_icmp .ge 22, 3) := by decide +kernel
theorem dX2_seekKey_8 : decode cX2_seekKey 8 = .ok (.aload_n 0, 1) := by decide +kernel
theorem dX2_seekKey_9 : decode cX2_seekKey 9 = .ok (.getfield 30, 3) := by decide +kernel
theorem dX2_seekKey_12 : decode cX2_seekKey 12 = .ok (.iload_n 3, 1) := by decide +kernel
theorem dX2_seekKey_13 : decode cX2_seekKey 13 = .ok (.aload_n 0, 1) := by decide +kernel
theorem dX2_seekKey_14 : decode cX2_seekKey 14 = .ok (.iload_n 3, 1) := by decide +kernel
theorem dX2_seekKey_15 : decode cX2_seekKey 15 = .ok (.iload_n 1, 1) := by decide +kernel
theorem dX2_seekKey_16 : decode cX2_seekKey 16 = .ok (.iload_n 2, 1) := by decide +kernel
theorem dX2_seekKey_17 : decode cX2_seekKey 17 = .ok (.invokevirtual 53, 3) := by decide +kernel
theorem dX2_seekKey_20 : decode cX2_seekKey 20 = .ok (.bastore, 1) := by decide +kernel
theorem dX2_seekKey_21 : decode cX2_seekKey 21 = .ok (.iinc 3 1, 3) := by decide +kernel
theorem dX2_seekKey_24 : decode cX2_seekKey 24 = .ok (.goto (-22), 3) := by decide +kernel
theorem dX2_seekKey_27 : decode cX2_seekKey 27 = .ok (.aload_n 0, 1) := by decide +kernel
theorem dX2_seekKey_28 : decode cX2_seekKey 28 = .ok (.iconst 1, 1) := by decide +kernel
theorem dX2_seekKey_29 : decode cX2_seekKey 29 = .ok (.putfield 38, 3) := by decide +kernel
theorem dX2_seekKey_32 : decode cX2_seekKey 32 = .ok (.ldc 56, 2) := by decide +kernel
theorem dX2_seekKey_34 : decode cX2_seekKey 34 = .ok (.istore_n 3, 1) := by decide +kernel
theorem dX2_seekKey_35 : decode cX2_seekKey 35 = .ok (.iconst 0, 1) := by decide +kernel
theorem dX2_seekKey_36 : decode cX2_seekKey 36 = .ok (.istore 4, 2) := by decide +kernel
theorem dX2_seekKey_38 : decode cX2_seekKey 38 = .ok (.iload 4, 2) := by decide +kernel
theorem dX2_seekKey_40 : decode cX2_seekKey 40 = .ok (.bipush 12, 2) := by decide +kernel
theorem dX2_seekKey_42 : decode cX2_seekKey 42 = .ok (.if_icmp .gt 26, 3) := by decide +kernel
theorem dX2_seekKey_45 : decode cX2_seekKey 45 = .ok (.aload_n 0, 1) := by decide +kernel
theorem dX2_seekKey_46 : decode cX2_seekKey 46 = .ok (.iload 4, 2) := by decide +kernel
theorem dX2_seekKey_48 : decode cX2_seekKey 48 = .ok (.iload_n 3, 1) := by decide +kernel
theorem dX2_seekKey_49 : decode cX2_seekKey 49 = .ok (.invokevirtual 57, 3) := by decide +kernel
theorem dX2_seekKey_52 : decode cX2_seekKey 52 = .ok (.istore_n 3, 1) := by decide +kernel
theorem dX2_seekKey_53 : decode cX2_seekKey 53 = .ok (.aload_n 0, 1) := by decide +kernel
theorem dX2_seekKey_54 : decode cX2_seekKey 54 = .ok (.iload 4, 2) := by decide +kernel
theorem dX2_seekKey_56 : decode cX2_seekKey 56 = .ok (.ineg, 1) := by decide +kernel
theorem dX2_seekKey_57 : decode cX2_seekKey 57 = .ok (.iload_n 3, 1) := by decide +kernel
theorem dX2_seekKey_58 : decode cX2_seekKey 58 = .ok (.invokevirtual 57, 3) := by decide +kernel
theorem dX2_seekKey_61 : decode cX2_seekKey 61 = .ok (.istore_n 3, 1) := by decide +kernel
theorem dX2_seekKey_62 : decode cX2_seekKey 62 = .ok (.iinc 4 1, 3) := by decide +kernel
theorem dX2_seekKey_65 : decode cX2_seekKey 65 = .ok (.goto (-27), 3) := by decide +kernel
theorem dX2_seekKey_68 : decode cX2_seekKey 68 = .ok (.iload_n 3, 1) := by decide +kernel
theorem dX2_seekKey_69 : decode cX2_seekKey 69 = .ok (.ireturn, 1) := by decide +kernel
abbrev mX2_forgetKey : MI := (yX2_forgetKey, cX2_forgetKey, 1, none, 1, 21, [])
abbrev mX2_add : MI := (yX2_add, cX2_add, 5, some .int, 1, 21, [])
abbrev mX2_addBack : MI := (yX2_addBack, cX2_addBack, 3, some .boolean, 1, 21, [])
abbrev mX2_isBackBy : MI := (yX2_isBackBy, cX2_isBackBy, 4, some .boolean, 1, 21, [])
abbrev mX2_lies : MI := (yX2_lies, cX2_lies, 7, some .boolean, 2, 44, [])
abbrev mX2_isLying : MI := (yX2_isLying, cX2_isLying, 2, some .boolean, 2, 41, [])
abbrev mX2_tryMove : MI := (yX2_tryMove, cX2_tryMove, 8, some .int, 3, 62, [])
abbrev mX2_seekKey : MI := (yX2_seekKey, cX2_seekKey, 5, some .int, 4, 89, [])
theorem co_X2_56 : Cond.constant RX2 56 16777216 ∈ lw_w := lw_in (i := 1050) (by decide +kernel) (by decide +kernel)
theorem fk_X2_9 : Fk RX2 9 2 7 := ⟨RX2, TX2, 14, tyX2, rfl, inX2, by decide, lw_in (i := 390) (by decide +kernel) (by decide +kernel), tyX2_ok, nmX2⟩
theorem fk_X2_15 : Fk RX2 15 2 8 := ⟨RX2, TX2, 14, tyX2, rfl, inX2, by decide, lw_in (i := 391) (by decide +kernel) (by decide +kernel), tyX2_ok, nmX2⟩
theorem fk_X2_18 : Fk RX2 18 2 9 := ⟨RX2, TX2, 14, tyX2, rfl, inX2, by decide, lw_in (i := 392) (by decide +kernel) (by decide +kernel), tyX2_ok, nmX2⟩
theorem fk_X2_21 : Fk RX2 21 2 10 := ⟨RX2, TX2, 14, tyX2, rfl, inX2, by decide, lw_in (i := 393) (by decide +kernel) (by decide +kernel), tyX2_ok, nmX2⟩
theorem fk_X2_24 : Fk RX2 24 2 11 := ⟨RX2, TX2, 14, tyX2, rfl, inX2, by decide, lw_in (i := 394) (by decide +kernel) (by decide +kernel), tyX2_ok, nmX2⟩
theorem fk_X2_27 : Fk RX2 27 2 12 := ⟨RX2, TX2, 14, tyX2, rfl, inX2, by decide, lw_in (i := 395) (by decide +kernel) (by decide +kernel), tyX2_ok, nmX2⟩
theorem fk_X2_30 : Fk RX2 30 2 13 := ⟨RX2, TX2, 14, tyX2, rfl, inX2, by decide, lw_in (i := 396) (by decide +kernel) (by decide +kernel), tyX2_ok, nmX2⟩
theorem fk_X2_34 : Fk RX2 34 2 0 := ⟨RX2, TX2, 14, tyX2, rfl, inX2, by decide, lw_in (i := 377) (by decide +kernel) (by decide +kernel), tyX2_ok, nmX2⟩
theorem fk_X2_38 : Fk RX2 38 2 3 := ⟨RX2, TX2, 14, tyX2, rfl, inX2, by decide, lw_in (i := 382) (by decide +kernel) (by decide +kernel), tyX2_ok, nmX2⟩
theorem fk_X2_42 : Fk RX2 42 2 2 := ⟨RX2, TX2, 14, tyX2, rfl, inX2, by decide, lw_in (i := 380) (by decide +kernel) (by decide +kernel), tyX2_ok, nmX2⟩
theorem fk_X2_46 : Fk RX2 46 2 1 := ⟨RX2, TX2, 14, tyX2, rfl, inX2, by decide, lw_in (i := 378) (by decide +kernel) (by decide +kernel), tyX2_ok, nmX2⟩
theorem fk_X2_61 : Fk RX2 61 9 4 := ⟨RX9, TX9, 5, tyX9, rfl, inX9, by decide, lw_in (i := 113) (by decide +kernel) (by decide +kernel), tyX9_ok, nmX9⟩
theorem fk_X2_64 : Fk RX2 64 9 1 := ⟨RX9, TX9, 5, tyX9, rfl, inX9, by decide, lw_in (i := 93) (by decide +kernel) (by decide +kernel), tyX9_ok, nmX9⟩
theorem fk_X2_71 : Fk RX2 71 2 4 := ⟨RX2, TX2, 14, tyX2, rfl, inX2, by decide, lw_in (i := 384) (by decide +kernel) (by decide +kernel), tyX2_ok, nmX2⟩
theorem fk_X2_74 : Fk RX2 74 2 5 := ⟨RX2, TX2, 14, tyX2, rfl, inX2, by decide, lw_in (i := 386) (by decide +kernel) (by decide +kernel), tyX2_ok, nmX2⟩
theorem fk_X2_77 : Fk RX2 77 2 6 := ⟨RX2, TX2, 14, tyX2, rfl, inX2, by decide, lw_in (i := 388) (by decide +kernel) (by decide +kernel), tyX2_ok, nmX2⟩
theorem fp_X2_2 : Fp 2 2 .int := ⟨RX2, TX2, 14, rfl, rfl, by decide +kernel⟩
theorem fp_X2_3 : Fp 2 3 .boolean := ⟨RX2, TX2, 14, rfl, rfl, by decide +kernel⟩
theorem fp_X2_4 : Fp 2 4 .int := ⟨RX2, TX2, 14, rfl, rfl, by decide +kernel⟩
theorem fp_X2_5 : Fp 2 5 .int := ⟨RX2, TX2, 14, rfl, rfl, by decide +kernel⟩
theorem fp_X2_6 : Fp 2 6 .int := ⟨RX2, TX2, 14, rfl, rfl, by decide +kernel⟩
theorem mv_X2_isBackBy : MkV mX2_isBackBy := ⟨lw_in (i := 1039) (by decide +kernel) (by decide +kernel), lw_se (i := 43) (by decide +kernel) (by decide +kernel)⟩
theorem mv_X2_isLying : MkV mX2_isLying := ⟨lw_in (i := 1057) (by decide +kernel) (by decide +kernel), lw_se (i := 45) (by decide +kernel) (by decide +kernel)⟩
theorem mv_X2_lies : MkV mX2_lies := ⟨lw_in (i := 1034) (by decide +kernel) (by decide +kernel), lw_in (i := 1035) (by decide +kernel) (by decide +kernel)⟩
theorem mv_X2_tryMove : MkV mX2_tryMove := ⟨lw_in (i := 1053) (by decide +kernel) (by decide +kernel), lw_se (i := 44) (by decide +kernel) (by decide +kernel)⟩
theorem mk_X2_49 : Mk RX2 49 mX2_isBackBy 3 := ⟨lw_in (i := 1037) (by decide +kernel) (by decide +kernel), lw_in (i := 13) (by decide +kernel) (by decide +kernel), lw_in (i := 1040) (by decide +kernel) (by decide +kernel), by decide +kernel⟩
theorem mk_X2_53 : Mk RX2 53 mX2_lies 3 := ⟨lw_in (i := 1049) (by decide +kernel) (by decide +kernel), lw_in (i := 13) (by decide +kernel) (by decide +kernel), lw_in (i := 1036) (by decide +kernel) (by decide +kernel), by decide +kernel⟩
theorem mk_X2_57 : Mk RX2 57 mX2_tryMove 2 := ⟨lw_in (i := 1051) (by decide +kernel) (by decide +kernel), lw_in (i := 13) (by decide +kernel) (by decide +kernel), lw_in (i := 1054) (by decide +kernel) (by decide +kernel), by decide +kernel⟩
theorem mk_X2_67 : Mk RX2 67 mX2_isLying 1 := ⟨lw_in (i := 1055) (by decide +kernel) (by decide +kernel), lw_in (i := 13) (by decide +kernel) (by decide +kernel), lw_in (i := 1058) (by decide +kernel) (by decide +kernel), by decide +kernel⟩
theorem rm_X2_isLying_X11_isBell : Rm mX2_isLying mX11_isBell := ⟨by decide, by decide⟩
theorem rm_X2_lies_X2_isBackBy : Rm mX2_lies mX2_isBackBy := ⟨by decide, by decide⟩
theorem rm_X2_seekKey_X2_lies : Rm mX2_seekKey mX2_lies := ⟨by decide, by decide⟩
theorem rm_X2_seekKey_X2_tryMove : Rm mX2_seekKey mX2_tryMove := ⟨by decide, by decide⟩
theorem rm_X2_tryMove_X2_isLying : Rm mX2_tryMove mX2_isLying := ⟨by decide, by decide⟩
section W_days
variable {l : Launch} {D : va_G} {ad : Nat → Nat} {kA : Nat → ClassId} {M : Mem} {Q : Outcome → Mem → Prop}
theorem t_X2_forgetKey_0  
    (K1 : Q (.returned none) (sI M 44 3 0)) : Fw l D ad kA mX2_forgetKey 0 [some (.ref (ad 44))] [] M Q := by
  refine r_aload_n dX2_forgetKey_0 rfl ?_
  refine r_iconst (v := 0) dX2_forgetKey_1 kI_0 ?_
  refine r_putZ dX2_forgetKey_2 fs_44_3 fk_X2_38 fp_X2_3 (Or.inl rfl) ?_
  exact r_vret dX2_forgetKey_5 rfl K1
theorem en_X2_forgetKey  (K : Fw l D ad kA mX2_forgetKey 0 [some (.ref (ad 44))] [] M Q) : Cal l D ad kA mX2_forgetKey [.ref (ad 44)] M Q := Cal.of (by decide) rfl rfl (Nat.le_of_ble_eq_true rfl) K
theorem t_X2_add_0 {x1 : Int32} {x2 : Int32} {x3 : Int32} 
    (g1 : vp_in (gI M 44 2) 60)
    (K1 : Q (.returned (some (.int (gI M 44 2)))) (sI (sI (sI (sI (sI (sI M 45 (gI M 44 2).toNatClampNeg x1) 46 (gI M 44 2).toNatClampNeg x2) 47 (gI M 44 2).toNatClampNeg x3) 48 (gI M 44 2).toNatClampNeg (gI M 44 1)) 49 (gI M 44 2).toNatClampNeg (-1)) 44 2 ((gI M 44 2) + 1))) : Fw l D ad kA mX2_add 0 [some (.ref (ad 44)), some (.int x1), some (.int x2), some (.int x3), none] [] M Q := by
  refine r_aload_n dX2_add_0 rfl ?_
  refine r_getI dX2_add_1 fs_44_2 fk_X2_42 ?_
  refine q_istore (lo' := [some (.ref (ad 44)), some (.int x1), some (.int x2), some (.int x3), some (.int (gI M 44 2))]) dX2_add_4 (by decide) rfl ?_
  refine r_aload_n dX2_add_6 rfl ?_
  refine r_getR dX2_add_7 fs_44_7 fk_X2_9 ?_
  refine r_iload dX2_add_10 rfl ?_
  refine r_iload_n dX2_add_12 rfl ?_
  refine r_iast dX2_add_13 as_45 g1 ?_
  refine r_aload_n dX2_add_14 rfl ?_
  refine r_getR dX2_add_15 fs_44_8 fk_X2_15 ?_
  refine r_iload dX2_add_18 rfl ?_
  refine r_iload_n dX2_add_20 rfl ?_
  refine r_iast dX2_add_21 as_46 g1 ?_
  refine r_aload_n dX2_add_22 rfl ?_
  refine r_getR dX2_add_23 fs_44_9 fk_X2_18 ?_
  refine r_iload dX2_add_26 rfl ?_
  refine r_iload_n dX2_add_28 rfl ?_
  refine r_iast dX2_add_29 as_47 g1 ?_
  refine r_aload_n dX2_add_30 rfl ?_
  refine r_getR dX2_add_31 fs_44_10 fk_X2_21 ?_
  refine r_iload dX2_add_34 rfl ?_
  refine r_aload_n dX2_add_36 rfl ?_
  refine q_getI (v := gI M 44 1) dX2_add_37 fs_44_1 fk_X2_46 rfl ?_
  refine r_iast dX2_add_40 as_48 g1 ?_
  refine r_aload_n dX2_add_41 rfl ?_
  refine r_getR dX2_add_42 fs_44_11 fk_X2_24 ?_
  refine r_iload dX2_add_45 rfl ?_
  refine r_iconst (v := (-1)) dX2_add_47 kI_m1 ?_
  refine r_iast dX2_add_48 as_49 g1 ?_
  refine r_aload_n dX2_add_49 rfl ?_
  refine r_dup dX2_add_50 rfl ?_
  refine q_getI (v := gI M 44 2) dX2_add_51 fs_44_2 fk_X2_42 rfl ?_
  refine r_iconst (v := 1) dX2_add_54 kI_1 ?_
  refine r_iadd dX2_add_55 ?_
  refine r_putI dX2_add_56 fs_44_2 fk_X2_42 fp_X2_2 ?_
  refine r_iload dX2_add_59 rfl ?_
  exact r_iret dX2_add_61 rfl K1
theorem en_X2_add {x1 : Int32} {x2 : Int32} {x3 : Int32} (K : Fw l D ad kA mX2_add 0 [some (.ref (ad 44)), some (.int x1), some (.int x2), some (.int x3), none] [] M Q) : Cal l D ad kA mX2_add [.ref (ad 44), .int x1, .int x2, .int x3] M Q := Cal.of (by decide) rfl rfl (Nat.le_of_ble_eq_true rfl) K
theorem t_X2_addBack_0 {x1 : Int32} {x2 : Int32} 
    (g1 : vp_in x1 60)
    (K1 : ((gI M 49 x1.toNatClampNeg) = (-1)) → Q (.returned (some (.int 1))) (sI (sI M 49 x1.toNatClampNeg x2) 50 x1.toNatClampNeg (gI M 44 1)))
    (K2 : (¬ ((gI M 49 x1.toNatClampNeg) = (-1))) → Q (.returned (some (.int 0))) M) : Fw l D ad kA mX2_addBack 0 [some (.ref (ad 44)), some (.int x1), some (.int x2)] [] M Q := by
  refine r_aload_n dX2_addBack_0 rfl ?_
  refine r_getR dX2_addBack_1 fs_44_11 fk_X2_24 ?_
  refine r_iload_n dX2_addBack_4 rfl ?_
  refine r_iald dX2_addBack_5 as_49 g1 ?_
  refine r_iconst (v := (-1)) dX2_addBack_6 kI_m1 ?_
  refine r_icmp_eq (tgt := 12) dX2_addBack_7 (by decide) (fun c1 => ?_) (fun c1 => ?_)
  · skip
    refine r_aload_n dX2_addBack_12 rfl ?_
    refine r_getR dX2_addBack_13 fs_44_11 fk_X2_24 ?_
    refine r_iload_n dX2_addBack_16 rfl ?_
    refine r_iload_n dX2_addBack_17 rfl ?_
    refine r_iast dX2_addBack_18 as_49 g1 ?_
    refine r_aload_n dX2_addBack_19 rfl ?_
    refine r_getR dX2_addBack_20 fs_44_12 fk_X2_27 ?_
    refine r_iload_n dX2_addBack_23 rfl ?_
    refine r_aload_n dX2_addBack_24 rfl ?_
    refine q_getI (v := gI M 44 1) dX2_addBack_25 fs_44_1 fk_X2_46 rfl ?_
    refine r_iast dX2_addBack_28 as_50 g1 ?_
    refine r_iconst (v := 1) dX2_addBack_29 kI_1 ?_
    exact r_zret dX2_addBack_30 rfl (by decide) (K1 c1)
  · skip
    refine r_iconst (v := 0) dX2_addBack_10 kI_0 ?_
    exact r_zret dX2_addBack_11 rfl (by decide) (K2 c1)
theorem en_X2_addBack {x1 : Int32} {x2 : Int32} (K : Fw l D ad kA mX2_addBack 0 [some (.ref (ad 44)), some (.int x1), some (.int x2)] [] M Q) : Cal l D ad kA mX2_addBack [.ref (ad 44), .int x1, .int x2] M Q := Cal.of (by decide) rfl rfl (Nat.le_of_ble_eq_true rfl) K
def v_X2_isBackBy (M : Mem) (x1 : Int32) (x2 : Int32) (x3 : Int32) : Int32 := if (gI M 49 x1.toNatClampNeg) = (-1) then 0 else if x3 < (gI M 50 x1.toNatClampNeg) then 0 else if x2 < (gI M 49 x1.toNatClampNeg) then 0 else 1
def g_X2_isBackBy (M : Mem) (x1 : Int32) (x2 : Int32) (x3 : Int32) : Prop := (vp_in x1 60)
theorem ct_X2_isBackBy {x1 : Int32} {x2 : Int32} {x3 : Int32}  (g : g_X2_isBackBy M x1 x2 x3) (h : Q (.returned (some (.int (v_X2_isBackBy M x1 x2 x3)))) M) : Cal l D ad kA mX2_isBackBy [.ref (ad 44), .int x1, .int x2, .int x3] M Q := by
  refine Cal.of (lo := [some (.ref (ad 44)), some (.int x1), some (.int x2), some (.int x3)]) (by decide) rfl rfl (Nat.le_of_ble_eq_true rfl) ?_
  have g1 := g
  refine r_aload_n dX2_isBackBy_0 rfl ?_
  refine r_getR dX2_isBackBy_1 fs_44_11 fk_X2_24 ?_
  refine r_iload_n dX2_isBackBy_4 rfl ?_
  refine r_iald dX2_isBackBy_5 as_49 g1 ?_
  refine r_iconst (v := (-1)) dX2_isBackBy_6 kI_m1 ?_
  suffices hJ1 : Fw l D ad kA mX2_isBackBy 35 [none, none, none, none] [.int (if (gI M 49 x1.toNatClampNeg) = (-1) then 0 else if x3 < (gI M 50 x1.toNatClampNeg) then 0 else if x2 < (gI M 49 x1.toNatClampNeg) then 0 else 1)] M Q by
    refine r_icmp_eq (tgt := 34) dX2_isBackBy_7 (by decide) (fun c1 => ?_) (fun c1 => ?_)
    · skip
      refine r_iconst (v := 0) dX2_isBackBy_34 kI_0 ?_
      exact q_weak (lo' := [none, none, none, none]) trivial (by have h9 := hJ1; simp only [if_pos c1] at h9; first | exact h9 | (simp only [if_pos c1]; exact h9))
    · skip
      refine r_aload_n dX2_isBackBy_10 rfl ?_
      refine r_getR dX2_isBackBy_11 fs_44_12 fk_X2_27 ?_
      refine r_iload_n dX2_isBackBy_14 rfl ?_
      refine r_iald dX2_isBackBy_15 as_50 g1 ?_
      refine r_iload_n dX2_isBackBy_16 rfl ?_
      refine r_icmp_gt (tgt := 34) dX2_isBackBy_17 (by decide) (fun c2 => ?_) (fun c2 => ?_)
      · skip
        refine r_iconst (v := 0) dX2_isBackBy_34 kI_0 ?_
        exact q_weak (lo' := [none, none, none, none]) trivial (by have h9 := hJ1; simp only [if_neg c1, if_pos c2] at h9; first | exact h9 | (simp only [if_neg c1, if_pos c2]; exact h9))
      · skip
        refine r_aload_n dX2_isBackBy_20 rfl ?_
        refine r_getR dX2_isBackBy_21 fs_44_11 fk_X2_24 ?_
        refine r_iload_n dX2_isBackBy_24 rfl ?_
        refine r_iald dX2_isBackBy_25 as_49 g1 ?_
        refine r_iload_n dX2_isBackBy_26 rfl ?_
        refine r_icmp_gt (tgt := 34) dX2_isBackBy_27 (by decide) (fun c3 => ?_) (fun c3 => ?_)
        · skip
          refine r_iconst (v := 0) dX2_isBackBy_34 kI_0 ?_
          exact q_weak (lo' := [none, none, none, none]) trivial (by have h9 := hJ1; simp only [if_neg c1, if_neg c2, if_pos c3] at h9; first | exact h9 | (simp only [if_neg c1, if_neg c2, if_pos c3]; exact h9))
        · skip
          refine r_iconst (v := 1) dX2_isBackBy_30 kI_1 ?_
          refine r_goto (tgt := 35) dX2_isBackBy_31 (by decide) ?_
          exact q_weak (lo' := [none, none, none, none]) trivial (by have h9 := hJ1; simp only [if_neg c1, if_neg c2, if_neg c3] at h9; first | exact h9 | (simp only [if_neg c1, if_neg c2, if_neg c3]; exact h9))
  exact r_zret dX2_isBackBy_35 rfl (nar_z (ite01 (Or.inl rfl) (ite01 (Or.inl rfl) (ite01 (Or.inl rfl) (Or.inr rfl))))).1 h
theorem z_X2_isBackBy {M : Mem} {x1 : Int32} {x2 : Int32} {x3 : Int32} : v_X2_isBackBy M x1 x2 x3 = 0 ∨ v_X2_isBackBy M x1 x2 x3 = 1 := (ite01 (Or.inl rfl) (ite01 (Or.inl rfl) (ite01 (Or.inl rfl) (Or.inr rfl))))
theorem t_X2_lies_0 {x1 : Int32} {x2 : Int32} {x3 : Int32} 
    (K1 : Fw l D ad kA mX2_lies 6 [some (.ref (ad 44)), some (.int x1), some (.int x2), some (.int x3), some (.int 1), some (.int 0), none] [] M Q) : Fw l D ad kA mX2_lies 0 [some (.ref (ad 44)), some (.int x1), some (.int x2), some (.int x3), none, none, none] [] M Q := by
  refine r_iconst (v := 1) dX2_lies_0 kI_1 ?_
  refine q_istore (lo' := [some (.ref (ad 44)), some (.int x1), some (.int x2), some (.int x3), some (.int 1), none, none]) dX2_lies_1 (by decide) rfl ?_
  refine r_iconst (v := 0) dX2_lies_3 kI_0 ?_
  refine q_istore (lo' := [some (.ref (ad 44)), some (.int x1), some (.int x2), some (.int x3), some (.int 1), some (.int 0), none]) dX2_lies_4 (by decide) rfl ?_
  exact K1
theorem t_X2_lies_6 {x1 : Int32} {x2 : Int32} {x3 : Int32} {x4 : Int32} {x5 : Int32} 
    (g1 : ((gI M 44 2) ≤ x5) → x4 = 0 ∨ x4 = 1)
    (g2 : (¬ ((gI M 44 2) ≤ x5)) → (x4 = 0) → x4 = 0 ∨ x4 = 1)
    (g3 : (¬ ((gI M 44 2) ≤ x5)) → (¬ (x4 = 0)) → vp_in x5 60)
    (g4 : (¬ ((gI M 44 2) ≤ x5)) → (¬ (x4 = 0)) → (¬ ((if (gI M 45 x5.toNatClampNeg) = x1 then if x2 < (gI M 46 x5.toNatClampNeg) then 0 else if (gI M 47 x5.toNatClampNeg) < x2 then 0 else 1 else 0 : Int32) = 0)) → (¬ (x3 < (gI M 48 x5.toNatClampNeg))) → g_X2_isBackBy M x5 x2 x3)
    (K1 : ((gI M 44 2) ≤ x5) → Q (.returned (some (.int x4))) M)
    (K2 : (¬ ((gI M 44 2) ≤ x5)) → (x4 = 0) → Q (.returned (some (.int x4))) M)
    (K3 : (¬ ((gI M 44 2) ≤ x5)) → (¬ (x4 = 0)) → Fw l D ad kA mX2_lies 6 [some (.ref (ad 44)), some (.int x1), some (.int x2), some (.int x3), some (.int (if (if (gI M 45 x5.toNatClampNeg) = x1 then if x2 < (gI M 46 x5.toNatClampNeg) then 0 else if (gI M 47 x5.toNatClampNeg) < x2 then 0 else 1 else 0 : Int32) = 0 then 1 else if x3 < (gI M 48 x5.toNatClampNeg) then 1 else if (v_X2_isBackBy M x5 x2 x3) = 0 then 0 else 1)), some (.int (x5 + 1)), none] [] M Q) : Fw l D ad kA mX2_lies 6 [some (.ref (ad 44)), some (.int x1), some (.int x2), some (.int x3), some (.int x4), some (.int x5), none] [] M Q := by
  refine r_iload dX2_lies_6 rfl ?_
  refine r_aload_n dX2_lies_8 rfl ?_
  refine r_getI dX2_lies_9 fs_44_2 fk_X2_42 ?_
  refine r_icmp_ge (tgt := 100) dX2_lies_12 (by decide) (fun c1 => ?_) (fun c1 => ?_)
  · skip
    refine r_iload dX2_lies_100 rfl ?_
    exact r_zret dX2_lies_102 rfl (nar_z (g1 c1)).1 (K1 c1)
  · skip
    refine r_iload dX2_lies_15 rfl ?_
    refine r_if_eq (tgt := 100) dX2_lies_17 (by decide) (fun c2 => ?_) (fun c2 => ?_)
    · skip
      refine r_iload dX2_lies_100 rfl ?_
      exact r_zret dX2_lies_102 rfl (nar_z (g2 c1 c2)).1 (K2 c1 c2)
    · skip
      refine r_aload_n dX2_lies_20 rfl ?_
      refine r_getR dX2_lies_21 fs_44_7 fk_X2_9 ?_
      refine r_iload dX2_lies_24 rfl ?_
      refine r_iald dX2_lies_26 as_45 (g3 c1 c2) ?_
      refine r_iload_n dX2_lies_27 rfl ?_
      suffices hJ1 : Fw l D ad kA mX2_lies 58 [some (.ref (ad 44)), some (.int x1), some (.int x2), some (.int x3), none, some (.int x5), none] [.int (if (gI M 45 x5.toNatClampNeg) = x1 then if x2 < (gI M 46 x5.toNatClampNeg) then 0 else if (gI M 47 x5.toNatClampNeg) < x2 then 0 else 1 else 0)] M Q by
        refine r_icmp_ne (tgt := 57) dX2_lies_28 (by decide) (fun c3 => ?_) (fun c3 => ?_)
        · skip
          refine r_iconst (v := 0) dX2_lies_57 kI_0 ?_
          exact q_weak (lo' := [some (.ref (ad 44)), some (.int x1), some (.int x2), some (.int x3), none, some (.int x5), none]) ⟨rfl, rfl, rfl, rfl, rfl, trivial⟩ (by have h9 := hJ1; simp only [if_neg c3] at h9; first | exact h9 | (simp only [if_neg c3]; exact h9))
        · skip
          refine r_aload_n dX2_lies_31 rfl ?_
          refine r_getR dX2_lies_32 fs_44_8 fk_X2_15 ?_
          refine r_iload dX2_lies_35 rfl ?_
          refine r_iald dX2_lies_37 as_46 (g3 c1 c2) ?_
          refine r_iload_n dX2_lies_38 rfl ?_
          refine r_icmp_gt (tgt := 57) dX2_lies_39 (by decide) (fun c4 => ?_) (fun c4 => ?_)
          · skip
            refine r_iconst (v := 0) dX2_lies_57 kI_0 ?_
            exact q_weak (lo' := [some (.ref (ad 44)), some (.int x1), some (.int x2), some (.int x3), none, some (.int x5), none]) ⟨rfl, rfl, rfl, rfl, rfl, trivial⟩ (by have h9 := hJ1; simp only [if_pos c3, if_pos c4] at h9; first | exact h9 | (simp only [if_pos c3, if_pos c4]; exact h9))
          · skip
            refine r_iload_n dX2_lies_42 rfl ?_
            refine r_aload_n dX2_lies_43 rfl ?_
            refine r_getR dX2_lies_44 fs_44_9 fk_X2_18 ?_
            refine r_iload dX2_lies_47 rfl ?_
            refine r_iald dX2_lies_49 as_47 (g3 c1 c2) ?_
            refine r_icmp_gt (tgt := 57) dX2_lies_50 (by decide) (fun c5 => ?_) (fun c5 => ?_)
            · skip
              refine r_iconst (v := 0) dX2_lies_57 kI_0 ?_
              exact q_weak (lo' := [some (.ref (ad 44)), some (.int x1), some (.int x2), some (.int x3), none, some (.int x5), none]) ⟨rfl, rfl, rfl, rfl, rfl, trivial⟩ (by have h9 := hJ1; simp only [if_pos c3, if_neg c4, if_pos c5] at h9; first | exact h9 | (simp only [if_pos c3, if_neg c4, if_pos c5]; exact h9))
            · skip
              refine r_iconst (v := 1) dX2_lies_53 kI_1 ?_
              refine r_goto (tgt := 58) dX2_lies_54 (by decide) ?_
              exact q_weak (lo' := [some (.ref (ad 44)), some (.int x1), some (.int x2), some (.int x3), none, some (.int x5), none]) ⟨rfl, rfl, rfl, rfl, rfl, trivial⟩ (by have h9 := hJ1; simp only [if_pos c3, if_neg c4, if_neg c5] at h9; first | exact h9 | (simp only [if_pos c3, if_neg c4, if_neg c5]; exact h9))
      refine q_istore (lo' := [some (.ref (ad 44)), some (.int x1), some (.int x2), some (.int x3), none, some (.int x5), some (.int (if (gI M 45 x5.toNatClampNeg) = x1 then if x2 < (gI M 46 x5.toNatClampNeg) then 0 else if (gI M 47 x5.toNatClampNeg) < x2 then 0 else 1 else 0))]) dX2_lies_58 (by decide) rfl ?_
      refine r_iload dX2_lies_60 rfl ?_
      suffices hJ2 : Fw l D ad kA mX2_lies 92 [some (.ref (ad 44)), some (.int x1), some (.int x2), some (.int x3), none, some (.int x5), none] [.int (if (if (gI M 45 x5.toNatClampNeg) = x1 then if x2 < (gI M 46 x5.toNatClampNeg) then 0 else if (gI M 47 x5.toNatClampNeg) < x2 then 0 else 1 else 0 : Int32) = 0 then 1 else if x3 < (gI M 48 x5.toNatClampNeg) then 1 else if (v_X2_isBackBy M x5 x2 x3) = 0 then 0 else 1)] M Q by
        refine r_if_eq (tgt := 87) dX2_lies_62 (by decide) (fun c6 => ?_) (fun c6 => ?_)
        · skip
          refine r_iconst (v := 1) dX2_lies_87 kI_1 ?_
          refine r_goto (tgt := 92) dX2_lies_88 (by decide) ?_
          exact q_weak (lo' := [some (.ref (ad 44)), some (.int x1), some (.int x2), some (.int x3), none, some (.int x5), none]) ⟨rfl, rfl, rfl, rfl, rfl, trivial⟩ (by have h9 := hJ2; simp only [if_pos c6] at h9; first | exact h9 | (simp only [if_pos c6]; exact h9))
        · skip
          refine r_aload_n dX2_lies_65 rfl ?_
          refine r_getR dX2_lies_66 fs_44_10 fk_X2_21 ?_
          refine r_iload dX2_lies_69 rfl ?_
          refine r_iald dX2_lies_71 as_48 (g3 c1 c2) ?_
          refine r_iload_n dX2_lies_72 rfl ?_
          refine r_icmp_gt (tgt := 87) dX2_lies_73 (by decide) (fun c7 => ?_) (fun c7 => ?_)
          · skip
            refine r_iconst (v := 1) dX2_lies_87 kI_1 ?_
            refine r_goto (tgt := 92) dX2_lies_88 (by decide) ?_
            exact q_weak (lo' := [some (.ref (ad 44)), some (.int x1), some (.int x2), some (.int x3), none, some (.int x5), none]) ⟨rfl, rfl, rfl, rfl, rfl, trivial⟩ (by have h9 := hJ2; simp only [if_neg c6, if_pos c7] at h9; first | exact h9 | (simp only [if_neg c6, if_pos c7]; exact h9))
          · skip
            refine r_aload_n dX2_lies_76 rfl ?_
            refine r_iload dX2_lies_77 rfl ?_
            refine r_iload_n dX2_lies_79 rfl ?_
            refine r_iload_n dX2_lies_80 rfl ?_
            refine r_callV (x := 44) (As := [.int x5, .int x2, .int x3]) (rest := []) dX2_lies_81 mk_X2_49 mv_X2_isBackBy rm_X2_lies_X2_isBackBy rfl rfl (by decide +kernel) (Nat.le_of_ble_eq_true rfl) (ct_X2_isBackBy (g4 c1 c2 c6 c7) (⟨_, rfl, ?_⟩))
            refine r_if_eq (tgt := 91) dX2_lies_84 (by decide) (fun c8 => ?_) (fun c8 => ?_)
            · skip
              refine r_iconst (v := 0) dX2_lies_91 kI_0 ?_
              exact q_weak (lo' := [some (.ref (ad 44)), some (.int x1), some (.int x2), some (.int x3), none, some (.int x5), none]) ⟨rfl, rfl, rfl, rfl, rfl, trivial⟩ (by have h9 := hJ2; simp only [if_neg c6, if_neg c7, if_pos c8] at h9; first | exact h9 | (simp only [if_neg c6, if_neg c7, if_pos c8]; exact h9))
            · skip
              refine r_iconst (v := 1) dX2_lies_87 kI_1 ?_
              refine r_goto (tgt := 92) dX2_lies_88 (by decide) ?_
              exact q_weak (lo' := [some (.ref (ad 44)), some (.int x1), some (.int x2), some (.int x3), none, some (.int x5), none]) ⟨rfl, rfl, rfl, rfl, rfl, trivial⟩ (by have h9 := hJ2; simp only [if_neg c6, if_neg c7, if_neg c8] at h9; first | exact h9 | (simp only [if_neg c6, if_neg c7, if_neg c8]; exact h9))
      refine q_istore (lo' := [some (.ref (ad 44)), some (.int x1), some (.int x2), some (.int x3), some (.int (if (if (gI M 45 x5.toNatClampNeg) = x1 then if x2 < (gI M 46 x5.toNatClampNeg) then 0 else if (gI M 47 x5.toNatClampNeg) < x2 then 0 else 1 else 0 : Int32) = 0 then 1 else if x3 < (gI M 48 x5.toNatClampNeg) then 1 else if (v_X2_isBackBy M x5 x2 x3) = 0 then 0 else 1)), some (.int x5), none]) dX2_lies_92 (by decide) rfl ?_
      refine q_iinc (v := x5 + 1) (lo' := [some (.ref (ad 44)), some (.int x1), some (.int x2), some (.int x3), some (.int (if (if (gI M 45 x5.toNatClampNeg) = x1 then if x2 < (gI M 46 x5.toNatClampNeg) then 0 else if (gI M 47 x5.toNatClampNeg) < x2 then 0 else 1 else 0 : Int32) = 0 then 1 else if x3 < (gI M 48 x5.toNatClampNeg) then 1 else if (v_X2_isBackBy M x5 x2 x3) = 0 then 0 else 1)), some (.int (x5 + 1)), none]) dX2_lies_94 rfl (congrArg (fun q => x5 + q) kI_1) (by decide) rfl ?_
      refine r_goto (tgt := 6) dX2_lies_97 (by decide) ?_
      exact (K3 c1 c2)
theorem en_X2_lies {x1 : Int32} {x2 : Int32} {x3 : Int32} (K : Fw l D ad kA mX2_lies 0 [some (.ref (ad 44)), some (.int x1), some (.int x2), some (.int x3), none, none, none] [] M Q) : Cal l D ad kA mX2_lies [.ref (ad 44), .int x1, .int x2, .int x3] M Q := Cal.of (by decide) rfl rfl (Nat.le_of_ble_eq_true rfl) K
def v_X2_isLying (M : Mem) (x1 : Int32) : Int32 := if (v_X11_isBell x1) = 0 then 0 else if (gI M 51 x1.toNatClampNeg) = 0 then 0 else 1
def g_X2_isLying (M : Mem) (x1 : Int32) : Prop := ((¬ ((v_X11_isBell x1) = 0)) → vp_in x1 48)
theorem ct_X2_isLying {x1 : Int32}  (g : g_X2_isLying M x1) (h : Q (.returned (some (.int (v_X2_isLying M x1)))) M) : Cal l D ad kA mX2_isLying [.ref (ad 44), .int x1] M Q := by
  refine Cal.of (lo := [some (.ref (ad 44)), some (.int x1)]) (by decide) rfl rfl (Nat.le_of_ble_eq_true rfl) ?_
  have g1 := g
  refine r_iload_n dX2_isLying_0 rfl ?_
  refine r_callN (As := [.int x1]) (rest := []) (n := 1) (mi2 := mX11_isBell) dX2_isLying_1 rfl (by decide) mi_X11_isBell.1 mi_X11_isBell.2 (by decide +kernel) ms_X11_isBell rm_X2_isLying_X11_isBell rfl rfl (Nat.le_of_ble_eq_true rfl) (ct_X11_isBell (⟨_, rfl, ?_⟩))
  suffices hJ1 : Fw l D ad kA mX2_isLying 21 [none, none] [.int (if (v_X11_isBell x1) = 0 then 0 else if (gI M 51 x1.toNatClampNeg) = 0 then 0 else 1)] M Q by
    refine r_if_eq (tgt := 20) dX2_isLying_4 (by decide) (fun c1 => ?_) (fun c1 => ?_)
    · skip
      refine r_iconst (v := 0) dX2_isLying_20 kI_0 ?_
      exact q_weak (lo' := [none, none]) trivial (by have h9 := hJ1; simp only [if_pos c1] at h9; first | exact h9 | (simp only [if_pos c1]; exact h9))
    · skip
      refine r_aload_n dX2_isLying_7 rfl ?_
      refine r_getR dX2_isLying_8 fs_44_13 fk_X2_30 ?_
      refine r_iload_n dX2_isLying_11 rfl ?_
      refine r_zald dX2_isLying_12 as_51 (g1 c1) ?_
      refine r_if_eq (tgt := 20) dX2_isLying_13 (by decide) (fun c2 => ?_) (fun c2 => ?_)
      · skip
        refine r_iconst (v := 0) dX2_isLying_20 kI_0 ?_
        exact q_weak (lo' := [none, none]) trivial (by have h9 := hJ1; simp only [if_neg c1, if_pos c2] at h9; first | exact h9 | (simp only [if_neg c1, if_pos c2]; exact h9))
      · skip
        refine r_iconst (v := 1) dX2_isLying_16 kI_1 ?_
        refine r_goto (tgt := 21) dX2_isLying_17 (by decide) ?_
        exact q_weak (lo' := [none, none]) trivial (by have h9 := hJ1; simp only [if_neg c1, if_neg c2] at h9; first | exact h9 | (simp only [if_neg c1, if_neg c2]; exact h9))
  exact r_zret dX2_isLying_21 rfl (nar_z (ite01 (Or.inl rfl) (ite01 (Or.inl rfl) (Or.inr rfl)))).1 h
theorem z_X2_isLying {M : Mem} {x1 : Int32} : v_X2_isLying M x1 = 0 ∨ v_X2_isLying M x1 = 1 := (ite01 (Or.inl rfl) (ite01 (Or.inl rfl) (Or.inr rfl)))
theorem t_X2_tryMove_0 {x1 : Int32} {x2 : Int32} 
    (K1 : Fw l D ad kA mX2_tryMove 8 [some (.ref (ad 44)), some (.int x1), some (.int x2), some (.int 0), some (.int 0), some (.int 0), none, none] [] M Q) : Fw l D ad kA mX2_tryMove 0 [some (.ref (ad 44)), some (.int x1), some (.int x2), none, none, none, none, none] [] M Q := by
  refine r_iconst (v := 0) dX2_tryMove_0 kI_0 ?_
  refine q_istore_n (lo' := [some (.ref (ad 44)), some (.int x1), some (.int x2), some (.int 0), none, none, none, none]) dX2_tryMove_1 (by decide) rfl ?_
  refine r_iconst (v := 0) dX2_tryMove_2 kI_0 ?_
  refine q_istore (lo' := [some (.ref (ad 44)), some (.int x1), some (.int x2), some (.int 0), some (.int 0), none, none, none]) dX2_tryMove_3 (by decide) rfl ?_
  refine r_iconst (v := 0) dX2_tryMove_5 kI_0 ?_
  refine q_istore (lo' := [some (.ref (ad 44)), some (.int x1), some (.int x2), some (.int 0), some (.int 0), some (.int 0), none, none]) dX2_tryMove_6 (by decide) rfl ?_
  exact K1
theorem t_X2_tryMove_8 {x1 : Int32} {x2 : Int32} {x3 : Int32} {x4 : Int32} {x5 : Int32} 
    (g1 : (¬ ((gI M 9 4) ≤ x5)) → vp_in x5 160)
    (g2 : (¬ ((gI M 9 4) ≤ x5)) → g_X2_isLying M ((gI M 11 x5.toNatClampNeg) + x1))
    (g3 : (¬ ((gI M 9 4) ≤ x5)) → ((v_X2_isLying M ((gI M 11 x5.toNatClampNeg) + x1)) = 0) → g_X2_isLying M (((gI M 11 x5.toNatClampNeg) + x1) + 12))
    (g4 : (¬ ((gI M 9 4) ≤ x5)) → ((v_X2_isLying M ((gI M 11 x5.toNatClampNeg) + x1)) = 0) → ((v_X2_isLying M (((gI M 11 x5.toNatClampNeg) + x1) + 12)) = 0) → g_X2_isLying M (((gI M 11 x5.toNatClampNeg) + x1) - 12))
    (K1 : ((gI M 9 4) ≤ x5) → ((x4 + (x3 * 3)) < x2) → Q (.returned (some (.int (x4 + (x3 * 3))))) (sI (sI (sI M 44 4 x1) 44 5 x3) 44 6 x4))
    (K2 : ((gI M 9 4) ≤ x5) → (¬ ((x4 + (x3 * 3)) < x2)) → Q (.returned (some (.int x2))) M)
    (K3 : (¬ ((gI M 9 4) ≤ x5)) → (¬ ((v_X2_isLying M ((gI M 11 x5.toNatClampNeg) + x1)) = 0)) → Fw l D ad kA mX2_tryMove 8 [some (.ref (ad 44)), some (.int x1), some (.int x2), some (.int x3), some (.int x4), some (.int (x5 + 1)), none, none] [] M Q)
    (K4 : (¬ ((gI M 9 4) ≤ x5)) → ((v_X2_isLying M ((gI M 11 x5.toNatClampNeg) + x1)) = 0) → Fw l D ad kA mX2_tryMove 74 [some (.ref (ad 44)), some (.int x1), some (.int x2), some (.int x3), some (.int x4), some (.int x5), none, some (.int (if (v_X2_isLying M (((gI M 11 x5.toNatClampNeg) + x1) + 12)) = 0 then if (v_X2_isLying M (((gI M 11 x5.toNatClampNeg) + x1) - 12)) = 0 then 0 else 1 else 1))] [] M Q) : Fw l D ad kA mX2_tryMove 8 [some (.ref (ad 44)), some (.int x1), some (.int x2), some (.int x3), some (.int x4), some (.int x5), none, none] [] M Q := by
  refine r_iload dX2_tryMove_8 rfl ?_
  refine r_aload_n dX2_tryMove_10 rfl ?_
  refine r_getR dX2_tryMove_11 fs_44_0 fk_X2_34 ?_
  refine r_getI dX2_tryMove_14 fs_9_4 fk_X2_61 ?_
  refine r_icmp_ge (tgt := 108) dX2_tryMove_17 (by decide) (fun c1 => ?_) (fun c1 => ?_)
  · skip
    refine r_iload dX2_tryMove_108 rfl ?_
    refine r_iload_n dX2_tryMove_110 rfl ?_
    refine r_iconst (v := 3) dX2_tryMove_111 kI_3 ?_
    refine r_imul dX2_tryMove_112 ?_
    refine r_iadd dX2_tryMove_113 ?_
    refine q_istore (lo' := [some (.ref (ad 44)), some (.int x1), some (.int x2), some (.int x3), some (.int x4), some (.int (x4 + (x3 * 3))), none, none]) dX2_tryMove_114 (by decide) rfl ?_
    refine r_iload dX2_tryMove_116 rfl ?_
    refine r_iload_n dX2_tryMove_118 rfl ?_
    refine r_icmp_lt (tgt := 124) dX2_tryMove_119 (by decide) (fun c2 => ?_) (fun c2 => ?_)
    · skip
      refine r_aload_n dX2_tryMove_124 rfl ?_
      refine r_iload_n dX2_tryMove_125 rfl ?_
      refine r_putI dX2_tryMove_126 fs_44_4 fk_X2_71 fp_X2_4 ?_
      refine r_aload_n dX2_tryMove_129 rfl ?_
      refine r_iload_n dX2_tryMove_130 rfl ?_
      refine r_putI dX2_tryMove_131 fs_44_5 fk_X2_74 fp_X2_5 ?_
      refine r_aload_n dX2_tryMove_134 rfl ?_
      refine r_iload dX2_tryMove_135 rfl ?_
      refine r_putI dX2_tryMove_137 fs_44_6 fk_X2_77 fp_X2_6 ?_
      refine r_iload dX2_tryMove_140 rfl ?_
      exact r_iret dX2_tryMove_142 rfl (K1 c1 c2)
    · skip
      refine r_iload_n dX2_tryMove_122 rfl ?_
      exact r_iret dX2_tryMove_123 rfl (K2 c1 c2)
  · skip
    refine r_aload_n dX2_tryMove_20 rfl ?_
    refine r_getR dX2_tryMove_21 fs_44_0 fk_X2_34 ?_
    refine r_getR dX2_tryMove_24 fs_9_1 fk_X2_64 ?_
    refine r_iload dX2_tryMove_27 rfl ?_
    refine r_iald dX2_tryMove_29 as_11 (g1 c1) ?_
    refine r_iload_n dX2_tryMove_30 rfl ?_
    refine r_iadd dX2_tryMove_31 ?_
    refine q_istore (lo' := [some (.ref (ad 44)), some (.int x1), some (.int x2), some (.int x3), some (.int x4), some (.int x5), some (.int ((gI M 11 x5.toNatClampNeg) + x1)), none]) dX2_tryMove_32 (by decide) rfl ?_
    refine r_aload_n dX2_tryMove_34 rfl ?_
    refine r_iload dX2_tryMove_35 rfl ?_
    refine r_callV (x := 44) (As := [.int ((gI M 11 x5.toNatClampNeg) + x1)]) (rest := []) dX2_tryMove_37 mk_X2_67 mv_X2_isLying rm_X2_tryMove_X2_isLying rfl rfl (by decide +kernel) (Nat.le_of_ble_eq_true rfl) (ct_X2_isLying (g2 c1) (⟨_, rfl, ?_⟩))
    refine r_if_ne (tgt := 102) dX2_tryMove_40 (by decide) (fun c3 => ?_) (fun c3 => ?_)
    · skip
      refine q_iinc (v := x5 + 1) (lo' := [some (.ref (ad 44)), some (.int x1), some (.int x2), some (.int x3), some (.int x4), some (.int (x5 + 1)), some (.int ((gI M 11 x5.toNatClampNeg) + x1)), none]) dX2_tryMove_102 rfl (congrArg (fun q => x5 + q) kI_1) (by decide) rfl ?_
      refine r_goto (tgt := 8) dX2_tryMove_105 (by decide) ?_
      exact q_weak (lo' := [some (.ref (ad 44)), some (.int x1), some (.int x2), some (.int x3), some (.int x4), some (.int (x5 + 1)), none, none]) ⟨rfl, rfl, rfl, rfl, rfl, rfl, trivial⟩ (K3 c1 c3)
    · skip
      refine r_aload_n dX2_tryMove_43 rfl ?_
      refine r_iload dX2_tryMove_44 rfl ?_
      refine r_bipush (v := 12) dX2_tryMove_46 kB_12 ?_
      refine r_iadd dX2_tryMove_48 ?_
      refine r_callV (x := 44) (As := [.int (((gI M 11 x5.toNatClampNeg) + x1) + 12)]) (rest := []) dX2_tryMove_49 mk_X2_67 mv_X2_isLying rm_X2_tryMove_X2_isLying rfl rfl (by decide +kernel) (Nat.le_of_ble_eq_true rfl) (ct_X2_isLying (g3 c1 c3) (⟨_, rfl, ?_⟩))
      suffices hJ1 : Fw l D ad kA mX2_tryMove 72 [some (.ref (ad 44)), some (.int x1), some (.int x2), some (.int x3), some (.int x4), some (.int x5), none, none] [.int (if (v_X2_isLying M (((gI M 11 x5.toNatClampNeg) + x1) + 12)) = 0 then if (v_X2_isLying M (((gI M 11 x5.toNatClampNeg) + x1) - 12)) = 0 then 0 else 1 else 1)] M Q by
        refine r_if_ne (tgt := 67) dX2_tryMove_52 (by decide) (fun c4 => ?_) (fun c4 => ?_)
        · skip
          refine r_iconst (v := 1) dX2_tryMove_67 kI_1 ?_
          refine r_goto (tgt := 72) dX2_tryMove_68 (by decide) ?_
          exact q_weak (lo' := [some (.ref (ad 44)), some (.int x1), some (.int x2), some (.int x3), some (.int x4), some (.int x5), none, none]) ⟨rfl, rfl, rfl, rfl, rfl, rfl, trivial⟩ (by have h9 := hJ1; simp only [if_neg c4] at h9; first | exact h9 | (simp only [if_neg c4]; exact h9))
        · skip
          refine r_aload_n dX2_tryMove_55 rfl ?_
          refine r_iload dX2_tryMove_56 rfl ?_
          refine r_bipush (v := 12) dX2_tryMove_58 kB_12 ?_
          refine r_isub dX2_tryMove_60 ?_
          refine r_callV (x := 44) (As := [.int (((gI M 11 x5.toNatClampNeg) + x1) - 12)]) (rest := []) dX2_tryMove_61 mk_X2_67 mv_X2_isLying rm_X2_tryMove_X2_isLying rfl rfl (by decide +kernel) (Nat.le_of_ble_eq_true rfl) (ct_X2_isLying (g4 c1 c3 c4) (⟨_, rfl, ?_⟩))
          refine r_if_eq (tgt := 71) dX2_tryMove_64 (by decide) (fun c5 => ?_) (fun c5 => ?_)
          · skip
            refine r_iconst (v := 0) dX2_tryMove_71 kI_0 ?_
            exact q_weak (lo' := [some (.ref (ad 44)), some (.int x1), some (.int x2), some (.int x3), some (.int x4), some (.int x5), none, none]) ⟨rfl, rfl, rfl, rfl, rfl, rfl, trivial⟩ (by have h9 := hJ1; simp only [if_pos c4, if_pos c5] at h9; first | exact h9 | (simp only [if_pos c4, if_pos c5]; exact h9))
          · skip
            refine r_iconst (v := 1) dX2_tryMove_67 kI_1 ?_
            refine r_goto (tgt := 72) dX2_tryMove_68 (by decide) ?_
            exact q_weak (lo' := [some (.ref (ad 44)), some (.int x1), some (.int x2), some (.int x3), some (.int x4), some (.int x5), none, none]) ⟨rfl, rfl, rfl, rfl, rfl, rfl, trivial⟩ (by have h9 := hJ1; simp only [if_pos c4, if_neg c5] at h9; first | exact h9 | (simp only [if_pos c4, if_neg c5]; exact h9))
      refine q_istore (lo' := [some (.ref (ad 44)), some (.int x1), some (.int x2), some (.int x3), some (.int x4), some (.int x5), none, some (.int (if (v_X2_isLying M (((gI M 11 x5.toNatClampNeg) + x1) + 12)) = 0 then if (v_X2_isLying M (((gI M 11 x5.toNatClampNeg) + x1) - 12)) = 0 then 0 else 1 else 1))]) dX2_tryMove_72 (by decide) rfl ?_
      exact (K4 c1 c3)
theorem t_X2_tryMove_74 {x1 : Int32} {x2 : Int32} {x3 : Int32} {x4 : Int32} {x5 : Int32} {x7 : Int32} 
    (K1 : Fw l D ad kA mX2_tryMove 8 [some (.ref (ad 44)), some (.int x1), some (.int x2), some (.int (x3 + (if x7 = 0 then 1 else 0))), some (.int (x4 + (if x7 = 0 then 0 else 1))), some (.int (x5 + 1)), none, none] [] M Q) : Fw l D ad kA mX2_tryMove 74 [some (.ref (ad 44)), some (.int x1), some (.int x2), some (.int x3), some (.int x4), some (.int x5), none, some (.int x7)] [] M Q := by
  refine r_iload dX2_tryMove_74 rfl ?_
  refine r_iload dX2_tryMove_76 rfl ?_
  suffices hJ1 : Fw l D ad kA mX2_tryMove 86 [some (.ref (ad 44)), some (.int x1), some (.int x2), some (.int x3), none, some (.int x5), none, some (.int x7)] [.int (if x7 = 0 then 0 else 1), .int x4] M Q by
    refine r_if_eq (tgt := 85) dX2_tryMove_78 (by decide) (fun c1 => ?_) (fun c1 => ?_)
    · skip
      refine r_iconst (v := 0) dX2_tryMove_85 kI_0 ?_
      exact q_weak (lo' := [some (.ref (ad 44)), some (.int x1), some (.int x2), some (.int x3), none, some (.int x5), none, some (.int x7)]) ⟨rfl, rfl, rfl, rfl, rfl, rfl, trivial⟩ (by have h9 := hJ1; simp only [if_pos c1] at h9; first | exact h9 | (simp only [if_pos c1]; exact h9))
    · skip
      refine r_iconst (v := 1) dX2_tryMove_81 kI_1 ?_
      refine r_goto (tgt := 86) dX2_tryMove_82 (by decide) ?_
      exact q_weak (lo' := [some (.ref (ad 44)), some (.int x1), some (.int x2), some (.int x3), none, some (.int x5), none, some (.int x7)]) ⟨rfl, rfl, rfl, rfl, rfl, rfl, trivial⟩ (by have h9 := hJ1; simp only [if_neg c1] at h9; first | exact h9 | (simp only [if_neg c1]; exact h9))
  refine r_iadd dX2_tryMove_86 ?_
  refine q_istore (lo' := [some (.ref (ad 44)), some (.int x1), some (.int x2), some (.int x3), some (.int (x4 + (if x7 = 0 then 0 else 1))), some (.int x5), none, some (.int x7)]) dX2_tryMove_87 (by decide) rfl ?_
  refine r_iload_n dX2_tryMove_89 rfl ?_
  refine r_iload dX2_tryMove_90 rfl ?_
  suffices hJ2 : Fw l D ad kA mX2_tryMove 100 [some (.ref (ad 44)), some (.int x1), some (.int x2), none, some (.int (x4 + (if x7 = 0 then 0 else 1))), some (.int x5), none, none] [.int (if x7 = 0 then 1 else 0), .int x3] M Q by
    refine r_if_eq (tgt := 99) dX2_tryMove_92 (by decide) (fun c2 => ?_) (fun c2 => ?_)
    · skip
      refine r_iconst (v := 1) dX2_tryMove_99 kI_1 ?_
      exact q_weak (lo' := [some (.ref (ad 44)), some (.int x1), some (.int x2), none, some (.int (x4 + (if x7 = 0 then 0 else 1))), some (.int x5), none, none]) ⟨rfl, rfl, rfl, rfl, rfl, trivial⟩ (by have h9 := hJ2; simp only [if_pos c2] at h9; first | exact h9 | (simp only [if_pos c2]; exact h9))
    · skip
      refine r_iconst (v := 0) dX2_tryMove_95 kI_0 ?_
      refine r_goto (tgt := 100) dX2_tryMove_96 (by decide) ?_
      exact q_weak (lo' := [some (.ref (ad 44)), some (.int x1), some (.int x2), none, some (.int (x4 + (if x7 = 0 then 0 else 1))), some (.int x5), none, none]) ⟨rfl, rfl, rfl, rfl, rfl, trivial⟩ (by have h9 := hJ2; simp only [if_neg c2] at h9; first | exact h9 | (simp only [if_neg c2]; exact h9))
  refine r_iadd dX2_tryMove_100 ?_
  refine q_istore_n (lo' := [some (.ref (ad 44)), some (.int x1), some (.int x2), some (.int (x3 + (if x7 = 0 then 1 else 0))), some (.int (x4 + (if x7 = 0 then 0 else 1))), some (.int x5), none, none]) dX2_tryMove_101 (by decide) rfl ?_
  refine q_iinc (v := x5 + 1) (lo' := [some (.ref (ad 44)), some (.int x1), some (.int x2), some (.int (x3 + (if x7 = 0 then 1 else 0))), some (.int (x4 + (if x7 = 0 then 0 else 1))), some (.int (x5 + 1)), none, none]) dX2_tryMove_102 rfl (congrArg (fun q => x5 + q) kI_1) (by decide) rfl ?_
  refine r_goto (tgt := 8) dX2_tryMove_105 (by decide) ?_
  exact K1
theorem en_X2_tryMove {x1 : Int32} {x2 : Int32} (K : Fw l D ad kA mX2_tryMove 0 [some (.ref (ad 44)), some (.int x1), some (.int x2), none, none, none, none, none] [] M Q) : Cal l D ad kA mX2_tryMove [.ref (ad 44), .int x1, .int x2] M Q := Cal.of (by decide) rfl rfl (Nat.le_of_ble_eq_true rfl) K
theorem t_X2_seekKey_0 {x1 : Int32} {x2 : Int32} 
    (K1 : Fw l D ad kA mX2_seekKey 2 [some (.ref (ad 44)), some (.int x1), some (.int x2), some (.int 0), none] [] M Q) : Fw l D ad kA mX2_seekKey 0 [some (.ref (ad 44)), some (.int x1), some (.int x2), none, none] [] M Q := by
  refine r_iconst (v := 0) dX2_seekKey_0 kI_0 ?_
  refine q_istore_n (lo' := [some (.ref (ad 44)), some (.int x1), some (.int x2), some (.int 0), none]) dX2_seekKey_1 (by decide) rfl ?_
  exact K1
theorem t_X2_seekKey_2 {x1 : Int32} {x2 : Int32} {x3 : Int32} 
    (K1 : (48 ≤ x3) → Fw l D ad kA mX2_seekKey 38 [some (.ref (ad 44)), none, none, some (.int 16777216), some (.int 0)] [] (sI M 44 3 1) Q)
    (K2 : (¬ (48 ≤ x3)) → Cal l D ad kA mX2_lies [.ref (ad 44), .int x3, .int x1, .int x2] M (fun oc M2 => ∃ r : Int32, oc = .returned (some (.int r)) ∧ Fw l D ad kA mX2_seekKey 20 [some (.ref (ad 44)), some (.int x1), some (.int x2), some (.int x3), none] [.int r, .int x3, .ref (ad 51)] M2 Q)) : Fw l D ad kA mX2_seekKey 2 [some (.ref (ad 44)), some (.int x1), some (.int x2), some (.int x3), none] [] M Q := by
  refine r_iload_n dX2_seekKey_2 rfl ?_
  refine r_bipush (v := 48) dX2_seekKey_3 kB_48 ?_
  refine r_icmp_ge (tgt := 27) dX2_seekKey_5 (by decide) (fun c1 => ?_) (fun c1 => ?_)
  · skip
    refine r_aload_n dX2_seekKey_27 rfl ?_
    refine r_iconst (v := 1) dX2_seekKey_28 kI_1 ?_
    refine r_putZ dX2_seekKey_29 fs_44_3 fk_X2_38 fp_X2_3 (Or.inr rfl) ?_
    refine r_ldc (v := 16777216) dX2_seekKey_32 co_X2_56 ?_
    refine q_istore_n (lo' := [some (.ref (ad 44)), some (.int x1), some (.int x2), some (.int 16777216), none]) dX2_seekKey_34 (by decide) rfl ?_
    refine r_iconst (v := 0) dX2_seekKey_35 kI_0 ?_
    refine q_istore (lo' := [some (.ref (ad 44)), some (.int x1), some (.int x2), some (.int 16777216), some (.int 0)]) dX2_seekKey_36 (by decide) rfl ?_
    exact q_weak (lo' := [some (.ref (ad 44)), none, none, some (.int 16777216), some (.int 0)]) ⟨rfl, rfl, rfl, trivial⟩ (K1 c1)
  · skip
    refine r_aload_n dX2_seekKey_8 rfl ?_
    refine r_getR dX2_seekKey_9 fs_44_13 fk_X2_30 ?_
    refine r_iload_n dX2_seekKey_12 rfl ?_
    refine r_aload_n dX2_seekKey_13 rfl ?_
    refine r_iload_n dX2_seekKey_14 rfl ?_
    refine r_iload_n dX2_seekKey_15 rfl ?_
    refine r_iload_n dX2_seekKey_16 rfl ?_
    exact r_callV (x := 44) (As := [.int x3, .int x1, .int x2]) (rest := [.int x3, .ref (ad 51)]) dX2_seekKey_17 mk_X2_53 mv_X2_lies rm_X2_seekKey_X2_lies rfl rfl (by decide +kernel) (Nat.le_of_ble_eq_true rfl) (cal_i (lo' := [some (.ref (ad 44)), some (.int x1), some (.int x2), some (.int x3), none]) ⟨rfl, rfl, rfl, rfl, trivial⟩ (K2 c1))
theorem t_X2_seekKey_38 {x3 : Int32} {x4 : Int32} 
    (K1 : (12 < x4) → Q (.returned (some (.int x3))) M)
    (K2 : (¬ (12 < x4)) → Cal l D ad kA mX2_tryMove [.ref (ad 44), .int x4, .int x3] M (fun oc M2 => ∃ r : Int32, oc = .returned (some (.int r)) ∧ Fw l D ad kA mX2_seekKey 52 [some (.ref (ad 44)), none, none, none, some (.int x4)] [.int r] M2 Q)) : Fw l D ad kA mX2_seekKey 38 [some (.ref (ad 44)), none, none, some (.int x3), some (.int x4)] [] M Q := by
  refine r_iload dX2_seekKey_38 rfl ?_
  refine r_bipush (v := 12) dX2_seekKey_40 kB_12 ?_
  refine r_icmp_gt (tgt := 68) dX2_seekKey_42 (by decide) (fun c1 => ?_) (fun c1 => ?_)
  · skip
    refine r_iload_n dX2_seekKey_68 rfl ?_
    exact r_iret dX2_seekKey_69 rfl (K1 c1)
  · skip
    refine r_aload_n dX2_seekKey_45 rfl ?_
    refine r_iload dX2_seekKey_46 rfl ?_
    refine r_iload_n dX2_seekKey_48 rfl ?_
    exact r_callV (x := 44) (As := [.int x4, .int x3]) (rest := []) dX2_seekKey_49 mk_X2_57 mv_X2_tryMove rm_X2_seekKey_X2_tryMove rfl rfl (by decide +kernel) (Nat.le_of_ble_eq_true rfl) (cal_i (lo' := [some (.ref (ad 44)), none, none, none, some (.int x4)]) ⟨rfl, rfl, trivial⟩ (K2 c1))
theorem t_X2_seekKey_20 {x1 : Int32} {x2 : Int32} {x3 : Int32} {s3 : Int32} {s2 : Int32} 
    (g1 : vp_in s2 48)
    (g2 : s3 = 0 ∨ s3 = 1)
    (K1 : Fw l D ad kA mX2_seekKey 2 [some (.ref (ad 44)), some (.int x1), some (.int x2), some (.int (x3 + 1)), none] [] (sI M 51 s2.toNatClampNeg s3) Q) : Fw l D ad kA mX2_seekKey 20 [some (.ref (ad 44)), some (.int x1), some (.int x2), some (.int x3), none] [.int s3, .int s2, .ref (ad 51)] M Q := by
  refine q_zast dX2_seekKey_20 as_51 g1 g2 ?_
  refine q_iinc (v := x3 + 1) (lo' := [some (.ref (ad 44)), some (.int x1), some (.int x2), some (.int (x3 + 1)), none]) dX2_seekKey_21 rfl (congrArg (fun q => x3 + q) kI_1) (by decide) rfl ?_
  refine r_goto (tgt := 2) dX2_seekKey_24 (by decide) ?_
  exact K1
theorem t_X2_seekKey_52 {x4 : Int32} {s1 : Int32} 
    (K1 : Cal l D ad kA mX2_tryMove [.ref (ad 44), .int (-x4), .int s1] M (fun oc M2 => ∃ r : Int32, oc = .returned (some (.int r)) ∧ Fw l D ad kA mX2_seekKey 61 [some (.ref (ad 44)), none, none, none, some (.int x4)] [.int r] M2 Q)) : Fw l D ad kA mX2_seekKey 52 [some (.ref (ad 44)), none, none, none, some (.int x4)] [.int s1] M Q := by
  refine q_istore_n (lo' := [some (.ref (ad 44)), none, none, some (.int s1), some (.int x4)]) dX2_seekKey_52 (by decide) rfl ?_
  refine r_aload_n dX2_seekKey_53 rfl ?_
  refine r_iload dX2_seekKey_54 rfl ?_
  refine r_ineg dX2_seekKey_56 ?_
  refine r_iload_n dX2_seekKey_57 rfl ?_
  exact r_callV (x := 44) (As := [.int (-x4), .int s1]) (rest := []) dX2_seekKey_58 mk_X2_57 mv_X2_tryMove rm_X2_seekKey_X2_tryMove rfl rfl (by decide +kernel) (Nat.le_of_ble_eq_true rfl) (cal_i (lo' := [some (.ref (ad 44)), none, none, none, some (.int x4)]) ⟨rfl, rfl, trivial⟩ K1)
theorem t_X2_seekKey_61 {x4 : Int32} {s1 : Int32} 
    (K1 : Fw l D ad kA mX2_seekKey 38 [some (.ref (ad 44)), none, none, some (.int s1), some (.int (x4 + 1))] [] M Q) : Fw l D ad kA mX2_seekKey 61 [some (.ref (ad 44)), none, none, none, some (.int x4)] [.int s1] M Q := by
  refine q_istore_n (lo' := [some (.ref (ad 44)), none, none, some (.int s1), some (.int x4)]) dX2_seekKey_61 (by decide) rfl ?_
  refine q_iinc (v := x4 + 1) (lo' := [some (.ref (ad 44)), none, none, some (.int s1), some (.int (x4 + 1))]) dX2_seekKey_62 rfl (congrArg (fun q => x4 + q) kI_1) (by decide) rfl ?_
  refine r_goto (tgt := 38) dX2_seekKey_65 (by decide) ?_
  exact K1
theorem en_X2_seekKey {x1 : Int32} {x2 : Int32} (K : Fw l D ad kA mX2_seekKey 0 [some (.ref (ad 44)), some (.int x1), some (.int x2), none, none] [] M Q) : Cal l D ad kA mX2_seekKey [.ref (ad 44), .int x1, .int x2] M Q := Cal.of (by decide) rfl rfl (Nat.le_of_ble_eq_true rfl) K
end W_days
