/-! the model: ranges: decode rows, links, walks from cut to cut (printed by wip/gen) -/
theorem dX13_findUsed_0 : decode cX13_findUsed 0 = .ok (.aload_n 0, 1) := by decide +kernel
theorem dX13_findUsed_1 : decode cX13_findUsed 1 = .ok (.iconst 0, 1) := by decide +kernel
theorem dX13_findUsed_2 : decode cX13_findUsed 2 = .ok (.putfield 314, 3) := by decide +kernel
theorem dX13_findUsed_5 : decode cX13_findUsed 5 = .ok (.iconst 0, 1) := by decide +kernel
theorem dX13_findUsed_6 : decode cX13_findUsed 6 = .ok (.istore_n 1, 1) := by decide +kernel
theorem dX13_findUsed_7 : decode cX13_findUsed 7 = .ok (.iload_n 1, 1) := by decide +kernel
theorem dX13_findUsed_8 : decode cX13_findUsed 8 = .ok (.bipush 48, 2) := by decide +kernel
theorem dX13_findUsed_10 : decode cX13_findUsed 10 = .ok (.if_icmp .ge 40, 3) := by decide +kernel
theorem dX13_findUsed_13 : decode cX13_findUsed 13 = .ok (.aload_n 0, 1) := by decide +kernel
theorem dX13_findUsed_14 : decode cX13_findUsed 14 = .ok (.iload_n 1, 1) := by decide +kernel
theorem dX13_findUsed_15 : decode cX13_findUsed 15 = .ok (.invokevirtual 317, 3) := by decide +kernel
theorem dX13_findUsed_18 : decode cX13_findUsed 18 = .ok (.ifCond .ne 6, 3) := by decide +kernel
theorem dX13_findUsed_21 : decode cX13_findUsed 21 = .ok (.goto 23, 3) := by decide +kernel
theorem dX13_findUsed_24 : decode cX13_findUsed 24 = .ok (.aload_n 0, 1) := by decide +kernel
theorem dX13_findUsed_25 : decode cX13_findUsed 25 = .ok (.getfield 169, 3) := by decide +kernel
theorem dX13_findUsed_28 : decode cX13_findUsed 28 = .ok (.aload_n 0, 1) := by decide +kernel
theorem dX13_findUsed_29 : decode cX13_findUsed 29 = .ok (.getfield 314, 3) := by decide +kernel
theorem dX13_findUsed_32 : decode cX13_findUsed 32 = .ok (.iload_n 1, 1) := by decide +kernel
theorem dX13_findUsed_33 : decode cX13_findUsed 33 = .ok (.iastore, 1) := by decide +kernel
theorem dX13_findUsed_34 : decode cX13_findUsed 34 = .ok (.aload_n 0, 1) := by decide +kernel
theorem dX13_findUsed_35 : decode cX13_findUsed 35 = .ok (.dup, 1) := by decide +kernel
theorem dX13_findUsed_36 : decode cX13_findUsed 36 = .ok (.getfield 314, 3) := by decide +kernel
theorem dX13_findUsed_39 : decode cX13_findUsed 39 = .ok (.iconst 1, 1) := by decide +kernel
theorem dX13_findUsed_40 : decode cX13_findUsed 40 = .ok (.iadd, 1) := by decide +kernel
theorem dX13_findUsed_41 : decode cX13_findUsed 41 = .ok (.putfield 314, 3) := by decide +kernel
theorem dX13_findUsed_44 : decode cX13_findUsed 44 = .ok (.iinc 1 1, 3) := by decide +kernel
theorem dX13_findUsed_47 : decode cX13_findUsed 47 = .ok (.goto (-40), 3) := by decide +kernel
theorem dX13_findUsed_50 : decode cX13_findUsed 50 = .ok (.return_, 1) := by decide +kernel
theorem dX13_findPieces_0 : decode cX13_findPieces 0 = .ok (.iconst 0, 1) := by decide +kernel
theorem dX13_findPieces_1 : decode cX13_findPieces 1 = .ok (.istore_n 1, 1) := by decide +kernel
theorem dX13_findPieces_2 : decode cX13_findPieces 2 = .ok (.iload_n 1, 1) := by decide +kernel
theorem dX13_findPieces_3 : decode cX13_findPieces 3 = .ok (.aload_n 0, 1) := by decide +kernel
theorem dX13_findPieces_4 : decode cX13_findPieces 4 = .ok (.getfield 314, 3) := by decide +kernel
theorem dX13_findPieces_7 : decode cX13_findPieces 7 = .ok (.if_icmp .ge 114, 3) := by decide +kernel
theorem dX13_findPieces_10 : decode cX13_findPieces 10 = .ok (.lconst 0, 1) := by decide +kernel
theorem dX13_findPieces_11 : decode cX13_findPieces 11 = .ok (.lstore_n 2, 1) := by decide +kernel
theorem dX13_findPieces_12 : decode cX13_findPieces 12 = .ok (.iload_n 1, 1) := by decide +kernel
theorem dX13_findPieces_13 : decode cX13_findPieces 13 = .ok (.istore 4, 2) := by decide +kernel
theorem dX13_findPieces_15 : decode cX13_findPieces 15 = .ok (.iload 4, 2) := by decide +kernel
theorem dX13_findPieces_17 : decode cX13_findPieces 17 = .ok (.aload_n 0, 1) := by decide +kernel
theorem dX13_findPieces_18 : decode cX13_findPieces 18 = .ok (.getfield 314, 3) := by decide +kernel
theorem dX13_findPieces_21 : decode cX13_findPieces 21 = .ok (.if_icmp .ge 94, 3) := by decide +kernel
theorem dX13_findPieces_24 : decode cX13_findPieces 24 = .ok (.lload_n 2, 1) := by decide +kernel
theorem dX13_findPieces_25 : decode cX13_findPieces 25 = .ok (.lconst 1, 1) := by decide +kernel
theorem dX13_findPieces_26 : decode cX13_findPieces 26 = .ok (.aload_n 0, 1) := by decide +kernel
theorem dX13_findPieces_27 : decode cX13_findPieces 27 = .ok (.getfield 169, 3) := by decide +kernel
theorem dX13_findPieces_30 : decode cX13_findPieces 30 = .ok (.iload 4, 2) := by decide +kernel
theorem dX13_findPieces_32 : decode cX13_findPieces 32 = .ok (.iaload, 1) := by decide +kernel
theorem dX13_findPieces_33 : decode cX13_findPieces 33 = .ok (.lshl, 1) := by decide +kernel
theorem dX13_findPieces_34 : decode cX13_findPieces 34 = .ok (.lor, 1) := by decide +kernel
theorem dX13_findPieces_35 : decode cX13_findPieces 35 = .ok (.lstore_n 2, 1) := by decide +kernel
theorem dX13_findPieces_36 : decode cX13_findPieces 36 = .ok (.iload 4, 2) := by decide +kernel
theorem dX13_findPieces_38 : decode cX13_findPieces 38 = .ok (.iload_n 1, 1) := by decide +kernel
theorem dX13_findPieces_39 : decode cX13_findPieces 39 = .ok (.isub, 1) := by decide +kernel
theorem dX13_findPieces_40 : decode cX13_findPieces 40 = .ok (.aload_n 0, 1) := by decide +kernel
theorem dX13_findPieces_41 : decode cX13_findPieces 41 = .ok (.getfield 140, 3) := by decide +kernel
theorem dX13_findPieces_44 : decode cX13_findPieces 44 = .ok (.iconst 1, 1) := by decide +kernel
theorem dX13_findPieces_45 : decode cX13_findPieces 45 = .ok (.iaload, 1) := by decide +kernel
theorem dX13_findPieces_46 : decode cX13_findPieces 46 = .ok (.if_icmp .ge 30, 3) := by decide +kernel
theorem dX13_findPieces_49 : decode cX13_findPieces 49 = .ok (.aload_n 0, 1) := by decide +kernel
theorem dX13_findPieces_50 : decode cX13_findPieces 50 = .ok (.getfield 169, 3) := by decide +kernel
theorem dX13_findPieces_53 : decode cX13_findPieces 53 = .ok (.iload 4, 2) := by decide +kernel
theorem dX13_findPieces_55 : decode cX13_findPieces 55 = .ok (.iaload, 1) := by decide +kernel
theorem dX13_findPieces_56 : decode cX13_findPieces 56 = .ok (.aload_n 0, 1) := by decide +kernel
theorem dX13_findPieces_57 : decode cX13_findPieces 57 = .ok (.getfield 169, 3) := by decide +kernel
theorem dX13_findPieces_60 : decode cX13_findPieces 60 = .ok (.iload_n 1, 1) := by decide +kernel
theorem dX13_findPieces_61 : decode cX13_findPieces 61 = .ok (.iaload, 1) := by decide +kernel
theorem dX13_findPieces_62 : decode cX13_findPieces 62 = .ok (.isub, 1) := by decide +kernel
theorem dX13_findPieces_63 : decode cX13_findPieces 63 = .ok (.aload_n 0, 1) := by decide +kernel
theorem dX13_findPieces_64 : decode cX13_findPieces 64 = .ok (.getfield 140, 3) := by decide +kernel
theorem dX13_findPieces_67 : decode cX13_findPieces 67 = .ok (.iconst 2, 1) := by decide +kernel
theorem dX13_findPieces_68 : decode cX13_findPieces 68 = .ok (.iaload, 1) := by decide +kernel
theorem dX13_findPieces_69 : decode cX13_findPieces 69 = .ok (.if_icmp .gt 7, 3) := by decide +kernel
theorem dX13_findPieces_72 : decode cX13_findPieces 72 = .ok (.iconst 1, 1) := by decide +kernel
theorem dX13_findPieces_73 : decode cX13_findPieces 73 = .ok (.goto 4, 3) := by decide +kernel
theorem dX13_findPieces_76 : decode cX13_findPieces 76 = .ok (.iconst 0, 1) := by decide +kernel
theorem dX13_findPieces_77 : decode cX13_findPieces 77 = .ok (.istore 5, 2) := by decide +kernel
theorem dX13_findPieces_79 : decode cX13_findPieces 79 = .ok (.aload_n 0, 1) := by decide +kernel
theorem dX13_findPieces_80 : decode cX13_findPieces 80 = .ok (.getfield 175, 3) := by decide +kernel
theorem dX13_findPieces_83 : decode cX13_findPieces 83 = .ok (.bipush 49, 2) := by decide +kernel
theorem dX13_findPieces_85 : decode cX13_findPieces 85 = .ok (.iload_n 1, 1) := by decide +kernel
theorem dX13_findPieces_86 : decode cX13_findPieces 86 = .ok (.imul, 1) := by decide +kernel
theorem dX13_findPieces_87 : decode cX13_findPieces 87 = .ok (.iload 4, 2) := by decide +kernel
theorem dX13_findPieces_89 : decode cX13_findPieces 89 = .ok (.iadd, 1) := by decide +kernel
theorem dX13_findPieces_90 : decode cX13_findPieces 90 = .ok (.iconst 1, 1) := by decide +kernel
theorem dX13_findPieces_91 : decode cX13_findPieces 91 = .ok (.iadd, 1) := by decide +kernel
theorem dX13_findPieces_92 : decode cX13_findPieces 92 = .ok (.iload 5, 2) := by decide +kernel
theorem dX13_findPieces_94 : decode cX13_findPieces 94 = .ok (.ifCond .eq 11, 3) := by decide +kernel
theorem dX13_findPieces_97 : decode cX13_findPieces 97 = .ok (.aload_n 0, 1) := by decide +kernel
theorem dX13_findPieces_98 : decode cX13_findPieces 98 = .ok (.lload_n 2, 1) := by decide +kernel
theorem dX13_findPieces_99 : decode cX13_findPieces 99 = .ok (.invokevirtual 310, 3) := by decide +kernel
theorem dX13_findPieces_102 : decode cX13_findPieces 102 = .ok (.goto 6, 3) := by decide +kernel
theorem dX13_findPieces_105 : decode cX13_findPieces 105 = .ok (.ldc_w 282, 3) := by decide +kernel
theorem dX13_findPieces_108 : decode cX13_findPieces 108 = .ok (.iastore, 1) := by decide +kernel
theorem dX13_findPieces_109 : decode cX13_findPieces 109 = .ok (.iinc 4 1, 3) := by decide +kernel
theorem dX13_findPieces_112 : decode cX13_findPieces 112 = .ok (.goto (-97), 3) := by decide +kernel
theorem dX13_findPieces_115 : decode cX13_findPieces 115 = .ok (.iinc 1 1, 3) := by decide +kernel
theorem dX13_findPieces_118 : decode cX13_findPieces 118 = .ok (.goto (-116), 3) := by decide +kernel
theorem dX13_findPieces_121 : decode cX13_findPieces 121 = .ok (.return_, 1) := by decide +kernel
theorem dX13_changedIn_0 : decode cX13_changedIn 0 = .ok (.iconst 0, 1) := by decide +kernel
theorem dX13_changedIn_1 : decode cX13_changedIn 1 = .ok (.istore 4, 2) := by decide +kernel
theorem dX13_changedIn_3 : decode cX13_changedIn 3 = .ok (.iload_n 1, 1) := by decide +kernel
theorem dX13_changedIn_4 : decode cX13_changedIn 4 = .ok (.istore 5, 2) := by decide +kernel
theorem dX13_changedIn_6 : decode cX13_changedIn 6 = .ok (.iload 5, 2) := by decide +kernel
theorem dX13_changedIn_8 : decode cX13_changedIn 8 = .ok (.iload_n 2, 1) := by decide +kernel
theorem dX13_changedIn_9 : decode cX13_changedIn 9 = .ok (.if_icmp .ge 30, 3) := by decide +kernel
theorem dX13_changedIn_12 : decode cX13_changedIn 12 = .ok (.iload 4, 2) := by decide +kernel
theorem dX13_changedIn_14 : decode cX13_changedIn 14 = .ok (.aload_n 0, 1) := by decide +kernel
theorem dX13_changedIn_15 : decode cX13_changedIn 15 = .ok (.getfield 187, 3) := by decide +kernel
theorem dX13_changedIn_18 : decode cX13_changedIn 18 = .ok (.iload 5, 2) := by decide +kernel
theorem dX13_changedIn_20 : decode cX13_changedIn 20 = .ok (.iaload, 1) := by decide +kernel
theorem dX13_changedIn_21 : decode cX13_changedIn 21 = .ok (.iload_n 3, 1) := by decide +kernel
theorem dX13_changedIn_22 : decode cX13_changedIn 22 = .ok (.if_icmp .eq 7, 3) := by decide +kernel
theorem dX13_changedIn_25 : decode cX13_changedIn 25 = .ok (.iconst 1, 1) := by decide +kernel
theorem dX13_changedIn_26 : decode cX13_changedIn 26 = .ok (.goto 4, 3) := by decide +kernel
theorem dX13_changedIn_29 : decode cX13_changedIn 29 = .ok (.iconst 0, 1) := by decide +kernel
theorem dX13_changedIn_30 : decode cX13_changedIn 30 = .ok (.iadd, 1) := by decide +kernel
theorem dX13_changedIn_31 : decode cX13_changedIn 31 = .ok (.istore 4, 2) := by decide +kernel
theorem dX13_changedIn_33 : decode cX13_changedIn 33 = .ok (.iinc 5 1, 3) := by decide +kernel
theorem dX13_changedIn_36 : decode cX13_changedIn 36 = .ok (.goto (-30), 3) := by decide +kernel
theorem dX13_changedIn_39 : decode cX13_changedIn 39 = .ok (.iload 4, 2) := by decide +kernel
theorem dX13_changedIn_41 : decode cX13_changedIn 41 = .ok (.ireturn, 1) := by decide +kernel
theorem dX13_spot_0 : decode cX13_spot 0 = .ok (.bipush 49, 2) := by decide +kernel
theorem dX13_spot_2 : decode cX13_spot 2 = .ok (.iload_n 0, 1) := by decide +kernel
theorem dX13_spot_3 : decode cX13_spot 3 = .ok (.imul, 1) := by decide +kernel
theorem dX13_spot_4 : decode cX13_spot 4 = .ok (.iload_n 1, 1) := by decide +kernel
theorem dX13_spot_5 : decode cX13_spot 5 = .ok (.iadd, 1) := by decide +kernel
theorem dX13_spot_6 : decode cX13_spot 6 = .ok (.ireturn, 1) := by decide +kernel
theorem dX13_compare_0 : decode cX13_compare 0 = .ok (.iload_n 1, 1) := by decide +kernel
theorem dX13_compare_1 : decode cX13_compare 1 = .ok (.iconst 1, 1) := by decide +kernel
theorem dX13_compare_2 : decode cX13_compare 2 = .ok (.iadd, 1) := by decide +kernel
theorem dX13_compare_3 : decode cX13_compare 3 = .ok (.iload_n 3, 1) := by decide +kernel
theorem dX13_compare_4 : decode cX13_compare 4 = .ok (.invokestatic 320, 3) := by decide +kernel
theorem dX13_compare_7 : decode cX13_compare 7 = .ok (.istore 7, 2) := by decide +kernel
theorem dX13_compare_9 : decode cX13_compare 9 = .ok (.aload_n 0, 1) := by decide +kernel
theorem dX13_compare_10 : decode cX13_compare 10 = .ok (.iload_n 2, 1) := by decide +kernel
theorem dX13_compare_11 : decode cX13_compare 11 = .ok (.iload_n 3, 1) := by decide +kernel
theorem dX13_compare_12 : decode cX13_compare 12 = .ok (.aload_n 0, 1) := by decide +kernel
theorem dX13_compare_13 : decode cX13_compare 13 = .ok (.getfield 172, 3) := by decide +kernel
theorem dX13_compare_16 : decode cX13_compare 16 = .ok (.iload_n 1, 1) := by decide +kernel
theorem dX13_compare_17 : decode cX13_compare 17 = .ok (.iaload, 1) := by decide +kernel
theorem dX13_compare_18 : decode cX13_compare 18 = .ok (.invokevirtual 323, 3) := by decide +kernel
theorem dX13_compare_21 : decode cX13_compare 21 = .ok (.aload_n 0, 1) := by decide +kernel
theorem dX13_compare_22 : decode cX13_compare 22 = .ok (.getfield 178, 3) := by decide +kernel
theorem dX13_compare_25 : decode cX13_compare 25 = .ok (.iload 7, 2) := by decide +kernel
theorem dX13_compare_27 : decode cX13_compare 27 = .ok (.iaload, 1) := by decide +kernel
theorem dX13_compare_28 : decode cX13_compare 28 = .ok (.iadd, 1) := by decide +kernel
theorem dX13_compare_29 : decode cX13_compare 29 = .ok (.istore 8, 2) := by decide +kernel
theorem dX13_compare_31 : decode cX13_compare 31 = .ok (.iload_n 2, 1) := by decide +kernel
theorem dX13_compare_32 : decode cX13_compare 32 = .ok (.iload_n 3, 1) := by decide +kernel
theorem dX13_compare_33 : decode cX13_compare 33 = .ok (.if_icmp .ne 7, 3) := by decide +kernel
theorem dX13_compare_36 : decode cX13_compare 36 = .ok (.iconst 0, 1) := by decide +kernel
theorem dX13_compare_37 : decode cX13_compare 37 = .ok (.goto 14, 3) := by decide +kernel
theorem dX13_compare_40 : decode cX13_compare 40 = .ok (.aload_n 0, 1) := by decide +kernel
theorem dX13_compare_41 : decode cX13_compare 41 = .ok (.getfield 175, 3) := by decide +kernel
theorem dX13_compare_44 : decode cX13_compare 44 = .ok (.bipush 49, 2) := by decide +kernel
theorem dX13_compare_46 : decode cX13_compare 46 = .ok (.iload_n 2, 1) := by decide +kernel
theorem dX13_compare_47 : decode cX13_compare 47 = .ok (.imul, 1) := by decide +kernel
theorem dX13_compare_48 : decode cX13_compare 48 = .ok (.iload_n 3, 1) := by decide +kernel
theorem dX13_compare_49 : decode cX13_compare 49 = .ok (.iadd, 1) := by decide +kernel
theorem dX13_compare_50 : decode cX13_compare 50 = .ok (.iaload, 1) := by decide +kernel
theorem dX13_compare_51 : decode cX13_compare 51 = .ok (.aload_n 0, 1) := by decide +kernel
theorem dX13_compare_52 : decode cX13_compare 52 = .ok (.getfield 181, 3) := by decide +kernel
theorem dX13_compare_55 : decode cX13_compare 55 = .ok (.iload 7, 2) := by decide +kernel
theorem dX13_compare_57 : decode cX13_compare 57 = .ok (.iaload, 1) := by decide +kernel
theorem dX13_compare_58 : decode cX13_compare 58 = .ok (.iadd, 1) := by decide +kernel
theorem dX13_compare_59 : decode cX13_compare 59 = .ok (.istore 9, 2) := by decide +kernel
theorem dX13_compare_61 : decode cX13_compare 61 = .ok (.iload_n 2, 1) := by decide +kernel
theorem dX13_compare_62 : decode cX13_compare 62 = .ok (.iload_n 3, 1) := by decide +kernel
theorem dX13_compare_63 : decode cX13_compare 63 = .ok (.if_icmp .ne 7, 3) := by decide +kernel
theorem dX13_compare_66 : decode cX13_compare 66 = .ok (.iconst 0, 1) := by decide +kernel
theorem dX13_compare_67 : decode cX13_compare 67 = .ok (.goto 4, 3) := by decide +kernel
theorem dX13_compare_70 : decode cX13_compare 70 = .ok (.iconst 1, 1) := by decide +kernel
theorem dX13_compare_71 : decode cX13_compare 71 = .ok (.aload_n 0, 1) := by decide +kernel
theorem dX13_compare_72 : decode cX13_compare 72 = .ok (.getfield 184, 3) := by decide +kernel
theorem dX13_compare_75 : decode cX13_compare 75 = .ok (.iload 7, 2) := by decide +kernel
theorem dX13_compare_77 : decode cX13_compare 77 = .ok (.iaload, 1) := by decide +kernel
theorem dX13_compare_78 : decode cX13_compare 78 = .ok (.iadd, 1) := by decide +kernel
theorem dX13_compare_79 : decode cX13_compare 79 = .ok (.istore 10, 2) := by decide +kernel
theorem dX13_compare_81 : decode cX13_compare 81 = .ok (.iload 8, 2) := by decide +kernel
theorem dX13_compare_83 : decode cX13_compare 83 = .ok (.iload 4, 2) := by decide +kernel
theorem dX13_compare_85 : decode cX13_compare 85 = .ok (.if_icmp .eq 11, 3) := by decide +kernel
theorem dX13_compare_88 : decode cX13_compare 88 = .ok (.iload 4, 2) := by decide +kernel
theorem dX13_compare_90 : decode cX13_compare 90 = .ok (.iload 8, 2) := by decide +kernel
theorem dX13_compare_92 : decode cX13_compare 92 = .ok (.isub, 1) := by decide +kernel
theorem dX13_compare_93 : decode cX13_compare 93 = .ok (.goto 23, 3) := by decide +kernel
theorem dX13_compare_96 : decode cX13_compare 96 = .ok (.iload 9, 2) := by decide +kernel
theorem dX13_compare_98 : decode cX13_compare 98 = .ok (.iload 5, 2) := by decide +kernel
theorem dX13_compare_100 : decode cX13_compare 100 = .ok (.if_icmp .eq 11, 3) := by decide +kernel
theorem dX13_compare_103 : decode cX13_compare 103 = .ok (.iload 5, 2) := by decide +kernel
theorem dX13_compare_105 : decode cX13_compare 105 = .ok (.iload 9, 2) := by decide +kernel
theorem dX13_compare_107 : decode cX13_compare 107 = .ok (.isub, 1) := by decide +kernel
theorem dX13_compare_108 : decode cX13_compare 108 = .ok (.goto 8, 3) := by decide +kernel
theorem dX13_compare_111 : decode cX13_compare 111 = .ok (.iload 6, 2) := by decide +kernel
theorem dX13_compare_113 : decode cX13_compare 113 = .ok (.iload 10, 2) := by decide +kernel
theorem dX13_compare_115 : decode cX13_compare 115 = .ok (.isub, 1) := by decide +kernel
theorem dX13_compare_116 : decode cX13_compare 116 = .ok (.ireturn, 1) := by decide +kernel
theorem dX13_mayHave_0 : decode cX13_mayHave 0 = .ok (.aload_n 0, 1) := by decide +kernel
theorem dX13_mayHave_1 : decode cX13_mayHave 1 = .ok (.getfield 181, 3) := by decide +kernel
theorem dX13_mayHave_4 : decode cX13_mayHave 4 = .ok (.iload_n 1, 1) := by decide +kernel
theorem dX13_mayHave_5 : decode cX13_mayHave 5 = .ok (.iconst 1, 1) := by decide +kernel
theorem dX13_mayHave_6 : decode cX13_mayHave 6 = .ok (.iadd, 1) := by decide +kernel
theorem dX13_mayHave_7 : decode cX13_mayHave 7 = .ok (.iload_n 3, 1) := by decide +kernel
theorem dX13_mayHave_8 : decode cX13_mayHave 8 = .ok (.invokestatic 320, 3) := by decide +kernel
theorem dX13_mayHave_11 : decode cX13_mayHave 11 = .ok (.iaload, 1) := by decide +kernel
theorem dX13_mayHave_12 : decode cX13_mayHave 12 = .ok (.ldc_w 282, 3) := by decide +kernel
theorem dX13_mayHave_15 : decode cX13_mayHave 15 = .ok (.if_icmp .ge 29, 3) := by decide +kernel
theorem dX13_mayHave_18 : decode cX13_mayHave 18 = .ok (.iload_n 2, 1) := by decide +kernel
theorem dX13_mayHave_19 : decode cX13_mayHave 19 = .ok (.iload_n 3, 1) := by decide +kernel
theorem dX13_mayHave_20 : decode cX13_mayHave 20 = .ok (.if_icmp .eq 20, 3) := by decide +kernel
theorem dX13_mayHave_23 : decode cX13_mayHave 23 = .ok (.aload_n 0, 1) := by decide +kernel
theorem dX13_mayHave_24 : decode cX13_mayHave 24 = .ok (.getfield 175, 3) := by decide +kernel
theorem dX13_mayHave_27 : decode cX13_mayHave 27 = .ok (.bipush 49, 2) := by decide +kernel
theorem dX13_mayHave_29 : decode cX13_mayHave 29 = .ok (.iload_n 2, 1) := by decide +kernel
theorem dX13_mayHave_30 : decode cX13_mayHave 30 = .ok (.imul, 1) := by decide +kernel
theorem dX13_mayHave_31 : decode cX13_mayHave 31 = .ok (.iload_n 3, 1) := by decide +kernel
theorem dX13_mayHave_32 : decode cX13_mayHave 32 = .ok (.iadd, 1) := by decide +kernel
theorem dX13_mayHave_33 : decode cX13_mayHave 33 = .ok (.iaload, 1) := by decide +kernel
theorem dX13_mayHave_34 : decode cX13_mayHave 34 = .ok (.ldc_w 282, 3) := by decide +kernel
theorem dX13_mayHave_37 : decode cX13_mayHave 37 = .ok (.if_icmp .ge 7, 3) := by decide +kernel
theorem dX13_mayHave_40 : decode cX13_mayHave 40 = .ok (.iconst 1, 1) := by decide +kernel
theorem dX13_mayHave_41 : decode cX13_mayHave 41 = .ok (.goto 4, 3) := by decide +kernel
theorem dX13_mayHave_44 : decode cX13_mayHave 44 = .ok (.iconst 0, 1) := by decide +kernel
theorem dX13_mayHave_45 : decode cX13_mayHave 45 = .ok (.ireturn, 1) := by decide +kernel
theorem dX13_findRanges_0 : decode cX13_findRanges 0 = .ok (.aload_n 0, 1) := by decide +kernel
theorem dX13_findRanges_1 : decode cX13_findRanges 1 = .ok (.invokevirtual 326, 3) := by decide +kernel
theorem dX13_findRanges_4 : decode cX13_findRanges 4 = .ok (.iconst 0, 1) := by decide +kernel
theorem dX13_findRanges_5 : decode cX13_findRanges 5 = .ok (.istore_n 1, 1) := by decide +kernel
theorem dX13_findRanges_6 : decode cX13_findRanges 6 = .ok (.iload_n 1, 1) := by decide +kernel
theorem dX13_findRanges_7 : decode cX13_findRanges 7 = .ok (.aload_n 0, 1) := by decide +kernel
theorem dX13_findRanges_8 : decode cX13_findRanges 8 = .ok (.getfield 314, 3) := by decide +kernel
theorem dX13_findRanges_11 : decode cX13_findRanges 11 = .ok (.if_icmp .gt 65, 3) := by decide +kernel
theorem dX13_findRanges_14 : decode cX13_findRanges 14 = .ok (.aload_n 0, 1) := by decide +kernel
theorem dX13_findRanges_15 : decode cX13_findRanges 15 = .ok (.getfield 178, 3) := by decide +kernel
theorem dX13_findRanges_18 : decode cX13_findRanges 18 = .ok (.aload_n 0, 1) := by decide +kernel
theorem dX13_findRanges_19 : decode cX13_findRanges 19 = .ok (.getfield 329, 3) := by decide +kernel
theorem dX13_findRanges_22 : decode cX13_findRanges 22 = .ok (.iload_n 1, 1) := by decide +kernel
theorem dX13_findRanges_23 : decode cX13_findRanges 23 = .ok (.invokestatic 320, 3) := by decide +kernel
theorem dX13_findRanges_26 : decode cX13_findRanges 26 = .ok (.iconst 0, 1) := by decide +kernel
theorem dX13_findRanges_27 : decode cX13_findRanges 27 = .ok (.iastore, 1) := by decide +kernel
theorem dX13_findRanges_28 : decode cX13_findRanges 28 = .ok (.aload_n 0, 1) := by decide +kernel
theorem dX13_findRanges_29 : decode cX13_findRanges 29 = .ok (.getfield 184, 3) := by decide +kernel
theorem dX13_findRanges_32 : decode cX13_findRanges 32 = .ok (.aload_n 0, 1) := by decide +kernel
theorem dX13_findRanges_33 : decode cX13_findRanges 33 = .ok (.getfield 329, 3) := by decide +kernel
theorem dX13_findRanges_36 : decode cX13_findRanges 36 = .ok (.iload_n 1, 1) := by decide +kernel
theorem dX13_findRanges_37 : decode cX13_findRanges 37 = .ok (.invokestatic 320, 3) := by decide +kernel
theorem dX13_findRanges_40 : decode cX13_findRanges 40 = .ok (.iconst 0, 1) := by decide +kernel
theorem dX13_findRanges_41 : decode cX13_findRanges 41 = .ok (.iastore, 1) := by decide +kernel
theorem dX13_findRanges_42 : decode cX13_findRanges 42 = .ok (.aload_n 0, 1) := by decide +kernel
theorem dX13_findRanges_43 : decode cX13_findRanges 43 = .ok (.getfield 181, 3) := by decide +kernel
theorem dX13_findRanges_46 : decode cX13_findRanges 46 = .ok (.aload_n 0, 1) := by decide +kernel
theorem dX13_findRanges_47 : decode cX13_findRanges 47 = .ok (.getfield 329, 3) := by decide +kernel
theorem dX13_findRanges_50 : decode cX13_findRanges 50 = .ok (.iload_n 1, 1) := by decide +kernel
theorem dX13_findRanges_51 : decode cX13_findRanges 51 = .ok (.invokestatic 320, 3) := by decide +kernel
theorem dX13_findRanges_54 : decode cX13_findRanges 54 = .ok (.iload_n 1, 1) := by decide +kernel
theorem dX13_findRanges_55 : decode cX13_findRanges 55 = .ok (.aload_n 0, 1) := by decide +kernel
theorem dX13_findRanges_56 : decode cX13_findRanges 56 = .ok (.getfield 314, 3) := by decide +kernel
theorem dX13_findRanges_59 : decode cX13_findRanges 59 = .ok (.if_icmp .ne 7, 3) := by decide +kernel
theorem dX13_findRanges_62 : decode cX13_findRanges 62 = .ok (.iconst 0, 1) := by decide +kernel
theorem dX13_findRanges_63 : decode cX13_findRanges 63 = .ok (.goto 6, 3) := by decide +kernel
theorem dX13_findRanges_66 : decode cX13_findRanges 66 = .ok (.ldc_w 282, 3) := by decide +kernel
theorem dX13_findRanges_69 : decode cX13_findRanges 69 = .ok (.iastore, 1) := by decide +kernel
theorem dX13_findRanges_70 : decode cX13_findRanges 70 = .ok (.iinc 1 1, 3) := by decide +kernel
theorem dX13_findRanges_73 : decode cX13_findRanges 73 = .ok (.goto (-67), 3) := by decide +kernel
theorem dX13_findRanges_76 : decode cX13_findRanges 76 = .ok (.aload_n 0, 1) := by decide +kernel
theorem dX13_findRanges_77 : decode cX13_findRanges 77 = .ok (.getfield 329, 3) := by decide +kernel
theorem dX13_findRanges_80 : decode cX13_findRanges 80 = .ok (.iconst 1, 1) := by decide +kernel
theorem dX13_findRanges_81 : decode cX13_findRanges 81 = .ok (.isub, 1) := by decide +kernel
theorem dX13_findRanges_82 : decode cX13_findRanges 82 = .ok (.istore_n 1, 1) := by decide +kernel
theorem dX13_findRanges_83 : decode cX13_findRanges 83 = .ok (.iload_n 1, 1) := by decide +kernel
theorem dX13_findRanges_84 : decode cX13_findRanges 84 = .ok (.ifCond .lt 217, 3) := by decide +kernel
theorem dX13_findRanges_87 : decode cX13_findRanges 87 = .ok (.iconst 0, 1) := by decide +kernel
theorem dX13_findRanges_88 : decode cX13_findRanges 88 = .ok (.istore_n 2, 1) := by decide +kernel
theorem dX13_findRanges_89 : decode cX13_findRanges 89 = .ok (.iload_n 2, 1) := by decide +kernel
theorem dX13_findRanges_90 : decode cX13_findRanges 90 = .ok (.aload_n 0, 1) := by decide +kernel
theorem dX13_findRanges_91 : decode cX13_findRanges 91 = .ok (.getfield 314, 3) := by decide +kernel
theorem dX13_findRanges_94 : decode cX13_findRanges 94 = .ok (.if_icmp .gt 201, 3) := by decide +kernel
theorem dX13_findRanges_97 : decode cX13_findRanges 97 = .ok (.iload_n 1, 1) := by decide +kernel
theorem dX13_findRanges_98 : decode cX13_findRanges 98 = .ok (.iload_n 2, 1) := by decide +kernel
theorem dX13_findRanges_99 : decode cX13_findRanges 99 = .ok (.invokestatic 320, 3) := by decide +kernel
theorem dX13_findRanges_102 : decode cX13_findRanges 102 = .ok (.istore_n 3, 1) := by decide +kernel
theorem dX13_findRanges_103 : decode cX13_findRanges 103 = .ok (.aload_n 0, 1) := by decide +kernel
theorem dX13_findRanges_104 : decode cX13_findRanges 104 = .ok (.getfield 178, 3) := by decide +kernel
theorem dX13_findRanges_107 : decode cX13_findRanges 107 = .ok (.iload_n 3, 1) := by decide +kernel
theorem dX13_findRanges_108 : decode cX13_findRanges 108 = .ok (.ldc_w 282, 3) := by decide +kernel
theorem dX13_findRanges_111 : decode cX13_findRanges 111 = .ok (.iastore, 1) := by decide +kernel
theorem dX13_findRanges_112 : decode cX13_findRanges 112 = .ok (.aload_n 0, 1) := by decide +kernel
theorem dX13_findRanges_113 : decode cX13_findRanges 113 = .ok (.getfield 181, 3) := by decide +kernel
theorem dX13_findRanges_116 : decode cX13_findRanges 116 = .ok (.iload_n 3, 1) := by decide +kernel
theorem dX13_findRanges_117 : decode cX13_findRanges 117 = .ok (.ldc_w 282, 3) := by decide +kernel
theorem dX13_findRanges_120 : decode cX13_findRanges 120 = .ok (.iastore, 1) := by decide +kernel
theorem dX13_findRanges_121 : decode cX13_findRanges 121 = .ok (.aload_n 0, 1) := by decide +kernel
theorem dX13_findRanges_122 : decode cX13_findRanges 122 = .ok (.getfield 184, 3) := by decide +kernel
theorem dX13_findRanges_125 : decode cX13_findRanges 125 = .ok (.iload_n 3, 1) := by decide +kernel
theorem dX13_findRanges_126 : decode cX13_findRanges 126 = .ok (.ldc_w 282, 3) := by decide +kernel
theorem dX13_findRanges_129 : decode cX13_findRanges 129 = .ok (.iastore, 1) := by decide +kernel
theorem dX13_findRanges_130 : decode cX13_findRanges 130 = .ok (.iload_n 2, 1) := by decide +kernel
theorem dX13_findRanges_131 : decode cX13_findRanges 131 = .ok (.istore 4, 2) := by decide +kernel
theorem dX13_findRanges_133 : decode cX13_findRanges 133 = .ok (.iload 4, 2) := by decide +kernel
theorem dX13_findRanges_135 : decode cX13_findRanges 135 = .ok (.aload_n 0, 1) := by decide +kernel
theorem dX13_findRanges_136 : decode cX13_findRanges 136 = .ok (.getfield 314, 3) := by decide +kernel
theorem dX13_findRanges_139 : decode cX13_findRanges 139 = .ok (.if_icmp .gt 150, 3) := by decide +kernel
theorem dX13_findRanges_142 : decode cX13_findRanges 142 = .ok (.aload_n 0, 1) := by decide +kernel
theorem dX13_findRanges_143 : decode cX13_findRanges 143 = .ok (.iload_n 1, 1) := by decide +kernel
theorem dX13_findRanges_144 : decode cX13_findRanges 144 = .ok (.iload_n 2, 1) := by decide +kernel
theorem dX13_findRanges_145 : decode cX13_findRanges 145 = .ok (.iload 4, 2) := by decide +kernel
theorem dX13_findRanges_147 : decode cX13_findRanges 147 = .ok (.invokevirtual 332, 3) := by decide +kernel
theorem dX13_findRanges_150 : decode cX13_findRanges 150 = .ok (.ifCond .eq 133, 3) := by decide +kernel
theorem dX13_findRanges_153 : decode cX13_findRanges 153 = .ok (.aload_n 0, 1) := by decide +kernel
theorem dX13_findRanges_154 : decode cX13_findRanges 154 = .ok (.iload_n 1, 1) := by decide +kernel
theorem dX13_findRanges_155 : decode cX13_findRanges 155 = .ok (.iload_n 2, 1) := by decide +kernel
theorem dX13_findRanges_156 : decode cX13_findRanges 156 = .ok (.iload 4, 2) := by decide +kernel
theorem dX13_findRanges_158 : decode cX13_findRanges 158 = .ok (.aload_n 0, 1) := by decide +kernel
theorem dX13_findRanges_159 : decode cX13_findRanges 159 = .ok (.getfield 178, 3) := by decide +kernel
theorem dX13_findRanges_162 : decode cX13_findRanges 162 = .ok (.iload_n 3, 1) := by decide +kernel
theorem dX13_findRanges_163 : decode cX13_findRanges 163 = .ok (.iaload, 1) := by decide +kernel
theorem dX13_findRanges_164 : decode cX13_findRanges 164 = .ok (.aload_n 0, 1) := by decide +kernel
theorem dX13_findRanges_165 : decode cX13_findRanges 165 = .ok (.getfield 181, 3) := by decide +kernel
theorem dX13_findRanges_168 : decode cX13_findRanges 168 = .ok (.iload_n 3, 1) := by decide +kernel
theorem dX13_findRanges_169 : decode cX13_findRanges 169 = .ok (.iaload, 1) := by decide +kernel
theorem dX13_findRanges_170 : decode cX13_findRanges 170 = .ok (.aload_n 0, 1) := by decide +kernel
theorem dX13_findRanges_171 : decode cX13_findRanges 171 = .ok (.getfield 184, 3) := by decide +kernel
theorem dX13_findRanges_174 : decode cX13_findRanges 174 = .ok (.iload_n 3, 1) := by decide +kernel
theorem dX13_findRanges_175 : decode cX13_findRanges 175 = .ok (.iaload, 1) := by decide +kernel
theorem dX13_findRanges_176 : decode cX13_findRanges 176 = .ok (.invokevirtual 336, 3) := by decide +kernel
theorem dX13_findRanges_179 : decode cX13_findRanges 179 = .ok (.ifCond .gt 6, 3) := by decide +kernel
theorem dX13_findRanges_182 : decode cX13_findRanges 182 = .ok (.goto 101, 3) := by decide +kernel
theorem dX13_findRanges_185 : decode cX13_findRanges 185 = .ok (.iload_n 1, 1) := by decide +kernel
theorem dX13_findRanges_186 : decode cX13_findRanges 186 = .ok (.iconst 1, 1) := by decide +kernel
theorem dX13_findRanges_187 : decode cX13_findRanges 187 = .ok (.iadd, 1) := by decide +kernel
theorem dX13_findRanges_188 : decode cX13_findRanges 188 = .ok (.iload 4, 2) := by decide +kernel
theorem dX13_findRanges_190 : decode cX13_findRanges 190 = .ok (.invokestatic 320, 3) := by decide +kernel
theorem dX13_findRanges_193 : decode cX13_findRanges 193 = .ok (.istore 5, 2) := by decide +kernel
theorem dX13_findRanges_195 : decode cX13_findRanges 195 = .ok (.aload_n 0, 1) := by decide +kernel
theorem dX13_findRanges_196 : decode cX13_findRanges 196 = .ok (.getfield 178, 3) := by decide +kernel
theorem dX13_findRanges_199 : decode cX13_findRanges 199 = .ok (.iload_n 3, 1) := by decide +kernel
theorem dX13_findRanges_200 : decode cX13_findRanges 200 = .ok (.aload_n 0, 1) := by decide +kernel
theorem dX13_findRanges_201 : decode cX13_findRanges 201 = .ok (.iload_n 2, 1) := by decide +kernel
theorem dX13_findRanges_202 : decode cX13_findRanges 202 = .ok (.iload 4, 2) := by decide +kernel
theorem dX13_findRanges_204 : decode cX13_findRanges 204 = .ok (.aload_n 0, 1) := by decide +kernel
theorem dX13_findRanges_205 : decode cX13_findRanges 205 = .ok (.getfield 172, 3) := by decide +kernel
theorem dX13_findRanges_208 : decode cX13_findRanges 208 = .ok (.iload_n 1, 1) := by decide +kernel
theorem dX13_findRanges_209 : decode cX13_findRanges 209 = .ok (.iaload, 1) := by decide +kernel
theorem dX13_findRanges_210 : decode cX13_findRanges 210 = .ok (.invokevirtual 323, 3) := by decide +kernel
theorem dX13_findRanges_213 : decode cX13_findRanges 213 = .ok (.aload_n 0, 1) := by decide +kernel
theorem dX13_findRanges_214 : decode cX13_findRanges 214 = .ok (.getfield 178, 3) := by decide +kernel
theorem dX13_findRanges_217 : decode cX13_findRanges 217 = .ok (.iload 5, 2) := by decide +kernel
theorem dX13_findRanges_219 : decode cX13_findRanges 219 = .ok (.iaload, 1) := by decide +kernel
theorem dX13_findRanges_220 : decode cX13_findRanges 220 = .ok (.iadd, 1) := by decide +kernel
theorem dX13_findRanges_221 : decode cX13_findRanges 221 = .ok (.iastore, 1) := by decide +kernel
theorem dX13_findRanges_222 : decode cX13_findRanges 222 = .ok (.aload_n 0, 1) := by decide +kernel
theorem dX13_findRanges_223 : decode cX13_findRanges 223 = .ok (.getfield 181, 3) := by decide +kernel
theorem dX13_findRanges_226 : decode cX13_findRanges 226 = .ok (.iload_n 3, 1) := by decide +kernel
theorem dX13_findRanges_227 : decode cX13_findRanges 227 = .ok (.iload_n 2, 1) := by decide +kernel
theorem dX13_findRanges_228 : decode cX13_findRanges 228 = .ok (.iload 4, 2) := by decide +kernel
theorem dX13_findRanges_230 : decode cX13_findRanges 230 = .ok (.if_icmp .ne 7, 3) := by decide +kernel
theorem dX13_findRanges_233 : decode cX13_findRanges 233 = .ok (.iconst 0, 1) := by decide +kernel
theorem dX13_findRanges_234 : decode cX13_findRanges 234 = .ok (.goto 15, 3) := by decide +kernel
theorem dX13_findRanges_237 : decode cX13_findRanges 237 = .ok (.aload_n 0, 1) := by decide +kernel
theorem dX13_findRanges_238 : decode cX13_findRanges 238 = .ok (.getfield 175, 3) := by decide +kernel
theorem dX13_findRanges_241 : decode cX13_findRanges 241 = .ok (.bipush 49, 2) := by decide +kernel
theorem dX13_findRanges_243 : decode cX13_findRanges 243 = .ok (.iload_n 2, 1) := by decide +kernel
theorem dX13_findRanges_244 : decode cX13_findRanges 244 = .ok (.imul, 1) := by decide +kernel
theorem dX13_findRanges_245 : decode cX13_findRanges 245 = .ok (.iload 4, 2) := by decide +kernel
theorem dX13_findRanges_247 : decode cX13_findRanges 247 = .ok (.iadd, 1) := by decide +kernel
theorem dX13_findRanges_248 : decode cX13_findRanges 248 = .ok (.iaload, 1) := by decide +kernel
theorem dX13_findRanges_249 : decode cX13_findRanges 249 = .ok (.aload_n 0, 1) := by decide +kernel
theorem dX13_findRanges_250 : decode cX13_findRanges 250 = .ok (.getfield 181, 3) := by decide +kernel
theorem dX13_findRanges_253 : decode cX13_findRanges 253 = .ok (.iload 5, 2) := by decide +kernel
theorem dX13_findRanges_255 : decode cX13_findRanges 255 = .ok (.iaload, 1) := by decide +kernel
theorem dX13_findRanges_256 : decode cX13_findRanges 256 = .ok (.iadd, 1) := by decide +kernel
theorem dX13_findRanges_257 : decode cX13_findRanges 257 = .ok (.iastore, 1) := by decide +kernel
theorem dX13_findRanges_258 : decode cX13_findRanges 258 = .ok (.aload_n 0, 1) := by decide +kernel
theorem dX13_findRanges_259 : decode cX13_findRanges 259 = .ok (.getfield 184, 3) := by decide +kernel
theorem dX13_findRanges_262 : decode cX13_findRanges 262 = .ok (.iload_n 3, 1) := by decide +kernel
theorem dX13_findRanges_263 : decode cX13_findRanges 263 = .ok (.iload_n 2, 1) := by decide +kernel
theorem dX13_findRanges_264 : decode cX13_findRanges 264 = .ok (.iload 4, 2) := by decide +kernel
theorem dX13_findRanges_266 : decode cX13_findRanges 266 = .ok (.if_icmp .ne 7, 3) := by decide +kernel
theorem dX13_findRanges_269 : decode cX13_findRanges 269 = .ok (.iconst 0, 1) := by decide +kernel
theorem dX13_findRanges_270 : decode cX13_findRanges 270 = .ok (.goto 4, 3) := by decide +kernel
theorem dX13_findRanges_273 : decode cX13_findRanges 273 = .ok (.iconst 1, 1) := by decide +kernel
theorem dX13_findRanges_274 : decode cX13_findRanges 274 = .ok (.aload_n 0, 1) := by decide +kernel
theorem dX13_findRanges_275 : decode cX13_findRanges 275 = .ok (.getfield 184, 3) := by decide +kernel
theorem dX13_findRanges_278 : decode cX13_findRanges 278 = .ok (.iload 5, 2) := by decide +kernel
theorem dX13_findRanges_280 : decode cX13_findRanges 280 = .ok (.iaload, 1) := by decide +kernel
theorem dX13_findRanges_281 : decode cX13_findRanges 281 = .ok (.iadd, 1) := by decide +kernel
theorem dX13_findRanges_282 : decode cX13_findRanges 282 = .ok (.iastore, 1) := by decide +kernel
theorem dX13_findRanges_283 : decode cX13_findRanges 283 = .ok (.iinc 4 1, 3) := by decide +kernel
theorem dX13_findRanges_286 : decode cX13_findRanges 286 = .ok (.goto (-153), 3) := by decide +kernel
theorem dX13_findRanges_289 : decode cX13_findRanges 289 = .ok (.iinc 2 1, 3) := by decide +kernel
theorem dX13_findRanges_292 : decode cX13_findRanges 292 = .ok (.goto (-203), 3) := by decide +kernel
theorem dX13_findRanges_295 : decode cX13_findRanges 295 = .ok (.iinc 1 (-1), 3) := by decide +kernel
theorem dX13_findRanges_298 : decode cX13_findRanges 298 = .ok (.goto (-215), 3) := by decide +kernel
theorem dX13_findRanges_301 : decode cX13_findRanges 301 = .ok (.aload_n 0, 1) := by decide +kernel
theorem dX13_findRanges_302 : decode cX13_findRanges 302 = .ok (.getfield 181, 3) := by decide +kernel
theorem dX13_findRanges_305 : decode cX13_findRanges 305 = .ok (.iconst 0, 1) := by decide +kernel
theorem dX13_findRanges_306 : decode cX13_findRanges 306 = .ok (.iconst 0, 1) := by decide +kernel
theorem dX13_findRanges_307 : decode cX13_findRanges 307 = .ok (.invokestatic 320, 3) := by decide +kernel
theorem dX13_findRanges_310 : decode cX13_findRanges 310 = .ok (.iaload, 1) := by decide +kernel
theorem dX13_findRanges_311 : decode cX13_findRanges 311 = .ok (.ldc_w 282, 3) := by decide +kernel
theorem dX13_findRanges_314 : decode cX13_findRanges 314 = .ok (.if_icmp .ge 7, 3) := by decide +kernel
theorem dX13_findRanges_317 : decode cX13_findRanges 317 = .ok (.iconst 1, 1) := by decide +kernel
theorem dX13_findRanges_318 : decode cX13_findRanges 318 = .ok (.goto 4, 3) := by decide +kernel
theorem dX13_findRanges_321 : decode cX13_findRanges 321 = .ok (.iconst 0, 1) := by decide +kernel
theorem dX13_findRanges_322 : decode cX13_findRanges 322 = .ok (.ireturn, 1) := by decide +kernel
theorem dX13_takeRanges_0 : decode cX13_takeRanges 0 = .ok (.iconst 0, 1) := by decide +kernel
theorem dX13_takeRanges_1 : decode cX13_takeRanges 1 = .ok (.istore_n 1, 1) := by decide +kernel
theorem dX13_takeRanges_2 : decode cX13_takeRanges 2 = .ok (.iload_n 1, 1) := by decide +kernel
theorem dX13_takeRanges_3 : decode cX13_takeRanges 3 = .ok (.bipush 48, 2) := by decide +kernel
theorem dX13_takeRanges_5 : decode cX13_takeRanges 5 = .ok (.if_icmp .ge 16, 3) := by decide +kernel
theorem dX13_takeRanges_8 : decode cX13_takeRanges 8 = .ok (.aload_n 0, 1) := by decide +kernel
theorem dX13_takeRanges_9 : decode cX13_takeRanges 9 = .ok (.getfield 153, 3) := by decide +kernel
theorem dX13_takeRanges_12 : decode cX13_takeRanges 12 = .ok (.iload_n 1, 1) := by decide +kernel
theorem dX13_takeRanges_13 : decode cX13_takeRanges 13 = .ok (.iconst (-1), 1) := by decide +kernel
theorem dX13_takeRanges_14 : decode cX13_takeRanges 14 = .ok (.iastore, 1) := by decide +kernel
theorem dX13_takeRanges_15 : decode cX13_takeRanges 15 = .ok (.iinc 1 1, 3) := by decide +kernel
theorem dX13_takeRanges_18 : decode cX13_takeRanges 18 = .ok (.goto (-16), 3) := by decide +kernel
theorem dX13_takeRanges_21 : decode cX13_takeRanges 21 = .ok (.iconst 0, 1) := by decide +kernel
theorem dX13_takeRanges_22 : decode cX13_takeRanges 22 = .ok (.istore_n 1, 1) := by decide +kernel
theorem dX13_takeRanges_23 : decode cX13_takeRanges 23 = .ok (.iconst 0, 1) := by decide +kernel
theorem dX13_takeRanges_24 : decode cX13_takeRanges 24 = .ok (.istore_n 2, 1) := by decide +kernel
theorem dX13_takeRanges_25 : decode cX13_takeRanges 25 = .ok (.iload_n 2, 1) := by decide +kernel
theorem dX13_takeRanges_26 : decode cX13_takeRanges 26 = .ok (.aload_n 0, 1) := by decide +kernel
theorem dX13_takeRanges_27 : decode cX13_takeRanges 27 = .ok (.getfield 329, 3) := by decide +kernel
theorem dX13_takeRanges_30 : decode cX13_takeRanges 30 = .ok (.if_icmp .ge 101, 3) := by decide +kernel
theorem dX13_takeRanges_33 : decode cX13_takeRanges 33 = .ok (.iload_n 2, 1) := by decide +kernel
theorem dX13_takeRanges_34 : decode cX13_takeRanges 34 = .ok (.iload_n 1, 1) := by decide +kernel
theorem dX13_takeRanges_35 : decode cX13_takeRanges 35 = .ok (.invokestatic 320, 3) := by decide +kernel
theorem dX13_takeRanges_38 : decode cX13_takeRanges 38 = .ok (.istore_n 3, 1) := by decide +kernel
theorem dX13_takeRanges_39 : decode cX13_takeRanges 39 = .ok (.iload_n 1, 1) := by decide +kernel
theorem dX13_takeRanges_40 : decode cX13_takeRanges 40 = .ok (.istore 4, 2) := by decide +kernel
theorem dX13_takeRanges_42 : decode cX13_takeRanges 42 = .ok (.aload_n 0, 1) := by decide +kernel
theorem dX13_takeRanges_43 : decode cX13_takeRanges 43 = .ok (.iload_n 2, 1) := by decide +kernel
theorem dX13_takeRanges_44 : decode cX13_takeRanges 44 = .ok (.iload_n 1, 1) := by decide +kernel
theorem dX13_takeRanges_45 : decode cX13_takeRanges 45 = .ok (.iload 4, 2) := by decide +kernel
theorem dX13_takeRanges_47 : decode cX13_takeRanges 47 = .ok (.invokevirtual 332, 3) := by decide +kernel
theorem dX13_takeRanges_50 : decode cX13_takeRanges 50 = .ok (.ifCond .eq 32, 3) := by decide +kernel
theorem dX13_takeRanges_53 : decode cX13_takeRanges 53 = .ok (.aload_n 0, 1) := by decide +kernel
theorem dX13_takeRanges_54 : decode cX13_takeRanges 54 = .ok (.iload_n 2, 1) := by decide +kernel
theorem dX13_takeRanges_55 : decode cX13_takeRanges 55 = .ok (.iload_n 1, 1) := by decide +kernel
theorem dX13_takeRanges_56 : decode cX13_takeRanges 56 = .ok (.iload 4, 2) := by decide +kernel
theorem dX13_takeRanges_58 : decode cX13_takeRanges 58 = .ok (.aload_n 0, 1) := by decide +kernel
theorem dX13_takeRanges_59 : decode cX13_takeRanges 59 = .ok (.getfield 178, 3) := by decide +kernel
theorem dX13_takeRanges_62 : decode cX13_takeRanges 62 = .ok (.iload_n 3, 1) := by decide +kernel
theorem dX13_takeRanges_63 : decode cX13_takeRanges 63 = .ok (.iaload, 1) := by decide +kernel
theorem dX13_takeRanges_64 : decode cX13_takeRanges 64 = .ok (.aload_n 0, 1) := by decide +kernel
theorem dX13_takeRanges_65 : decode cX13_takeRanges 65 = .ok (.getfield 181, 3) := by decide +kernel
theorem dX13_takeRanges_68 : decode cX13_takeRanges 68 = .ok (.iload_n 3, 1) := by decide +kernel
theorem dX13_takeRanges_69 : decode cX13_takeRanges 69 = .ok (.iaload, 1) := by decide +kernel
theorem dX13_takeRanges_70 : decode cX13_takeRanges 70 = .ok (.aload_n 0, 1) := by decide +kernel
theorem dX13_takeRanges_71 : decode cX13_takeRanges 71 = .ok (.getfield 184, 3) := by decide +kernel
theorem dX13_takeRanges_74 : decode cX13_takeRanges 74 = .ok (.iload_n 3, 1) := by decide +kernel
theorem dX13_takeRanges_75 : decode cX13_takeRanges 75 = .ok (.iaload, 1) := by decide +kernel
theorem dX13_takeRanges_76 : decode cX13_takeRanges 76 = .ok (.invokevirtual 336, 3) := by decide +kernel
theorem dX13_takeRanges_79 : decode cX13_takeRanges 79 = .ok (.ifCond .eq 9, 3) := by decide +kernel
theorem dX13_takeRanges_82 : decode cX13_takeRanges 82 = .ok (.iinc 4 1, 3) := by decide +kernel
theorem dX13_takeRanges_85 : decode cX13_takeRanges 85 = .ok (.goto (-43), 3) := by decide +kernel
theorem dX13_takeRanges_88 : decode cX13_takeRanges 88 = .ok (.iload_n 1, 1) := by decide +kernel
theorem dX13_takeRanges_89 : decode cX13_takeRanges 89 = .ok (.istore 5, 2) := by decide +kernel
theorem dX13_takeRanges_91 : decode cX13_takeRanges 91 = .ok (.iload 5, 2) := by decide +kernel
theorem dX13_takeRanges_93 : decode cX13_takeRanges 93 = .ok (.iload 4, 2) := by decide +kernel
theorem dX13_takeRanges_95 : decode cX13_takeRanges 95 = .ok (.if_icmp .ge 27, 3) := by decide +kernel
theorem dX13_takeRanges_98 : decode cX13_takeRanges 98 = .ok (.aload_n 0, 1) := by decide +kernel
theorem dX13_takeRanges_99 : decode cX13_takeRanges 99 = .ok (.getfield 153, 3) := by decide +kernel
theorem dX13_takeRanges_102 : decode cX13_takeRanges 102 = .ok (.aload_n 0, 1) := by decide +kernel
theorem dX13_takeRanges_103 : decode cX13_takeRanges 103 = .ok (.getfield 169, 3) := by decide +kernel
theorem dX13_takeRanges_106 : decode cX13_takeRanges 106 = .ok (.iload 5, 2) := by decide +kernel
theorem dX13_takeRanges_108 : decode cX13_takeRanges 108 = .ok (.iaload, 1) := by decide +kernel
theorem dX13_takeRanges_109 : decode cX13_takeRanges 109 = .ok (.aload_n 0, 1) := by decide +kernel
theorem dX13_takeRanges_110 : decode cX13_takeRanges 110 = .ok (.getfield 172, 3) := by decide +kernel
theorem dX13_takeRanges_113 : decode cX13_takeRanges 113 = .ok (.iload_n 2, 1) := by decide +kernel
theorem dX13_takeRanges_114 : decode cX13_takeRanges 114 = .ok (.iaload, 1) := by decide +kernel
theorem dX13_takeRanges_115 : decode cX13_takeRanges 115 = .ok (.iastore, 1) := by decide +kernel
theorem dX13_takeRanges_116 : decode cX13_takeRanges 116 = .ok (.iinc 5 1, 3) := by decide +kernel
theorem dX13_takeRanges_119 : decode cX13_takeRanges 119 = .ok (.goto (-28), 3) := by decide +kernel
theorem dX13_takeRanges_122 : decode cX13_takeRanges 122 = .ok (.iload 4, 2) := by decide +kernel
theorem dX13_takeRanges_124 : decode cX13_takeRanges 124 = .ok (.istore_n 1, 1) := by decide +kernel
theorem dX13_takeRanges_125 : decode cX13_takeRanges 125 = .ok (.iinc 2 1, 3) := by decide +kernel
theorem dX13_takeRanges_128 : decode cX13_takeRanges 128 = .ok (.goto (-103), 3) := by decide +kernel
theorem dX13_takeRanges_131 : decode cX13_takeRanges 131 = .ok (.aload_n 0, 1) := by decide +kernel
theorem dX13_takeRanges_132 : decode cX13_takeRanges 132 = .ok (.iconst 1, 1) := by decide +kernel
theorem dX13_takeRanges_133 : decode cX13_takeRanges 133 = .ok (.putfield 236, 3) := by decide +kernel
theorem dX13_takeRanges_136 : decode cX13_takeRanges 136 = .ok (.return_, 1) := by decide +kernel
theorem dX13_findThere_0 : decode cX13_findThere 0 = .ok (.aload_n 0, 1) := by decide +kernel
theorem dX13_findThere_1 : decode cX13_findThere 1 = .ok (.iconst 0, 1) := by decide +kernel
theorem dX13_findThere_2 : decode cX13_findThere 2 = .ok (.putfield 329, 3) := by decide +kernel
theorem dX13_findThere_5 : decode cX13_findThere 5 = .ok (.iconst 0, 1) := by decide +kernel
theorem dX13_findThere_6 : decode cX13_findThere 6 = .ok (.istore_n 2, 1) := by decide +kernel
theorem dX13_findThere_7 : decode cX13_findThere 7 = .ok (.iload_n 2, 1) := by decide +kernel
theorem dX13_findThere_8 : decode cX13_findThere 8 = .ok (.aload_n 0, 1) := by decide +kernel
theorem dX13_findThere_9 : decode cX13_findThere 9 = .ok (.getfield 147, 3) := by decide +kernel
theorem dX13_findThere_12 : decode cX13_findThere 12 = .ok (.if_icmp .ge 46, 3) := by decide +kernel
theorem dX13_findThere_15 : decode cX13_findThere 15 = .ok (.aload_n 0, 1) := by decide +kernel
theorem dX13_findThere_16 : decode cX13_findThere 16 = .ok (.getfield 150, 3) := by decide +kernel
theorem dX13_findThere_19 : decode cX13_findThere 19 = .ok (.iload_n 2, 1) := by decide +kernel
theorem dX13_findThere_20 : decode cX13_findThere 20 = .ok (.baload, 1) := by decide +kernel
theorem dX13_findThere_21 : decode cX13_findThere 21 = .ok (.ifCond .ne 31, 3) := by decide +kernel
theorem dX13_findThere_24 : decode cX13_findThere 24 = .ok (.iload_n 2, 1) := by decide +kernel
theorem dX13_findThere_25 : decode cX13_findThere 25 = .ok (.iload_n 1, 1) := by decide +kernel
theorem dX13_findThere_26 : decode cX13_findThere 26 = .ok (.if_icmp .ne 6, 3) := by decide +kernel
theorem dX13_findThere_29 : decode cX13_findThere 29 = .ok (.goto 23, 3) := by decide +kernel
theorem dX13_findThere_32 : decode cX13_findThere 32 = .ok (.aload_n 0, 1) := by decide +kernel
theorem dX13_findThere_33 : decode cX13_findThere 33 = .ok (.getfield 172, 3) := by decide +kernel
theorem dX13_findThere_36 : decode cX13_findThere 36 = .ok (.aload_n 0, 1) := by decide +kernel
theorem dX13_findThere_37 : decode cX13_findThere 37 = .ok (.getfield 329, 3) := by decide +kernel
theorem dX13_findThere_40 : decode cX13_findThere 40 = .ok (.iload_n 2, 1) := by decide +kernel
theorem dX13_findThere_41 : decode cX13_findThere 41 = .ok (.iastore, 1) := by decide +kernel
theorem dX13_findThere_42 : decode cX13_findThere 42 = .ok (.aload_n 0, 1) := by decide +kernel
theorem dX13_findThere_43 : decode cX13_findThere 43 = .ok (.dup, 1) := by decide +kernel
theorem dX13_findThere_44 : decode cX13_findThere 44 = .ok (.getfield 329, 3) := by decide +kernel
theorem dX13_findThere_47 : decode cX13_findThere 47 = .ok (.iconst 1, 1) := by decide +kernel
theorem dX13_findThere_48 : decode cX13_findThere 48 = .ok (.iadd, 1) := by decide +kernel
theorem dX13_findThere_49 : decode cX13_findThere 49 = .ok (.putfield 329, 3) := by decide +kernel
theorem dX13_findThere_52 : decode cX13_findThere 52 = .ok (.iinc 2 1, 3) := by decide +kernel
theorem dX13_findThere_55 : decode cX13_findThere 55 = .ok (.goto (-48), 3) := by decide +kernel
theorem dX13_findThere_58 : decode cX13_findThere 58 = .ok (.return_, 1) := by decide +kernel
theorem dX13_forgetHad_0 : decode cX13_forgetHad 0 = .ok (.iconst 0, 1) := by decide +kernel
theorem dX13_forgetHad_1 : decode cX13_forgetHad 1 = .ok (.istore_n 1, 1) := by decide +kernel
theorem dX13_forgetHad_2 : decode cX13_forgetHad 2 = .ok (.iload_n 1, 1) := by decide +kernel
theorem dX13_forgetHad_3 : decode cX13_forgetHad 3 = .ok (.aload_n 0, 1) := by decide +kernel
theorem dX13_forgetHad_4 : decode cX13_forgetHad 4 = .ok (.getfield 314, 3) := by decide +kernel
theorem dX13_forgetHad_7 : decode cX13_forgetHad 7 = .ok (.if_icmp .ge 16, 3) := by decide +kernel
theorem dX13_forgetHad_10 : decode cX13_forgetHad 10 = .ok (.aload_n 0, 1) := by decide +kernel
theorem dX13_forgetHad_11 : decode cX13_forgetHad 11 = .ok (.getfield 187, 3) := by decide +kernel
theorem dX13_forgetHad_14 : decode cX13_forgetHad 14 = .ok (.iload_n 1, 1) := by decide +kernel
theorem dX13_forgetHad_15 : decode cX13_forgetHad 15 = .ok (.iconst (-1), 1) := by decide +kernel
theorem dX13_forgetHad_16 : decode cX13_forgetHad 16 = .ok (.iastore, 1) := by decide +kernel
theorem dX13_forgetHad_17 : decode cX13_forgetHad 17 = .ok (.iinc 1 1, 3) := by decide +kernel
theorem dX13_forgetHad_20 : decode cX13_forgetHad 20 = .ok (.goto (-18), 3) := by decide +kernel
theorem dX13_forgetHad_23 : decode cX13_forgetHad 23 = .ok (.return_, 1) := by decide +kernel
theorem dX13_part_0 : decode cX13_part 0 = .ok (.aload_n 0, 1) := by decide +kernel
theorem dX13_part_1 : decode cX13_part 1 = .ok (.invokevirtual 340, 3) := by decide +kernel
theorem dX13_part_4 : decode cX13_part 4 = .ok (.aload_n 0, 1) := by decide +kernel
theorem dX13_part_5 : decode cX13_part 5 = .ok (.iconst (-1), 1) := by decide +kernel
theorem dX13_part_6 : decode cX13_part 6 = .ok (.invokevirtual 343, 3) := by decide +kernel
theorem dX13_part_9 : decode cX13_part 9 = .ok (.aload_n 0, 1) := by decide +kernel
theorem dX13_part_10 : decode cX13_part 10 = .ok (.invokevirtual 346, 3) := by decide +kernel
theorem dX13_part_13 : decode cX13_part 13 = .ok (.aload_n 0, 1) := by decide +kernel
theorem dX13_part_14 : decode cX13_part 14 = .ok (.invokevirtual 349, 3) := by decide +kernel
theorem dX13_part_17 : decode cX13_part 17 = .ok (.ifCond .ne 5, 3) := by decide +kernel
theorem dX13_part_20 : decode cX13_part 20 = .ok (.iconst (-1), 1) := by decide +kernel
theorem dX13_part_21 : decode cX13_part 21 = .ok (.ireturn, 1) := by decide +kernel
theorem dX13_part_22 : decode cX13_part 22 = .ok (.aload_n 0, 1) := by decide +kernel
theorem dX13_part_23 : decode cX13_part 23 = .ok (.invokevirtual 353, 3) := by decide +kernel
theorem dX13_part_26 : decode cX13_part 26 = .ok (.aload_n 0, 1) := by decide +kernel
theorem dX13_part_27 : decode cX13_part 27 = .ok (.getfield 181, 3) := by decide +kernel
theorem dX13_part_30 : decode cX13_part 30 = .ok (.iconst 0, 1) := by decide +kernel
theorem dX13_part_31 : decode cX13_part 31 = .ok (.iconst 0, 1) := by decide +kernel
theorem dX13_part_32 : decode cX13_part 32 = .ok (.invokestatic 320, 3) := by decide +kernel
theorem dX13_part_35 : decode cX13_part 35 = .ok (.iaload, 1) := by decide +kernel
theorem dX13_part_36 : decode cX13_part 36 = .ok (.ireturn, 1) := by decide +kernel
theorem dX13_give_0 : decode cX13_give 0 = .ok (.aload_n 0, 1) := by decide +kernel
theorem dX13_give_1 : decode cX13_give 1 = .ok (.iload_n 2, 1) := by decide +kernel
theorem dX13_give_2 : decode cX13_give 2 = .ok (.invokevirtual 279, 3) := by decide +kernel
theorem dX13_give_5 : decode cX13_give 5 = .ok (.ifCond .eq 23, 3) := by decide +kernel
theorem dX13_give_8 : decode cX13_give 8 = .ok (.iload_n 1, 1) := by decide +kernel
theorem dX13_give_9 : decode cX13_give 9 = .ok (.i2l, 1) := by decide +kernel
theorem dX13_give_10 : decode cX13_give 10 = .ok (.lconst 0, 1) := by decide +kernel
theorem dX13_give_11 : decode cX13_give 11 = .ok (.ldc2_w 356, 3) := by decide +kernel
theorem dX13_give_14 : decode cX13_give 14 = .ok (.invokestatic 5, 3) := by decide +kernel
theorem dX13_give_17 : decode cX13_give 17 = .ok (.ifCond .eq 11, 3) := by decide +kernel
theorem dX13_give_20 : decode cX13_give 20 = .ok (.aload_n 0, 1) := by decide +kernel
theorem dX13_give_21 : decode cX13_give 21 = .ok (.iload_n 1, 1) := by decide +kernel
theorem dX13_give_22 : decode cX13_give 22 = .ok (.invokevirtual 317, 3) := by decide +kernel
theorem dX13_give_25 : decode cX13_give 25 = .ok (.ifCond .ne 6, 3) := by decide +kernel
theorem dX13_give_28 : decode cX13_give 28 = .ok (.bipush (-2), 2) := by decide +kernel
theorem dX13_give_30 : decode cX13_give 30 = .ok (.ireturn, 1) := by decide +kernel
theorem dX13_give_31 : decode cX13_give 31 = .ok (.aload_n 0, 1) := by decide +kernel
theorem dX13_give_32 : decode cX13_give 32 = .ok (.getfield 236, 3) := by decide +kernel
theorem dX13_give_35 : decode cX13_give 35 = .ok (.ifCond .ne 6, 3) := by decide +kernel
theorem dX13_give_38 : decode cX13_give 38 = .ok (.bipush (-4), 2) := by decide +kernel
theorem dX13_give_40 : decode cX13_give 40 = .ok (.ireturn, 1) := by decide +kernel
theorem dX13_give_41 : decode cX13_give 41 = .ok (.aload_n 0, 1) := by decide +kernel
theorem dX13_give_42 : decode cX13_give 42 = .ok (.getfield 153, 3) := by decide +kernel
theorem dX13_give_45 : decode cX13_give 45 = .ok (.iload_n 1, 1) := by decide +kernel
theorem dX13_give_46 : decode cX13_give 46 = .ok (.iaload, 1) := by decide +kernel
theorem dX13_give_47 : decode cX13_give 47 = .ok (.istore_n 3, 1) := by decide +kernel
theorem dX13_give_48 : decode cX13_give 48 = .ok (.aload_n 0, 1) := by decide +kernel
theorem dX13_give_49 : decode cX13_give 49 = .ok (.getfield 153, 3) := by decide +kernel
theorem dX13_give_52 : decode cX13_give 52 = .ok (.iload_n 1, 1) := by decide +kernel
theorem dX13_give_53 : decode cX13_give 53 = .ok (.iload_n 2, 1) := by decide +kernel
theorem dX13_give_54 : decode cX13_give 54 = .ok (.iastore, 1) := by decide +kernel
theorem dX13_give_55 : decode cX13_give 55 = .ok (.iload_n 3, 1) := by decide +kernel
theorem dX13_give_56 : decode cX13_give 56 = .ok (.ireturn, 1) := by decide +kernel
theorem dX13_parted_0 : decode cX13_parted 0 = .ok (.aload_n 0, 1) := by decide +kernel
theorem dX13_parted_1 : decode cX13_parted 1 = .ok (.getfield 236, 3) := by decide +kernel
theorem dX13_parted_4 : decode cX13_parted 4 = .ok (.ifCond .eq 32, 3) := by decide +kernel
theorem dX13_parted_7 : decode cX13_parted 7 = .ok (.iload_n 1, 1) := by decide +kernel
theorem dX13_parted_8 : decode cX13_parted 8 = .ok (.i2l, 1) := by decide +kernel
theorem dX13_parted_9 : decode cX13_parted 9 = .ok (.lconst 0, 1) := by decide +kernel
theorem dX13_parted_10 : decode cX13_parted 10 = .ok (.ldc2_w 356, 3) := by decide +kernel
theorem dX13_parted_13 : decode cX13_parted 13 = .ok (.invokestatic 5, 3) := by decide +kernel
theorem dX13_parted_16 : decode cX13_parted 16 = .ok (.ifCond .eq 20, 3) := by decide +kernel
theorem dX13_parted_19 : decode cX13_parted 19 = .ok (.aload_n 0, 1) := by decide +kernel
theorem dX13_parted_20 : decode cX13_parted 20 = .ok (.iload_n 1, 1) := by decide +kernel
theorem dX13_parted_21 : decode cX13_parted 21 = .ok (.invokevirtual 317, 3) := by decide +kernel
theorem dX13_parted_24 : decode cX13_parted 24 = .ok (.ifCond .eq 12, 3) := by decide +kernel
theorem dX13_parted_27 : decode cX13_parted 27 = .ok (.aload_n 0, 1) := by decide +kernel
theorem dX13_parted_28 : decode cX13_parted 28 = .ok (.getfield 153, 3) := by decide +kernel
theorem dX13_parted_31 : decode cX13_parted 31 = .ok (.iload_n 1, 1) := by decide +kernel
theorem dX13_parted_32 : decode cX13_parted 32 = .ok (.iaload, 1) := by decide +kernel
theorem dX13_parted_33 : decode cX13_parted 33 = .ok (.goto 4, 3) := by decide +kernel
theorem dX13_parted_36 : decode cX13_parted 36 = .ok (.iconst (-1), 1) := by decide +kernel
theorem dX13_parted_37 : decode cX13_parted 37 = .ok (.ireturn, 1) := by decide +kernel
theorem dX13_bellsOf_0 : decode cX13_bellsOf 0 = .ok (.lconst 0, 1) := by decide +kernel
theorem dX13_bellsOf_1 : decode cX13_bellsOf 1 = .ok (.lstore_n 2, 1) := by decide +kernel
theorem dX13_bellsOf_2 : decode cX13_bellsOf 2 = .ok (.iconst 0, 1) := by decide +kernel
theorem dX13_bellsOf_3 : decode cX13_bellsOf 3 = .ok (.istore 4, 2) := by decide +kernel
theorem dX13_bellsOf_5 : decode cX13_bellsOf 5 = .ok (.iload 4, 2) := by decide +kernel
theorem dX13_bellsOf_7 : decode cX13_bellsOf 7 = .ok (.bipush 48, 2) := by decide +kernel
theorem dX13_bellsOf_9 : decode cX13_bellsOf 9 = .ok (.if_icmp .ge 27, 3) := by decide +kernel
theorem dX13_bellsOf_12 : decode cX13_bellsOf 12 = .ok (.aload_n 0, 1) := by decide +kernel
theorem dX13_bellsOf_13 : decode cX13_bellsOf 13 = .ok (.getfield 153, 3) := by decide +kernel
theorem dX13_bellsOf_16 : decode cX13_bellsOf 16 = .ok (.iload 4, 2) := by decide +kernel
theorem dX13_bellsOf_18 : decode cX13_bellsOf 18 = .ok (.iaload, 1) := by decide +kernel
theorem dX13_bellsOf_19 : decode cX13_bellsOf 19 = .ok (.iload_n 1, 1) := by decide +kernel
theorem dX13_bellsOf_20 : decode cX13_bellsOf 20 = .ok (.if_icmp .ne 10, 3) := by decide +kernel
theorem dX13_bellsOf_23 : decode cX13_bellsOf 23 = .ok (.lload_n 2, 1) := by decide +kernel
theorem dX13_bellsOf_24 : decode cX13_bellsOf 24 = .ok (.lconst 1, 1) := by decide +kernel
theorem dX13_bellsOf_25 : decode cX13_bellsOf 25 = .ok (.iload 4, 2) := by decide +kernel
theorem dX13_bellsOf_27 : decode cX13_bellsOf 27 = .ok (.lshl, 1) := by decide +kernel
theorem dX13_bellsOf_28 : decode cX13_bellsOf 28 = .ok (.lor, 1) := by decide +kernel
theorem dX13_bellsOf_29 : decode cX13_bellsOf 29 = .ok (.lstore_n 2, 1) := by decide +kernel
theorem dX13_bellsOf_30 : decode cX13_bellsOf 30 = .ok (.iinc 4 1, 3) := by decide +kernel
theorem dX13_bellsOf_33 : decode cX13_bellsOf 33 = .ok (.goto (-28), 3) := by decide +kernel
theorem dX13_bellsOf_36 : decode cX13_bellsOf 36 = .ok (.lload_n 2, 1) := by decide +kernel
theorem dX13_bellsOf_37 : decode cX13_bellsOf 37 = .ok (.lreturn, 1) := by decide +kernel
theorem dX13_load_0 : decode cX13_load 0 = .ok (.aload_n 0, 1) := by decide +kernel
theorem dX13_load_1 : decode cX13_load 1 = .ok (.iload_n 1, 1) := by decide +kernel
theorem dX13_load_2 : decode cX13_load 2 = .ok (.invokevirtual 279, 3) := by decide +kernel
theorem dX13_load_5 : decode cX13_load 5 = .ok (.ifCond .ne 6, 3) := by decide +kernel
theorem dX13_load_8 : decode cX13_load 8 = .ok (.bipush (-2), 2) := by decide +kernel
theorem dX13_load_10 : decode cX13_load 10 = .ok (.ireturn, 1) := by decide +kernel
theorem dX13_load_11 : decode cX13_load 11 = .ok (.aload_n 0, 1) := by decide +kernel
theorem dX13_load_12 : decode cX13_load 12 = .ok (.getfield 236, 3) := by decide +kernel
theorem dX13_load_15 : decode cX13_load 15 = .ok (.ifCond .ne 6, 3) := by decide +kernel
theorem dX13_load_18 : decode cX13_load 18 = .ok (.bipush (-4), 2) := by decide +kernel
theorem dX13_load_20 : decode cX13_load 20 = .ok (.ireturn, 1) := by decide +kernel
theorem dX13_load_21 : decode cX13_load 21 = .ok (.aload_n 0, 1) := by decide +kernel
theorem dX13_load_22 : decode cX13_load 22 = .ok (.aload_n 0, 1) := by decide +kernel
theorem dX13_load_23 : decode cX13_load 23 = .ok (.iload_n 1, 1) := by decide +kernel
theorem dX13_load_24 : decode cX13_load 24 = .ok (.invokevirtual 358, 3) := by decide +kernel
theorem dX13_load_27 : decode cX13_load 27 = .ok (.invokevirtual 310, 3) := by decide +kernel
theorem dX13_load_30 : decode cX13_load 30 = .ok (.istore_n 2, 1) := by decide +kernel
theorem dX13_load_31 : decode cX13_load 31 = .ok (.iload_n 2, 1) := by decide +kernel
theorem dX13_load_32 : decode cX13_load 32 = .ok (.ldc_w 282, 3) := by decide +kernel
theorem dX13_load_35 : decode cX13_load 35 = .ok (.if_icmp .lt 7, 3) := by decide +kernel
theorem dX13_load_38 : decode cX13_load 38 = .ok (.iconst (-1), 1) := by decide +kernel
theorem dX13_load_39 : decode cX13_load 39 = .ok (.goto 4, 3) := by decide +kernel
theorem dX13_load_42 : decode cX13_load 42 = .ok (.iload_n 2, 1) := by decide +kernel
theorem dX13_load_43 : decode cX13_load 43 = .ok (.ireturn, 1) := by decide +kernel
theorem dX13_cover_0 : decode cX13_cover 0 = .ok (.aload_n 0, 1) := by decide +kernel
theorem dX13_cover_1 : decode cX13_cover 1 = .ok (.iload_n 1, 1) := by decide +kernel
theorem dX13_cover_2 : decode cX13_cover 2 = .ok (.invokevirtual 279, 3) := by decide +kernel
theorem dX13_cover_5 : decode cX13_cover 5 = .ok (.ifCond .ne 6, 3) := by decide +kernel
theorem dX13_cover_8 : decode cX13_cover 8 = .ok (.bipush (-2), 2) := by decide +kernel
theorem dX13_cover_10 : decode cX13_cover 10 = .ok (.ireturn, 1) := by decide +kernel
theorem dX13_cover_11 : decode cX13_cover 11 = .ok (.aload_n 0, 1) := by decide +kernel
theorem dX13_cover_12 : decode cX13_cover 12 = .ok (.getfield 236, 3) := by decide +kernel
theorem dX13_cover_15 : decode cX13_cover 15 = .ok (.ifCond .ne 6, 3) := by decide +kernel
theorem dX13_cover_18 : decode cX13_cover 18 = .ok (.bipush (-4), 2) := by decide +kernel
theorem dX13_cover_20 : decode cX13_cover 20 = .ok (.ireturn, 1) := by decide +kernel
theorem dX13_cover_21 : decode cX13_cover 21 = .ok (.aload_n 0, 1) := by decide +kernel
theorem dX13_cover_22 : decode cX13_cover 22 = .ok (.invokevirtual 340, 3) := by decide +kernel
theorem dX13_cover_25 : decode cX13_cover 25 = .ok (.aload_n 0, 1) := by decide +kernel
theorem dX13_cover_26 : decode cX13_cover 26 = .ok (.iload_n 1, 1) := by decide +kernel
theorem dX13_cover_27 : decode cX13_cover 27 = .ok (.invokevirtual 343, 3) := by decide +kernel
theorem dX13_cover_30 : decode cX13_cover 30 = .ok (.iconst 0, 1) := by decide +kernel
theorem dX13_cover_31 : decode cX13_cover 31 = .ok (.istore_n 2, 1) := by decide +kernel
theorem dX13_cover_32 : decode cX13_cover 32 = .ok (.iload_n 2, 1) := by decide +kernel
theorem dX13_cover_33 : decode cX13_cover 33 = .ok (.aload_n 0, 1) := by decide +kernel
theorem dX13_cover_34 : decode cX13_cover 34 = .ok (.getfield 314, 3) := by decide +kernel
theorem dX13_cover_37 : decode cX13_cover 37 = .ok (.if_icmp .ge 26, 3) := by decide +kernel
theorem dX13_cover_40 : decode cX13_cover 40 = .ok (.aload_n 0, 1) := by decide +kernel
theorem dX13_cover_41 : decode cX13_cover 41 = .ok (.getfield 187, 3) := by decide +kernel
theorem dX13_cover_44 : decode cX13_cover 44 = .ok (.iload_n 2, 1) := by decide +kernel
theorem dX13_cover_45 : decode cX13_cover 45 = .ok (.aload_n 0, 1) := by decide +kernel
theorem dX13_cover_46 : decode cX13_cover 46 = .ok (.getfield 153, 3) := by decide +kernel
theorem dX13_cover_49 : decode cX13_cover 49 = .ok (.aload_n 0, 1) := by decide +kernel
theorem dX13_cover_50 : decode cX13_cover 50 = .ok (.getfield 169, 3) := by decide +kernel
theorem dX13_cover_53 : decode cX13_cover 53 = .ok (.iload_n 2, 1) := by decide +kernel
theorem dX13_cover_54 : decode cX13_cover 54 = .ok (.iaload, 1) := by decide +kernel
theorem dX13_cover_55 : decode cX13_cover 55 = .ok (.iaload, 1) := by decide +kernel
theorem dX13_cover_56 : decode cX13_cover 56 = .ok (.iastore, 1) := by decide +kernel
theorem dX13_cover_57 : decode cX13_cover 57 = .ok (.iinc 2 1, 3) := by decide +kernel
theorem dX13_cover_60 : decode cX13_cover 60 = .ok (.goto (-28), 3) := by decide +kernel
theorem dX13_cover_63 : decode cX13_cover 63 = .ok (.aload_n 0, 1) := by decide +kernel
theorem dX13_cover_64 : decode cX13_cover 64 = .ok (.invokevirtual 349, 3) := by decide +kernel
theorem dX13_cover_67 : decode cX13_cover 67 = .ok (.ifCond .ne 5, 3) := by decide +kernel
theorem dX13_cover_70 : decode cX13_cover 70 = .ok (.iconst (-1), 1) := by decide +kernel
theorem dX13_cover_71 : decode cX13_cover 71 = .ok (.ireturn, 1) := by decide +kernel
theorem dX13_cover_72 : decode cX13_cover 72 = .ok (.aload_n 0, 1) := by decide +kernel
theorem dX13_cover_73 : decode cX13_cover 73 = .ok (.invokevirtual 353, 3) := by decide +kernel
theorem dX13_cover_76 : decode cX13_cover 76 = .ok (.aload_n 0, 1) := by decide +kernel
theorem dX13_cover_77 : decode cX13_cover 77 = .ok (.getfield 178, 3) := by decide +kernel
theorem dX13_cover_80 : decode cX13_cover 80 = .ok (.iconst 0, 1) := by decide +kernel
theorem dX13_cover_81 : decode cX13_cover 81 = .ok (.iconst 0, 1) := by decide +kernel
theorem dX13_cover_82 : decode cX13_cover 82 = .ok (.invokestatic 320, 3) := by decide +kernel
theorem dX13_cover_85 : decode cX13_cover 85 = .ok (.iaload, 1) := by decide +kernel
theorem dX13_cover_86 : decode cX13_cover 86 = .ok (.ireturn, 1) := by decide +kernel
abbrev mX13_findUsed : MI := (yX13_findUsed, cX13_findUsed, 2, none, 2, 43, [])
abbrev mX13_findPieces : MI := (yX13_findPieces, cX13_findPieces, 6, none, 6, 143, [])
abbrev mX13_changedIn : MI := (yX13_changedIn, cX13_changedIn, 6, some .int, 1, 21, [])
abbrev mX13_spot : MI := (yX13_spot, cX13_spot, 2, some .int, 1, 21, [])
abbrev mX13_compare : MI := (yX13_compare, cX13_compare, 11, some .int, 2, 46, [])
abbrev mX13_mayHave : MI := (yX13_mayHave, cX13_mayHave, 4, some .boolean, 2, 42, [])
abbrev mX13_findRanges : MI := (yX13_findRanges, cX13_findRanges, 6, some .boolean, 7, 168, [])
abbrev mX13_takeRanges : MI := (yX13_takeRanges, cX13_takeRanges, 6, none, 3, 76, [])
abbrev mX13_findThere : MI := (yX13_findThere, cX13_findThere, 3, none, 1, 21, [])
abbrev mX13_forgetHad : MI := (yX13_forgetHad, cX13_forgetHad, 2, none, 1, 21, [])
abbrev mX13_part : MI := (yX13_part, cX13_part, 1, some .int, 8, 193, [])
abbrev mX13_give : MI := (yX13_give, cX13_give, 4, some .int, 3, 67, [])
abbrev mX13_parted : MI := (yX13_parted, cX13_parted, 2, some .int, 2, 46, [])
abbrev mX13_bellsOf : MI := (yX13_bellsOf, cX13_bellsOf, 5, some .long, 1, 21, [])
abbrev mX13_load : MI := (yX13_load, cX13_load, 3, some .int, 6, 143, [])
abbrev mX13_cover : MI := (yX13_cover, cX13_cover, 3, some .int, 8, 193, [])
theorem co_X13_356 : Cond.constantLong RX13 356 47 ∈ lw_w := lw_in (i := 1553) (by decide +kernel) (by decide +kernel)
theorem fk_X13_153 : Fk RX13 153 13 25 := ⟨RX13, TX13, 66, tyX13, rfl, inX13, by decide, lw_in (i := 1182) (by decide +kernel) (by decide +kernel), tyX13_ok, nmX13⟩
theorem fk_X13_169 : Fk RX13 169 13 33 := ⟨RX13, TX13, 66, tyX13, rfl, inX13, by decide, lw_in (i := 1190) (by decide +kernel) (by decide +kernel), tyX13_ok, nmX13⟩
theorem fk_X13_172 : Fk RX13 172 13 34 := ⟨RX13, TX13, 66, tyX13, rfl, inX13, by decide, lw_in (i := 1191) (by decide +kernel) (by decide +kernel), tyX13_ok, nmX13⟩
theorem fk_X13_175 : Fk RX13 175 13 35 := ⟨RX13, TX13, 66, tyX13, rfl, inX13, by decide, lw_in (i := 1192) (by decide +kernel) (by decide +kernel), tyX13_ok, nmX13⟩
theorem fk_X13_178 : Fk RX13 178 13 36 := ⟨RX13, TX13, 66, tyX13, rfl, inX13, by decide, lw_in (i := 1193) (by decide +kernel) (by decide +kernel), tyX13_ok, nmX13⟩
theorem fk_X13_181 : Fk RX13 181 13 37 := ⟨RX13, TX13, 66, tyX13, rfl, inX13, by decide, lw_in (i := 1194) (by decide +kernel) (by decide +kernel), tyX13_ok, nmX13⟩
theorem fk_X13_184 : Fk RX13 184 13 38 := ⟨RX13, TX13, 66, tyX13, rfl, inX13, by decide, lw_in (i := 1195) (by decide +kernel) (by decide +kernel), tyX13_ok, nmX13⟩
theorem fk_X13_187 : Fk RX13 187 13 39 := ⟨RX13, TX13, 66, tyX13, rfl, inX13, by decide, lw_in (i := 1196) (by decide +kernel) (by decide +kernel), tyX13_ok, nmX13⟩
theorem fk_X13_314 : Fk RX13 314 13 40 := ⟨RX13, TX13, 66, tyX13, rfl, inX13, by decide, lw_in (i := 1197) (by decide +kernel) (by decide +kernel), tyX13_ok, nmX13⟩
theorem fk_X13_329 : Fk RX13 329 13 41 := ⟨RX13, TX13, 66, tyX13, rfl, inX13, by decide, lw_in (i := 1198) (by decide +kernel) (by decide +kernel), tyX13_ok, nmX13⟩
theorem fp_X13_40 : Fp 13 40 .int := ⟨RX13, TX13, 66, rfl, rfl, by decide +kernel⟩
theorem fp_X13_41 : Fp 13 41 .int := ⟨RX13, TX13, 66, rfl, rfl, by decide +kernel⟩
theorem ms_X13_spot : Cond.static mX13_spot.y ∈ lw_w := lw_in (i := 1531) (by decide +kernel) (by decide +kernel)
theorem mv_X13_bellsOf : MkV mX13_bellsOf := ⟨lw_in (i := 1564) (by decide +kernel) (by decide +kernel), lw_se (i := 82) (by decide +kernel) (by decide +kernel)⟩
theorem mv_X13_changedIn : MkV mX13_changedIn := ⟨lw_in (i := 1543) (by decide +kernel) (by decide +kernel), lw_se (i := 80) (by decide +kernel) (by decide +kernel)⟩
theorem mv_X13_compare : MkV mX13_compare := ⟨lw_in (i := 1539) (by decide +kernel) (by decide +kernel), lw_se (i := 79) (by decide +kernel) (by decide +kernel)⟩
theorem mv_X13_findPieces : MkV mX13_findPieces := ⟨lw_in (i := 1528) (by decide +kernel) (by decide +kernel), lw_se (i := 77) (by decide +kernel) (by decide +kernel)⟩
theorem mv_X13_findRanges : MkV mX13_findRanges := ⟨lw_in (i := 1524) (by decide +kernel) (by decide +kernel), lw_se (i := 76) (by decide +kernel) (by decide +kernel)⟩
theorem mv_X13_findThere : MkV mX13_findThere := ⟨lw_in (i := 1516) (by decide +kernel) (by decide +kernel), lw_se (i := 74) (by decide +kernel) (by decide +kernel)⟩
theorem mv_X13_findUsed : MkV mX13_findUsed := ⟨lw_in (i := 1508) (by decide +kernel) (by decide +kernel), lw_se (i := 72) (by decide +kernel) (by decide +kernel)⟩
theorem mv_X13_forgetHad : MkV mX13_forgetHad := ⟨lw_in (i := 1520) (by decide +kernel) (by decide +kernel), lw_se (i := 75) (by decide +kernel) (by decide +kernel)⟩
theorem mv_X13_isUsed : MkV mX13_isUsed := ⟨lw_in (i := 1512) (by decide +kernel) (by decide +kernel), lw_se (i := 73) (by decide +kernel) (by decide +kernel)⟩
theorem mv_X13_mayHave : MkV mX13_mayHave := ⟨lw_in (i := 1535) (by decide +kernel) (by decide +kernel), lw_se (i := 78) (by decide +kernel) (by decide +kernel)⟩
theorem mv_X13_takeRanges : MkV mX13_takeRanges := ⟨lw_in (i := 1547) (by decide +kernel) (by decide +kernel), lw_se (i := 81) (by decide +kernel) (by decide +kernel)⟩
theorem mk_X13_317 : Mk RX13 317 mX13_isUsed 1 := ⟨lw_in (i := 1510) (by decide +kernel) (by decide +kernel), lw_in (i := 14) (by decide +kernel) (by decide +kernel), lw_in (i := 1513) (by decide +kernel) (by decide +kernel), by decide +kernel⟩
theorem mk_X13_320 : Mk RX13 320 mX13_spot 2 := ⟨lw_in (i := 1530) (by decide +kernel) (by decide +kernel), lw_in (i := 14) (by decide +kernel) (by decide +kernel), lw_in (i := 1532) (by decide +kernel) (by decide +kernel), by decide +kernel⟩
theorem mk_X13_323 : Mk RX13 323 mX13_changedIn 3 := ⟨lw_in (i := 1541) (by decide +kernel) (by decide +kernel), lw_in (i := 14) (by decide +kernel) (by decide +kernel), lw_in (i := 1544) (by decide +kernel) (by decide +kernel), by decide +kernel⟩
theorem mk_X13_326 : Mk RX13 326 mX13_findPieces 0 := ⟨lw_in (i := 1526) (by decide +kernel) (by decide +kernel), lw_in (i := 14) (by decide +kernel) (by decide +kernel), lw_in (i := 1529) (by decide +kernel) (by decide +kernel), by decide +kernel⟩
theorem mk_X13_332 : Mk RX13 332 mX13_mayHave 3 := ⟨lw_in (i := 1533) (by decide +kernel) (by decide +kernel), lw_in (i := 14) (by decide +kernel) (by decide +kernel), lw_in (i := 1536) (by decide +kernel) (by decide +kernel), by decide +kernel⟩
theorem mk_X13_336 : Mk RX13 336 mX13_compare 6 := ⟨lw_in (i := 1537) (by decide +kernel) (by decide +kernel), lw_in (i := 14) (by decide +kernel) (by decide +kernel), lw_in (i := 1540) (by decide +kernel) (by decide +kernel), by decide +kernel⟩
theorem mk_X13_340 : Mk RX13 340 mX13_findUsed 0 := ⟨lw_in (i := 1506) (by decide +kernel) (by decide +kernel), lw_in (i := 14) (by decide +kernel) (by decide +kernel), lw_in (i := 1509) (by decide +kernel) (by decide +kernel), by decide +kernel⟩
theorem mk_X13_343 : Mk RX13 343 mX13_findThere 1 := ⟨lw_in (i := 1514) (by decide +kernel) (by decide +kernel), lw_in (i := 14) (by decide +kernel) (by decide +kernel), lw_in (i := 1517) (by decide +kernel) (by decide +kernel), by decide +kernel⟩
theorem mk_X13_346 : Mk RX13 346 mX13_forgetHad 0 := ⟨lw_in (i := 1518) (by decide +kernel) (by decide +kernel), lw_in (i := 14) (by decide +kernel) (by decide +kernel), lw_in (i := 1521) (by decide +kernel) (by decide +kernel), by decide +kernel⟩
theorem mk_X13_349 : Mk RX13 349 mX13_findRanges 0 := ⟨lw_in (i := 1522) (by decide +kernel) (by decide +kernel), lw_in (i := 14) (by decide +kernel) (by decide +kernel), lw_in (i := 1525) (by decide +kernel) (by decide +kernel), by decide +kernel⟩
theorem mk_X13_353 : Mk RX13 353 mX13_takeRanges 0 := ⟨lw_in (i := 1545) (by decide +kernel) (by decide +kernel), lw_in (i := 14) (by decide +kernel) (by decide +kernel), lw_in (i := 1548) (by decide +kernel) (by decide +kernel), by decide +kernel⟩
theorem mk_X13_358 : Mk RX13 358 mX13_bellsOf 1 := ⟨lw_in (i := 1562) (by decide +kernel) (by decide +kernel), lw_in (i := 14) (by decide +kernel) (by decide +kernel), lw_in (i := 1565) (by decide +kernel) (by decide +kernel), by decide +kernel⟩
theorem rm_X13_compare_X13_changedIn : Rm mX13_compare mX13_changedIn := ⟨by decide, by decide⟩
theorem rm_X13_compare_X13_spot : Rm mX13_compare mX13_spot := ⟨by decide, by decide⟩
theorem rm_X13_cover_X13_findRanges : Rm mX13_cover mX13_findRanges := ⟨by decide, by decide⟩
theorem rm_X13_cover_X13_findThere : Rm mX13_cover mX13_findThere := ⟨by decide, by decide⟩
theorem rm_X13_cover_X13_findUsed : Rm mX13_cover mX13_findUsed := ⟨by decide, by decide⟩
theorem rm_X13_cover_X13_isRinger : Rm mX13_cover mX13_isRinger := ⟨by decide, by decide⟩
theorem rm_X13_cover_X13_spot : Rm mX13_cover mX13_spot := ⟨by decide, by decide⟩
theorem rm_X13_cover_X13_takeRanges : Rm mX13_cover mX13_takeRanges := ⟨by decide, by decide⟩
theorem rm_X13_findPieces_X13_takesOf : Rm mX13_findPieces mX13_takesOf := ⟨by decide, by decide⟩
theorem rm_X13_findRanges_X13_changedIn : Rm mX13_findRanges mX13_changedIn := ⟨by decide, by decide⟩
theorem rm_X13_findRanges_X13_compare : Rm mX13_findRanges mX13_compare := ⟨by decide, by decide⟩
theorem rm_X13_findRanges_X13_findPieces : Rm mX13_findRanges mX13_findPieces := ⟨by decide, by decide⟩
theorem rm_X13_findRanges_X13_mayHave : Rm mX13_findRanges mX13_mayHave := ⟨by decide, by decide⟩
theorem rm_X13_findRanges_X13_spot : Rm mX13_findRanges mX13_spot := ⟨by decide, by decide⟩
theorem rm_X13_findUsed_X13_isUsed : Rm mX13_findUsed mX13_isUsed := ⟨by decide, by decide⟩
theorem rm_X13_give_X13_in : Rm mX13_give mX13_in := ⟨by decide, by decide⟩
theorem rm_X13_give_X13_isRinger : Rm mX13_give mX13_isRinger := ⟨by decide, by decide⟩
theorem rm_X13_give_X13_isUsed : Rm mX13_give mX13_isUsed := ⟨by decide, by decide⟩
theorem rm_X13_load_X13_bellsOf : Rm mX13_load mX13_bellsOf := ⟨by decide, by decide⟩
theorem rm_X13_load_X13_isRinger : Rm mX13_load mX13_isRinger := ⟨by decide, by decide⟩
theorem rm_X13_load_X13_takesOf : Rm mX13_load mX13_takesOf := ⟨by decide, by decide⟩
theorem rm_X13_mayHave_X13_spot : Rm mX13_mayHave mX13_spot := ⟨by decide, by decide⟩
theorem rm_X13_part_X13_findRanges : Rm mX13_part mX13_findRanges := ⟨by decide, by decide⟩
theorem rm_X13_part_X13_findThere : Rm mX13_part mX13_findThere := ⟨by decide, by decide⟩
theorem rm_X13_part_X13_findUsed : Rm mX13_part mX13_findUsed := ⟨by decide, by decide⟩
theorem rm_X13_part_X13_forgetHad : Rm mX13_part mX13_forgetHad := ⟨by decide, by decide⟩
theorem rm_X13_part_X13_spot : Rm mX13_part mX13_spot := ⟨by decide, by decide⟩
theorem rm_X13_part_X13_takeRanges : Rm mX13_part mX13_takeRanges := ⟨by decide, by decide⟩
theorem rm_X13_parted_X13_in : Rm mX13_parted mX13_in := ⟨by decide, by decide⟩
theorem rm_X13_parted_X13_isUsed : Rm mX13_parted mX13_isUsed := ⟨by decide, by decide⟩
theorem rm_X13_takeRanges_X13_compare : Rm mX13_takeRanges mX13_compare := ⟨by decide, by decide⟩
theorem rm_X13_takeRanges_X13_mayHave : Rm mX13_takeRanges mX13_mayHave := ⟨by decide, by decide⟩
theorem rm_X13_takeRanges_X13_spot : Rm mX13_takeRanges mX13_spot := ⟨by decide, by decide⟩
section W_model3
variable {l : Launch} {D : va_G} {ad : Nat → Nat} {kA : Nat → ClassId} {M : Mem} {Q : Outcome → Mem → Prop}
theorem t_X13_findUsed_0  
    (K1 : Fw l D ad kA mX13_findUsed 7 [some (.ref (ad 54)), some (.int 0)] [] (sI M 54 40 0) Q) : Fw l D ad kA mX13_findUsed 0 [some (.ref (ad 54)), none] [] M Q := by
  refine r_aload_n dX13_findUsed_0 rfl ?_
  refine r_iconst (v := 0) dX13_findUsed_1 kI_0 ?_
  refine r_putI dX13_findUsed_2 fs_54_40 fk_X13_314 fp_X13_40 ?_
  refine r_iconst (v := 0) dX13_findUsed_5 kI_0 ?_
  refine q_istore_n (lo' := [some (.ref (ad 54)), some (.int 0)]) dX13_findUsed_6 (by decide) rfl ?_
  exact K1
theorem t_X13_findUsed_7 {x1 : Int32} 
    (K1 : (48 ≤ x1) → Q (.returned none) M)
    (K2 : (¬ (48 ≤ x1)) → Cal l D ad kA mX13_isUsed [.ref (ad 54), .int x1] M (fun oc M2 => ∃ r : Int32, oc = .returned (some (.int r)) ∧ Fw l D ad kA mX13_findUsed 18 [some (.ref (ad 54)), some (.int x1)] [.int r] M2 Q)) : Fw l D ad kA mX13_findUsed 7 [some (.ref (ad 54)), some (.int x1)] [] M Q := by
  refine r_iload_n dX13_findUsed_7 rfl ?_
  refine r_bipush (v := 48) dX13_findUsed_8 kB_48 ?_
  refine r_icmp_ge (tgt := 50) dX13_findUsed_10 (by decide) (fun c1 => ?_) (fun c1 => ?_)
  · skip
    exact r_vret dX13_findUsed_50 rfl (K1 c1)
  · skip
    refine r_aload_n dX13_findUsed_13 rfl ?_
    refine r_iload_n dX13_findUsed_14 rfl ?_
    exact r_callV (x := 54) (As := [.int x1]) (rest := []) dX13_findUsed_15 mk_X13_317 mv_X13_isUsed rm_X13_findUsed_X13_isUsed rfl rfl (by decide +kernel) (Nat.le_of_ble_eq_true rfl) (cal_i (lo' := [some (.ref (ad 54)), some (.int x1)]) ⟨rfl, rfl, trivial⟩ (K2 c1))
theorem t_X13_findUsed_18 {x1 : Int32} {s1 : Int32} 
    (g1 : (¬ (s1 = 0)) → vp_in (gI M 54 40) 48)
    (K1 : (¬ (s1 = 0)) → Fw l D ad kA mX13_findUsed 7 [some (.ref (ad 54)), some (.int (x1 + 1))] [] (sI (sI M 73 (gI M 54 40).toNatClampNeg x1) 54 40 ((gI M 54 40) + 1)) Q)
    (K2 : (s1 = 0) → Fw l D ad kA mX13_findUsed 7 [some (.ref (ad 54)), some (.int (x1 + 1))] [] M Q) : Fw l D ad kA mX13_findUsed 18 [some (.ref (ad 54)), some (.int x1)] [.int s1] M Q := by
  refine r_if_ne (tgt := 24) dX13_findUsed_18 (by decide) (fun c1 => ?_) (fun c1 => ?_)
  · skip
    refine r_aload_n dX13_findUsed_24 rfl ?_
    refine r_getR dX13_findUsed_25 fs_54_33 fk_X13_169 ?_
    refine r_aload_n dX13_findUsed_28 rfl ?_
    refine r_getI dX13_findUsed_29 fs_54_40 fk_X13_314 ?_
    refine r_iload_n dX13_findUsed_32 rfl ?_
    refine r_iast dX13_findUsed_33 as_73 (g1 c1) ?_
    refine r_aload_n dX13_findUsed_34 rfl ?_
    refine r_dup dX13_findUsed_35 rfl ?_
    refine q_getI (v := gI M 54 40) dX13_findUsed_36 fs_54_40 fk_X13_314 rfl ?_
    refine r_iconst (v := 1) dX13_findUsed_39 kI_1 ?_
    refine r_iadd dX13_findUsed_40 ?_
    refine r_putI dX13_findUsed_41 fs_54_40 fk_X13_314 fp_X13_40 ?_
    refine q_iinc (v := x1 + 1) (lo' := [some (.ref (ad 54)), some (.int (x1 + 1))]) dX13_findUsed_44 rfl (congrArg (fun q => x1 + q) kI_1) (by decide) rfl ?_
    refine r_goto (tgt := 7) dX13_findUsed_47 (by decide) ?_
    exact (K1 c1)
  · skip
    refine r_goto (tgt := 44) dX13_findUsed_21 (by decide) ?_
    refine q_iinc (v := x1 + 1) (lo' := [some (.ref (ad 54)), some (.int (x1 + 1))]) dX13_findUsed_44 rfl (congrArg (fun q => x1 + q) kI_1) (by decide) rfl ?_
    refine r_goto (tgt := 7) dX13_findUsed_47 (by decide) ?_
    exact (K2 c1)
theorem en_X13_findUsed  (K : Fw l D ad kA mX13_findUsed 0 [some (.ref (ad 54)), none] [] M Q) : Cal l D ad kA mX13_findUsed [.ref (ad 54)] M Q := Cal.of (by decide) rfl rfl (Nat.le_of_ble_eq_true rfl) K
theorem t_X13_findPieces_0  
    (K1 : Fw l D ad kA mX13_findPieces 2 [some (.ref (ad 54)), some (.int 0), none, none, none, none] [] M Q) : Fw l D ad kA mX13_findPieces 0 [some (.ref (ad 54)), none, none, none, none, none] [] M Q := by
  refine r_iconst (v := 0) dX13_findPieces_0 kI_0 ?_
  refine q_istore_n (lo' := [some (.ref (ad 54)), some (.int 0), none, none, none, none]) dX13_findPieces_1 (by decide) rfl ?_
  exact K1
theorem t_X13_findPieces_2 {x1 : Int32} 
    (K1 : ((gI M 54 40) ≤ x1) → Q (.returned none) M)
    (K2 : (¬ ((gI M 54 40) ≤ x1)) → Fw l D ad kA mX13_findPieces 15 [some (.ref (ad 54)), some (.int x1), some (.long 0), none, some (.int x1), none] [] M Q) : Fw l D ad kA mX13_findPieces 2 [some (.ref (ad 54)), some (.int x1), none, none, none, none] [] M Q := by
  refine r_iload_n dX13_findPieces_2 rfl ?_
  refine r_aload_n dX13_findPieces_3 rfl ?_
  refine r_getI dX13_findPieces_4 fs_54_40 fk_X13_314 ?_
  refine r_icmp_ge (tgt := 121) dX13_findPieces_7 (by decide) (fun c1 => ?_) (fun c1 => ?_)
  · skip
    exact r_vret dX13_findPieces_121 rfl (K1 c1)
  · skip
    refine r_lconst (v := 0) dX13_findPieces_10 kL_0 ?_
    refine q_lstore_n (lo' := [some (.ref (ad 54)), some (.int x1), some (.long 0), none, none, none]) dX13_findPieces_11 (by decide) rfl ?_
    refine r_iload_n dX13_findPieces_12 rfl ?_
    refine q_istore (lo' := [some (.ref (ad 54)), some (.int x1), some (.long 0), none, some (.int x1), none]) dX13_findPieces_13 (by decide) rfl ?_
    exact (K2 c1)
theorem t_X13_findPieces_15 {x1 : Int32} {z2 : Int64} {x4 : Int32} 
    (g1 : (¬ ((gI M 54 40) ≤ x4)) → vp_in x4 48)
    (g2 : (¬ ((gI M 54 40) ≤ x4)) → (¬ ((gI M 65 (1 : Int32).toNatClampNeg) ≤ (x4 - x1))) → vp_in x1 48)
    (g3 : (¬ ((gI M 54 40) ≤ x4)) → ((if (gI M 65 (1 : Int32).toNatClampNeg) ≤ (x4 - x1) then 0 else if (gI M 65 (2 : Int32).toNatClampNeg) < ((gI M 73 x4.toNatClampNeg) - (gI M 73 x1.toNatClampNeg)) then 0 else 1 : Int32) = 0) → vp_in (((49 * x1) + x4) + 1) 2352)
    (K1 : ((gI M 54 40) ≤ x4) → Fw l D ad kA mX13_findPieces 2 [some (.ref (ad 54)), some (.int (x1 + 1)), none, none, none, none] [] M Q)
    (K2 : (¬ ((gI M 54 40) ≤ x4)) → ((if (gI M 65 (1 : Int32).toNatClampNeg) ≤ (x4 - x1) then 0 else if (gI M 65 (2 : Int32).toNatClampNeg) < ((gI M 73 x4.toNatClampNeg) - (gI M 73 x1.toNatClampNeg)) then 0 else 1 : Int32) = 0) → Fw l D ad kA mX13_findPieces 15 [some (.ref (ad 54)), some (.int x1), some (.long (z2 ||| (lshl 1 (gI M 73 x4.toNatClampNeg)))), none, some (.int (x4 + 1)), none] [] (sI M 75 (((49 * x1) + x4) + 1).toNatClampNeg 1000000) Q)
    (K3 : (¬ ((gI M 54 40) ≤ x4)) → (¬ ((if (gI M 65 (1 : Int32).toNatClampNeg) ≤ (x4 - x1) then 0 else if (gI M 65 (2 : Int32).toNatClampNeg) < ((gI M 73 x4.toNatClampNeg) - (gI M 73 x1.toNatClampNeg)) then 0 else 1 : Int32) = 0)) → Cal l D ad kA mX13_takesOf [.ref (ad 54), .long (z2 ||| (lshl 1 (gI M 73 x4.toNatClampNeg)))] M (fun oc M2 => ∃ r : Int32, oc = .returned (some (.int r)) ∧ Fw l D ad kA mX13_findPieces 102 [some (.ref (ad 54)), some (.int x1), some (.long (z2 ||| (lshl 1 (gI M 73 x4.toNatClampNeg)))), none, some (.int x4), none] [.int r, .int (((49 * x1) + x4) + 1), .ref (ad 75)] M2 Q)) : Fw l D ad kA mX13_findPieces 15 [some (.ref (ad 54)), some (.int x1), some (.long z2), none, some (.int x4), none] [] M Q := by
  refine r_iload dX13_findPieces_15 rfl ?_
  refine r_aload_n dX13_findPieces_17 rfl ?_
  refine r_getI dX13_findPieces_18 fs_54_40 fk_X13_314 ?_
  refine r_icmp_ge (tgt := 115) dX13_findPieces_21 (by decide) (fun c1 => ?_) (fun c1 => ?_)
  · skip
    refine q_iinc (v := x1 + 1) (lo' := [some (.ref (ad 54)), some (.int (x1 + 1)), some (.long z2), none, some (.int x4), none]) dX13_findPieces_115 rfl (congrArg (fun q => x1 + q) kI_1) (by decide) rfl ?_
    refine r_goto (tgt := 2) dX13_findPieces_118 (by decide) ?_
    exact q_weak (lo' := [some (.ref (ad 54)), some (.int (x1 + 1)), none, none, none, none]) ⟨rfl, rfl, trivial⟩ (K1 c1)
  · skip
    refine r_lload_n dX13_findPieces_24 rfl ?_
    refine r_lconst (v := 1) dX13_findPieces_25 kL_1 ?_
    refine r_aload_n dX13_findPieces_26 rfl ?_
    refine r_getR dX13_findPieces_27 fs_54_33 fk_X13_169 ?_
    refine r_iload dX13_findPieces_30 rfl ?_
    refine r_iald dX13_findPieces_32 as_73 (g1 c1) ?_
    refine q_lshl dX13_findPieces_33 ?_
    refine r_lor dX13_findPieces_34 ?_
    refine q_lstore_n (lo' := [some (.ref (ad 54)), some (.int x1), some (.long (z2 ||| (lshl 1 (gI M 73 x4.toNatClampNeg)))), none, some (.int x4), none]) dX13_findPieces_35 (by decide) rfl ?_
    refine r_iload dX13_findPieces_36 rfl ?_
    refine r_iload_n dX13_findPieces_38 rfl ?_
    refine r_isub dX13_findPieces_39 ?_
    refine r_aload_n dX13_findPieces_40 rfl ?_
    refine r_getR dX13_findPieces_41 fs_54_21 fk_X13_140 ?_
    refine r_iconst (v := 1) dX13_findPieces_44 kI_1 ?_
    refine r_iald dX13_findPieces_45 as_65 (by unfold vp_in; decide) ?_
    suffices hJ1 : Fw l D ad kA mX13_findPieces 77 [some (.ref (ad 54)), some (.int x1), some (.long (z2 ||| (lshl 1 (gI M 73 x4.toNatClampNeg)))), none, some (.int x4), none] [.int (if (gI M 65 (1 : Int32).toNatClampNeg) ≤ (x4 - x1) then 0 else if (gI M 65 (2 : Int32).toNatClampNeg) < ((gI M 73 x4.toNatClampNeg) - (gI M 73 x1.toNatClampNeg)) then 0 else 1)] M Q by
      refine r_icmp_ge (tgt := 76) dX13_findPieces_46 (by decide) (fun c2 => ?_) (fun c2 => ?_)
      · skip
        refine r_iconst (v := 0) dX13_findPieces_76 kI_0 ?_
        exact q_weak (lo' := [some (.ref (ad 54)), some (.int x1), some (.long (z2 ||| (lshl 1 (gI M 73 x4.toNatClampNeg)))), none, some (.int x4), none]) ⟨rfl, rfl, rfl, rfl, trivial⟩ (by have h9 := hJ1; simp only [if_pos c2] at h9; first | exact h9 | (simp only [if_pos c2]; exact h9))
      · skip
        refine r_aload_n dX13_findPieces_49 rfl ?_
        refine r_getR dX13_findPieces_50 fs_54_33 fk_X13_169 ?_
        refine r_iload dX13_findPieces_53 rfl ?_
        refine r_iald dX13_findPieces_55 as_73 (g1 c1) ?_
        refine r_aload_n dX13_findPieces_56 rfl ?_
        refine r_getR dX13_findPieces_57 fs_54_33 fk_X13_169 ?_
        refine r_iload_n dX13_findPieces_60 rfl ?_
        refine r_iald dX13_findPieces_61 as_73 (g2 c1 c2) ?_
        refine r_isub dX13_findPieces_62 ?_
        refine r_aload_n dX13_findPieces_63 rfl ?_
        refine r_getR dX13_findPieces_64 fs_54_21 fk_X13_140 ?_
        refine r_iconst (v := 2) dX13_findPieces_67 kI_2 ?_
        refine r_iald dX13_findPieces_68 as_65 (by unfold vp_in; decide) ?_
        refine r_icmp_gt (tgt := 76) dX13_findPieces_69 (by decide) (fun c3 => ?_) (fun c3 => ?_)
        · skip
          refine r_iconst (v := 0) dX13_findPieces_76 kI_0 ?_
          exact q_weak (lo' := [some (.ref (ad 54)), some (.int x1), some (.long (z2 ||| (lshl 1 (gI M 73 x4.toNatClampNeg)))), none, some (.int x4), none]) ⟨rfl, rfl, rfl, rfl, trivial⟩ (by have h9 := hJ1; simp only [if_neg c2, if_pos c3] at h9; first | exact h9 | (simp only [if_neg c2, if_pos c3]; exact h9))
        · skip
          refine r_iconst (v := 1) dX13_findPieces_72 kI_1 ?_
          refine r_goto (tgt := 77) dX13_findPieces_73 (by decide) ?_
          exact q_weak (lo' := [some (.ref (ad 54)), some (.int x1), some (.long (z2 ||| (lshl 1 (gI M 73 x4.toNatClampNeg)))), none, some (.int x4), none]) ⟨rfl, rfl, rfl, rfl, trivial⟩ (by have h9 := hJ1; simp only [if_neg c2, if_neg c3] at h9; first | exact h9 | (simp only [if_neg c2, if_neg c3]; exact h9))
    refine q_istore (lo' := [some (.ref (ad 54)), some (.int x1), some (.long (z2 ||| (lshl 1 (gI M 73 x4.toNatClampNeg)))), none, some (.int x4), some (.int (if (gI M 65 (1 : Int32).toNatClampNeg) ≤ (x4 - x1) then 0 else if (gI M 65 (2 : Int32).toNatClampNeg) < ((gI M 73 x4.toNatClampNeg) - (gI M 73 x1.toNatClampNeg)) then 0 else 1))]) dX13_findPieces_77 (by decide) rfl ?_
    refine r_aload_n dX13_findPieces_79 rfl ?_
    refine r_getR dX13_findPieces_80 fs_54_35 fk_X13_175 ?_
    refine r_bipush (v := 49) dX13_findPieces_83 kB_49 ?_
    refine r_iload_n dX13_findPieces_85 rfl ?_
    refine r_imul dX13_findPieces_86 ?_
    refine r_iload dX13_findPieces_87 rfl ?_
    refine r_iadd dX13_findPieces_89 ?_
    refine r_iconst (v := 1) dX13_findPieces_90 kI_1 ?_
    refine r_iadd dX13_findPieces_91 ?_
    refine r_iload dX13_findPieces_92 rfl ?_
    refine r_if_eq (tgt := 105) dX13_findPieces_94 (by decide) (fun c4 => ?_) (fun c4 => ?_)
    · skip
      refine r_ldcw (v := 1000000) dX13_findPieces_105 co_X13_282 ?_
      refine r_iast dX13_findPieces_108 as_75 (g3 c1 c4) ?_
      refine q_iinc (v := x4 + 1) (lo' := [some (.ref (ad 54)), some (.int x1), some (.long (z2 ||| (lshl 1 (gI M 73 x4.toNatClampNeg)))), none, some (.int (x4 + 1)), some (.int (if (gI M 65 (1 : Int32).toNatClampNeg) ≤ (x4 - x1) then 0 else if (gI M 65 (2 : Int32).toNatClampNeg) < ((gI M 73 x4.toNatClampNeg) - (gI M 73 x1.toNatClampNeg)) then 0 else 1))]) dX13_findPieces_109 rfl (congrArg (fun q => x4 + q) kI_1) (by decide) rfl ?_
      refine r_goto (tgt := 15) dX13_findPieces_112 (by decide) ?_
      exact q_weak (lo' := [some (.ref (ad 54)), some (.int x1), some (.long (z2 ||| (lshl 1 (gI M 73 x4.toNatClampNeg)))), none, some (.int (x4 + 1)), none]) ⟨rfl, rfl, rfl, rfl, trivial⟩ (K2 c1 c4)
    · skip
      refine r_aload_n dX13_findPieces_97 rfl ?_
      refine r_lload_n dX13_findPieces_98 rfl ?_
      exact r_callV (x := 54) (As := [.long (z2 ||| (lshl 1 (gI M 73 x4.toNatClampNeg)))]) (rest := [.int (((49 * x1) + x4) + 1), .ref (ad 75)]) dX13_findPieces_99 mk_X13_310 mv_X13_takesOf rm_X13_findPieces_X13_takesOf rfl rfl (by decide +kernel) (Nat.le_of_ble_eq_true rfl) (cal_i (lo' := [some (.ref (ad 54)), some (.int x1), some (.long (z2 ||| (lshl 1 (gI M 73 x4.toNatClampNeg)))), none, some (.int x4), none]) ⟨rfl, rfl, rfl, rfl, trivial⟩ (K3 c1 c4))
theorem t_X13_findPieces_102 {x1 : Int32} {z2 : Int64} {x4 : Int32} {s3 : Int32} {s2 : Int32} 
    (g1 : vp_in s2 2352)
    (K1 : Fw l D ad kA mX13_findPieces 15 [some (.ref (ad 54)), some (.int x1), some (.long z2), none, some (.int (x4 + 1)), none] [] (sI M 75 s2.toNatClampNeg s3) Q) : Fw l D ad kA mX13_findPieces 102 [some (.ref (ad 54)), some (.int x1), some (.long z2), none, some (.int x4), none] [.int s3, .int s2, .ref (ad 75)] M Q := by
  refine r_goto (tgt := 108) dX13_findPieces_102 (by decide) ?_
  refine r_iast dX13_findPieces_108 as_75 g1 ?_
  refine q_iinc (v := x4 + 1) (lo' := [some (.ref (ad 54)), some (.int x1), some (.long z2), none, some (.int (x4 + 1)), none]) dX13_findPieces_109 rfl (congrArg (fun q => x4 + q) kI_1) (by decide) rfl ?_
  refine r_goto (tgt := 15) dX13_findPieces_112 (by decide) ?_
  exact K1
theorem en_X13_findPieces  (K : Fw l D ad kA mX13_findPieces 0 [some (.ref (ad 54)), none, none, none, none, none] [] M Q) : Cal l D ad kA mX13_findPieces [.ref (ad 54)] M Q := Cal.of (by decide) rfl rfl (Nat.le_of_ble_eq_true rfl) K
theorem t_X13_changedIn_0 {x1 : Int32} {x2 : Int32} {x3 : Int32} 
    (K1 : Fw l D ad kA mX13_changedIn 6 [some (.ref (ad 54)), none, some (.int x2), some (.int x3), some (.int 0), some (.int x1)] [] M Q) : Fw l D ad kA mX13_changedIn 0 [some (.ref (ad 54)), some (.int x1), some (.int x2), some (.int x3), none, none] [] M Q := by
  refine r_iconst (v := 0) dX13_changedIn_0 kI_0 ?_
  refine q_istore (lo' := [some (.ref (ad 54)), some (.int x1), some (.int x2), some (.int x3), some (.int 0), none]) dX13_changedIn_1 (by decide) rfl ?_
  refine r_iload_n dX13_changedIn_3 rfl ?_
  refine q_istore (lo' := [some (.ref (ad 54)), some (.int x1), some (.int x2), some (.int x3), some (.int 0), some (.int x1)]) dX13_changedIn_4 (by decide) rfl ?_
  exact q_weak (lo' := [some (.ref (ad 54)), none, some (.int x2), some (.int x3), some (.int 0), some (.int x1)]) ⟨rfl, rfl, rfl, rfl, rfl, trivial⟩ K1
theorem t_X13_changedIn_6 {x2 : Int32} {x3 : Int32} {x4 : Int32} {x5 : Int32} 
    (g1 : (¬ (x2 ≤ x5)) → vp_in x5 48)
    (K1 : (x2 ≤ x5) → Q (.returned (some (.int x4))) M)
    (K2 : (¬ (x2 ≤ x5)) → Fw l D ad kA mX13_changedIn 6 [some (.ref (ad 54)), none, some (.int x2), some (.int x3), some (.int (x4 + (if (gI M 79 x5.toNatClampNeg) = x3 then 0 else 1))), some (.int (x5 + 1))] [] M Q) : Fw l D ad kA mX13_changedIn 6 [some (.ref (ad 54)), none, some (.int x2), some (.int x3), some (.int x4), some (.int x5)] [] M Q := by
  refine r_iload dX13_changedIn_6 rfl ?_
  refine r_iload_n dX13_changedIn_8 rfl ?_
  refine r_icmp_ge (tgt := 39) dX13_changedIn_9 (by decide) (fun c1 => ?_) (fun c1 => ?_)
  · skip
    refine r_iload dX13_changedIn_39 rfl ?_
    exact r_iret dX13_changedIn_41 rfl (K1 c1)
  · skip
    refine r_iload dX13_changedIn_12 rfl ?_
    refine r_aload_n dX13_changedIn_14 rfl ?_
    refine r_getR dX13_changedIn_15 fs_54_39 fk_X13_187 ?_
    refine r_iload dX13_changedIn_18 rfl ?_
    refine r_iald dX13_changedIn_20 as_79 (g1 c1) ?_
    refine r_iload_n dX13_changedIn_21 rfl ?_
    suffices hJ1 : Fw l D ad kA mX13_changedIn 30 [some (.ref (ad 54)), none, some (.int x2), some (.int x3), none, some (.int x5)] [.int (if (gI M 79 x5.toNatClampNeg) = x3 then 0 else 1), .int x4] M Q by
      refine r_icmp_eq (tgt := 29) dX13_changedIn_22 (by decide) (fun c2 => ?_) (fun c2 => ?_)
      · skip
        refine r_iconst (v := 0) dX13_changedIn_29 kI_0 ?_
        exact q_weak (lo' := [some (.ref (ad 54)), none, some (.int x2), some (.int x3), none, some (.int x5)]) ⟨rfl, rfl, rfl, rfl, trivial⟩ (by have h9 := hJ1; simp only [if_pos c2] at h9; first | exact h9 | (simp only [if_pos c2]; exact h9))
      · skip
        refine r_iconst (v := 1) dX13_changedIn_25 kI_1 ?_
        refine r_goto (tgt := 30) dX13_changedIn_26 (by decide) ?_
        exact q_weak (lo' := [some (.ref (ad 54)), none, some (.int x2), some (.int x3), none, some (.int x5)]) ⟨rfl, rfl, rfl, rfl, trivial⟩ (by have h9 := hJ1; simp only [if_neg c2] at h9; first | exact h9 | (simp only [if_neg c2]; exact h9))
    refine r_iadd dX13_changedIn_30 ?_
    refine q_istore (lo' := [some (.ref (ad 54)), none, some (.int x2), some (.int x3), some (.int (x4 + (if (gI M 79 x5.toNatClampNeg) = x3 then 0 else 1))), some (.int x5)]) dX13_changedIn_31 (by decide) rfl ?_
    refine q_iinc (v := x5 + 1) (lo' := [some (.ref (ad 54)), none, some (.int x2), some (.int x3), some (.int (x4 + (if (gI M 79 x5.toNatClampNeg) = x3 then 0 else 1))), some (.int (x5 + 1))]) dX13_changedIn_33 rfl (congrArg (fun q => x5 + q) kI_1) (by decide) rfl ?_
    refine r_goto (tgt := 6) dX13_changedIn_36 (by decide) ?_
    exact (K2 c1)
theorem en_X13_changedIn {x1 : Int32} {x2 : Int32} {x3 : Int32} (K : Fw l D ad kA mX13_changedIn 0 [some (.ref (ad 54)), some (.int x1), some (.int x2), some (.int x3), none, none] [] M Q) : Cal l D ad kA mX13_changedIn [.ref (ad 54), .int x1, .int x2, .int x3] M Q := Cal.of (by decide) rfl rfl (Nat.le_of_ble_eq_true rfl) K
def v_X13_spot (x0 : Int32) (x1 : Int32) : Int32 := (49 * x0) + x1
theorem ct_X13_spot {x0 : Int32} {x1 : Int32}  (h : Q (.returned (some (.int (v_X13_spot x0 x1)))) M) : Cal l D ad kA mX13_spot [.int x0, .int x1] M Q := by
  refine Cal.of (lo := [some (.int x0), some (.int x1)]) (by decide) rfl rfl (Nat.le_of_ble_eq_true rfl) ?_
  refine r_bipush (v := 49) dX13_spot_0 kB_49 ?_
  refine r_iload_n dX13_spot_2 rfl ?_
  refine r_imul dX13_spot_3 ?_
  refine r_iload_n dX13_spot_4 rfl ?_
  refine r_iadd dX13_spot_5 ?_
  exact r_iret dX13_spot_6 rfl h
theorem t_X13_compare_0 {x1 : Int32} {x2 : Int32} {x3 : Int32} {x4 : Int32} {x5 : Int32} {x6 : Int32} 
    (g1 : vp_in x1 12)
    (K1 : Cal l D ad kA mX13_changedIn [.ref (ad 54), .int x2, .int x3, .int (gI M 74 x1.toNatClampNeg)] M (fun oc M2 => ∃ r : Int32, oc = .returned (some (.int r)) ∧ Fw l D ad kA mX13_compare 21 [some (.ref (ad 54)), none, some (.int x2), some (.int x3), some (.int x4), some (.int x5), some (.int x6), some (.int (v_X13_spot (x1 + 1) x3)), none, none, none] [.int r] M2 Q)) : Fw l D ad kA mX13_compare 0 [some (.ref (ad 54)), some (.int x1), some (.int x2), some (.int x3), some (.int x4), some (.int x5), some (.int x6), none, none, none, none] [] M Q := by
  refine r_iload_n dX13_compare_0 rfl ?_
  refine r_iconst (v := 1) dX13_compare_1 kI_1 ?_
  refine r_iadd dX13_compare_2 ?_
  refine r_iload_n dX13_compare_3 rfl ?_
  refine r_callS (As := [.int (x1 + 1), .int x3]) (rest := []) dX13_compare_4 mk_X13_320 ms_X13_spot rm_X13_compare_X13_spot rfl rfl (Nat.le_of_ble_eq_true rfl) (ct_X13_spot (⟨_, rfl, ?_⟩))
  refine q_istore (lo' := [some (.ref (ad 54)), some (.int x1), some (.int x2), some (.int x3), some (.int x4), some (.int x5), some (.int x6), some (.int (v_X13_spot (x1 + 1) x3)), none, none, none]) dX13_compare_7 (by decide) rfl ?_
  refine r_aload_n dX13_compare_9 rfl ?_
  refine r_iload_n dX13_compare_10 rfl ?_
  refine r_iload_n dX13_compare_11 rfl ?_
  refine r_aload_n dX13_compare_12 rfl ?_
  refine r_getR dX13_compare_13 fs_54_34 fk_X13_172 ?_
  refine r_iload_n dX13_compare_16 rfl ?_
  refine r_iald dX13_compare_17 as_74 g1 ?_
  exact r_callV (x := 54) (As := [.int x2, .int x3, .int (gI M 74 x1.toNatClampNeg)]) (rest := []) dX13_compare_18 mk_X13_323 mv_X13_changedIn rm_X13_compare_X13_changedIn rfl rfl (by decide +kernel) (Nat.le_of_ble_eq_true rfl) (cal_i (lo' := [some (.ref (ad 54)), none, some (.int x2), some (.int x3), some (.int x4), some (.int x5), some (.int x6), some (.int (v_X13_spot (x1 + 1) x3)), none, none, none]) ⟨rfl, rfl, rfl, rfl, rfl, rfl, rfl, trivial⟩ K1)
theorem t_X13_compare_21 {x2 : Int32} {x3 : Int32} {x4 : Int32} {x5 : Int32} {x6 : Int32} {x7 : Int32} {s1 : Int32} 
    (g1 : vp_in x7 637)
    (g2 : (¬ (x2 = x3)) → vp_in ((49 * x2) + x3) 2352)
    (K1 : Q (.returned (some (.int (if (s1 + (gI M 76 x7.toNatClampNeg)) = x4 then if ((if x2 = x3 then 0 else gI M 75 ((49 * x2) + x3).toNatClampNeg) + (gI M 77 x7.toNatClampNeg)) = x5 then x6 - ((if x2 = x3 then 0 else 1) + (gI M 78 x7.toNatClampNeg)) else x5 - ((if x2 = x3 then 0 else gI M 75 ((49 * x2) + x3).toNatClampNeg) + (gI M 77 x7.toNatClampNeg)) else x4 - (s1 + (gI M 76 x7.toNatClampNeg)))))) M) : Fw l D ad kA mX13_compare 21 [some (.ref (ad 54)), none, some (.int x2), some (.int x3), some (.int x4), some (.int x5), some (.int x6), some (.int x7), none, none, none] [.int s1] M Q := by
  refine r_aload_n dX13_compare_21 rfl ?_
  refine r_getR dX13_compare_22 fs_54_36 fk_X13_178 ?_
  refine r_iload dX13_compare_25 rfl ?_
  refine r_iald dX13_compare_27 as_76 g1 ?_
  refine r_iadd dX13_compare_28 ?_
  refine q_istore (lo' := [some (.ref (ad 54)), none, some (.int x2), some (.int x3), some (.int x4), some (.int x5), some (.int x6), some (.int x7), some (.int (s1 + (gI M 76 x7.toNatClampNeg))), none, none]) dX13_compare_29 (by decide) rfl ?_
  refine r_iload_n dX13_compare_31 rfl ?_
  refine r_iload_n dX13_compare_32 rfl ?_
  suffices hJ1 : Fw l D ad kA mX13_compare 51 [some (.ref (ad 54)), none, some (.int x2), some (.int x3), some (.int x4), some (.int x5), some (.int x6), some (.int x7), some (.int (s1 + (gI M 76 x7.toNatClampNeg))), none, none] [.int (if x2 = x3 then 0 else gI M 75 ((49 * x2) + x3).toNatClampNeg)] M Q by
    refine r_icmp_ne (tgt := 40) dX13_compare_33 (by decide) (fun c1 => ?_) (fun c1 => ?_)
    · skip
      refine r_aload_n dX13_compare_40 rfl ?_
      refine r_getR dX13_compare_41 fs_54_35 fk_X13_175 ?_
      refine r_bipush (v := 49) dX13_compare_44 kB_49 ?_
      refine r_iload_n dX13_compare_46 rfl ?_
      refine r_imul dX13_compare_47 ?_
      refine r_iload_n dX13_compare_48 rfl ?_
      refine r_iadd dX13_compare_49 ?_
      refine r_iald dX13_compare_50 as_75 (g2 c1) ?_
      exact q_weak (lo' := [some (.ref (ad 54)), none, some (.int x2), some (.int x3), some (.int x4), some (.int x5), some (.int x6), some (.int x7), some (.int (s1 + (gI M 76 x7.toNatClampNeg))), none, none]) ⟨rfl, rfl, rfl, rfl, rfl, rfl, rfl, rfl, trivial⟩ (by have h9 := hJ1; simp only [if_neg c1] at h9; first | exact h9 | (simp only [if_neg c1]; exact h9))
    · skip
      refine r_iconst (v := 0) dX13_compare_36 kI_0 ?_
      refine r_goto (tgt := 51) dX13_compare_37 (by decide) ?_
      exact q_weak (lo' := [some (.ref (ad 54)), none, some (.int x2), some (.int x3), some (.int x4), some (.int x5), some (.int x6), some (.int x7), some (.int (s1 + (gI M 76 x7.toNatClampNeg))), none, none]) ⟨rfl, rfl, rfl, rfl, rfl, rfl, rfl, rfl, trivial⟩ (by have h9 := hJ1; simp only [if_pos c1] at h9; first | exact h9 | (simp only [if_pos c1]; exact h9))
  refine r_aload_n dX13_compare_51 rfl ?_
  refine r_getR dX13_compare_52 fs_54_37 fk_X13_181 ?_
  refine r_iload dX13_compare_55 rfl ?_
  refine r_iald dX13_compare_57 as_77 g1 ?_
  refine r_iadd dX13_compare_58 ?_
  refine q_istore (lo' := [some (.ref (ad 54)), none, some (.int x2), some (.int x3), some (.int x4), some (.int x5), some (.int x6), some (.int x7), some (.int (s1 + (gI M 76 x7.toNatClampNeg))), some (.int ((if x2 = x3 then 0 else gI M 75 ((49 * x2) + x3).toNatClampNeg) + (gI M 77 x7.toNatClampNeg))), none]) dX13_compare_59 (by decide) rfl ?_
  refine r_iload_n dX13_compare_61 rfl ?_
  refine r_iload_n dX13_compare_62 rfl ?_
  suffices hJ2 : Fw l D ad kA mX13_compare 71 [some (.ref (ad 54)), none, none, none, some (.int x4), some (.int x5), some (.int x6), some (.int x7), some (.int (s1 + (gI M 76 x7.toNatClampNeg))), some (.int ((if x2 = x3 then 0 else gI M 75 ((49 * x2) + x3).toNatClampNeg) + (gI M 77 x7.toNatClampNeg))), none] [.int (if x2 = x3 then 0 else 1)] M Q by
    refine r_icmp_ne (tgt := 70) dX13_compare_63 (by decide) (fun c2 => ?_) (fun c2 => ?_)
    · skip
      refine r_iconst (v := 1) dX13_compare_70 kI_1 ?_
      exact q_weak (lo' := [some (.ref (ad 54)), none, none, none, some (.int x4), some (.int x5), some (.int x6), some (.int x7), some (.int (s1 + (gI M 76 x7.toNatClampNeg))), some (.int ((if x2 = x3 then 0 else gI M 75 ((49 * x2) + x3).toNatClampNeg) + (gI M 77 x7.toNatClampNeg))), none]) ⟨rfl, rfl, rfl, rfl, rfl, rfl, rfl, trivial⟩ (by have h9 := hJ2; simp only [if_neg c2] at h9; first | exact h9 | (simp only [if_neg c2]; exact h9))
    · skip
      refine r_iconst (v := 0) dX13_compare_66 kI_0 ?_
      refine r_goto (tgt := 71) dX13_compare_67 (by decide) ?_
      exact q_weak (lo' := [some (.ref (ad 54)), none, none, none, some (.int x4), some (.int x5), some (.int x6), some (.int x7), some (.int (s1 + (gI M 76 x7.toNatClampNeg))), some (.int ((if x2 = x3 then 0 else gI M 75 ((49 * x2) + x3).toNatClampNeg) + (gI M 77 x7.toNatClampNeg))), none]) ⟨rfl, rfl, rfl, rfl, rfl, rfl, rfl, trivial⟩ (by have h9 := hJ2; simp only [if_pos c2] at h9; first | exact h9 | (simp only [if_pos c2]; exact h9))
  refine r_aload_n dX13_compare_71 rfl ?_
  refine r_getR dX13_compare_72 fs_54_38 fk_X13_184 ?_
  refine r_iload dX13_compare_75 rfl ?_
  refine r_iald dX13_compare_77 as_78 g1 ?_
  refine r_iadd dX13_compare_78 ?_
  refine q_istore (lo' := [some (.ref (ad 54)), none, none, none, some (.int x4), some (.int x5), some (.int x6), some (.int x7), some (.int (s1 + (gI M 76 x7.toNatClampNeg))), some (.int ((if x2 = x3 then 0 else gI M 75 ((49 * x2) + x3).toNatClampNeg) + (gI M 77 x7.toNatClampNeg))), some (.int ((if x2 = x3 then 0 else 1) + (gI M 78 x7.toNatClampNeg)))]) dX13_compare_79 (by decide) rfl ?_
  refine r_iload dX13_compare_81 rfl ?_
  refine r_iload dX13_compare_83 rfl ?_
  suffices hJ3 : Fw l D ad kA mX13_compare 116 [none, none, none, none, none, none, none, none, none, none, none] [.int (if (s1 + (gI M 76 x7.toNatClampNeg)) = x4 then if ((if x2 = x3 then 0 else gI M 75 ((49 * x2) + x3).toNatClampNeg) + (gI M 77 x7.toNatClampNeg)) = x5 then x6 - ((if x2 = x3 then 0 else 1) + (gI M 78 x7.toNatClampNeg)) else x5 - ((if x2 = x3 then 0 else gI M 75 ((49 * x2) + x3).toNatClampNeg) + (gI M 77 x7.toNatClampNeg)) else x4 - (s1 + (gI M 76 x7.toNatClampNeg)))] M Q by
    refine r_icmp_eq (tgt := 96) dX13_compare_85 (by decide) (fun c3 => ?_) (fun c3 => ?_)
    · skip
      refine r_iload dX13_compare_96 rfl ?_
      refine r_iload dX13_compare_98 rfl ?_
      refine r_icmp_eq (tgt := 111) dX13_compare_100 (by decide) (fun c4 => ?_) (fun c4 => ?_)
      · skip
        refine r_iload dX13_compare_111 rfl ?_
        refine r_iload dX13_compare_113 rfl ?_
        refine r_isub dX13_compare_115 ?_
        exact q_weak (lo' := [none, none, none, none, none, none, none, none, none, none, none]) trivial (by have h9 := hJ3; simp only [if_pos c3, if_pos c4] at h9; first | exact h9 | (simp only [if_pos c3, if_pos c4]; exact h9))
      · skip
        refine r_iload dX13_compare_103 rfl ?_
        refine r_iload dX13_compare_105 rfl ?_
        refine r_isub dX13_compare_107 ?_
        refine r_goto (tgt := 116) dX13_compare_108 (by decide) ?_
        exact q_weak (lo' := [none, none, none, none, none, none, none, none, none, none, none]) trivial (by have h9 := hJ3; simp only [if_pos c3, if_neg c4] at h9; first | exact h9 | (simp only [if_pos c3, if_neg c4]; exact h9))
    · skip
      refine r_iload dX13_compare_88 rfl ?_
      refine r_iload dX13_compare_90 rfl ?_
      refine r_isub dX13_compare_92 ?_
      refine r_goto (tgt := 116) dX13_compare_93 (by decide) ?_
      exact q_weak (lo' := [none, none, none, none, none, none, none, none, none, none, none]) trivial (by have h9 := hJ3; simp only [if_neg c3] at h9; first | exact h9 | (simp only [if_neg c3]; exact h9))
  exact r_iret dX13_compare_116 rfl K1
theorem en_X13_compare {x1 : Int32} {x2 : Int32} {x3 : Int32} {x4 : Int32} {x5 : Int32} {x6 : Int32} (K : Fw l D ad kA mX13_compare 0 [some (.ref (ad 54)), some (.int x1), some (.int x2), some (.int x3), some (.int x4), some (.int x5), some (.int x6), none, none, none, none] [] M Q) : Cal l D ad kA mX13_compare [.ref (ad 54), .int x1, .int x2, .int x3, .int x4, .int x5, .int x6] M Q := Cal.of (by decide) rfl rfl (Nat.le_of_ble_eq_true rfl) K
def v_X13_mayHave (M : Mem) (x1 : Int32) (x2 : Int32) (x3 : Int32) : Int32 := if 1000000 ≤ (gI M 77 (v_X13_spot (x1 + 1) x3).toNatClampNeg) then 0 else if x2 = x3 then 1 else if 1000000 ≤ (gI M 75 ((49 * x2) + x3).toNatClampNeg) then 0 else 1
def g_X13_mayHave (M : Mem) (x1 : Int32) (x2 : Int32) (x3 : Int32) : Prop := (vp_in (v_X13_spot (x1 + 1) x3) 637) ∧ ((¬ (1000000 ≤ (gI M 77 (v_X13_spot (x1 + 1) x3).toNatClampNeg))) → (¬ (x2 = x3)) → vp_in ((49 * x2) + x3) 2352)
theorem ct_X13_mayHave {x1 : Int32} {x2 : Int32} {x3 : Int32}  (g : g_X13_mayHave M x1 x2 x3) (h : Q (.returned (some (.int (v_X13_mayHave M x1 x2 x3)))) M) : Cal l D ad kA mX13_mayHave [.ref (ad 54), .int x1, .int x2, .int x3] M Q := by
  refine Cal.of (lo := [some (.ref (ad 54)), some (.int x1), some (.int x2), some (.int x3)]) (by decide) rfl rfl (Nat.le_of_ble_eq_true rfl) ?_
  obtain ⟨g1, g2⟩ := g
  refine r_aload_n dX13_mayHave_0 rfl ?_
  refine r_getR dX13_mayHave_1 fs_54_37 fk_X13_181 ?_
  refine r_iload_n dX13_mayHave_4 rfl ?_
  refine r_iconst (v := 1) dX13_mayHave_5 kI_1 ?_
  refine r_iadd dX13_mayHave_6 ?_
  refine r_iload_n dX13_mayHave_7 rfl ?_
  refine r_callS (As := [.int (x1 + 1), .int x3]) (rest := [.ref (ad 77)]) dX13_mayHave_8 mk_X13_320 ms_X13_spot rm_X13_mayHave_X13_spot rfl rfl (Nat.le_of_ble_eq_true rfl) (ct_X13_spot (⟨_, rfl, ?_⟩))
  refine r_iald dX13_mayHave_11 as_77 g1 ?_
  refine r_ldcw (v := 1000000) dX13_mayHave_12 co_X13_282 ?_
  suffices hJ1 : Fw l D ad kA mX13_mayHave 45 [none, none, none, none] [.int (if 1000000 ≤ (gI M 77 (v_X13_spot (x1 + 1) x3).toNatClampNeg) then 0 else if x2 = x3 then 1 else if 1000000 ≤ (gI M 75 ((49 * x2) + x3).toNatClampNeg) then 0 else 1)] M Q by
    refine r_icmp_ge (tgt := 44) dX13_mayHave_15 (by decide) (fun c1 => ?_) (fun c1 => ?_)
    · skip
      refine r_iconst (v := 0) dX13_mayHave_44 kI_0 ?_
      exact q_weak (lo' := [none, none, none, none]) trivial (by have h9 := hJ1; simp only [if_pos c1] at h9; first | exact h9 | (simp only [if_pos c1]; exact h9))
    · skip
      refine r_iload_n dX13_mayHave_18 rfl ?_
      refine r_iload_n dX13_mayHave_19 rfl ?_
      refine r_icmp_eq (tgt := 40) dX13_mayHave_20 (by decide) (fun c2 => ?_) (fun c2 => ?_)
      · skip
        refine r_iconst (v := 1) dX13_mayHave_40 kI_1 ?_
        refine r_goto (tgt := 45) dX13_mayHave_41 (by decide) ?_
        exact q_weak (lo' := [none, none, none, none]) trivial (by have h9 := hJ1; simp only [if_neg c1, if_pos c2] at h9; first | exact h9 | (simp only [if_neg c1, if_pos c2]; exact h9))
      · skip
        refine r_aload_n dX13_mayHave_23 rfl ?_
        refine r_getR dX13_mayHave_24 fs_54_35 fk_X13_175 ?_
        refine r_bipush (v := 49) dX13_mayHave_27 kB_49 ?_
        refine r_iload_n dX13_mayHave_29 rfl ?_
        refine r_imul dX13_mayHave_30 ?_
        refine r_iload_n dX13_mayHave_31 rfl ?_
        refine r_iadd dX13_mayHave_32 ?_
        refine r_iald dX13_mayHave_33 as_75 (g2 c1 c2) ?_
        refine r_ldcw (v := 1000000) dX13_mayHave_34 co_X13_282 ?_
        refine r_icmp_ge (tgt := 44) dX13_mayHave_37 (by decide) (fun c3 => ?_) (fun c3 => ?_)
        · skip
          refine r_iconst (v := 0) dX13_mayHave_44 kI_0 ?_
          exact q_weak (lo' := [none, none, none, none]) trivial (by have h9 := hJ1; simp only [if_neg c1, if_neg c2, if_pos c3] at h9; first | exact h9 | (simp only [if_neg c1, if_neg c2, if_pos c3]; exact h9))
        · skip
          refine r_iconst (v := 1) dX13_mayHave_40 kI_1 ?_
          refine r_goto (tgt := 45) dX13_mayHave_41 (by decide) ?_
          exact q_weak (lo' := [none, none, none, none]) trivial (by have h9 := hJ1; simp only [if_neg c1, if_neg c2, if_neg c3] at h9; first | exact h9 | (simp only [if_neg c1, if_neg c2, if_neg c3]; exact h9))
  exact r_zret dX13_mayHave_45 rfl (nar_z (ite01 (Or.inl rfl) (ite01 (Or.inr rfl) (ite01 (Or.inl rfl) (Or.inr rfl))))).1 h
theorem z_X13_mayHave {M : Mem} {x1 : Int32} {x2 : Int32} {x3 : Int32} : v_X13_mayHave M x1 x2 x3 = 0 ∨ v_X13_mayHave M x1 x2 x3 = 1 := (ite01 (Or.inl rfl) (ite01 (Or.inr rfl) (ite01 (Or.inl rfl) (Or.inr rfl))))
theorem t_X13_findRanges_0  
    (K1 : Cal l D ad kA mX13_findPieces [.ref (ad 54)] M (fun oc M2 => oc = .returned none ∧ Fw l D ad kA mX13_findRanges 4 [some (.ref (ad 54)), none, none, none, none, none] [] M2 Q)) : Fw l D ad kA mX13_findRanges 0 [some (.ref (ad 54)), none, none, none, none, none] [] M Q := by
  refine r_aload_n dX13_findRanges_0 rfl ?_
  exact r_callV (x := 54) (As := []) (rest := []) dX13_findRanges_1 mk_X13_326 mv_X13_findPieces rm_X13_findRanges_X13_findPieces rfl rfl (by decide +kernel) (Nat.le_of_ble_eq_true rfl) (cal_v (lo' := [some (.ref (ad 54)), none, none, none, none, none]) ⟨rfl, trivial⟩ K1)
theorem t_X13_findRanges_4  
    (K1 : Fw l D ad kA mX13_findRanges 6 [some (.ref (ad 54)), some (.int 0), none, none, none, none] [] M Q) : Fw l D ad kA mX13_findRanges 4 [some (.ref (ad 54)), none, none, none, none, none] [] M Q := by
  refine r_iconst (v := 0) dX13_findRanges_4 kI_0 ?_
  refine q_istore_n (lo' := [some (.ref (ad 54)), some (.int 0), none, none, none, none]) dX13_findRanges_5 (by decide) rfl ?_
  exact K1
theorem t_X13_findRanges_6 {x1 : Int32} 
    (g1 : (¬ ((gI M 54 40) < x1)) → vp_in (v_X13_spot (gI M 54 41) x1) 637)
    (K1 : ((gI M 54 40) < x1) → Fw l D ad kA mX13_findRanges 83 [some (.ref (ad 54)), some (.int ((gI M 54 41) - 1)), none, none, none, none] [] M Q)
    (K2 : (¬ ((gI M 54 40) < x1)) → Fw l D ad kA mX13_findRanges 6 [some (.ref (ad 54)), some (.int (x1 + 1)), none, none, none, none] [] (sI (sI (sI M 76 (v_X13_spot (gI M 54 41) x1).toNatClampNeg 0) 78 (v_X13_spot (gI M 54 41) x1).toNatClampNeg 0) 77 (v_X13_spot (gI M 54 41) x1).toNatClampNeg (if x1 = (gI M 54 40) then 0 else 1000000)) Q) : Fw l D ad kA mX13_findRanges 6 [some (.ref (ad 54)), some (.int x1), none, none, none, none] [] M Q := by
  refine r_iload_n dX13_findRanges_6 rfl ?_
  refine r_aload_n dX13_findRanges_7 rfl ?_
  refine r_getI dX13_findRanges_8 fs_54_40 fk_X13_314 ?_
  refine r_icmp_gt (tgt := 76) dX13_findRanges_11 (by decide) (fun c1 => ?_) (fun c1 => ?_)
  · skip
    refine r_aload_n dX13_findRanges_76 rfl ?_
    refine r_getI dX13_findRanges_77 fs_54_41 fk_X13_329 ?_
    refine r_iconst (v := 1) dX13_findRanges_80 kI_1 ?_
    refine r_isub dX13_findRanges_81 ?_
    refine q_istore_n (lo' := [some (.ref (ad 54)), some (.int ((gI M 54 41) - 1)), none, none, none, none]) dX13_findRanges_82 (by decide) rfl ?_
    exact (K1 c1)
  · skip
    refine r_aload_n dX13_findRanges_14 rfl ?_
    refine r_getR dX13_findRanges_15 fs_54_36 fk_X13_178 ?_
    refine r_aload_n dX13_findRanges_18 rfl ?_
    refine r_getI dX13_findRanges_19 fs_54_41 fk_X13_329 ?_
    refine r_iload_n dX13_findRanges_22 rfl ?_
    refine r_callS (As := [.int (gI M 54 41), .int x1]) (rest := [.ref (ad 76)]) dX13_findRanges_23 mk_X13_320 ms_X13_spot rm_X13_findRanges_X13_spot rfl rfl (Nat.le_of_ble_eq_true rfl) (ct_X13_spot (⟨_, rfl, ?_⟩))
    refine r_iconst (v := 0) dX13_findRanges_26 kI_0 ?_
    refine r_iast dX13_findRanges_27 as_76 (g1 c1) ?_
    refine r_aload_n dX13_findRanges_28 rfl ?_
    refine r_getR dX13_findRanges_29 fs_54_38 fk_X13_184 ?_
    refine r_aload_n dX13_findRanges_32 rfl ?_
    refine q_getI (v := gI M 54 41) dX13_findRanges_33 fs_54_41 fk_X13_329 rfl ?_
    refine r_iload_n dX13_findRanges_36 rfl ?_
    refine r_callS (As := [.int (gI M 54 41), .int x1]) (rest := [.ref (ad 78)]) dX13_findRanges_37 mk_X13_320 ms_X13_spot rm_X13_findRanges_X13_spot rfl rfl (Nat.le_of_ble_eq_true rfl) (ct_X13_spot (⟨_, rfl, ?_⟩))
    refine r_iconst (v := 0) dX13_findRanges_40 kI_0 ?_
    refine r_iast dX13_findRanges_41 as_78 (g1 c1) ?_
    refine r_aload_n dX13_findRanges_42 rfl ?_
    refine r_getR dX13_findRanges_43 fs_54_37 fk_X13_181 ?_
    refine r_aload_n dX13_findRanges_46 rfl ?_
    refine q_getI (v := gI M 54 41) dX13_findRanges_47 fs_54_41 fk_X13_329 rfl ?_
    refine r_iload_n dX13_findRanges_50 rfl ?_
    refine r_callS (As := [.int (gI M 54 41), .int x1]) (rest := [.ref (ad 77)]) dX13_findRanges_51 mk_X13_320 ms_X13_spot rm_X13_findRanges_X13_spot rfl rfl (Nat.le_of_ble_eq_true rfl) (ct_X13_spot (⟨_, rfl, ?_⟩))
    refine r_iload_n dX13_findRanges_54 rfl ?_
    refine r_aload_n dX13_findRanges_55 rfl ?_
    refine q_getI (v := gI M 54 40) dX13_findRanges_56 fs_54_40 fk_X13_314 rfl ?_
    suffices hJ1 : Fw l D ad kA mX13_findRanges 69 [some (.ref (ad 54)), some (.int x1), none, none, none, none] [.int (if x1 = (gI M 54 40) then 0 else 1000000), .int (v_X13_spot (gI M 54 41) x1), .ref (ad 77)] (sI (sI M 76 (v_X13_spot (gI M 54 41) x1).toNatClampNeg 0) 78 (v_X13_spot (gI M 54 41) x1).toNatClampNeg 0) Q by
      refine r_icmp_ne (tgt := 66) dX13_findRanges_59 (by decide) (fun c2 => ?_) (fun c2 => ?_)
      · skip
        refine r_ldcw (v := 1000000) dX13_findRanges_66 co_X13_282 ?_
        exact q_weak (lo' := [some (.ref (ad 54)), some (.int x1), none, none, none, none]) ⟨rfl, rfl, trivial⟩ (by have h9 := hJ1; simp only [if_neg c2] at h9; first | exact h9 | (simp only [if_neg c2]; exact h9))
      · skip
        refine r_iconst (v := 0) dX13_findRanges_62 kI_0 ?_
        refine r_goto (tgt := 69) dX13_findRanges_63 (by decide) ?_
        exact q_weak (lo' := [some (.ref (ad 54)), some (.int x1), none, none, none, none]) ⟨rfl, rfl, trivial⟩ (by have h9 := hJ1; simp only [if_pos c2] at h9; first | exact h9 | (simp only [if_pos c2]; exact h9))
    refine r_iast dX13_findRanges_69 as_77 (g1 c1) ?_
    refine q_iinc (v := x1 + 1) (lo' := [some (.ref (ad 54)), some (.int (x1 + 1)), none, none, none, none]) dX13_findRanges_70 rfl (congrArg (fun q => x1 + q) kI_1) (by decide) rfl ?_
    refine r_goto (tgt := 6) dX13_findRanges_73 (by decide) ?_
    exact (K2 c1)
theorem t_X13_findRanges_83 {x1 : Int32} 
    (g1 : (x1 < 0) → vp_in (v_X13_spot 0 0) 637)
    (K1 : (x1 < 0) → Q (.returned (some (.int (if 1000000 ≤ (gI M 77 (v_X13_spot 0 0).toNatClampNeg) then 0 else 1)))) M)
    (K2 : (¬ (x1 < 0)) → Fw l D ad kA mX13_findRanges 89 [some (.ref (ad 54)), some (.int x1), some (.int 0), none, none, none] [] M Q) : Fw l D ad kA mX13_findRanges 83 [some (.ref (ad 54)), some (.int x1), none, none, none, none] [] M Q := by
  refine r_iload_n dX13_findRanges_83 rfl ?_
  refine r_if_lt (tgt := 301) dX13_findRanges_84 (by decide) (fun c1 => ?_) (fun c1 => ?_)
  · skip
    refine r_aload_n dX13_findRanges_301 rfl ?_
    refine r_getR dX13_findRanges_302 fs_54_37 fk_X13_181 ?_
    refine r_iconst (v := 0) dX13_findRanges_305 kI_0 ?_
    refine r_iconst (v := 0) dX13_findRanges_306 kI_0 ?_
    refine r_callS (As := [.int 0, .int 0]) (rest := [.ref (ad 77)]) dX13_findRanges_307 mk_X13_320 ms_X13_spot rm_X13_findRanges_X13_spot rfl rfl (Nat.le_of_ble_eq_true rfl) (ct_X13_spot (⟨_, rfl, ?_⟩))
    refine r_iald dX13_findRanges_310 as_77 (g1 c1) ?_
    refine r_ldcw (v := 1000000) dX13_findRanges_311 co_X13_282 ?_
    suffices hJ1 : Fw l D ad kA mX13_findRanges 322 [none, none, none, none, none, none] [.int (if 1000000 ≤ (gI M 77 (v_X13_spot 0 0).toNatClampNeg) then 0 else 1)] M Q by
      refine r_icmp_ge (tgt := 321) dX13_findRanges_314 (by decide) (fun c2 => ?_) (fun c2 => ?_)
      · skip
        refine r_iconst (v := 0) dX13_findRanges_321 kI_0 ?_
        exact q_weak (lo' := [none, none, none, none, none, none]) trivial (by have h9 := hJ1; simp only [if_pos c2] at h9; first | exact h9 | (simp only [if_pos c2]; exact h9))
      · skip
        refine r_iconst (v := 1) dX13_findRanges_317 kI_1 ?_
        refine r_goto (tgt := 322) dX13_findRanges_318 (by decide) ?_
        exact q_weak (lo' := [none, none, none, none, none, none]) trivial (by have h9 := hJ1; simp only [if_neg c2] at h9; first | exact h9 | (simp only [if_neg c2]; exact h9))
    exact r_zret dX13_findRanges_322 rfl (nar_z (ite01 (Or.inl rfl) (Or.inr rfl))).1 (K1 c1)
  · skip
    refine r_iconst (v := 0) dX13_findRanges_87 kI_0 ?_
    refine q_istore_n (lo' := [some (.ref (ad 54)), some (.int x1), some (.int 0), none, none, none]) dX13_findRanges_88 (by decide) rfl ?_
    exact (K2 c1)
theorem t_X13_findRanges_89 {x1 : Int32} {x2 : Int32} 
    (g1 : (¬ ((gI M 54 40) < x2)) → vp_in (v_X13_spot x1 x2) 637)
    (K1 : ((gI M 54 40) < x2) → Fw l D ad kA mX13_findRanges 83 [some (.ref (ad 54)), some (.int (x1 + (-1))), none, none, none, none] [] M Q)
    (K2 : (¬ ((gI M 54 40) < x2)) → Fw l D ad kA mX13_findRanges 133 [some (.ref (ad 54)), some (.int x1), some (.int x2), some (.int (v_X13_spot x1 x2)), some (.int x2), none] [] (sI (sI (sI M 76 (v_X13_spot x1 x2).toNatClampNeg 1000000) 77 (v_X13_spot x1 x2).toNatClampNeg 1000000) 78 (v_X13_spot x1 x2).toNatClampNeg 1000000) Q) : Fw l D ad kA mX13_findRanges 89 [some (.ref (ad 54)), some (.int x1), some (.int x2), none, none, none] [] M Q := by
  refine r_iload_n dX13_findRanges_89 rfl ?_
  refine r_aload_n dX13_findRanges_90 rfl ?_
  refine r_getI dX13_findRanges_91 fs_54_40 fk_X13_314 ?_
  refine r_icmp_gt (tgt := 295) dX13_findRanges_94 (by decide) (fun c1 => ?_) (fun c1 => ?_)
  · skip
    refine q_iinc (v := x1 + (-1)) (lo' := [some (.ref (ad 54)), some (.int (x1 + (-1))), some (.int x2), none, none, none]) dX13_findRanges_295 rfl (congrArg (fun q => x1 + q) kI_m1) (by decide) rfl ?_
    refine r_goto (tgt := 83) dX13_findRanges_298 (by decide) ?_
    exact q_weak (lo' := [some (.ref (ad 54)), some (.int (x1 + (-1))), none, none, none, none]) ⟨rfl, rfl, trivial⟩ (K1 c1)
  · skip
    refine r_iload_n dX13_findRanges_97 rfl ?_
    refine r_iload_n dX13_findRanges_98 rfl ?_
    refine r_callS (As := [.int x1, .int x2]) (rest := []) dX13_findRanges_99 mk_X13_320 ms_X13_spot rm_X13_findRanges_X13_spot rfl rfl (Nat.le_of_ble_eq_true rfl) (ct_X13_spot (⟨_, rfl, ?_⟩))
    refine q_istore_n (lo' := [some (.ref (ad 54)), some (.int x1), some (.int x2), some (.int (v_X13_spot x1 x2)), none, none]) dX13_findRanges_102 (by decide) rfl ?_
    refine r_aload_n dX13_findRanges_103 rfl ?_
    refine r_getR dX13_findRanges_104 fs_54_36 fk_X13_178 ?_
    refine r_iload_n dX13_findRanges_107 rfl ?_
    refine r_ldcw (v := 1000000) dX13_findRanges_108 co_X13_282 ?_
    refine r_iast dX13_findRanges_111 as_76 (g1 c1) ?_
    refine r_aload_n dX13_findRanges_112 rfl ?_
    refine r_getR dX13_findRanges_113 fs_54_37 fk_X13_181 ?_
    refine r_iload_n dX13_findRanges_116 rfl ?_
    refine r_ldcw (v := 1000000) dX13_findRanges_117 co_X13_282 ?_
    refine r_iast dX13_findRanges_120 as_77 (g1 c1) ?_
    refine r_aload_n dX13_findRanges_121 rfl ?_
    refine r_getR dX13_findRanges_122 fs_54_38 fk_X13_184 ?_
    refine r_iload_n dX13_findRanges_125 rfl ?_
    refine r_ldcw (v := 1000000) dX13_findRanges_126 co_X13_282 ?_
    refine r_iast dX13_findRanges_129 as_78 (g1 c1) ?_
    refine r_iload_n dX13_findRanges_130 rfl ?_
    refine q_istore (lo' := [some (.ref (ad 54)), some (.int x1), some (.int x2), some (.int (v_X13_spot x1 x2)), some (.int x2), none]) dX13_findRanges_131 (by decide) rfl ?_
    exact (K2 c1)
theorem t_X13_findRanges_133 {x1 : Int32} {x2 : Int32} {x3 : Int32} {x4 : Int32} 
    (g1 : (¬ ((gI M 54 40) < x4)) → g_X13_mayHave M x1 x2 x4)
    (g2 : (¬ ((gI M 54 40) < x4)) → (¬ ((v_X13_mayHave M x1 x2 x4) = 0)) → vp_in x3 637)
    (K1 : ((gI M 54 40) < x4) → Fw l D ad kA mX13_findRanges 89 [some (.ref (ad 54)), some (.int x1), some (.int (x2 + 1)), none, none, none] [] M Q)
    (K2 : (¬ ((gI M 54 40) < x4)) → ((v_X13_mayHave M x1 x2 x4) = 0) → Fw l D ad kA mX13_findRanges 133 [some (.ref (ad 54)), some (.int x1), some (.int x2), some (.int x3), some (.int (x4 + 1)), none] [] M Q)
    (K3 : (¬ ((gI M 54 40) < x4)) → (¬ ((v_X13_mayHave M x1 x2 x4) = 0)) → Cal l D ad kA mX13_compare [.ref (ad 54), .int x1, .int x2, .int x4, .int (gI M 76 x3.toNatClampNeg), .int (gI M 77 x3.toNatClampNeg), .int (gI M 78 x3.toNatClampNeg)] M (fun oc M2 => ∃ r : Int32, oc = .returned (some (.int r)) ∧ Fw l D ad kA mX13_findRanges 179 [some (.ref (ad 54)), some (.int x1), some (.int x2), some (.int x3), some (.int x4), none] [.int r] M2 Q)) : Fw l D ad kA mX13_findRanges 133 [some (.ref (ad 54)), some (.int x1), some (.int x2), some (.int x3), some (.int x4), none] [] M Q := by
  refine r_iload dX13_findRanges_133 rfl ?_
  refine r_aload_n dX13_findRanges_135 rfl ?_
  refine r_getI dX13_findRanges_136 fs_54_40 fk_X13_314 ?_
  refine r_icmp_gt (tgt := 289) dX13_findRanges_139 (by decide) (fun c1 => ?_) (fun c1 => ?_)
  · skip
    refine q_iinc (v := x2 + 1) (lo' := [some (.ref (ad 54)), some (.int x1), some (.int (x2 + 1)), some (.int x3), some (.int x4), none]) dX13_findRanges_289 rfl (congrArg (fun q => x2 + q) kI_1) (by decide) rfl ?_
    refine r_goto (tgt := 89) dX13_findRanges_292 (by decide) ?_
    exact q_weak (lo' := [some (.ref (ad 54)), some (.int x1), some (.int (x2 + 1)), none, none, none]) ⟨rfl, rfl, rfl, trivial⟩ (K1 c1)
  · skip
    refine r_aload_n dX13_findRanges_142 rfl ?_
    refine r_iload_n dX13_findRanges_143 rfl ?_
    refine r_iload_n dX13_findRanges_144 rfl ?_
    refine r_iload dX13_findRanges_145 rfl ?_
    refine r_callV (x := 54) (As := [.int x1, .int x2, .int x4]) (rest := []) dX13_findRanges_147 mk_X13_332 mv_X13_mayHave rm_X13_findRanges_X13_mayHave rfl rfl (by decide +kernel) (Nat.le_of_ble_eq_true rfl) (ct_X13_mayHave (g1 c1) (⟨_, rfl, ?_⟩))
    refine r_if_eq (tgt := 283) dX13_findRanges_150 (by decide) (fun c2 => ?_) (fun c2 => ?_)
    · skip
      refine q_iinc (v := x4 + 1) (lo' := [some (.ref (ad 54)), some (.int x1), some (.int x2), some (.int x3), some (.int (x4 + 1)), none]) dX13_findRanges_283 rfl (congrArg (fun q => x4 + q) kI_1) (by decide) rfl ?_
      refine r_goto (tgt := 133) dX13_findRanges_286 (by decide) ?_
      exact (K2 c1 c2)
    · skip
      refine r_aload_n dX13_findRanges_153 rfl ?_
      refine r_iload_n dX13_findRanges_154 rfl ?_
      refine r_iload_n dX13_findRanges_155 rfl ?_
      refine r_iload dX13_findRanges_156 rfl ?_
      refine r_aload_n dX13_findRanges_158 rfl ?_
      refine r_getR dX13_findRanges_159 fs_54_36 fk_X13_178 ?_
      refine r_iload_n dX13_findRanges_162 rfl ?_
      refine r_iald dX13_findRanges_163 as_76 (g2 c1 c2) ?_
      refine r_aload_n dX13_findRanges_164 rfl ?_
      refine r_getR dX13_findRanges_165 fs_54_37 fk_X13_181 ?_
      refine r_iload_n dX13_findRanges_168 rfl ?_
      refine r_iald dX13_findRanges_169 as_77 (g2 c1 c2) ?_
      refine r_aload_n dX13_findRanges_170 rfl ?_
      refine r_getR dX13_findRanges_171 fs_54_38 fk_X13_184 ?_
      refine r_iload_n dX13_findRanges_174 rfl ?_
      refine r_iald dX13_findRanges_175 as_78 (g2 c1 c2) ?_
      exact r_callV (x := 54) (As := [.int x1, .int x2, .int x4, .int (gI M 76 x3.toNatClampNeg), .int (gI M 77 x3.toNatClampNeg), .int (gI M 78 x3.toNatClampNeg)]) (rest := []) dX13_findRanges_176 mk_X13_336 mv_X13_compare rm_X13_findRanges_X13_compare rfl rfl (by decide +kernel) (Nat.le_of_ble_eq_true rfl) (cal_i (lo' := [some (.ref (ad 54)), some (.int x1), some (.int x2), some (.int x3), some (.int x4), none]) ⟨rfl, rfl, rfl, rfl, rfl, trivial⟩ (K3 c1 c2))
theorem t_X13_findRanges_179 {x1 : Int32} {x2 : Int32} {x3 : Int32} {x4 : Int32} {s1 : Int32} 
    (g1 : (0 < s1) → vp_in x1 12)
    (K1 : (0 < s1) → Cal l D ad kA mX13_changedIn [.ref (ad 54), .int x2, .int x4, .int (gI M 74 x1.toNatClampNeg)] M (fun oc M2 => ∃ r : Int32, oc = .returned (some (.int r)) ∧ Fw l D ad kA mX13_findRanges 213 [some (.ref (ad 54)), some (.int x1), some (.int x2), some (.int x3), some (.int x4), some (.int (v_X13_spot (x1 + 1) x4))] [.int r, .int x3, .ref (ad 76)] M2 Q))
    (K2 : (¬ (0 < s1)) → Fw l D ad kA mX13_findRanges 133 [some (.ref (ad 54)), some (.int x1), some (.int x2), some (.int x3), some (.int (x4 + 1)), none] [] M Q) : Fw l D ad kA mX13_findRanges 179 [some (.ref (ad 54)), some (.int x1), some (.int x2), some (.int x3), some (.int x4), none] [.int s1] M Q := by
  refine r_if_gt (tgt := 185) dX13_findRanges_179 (by decide) (fun c1 => ?_) (fun c1 => ?_)
  · skip
    refine r_iload_n dX13_findRanges_185 rfl ?_
    refine r_iconst (v := 1) dX13_findRanges_186 kI_1 ?_
    refine r_iadd dX13_findRanges_187 ?_
    refine r_iload dX13_findRanges_188 rfl ?_
    refine r_callS (As := [.int (x1 + 1), .int x4]) (rest := []) dX13_findRanges_190 mk_X13_320 ms_X13_spot rm_X13_findRanges_X13_spot rfl rfl (Nat.le_of_ble_eq_true rfl) (ct_X13_spot (⟨_, rfl, ?_⟩))
    refine q_istore (lo' := [some (.ref (ad 54)), some (.int x1), some (.int x2), some (.int x3), some (.int x4), some (.int (v_X13_spot (x1 + 1) x4))]) dX13_findRanges_193 (by decide) rfl ?_
    refine r_aload_n dX13_findRanges_195 rfl ?_
    refine r_getR dX13_findRanges_196 fs_54_36 fk_X13_178 ?_
    refine r_iload_n dX13_findRanges_199 rfl ?_
    refine r_aload_n dX13_findRanges_200 rfl ?_
    refine r_iload_n dX13_findRanges_201 rfl ?_
    refine r_iload dX13_findRanges_202 rfl ?_
    refine r_aload_n dX13_findRanges_204 rfl ?_
    refine r_getR dX13_findRanges_205 fs_54_34 fk_X13_172 ?_
    refine r_iload_n dX13_findRanges_208 rfl ?_
    refine r_iald dX13_findRanges_209 as_74 (g1 c1) ?_
    exact r_callV (x := 54) (As := [.int x2, .int x4, .int (gI M 74 x1.toNatClampNeg)]) (rest := [.int x3, .ref (ad 76)]) dX13_findRanges_210 mk_X13_323 mv_X13_changedIn rm_X13_findRanges_X13_changedIn rfl rfl (by decide +kernel) (Nat.le_of_ble_eq_true rfl) (cal_i (lo' := [some (.ref (ad 54)), some (.int x1), some (.int x2), some (.int x3), some (.int x4), some (.int (v_X13_spot (x1 + 1) x4))]) ⟨rfl, rfl, rfl, rfl, rfl, rfl, trivial⟩ (K1 c1))
  · skip
    refine r_goto (tgt := 283) dX13_findRanges_182 (by decide) ?_
    refine q_iinc (v := x4 + 1) (lo' := [some (.ref (ad 54)), some (.int x1), some (.int x2), some (.int x3), some (.int (x4 + 1)), none]) dX13_findRanges_283 rfl (congrArg (fun q => x4 + q) kI_1) (by decide) rfl ?_
    refine r_goto (tgt := 133) dX13_findRanges_286 (by decide) ?_
    exact (K2 c1)
theorem t_X13_findRanges_213 {x1 : Int32} {x2 : Int32} {x3 : Int32} {x4 : Int32} {x5 : Int32} {s3 : Int32} {s2 : Int32} 
    (g1 : vp_in x5 637)
    (g2 : vp_in s2 637)
    (K1 : Fw l D ad kA mX13_findRanges 222 [some (.ref (ad 54)), some (.int x1), some (.int x2), some (.int x3), some (.int x4), some (.int x5)] [] (sI M 76 s2.toNatClampNeg (s3 + (gI M 76 x5.toNatClampNeg))) Q) : Fw l D ad kA mX13_findRanges 213 [some (.ref (ad 54)), some (.int x1), some (.int x2), some (.int x3), some (.int x4), some (.int x5)] [.int s3, .int s2, .ref (ad 76)] M Q := by
  refine r_aload_n dX13_findRanges_213 rfl ?_
  refine r_getR dX13_findRanges_214 fs_54_36 fk_X13_178 ?_
  refine r_iload dX13_findRanges_217 rfl ?_
  refine r_iald dX13_findRanges_219 as_76 g1 ?_
  refine r_iadd dX13_findRanges_220 ?_
  refine r_iast dX13_findRanges_221 as_76 g2 ?_
  exact K1
theorem t_X13_findRanges_222 {x1 : Int32} {x2 : Int32} {x3 : Int32} {x4 : Int32} {x5 : Int32} 
    (g1 : (¬ (x2 = x4)) → vp_in ((49 * x2) + x4) 2352)
    (g2 : vp_in x5 637)
    (g3 : vp_in x3 637)
    (K1 : Fw l D ad kA mX13_findRanges 258 [some (.ref (ad 54)), some (.int x1), some (.int x2), some (.int x3), some (.int x4), some (.int x5)] [] (sI M 77 x3.toNatClampNeg ((if x2 = x4 then 0 else gI M 75 ((49 * x2) + x4).toNatClampNeg) + (gI M 77 x5.toNatClampNeg))) Q) : Fw l D ad kA mX13_findRanges 222 [some (.ref (ad 54)), some (.int x1), some (.int x2), some (.int x3), some (.int x4), some (.int x5)] [] M Q := by
  refine r_aload_n dX13_findRanges_222 rfl ?_
  refine r_getR dX13_findRanges_223 fs_54_37 fk_X13_181 ?_
  refine r_iload_n dX13_findRanges_226 rfl ?_
  refine r_iload_n dX13_findRanges_227 rfl ?_
  refine r_iload dX13_findRanges_228 rfl ?_
  suffices hJ1 : Fw l D ad kA mX13_findRanges 249 [some (.ref (ad 54)), some (.int x1), some (.int x2), some (.int x3), some (.int x4), some (.int x5)] [.int (if x2 = x4 then 0 else gI M 75 ((49 * x2) + x4).toNatClampNeg), .int x3, .ref (ad 77)] M Q by
    refine r_icmp_ne (tgt := 237) dX13_findRanges_230 (by decide) (fun c1 => ?_) (fun c1 => ?_)
    · skip
      refine r_aload_n dX13_findRanges_237 rfl ?_
      refine r_getR dX13_findRanges_238 fs_54_35 fk_X13_175 ?_
      refine r_bipush (v := 49) dX13_findRanges_241 kB_49 ?_
      refine r_iload_n dX13_findRanges_243 rfl ?_
      refine r_imul dX13_findRanges_244 ?_
      refine r_iload dX13_findRanges_245 rfl ?_
      refine r_iadd dX13_findRanges_247 ?_
      refine r_iald dX13_findRanges_248 as_75 (g1 c1) ?_
      exact q_weak (lo' := [some (.ref (ad 54)), some (.int x1), some (.int x2), some (.int x3), some (.int x4), some (.int x5)]) ⟨rfl, rfl, rfl, rfl, rfl, rfl, trivial⟩ (by have h9 := hJ1; simp only [if_neg c1] at h9; first | exact h9 | (simp only [if_neg c1]; exact h9))
    · skip
      refine r_iconst (v := 0) dX13_findRanges_233 kI_0 ?_
      refine r_goto (tgt := 249) dX13_findRanges_234 (by decide) ?_
      exact q_weak (lo' := [some (.ref (ad 54)), some (.int x1), some (.int x2), some (.int x3), some (.int x4), some (.int x5)]) ⟨rfl, rfl, rfl, rfl, rfl, rfl, trivial⟩ (by have h9 := hJ1; simp only [if_pos c1] at h9; first | exact h9 | (simp only [if_pos c1]; exact h9))
  refine r_aload_n dX13_findRanges_249 rfl ?_
  refine r_getR dX13_findRanges_250 fs_54_37 fk_X13_181 ?_
  refine r_iload dX13_findRanges_253 rfl ?_
  refine r_iald dX13_findRanges_255 as_77 g2 ?_
  refine r_iadd dX13_findRanges_256 ?_
  refine r_iast dX13_findRanges_257 as_77 g3 ?_
  exact K1
theorem t_X13_findRanges_258 {x1 : Int32} {x2 : Int32} {x3 : Int32} {x4 : Int32} {x5 : Int32} 
    (g1 : vp_in x5 637)
    (g2 : vp_in x3 637)
    (K1 : Fw l D ad kA mX13_findRanges 133 [some (.ref (ad 54)), some (.int x1), some (.int x2), some (.int x3), some (.int (x4 + 1)), none] [] (sI M 78 x3.toNatClampNeg ((if x2 = x4 then 0 else 1) + (gI M 78 x5.toNatClampNeg))) Q) : Fw l D ad kA mX13_findRanges 258 [some (.ref (ad 54)), some (.int x1), some (.int x2), some (.int x3), some (.int x4), some (.int x5)] [] M Q := by
  refine r_aload_n dX13_findRanges_258 rfl ?_
  refine r_getR dX13_findRanges_259 fs_54_38 fk_X13_184 ?_
  refine r_iload_n dX13_findRanges_262 rfl ?_
  refine r_iload_n dX13_findRanges_263 rfl ?_
  refine r_iload dX13_findRanges_264 rfl ?_
  suffices hJ1 : Fw l D ad kA mX13_findRanges 274 [some (.ref (ad 54)), some (.int x1), some (.int x2), some (.int x3), some (.int x4), some (.int x5)] [.int (if x2 = x4 then 0 else 1), .int x3, .ref (ad 78)] M Q by
    refine r_icmp_ne (tgt := 273) dX13_findRanges_266 (by decide) (fun c1 => ?_) (fun c1 => ?_)
    · skip
      refine r_iconst (v := 1) dX13_findRanges_273 kI_1 ?_
      exact q_weak (lo' := [some (.ref (ad 54)), some (.int x1), some (.int x2), some (.int x3), some (.int x4), some (.int x5)]) ⟨rfl, rfl, rfl, rfl, rfl, rfl, trivial⟩ (by have h9 := hJ1; simp only [if_neg c1] at h9; first | exact h9 | (simp only [if_neg c1]; exact h9))
    · skip
      refine r_iconst (v := 0) dX13_findRanges_269 kI_0 ?_
      refine r_goto (tgt := 274) dX13_findRanges_270 (by decide) ?_
      exact q_weak (lo' := [some (.ref (ad 54)), some (.int x1), some (.int x2), some (.int x3), some (.int x4), some (.int x5)]) ⟨rfl, rfl, rfl, rfl, rfl, rfl, trivial⟩ (by have h9 := hJ1; simp only [if_pos c1] at h9; first | exact h9 | (simp only [if_pos c1]; exact h9))
  refine r_aload_n dX13_findRanges_274 rfl ?_
  refine r_getR dX13_findRanges_275 fs_54_38 fk_X13_184 ?_
  refine r_iload dX13_findRanges_278 rfl ?_
  refine r_iald dX13_findRanges_280 as_78 g1 ?_
  refine r_iadd dX13_findRanges_281 ?_
  refine r_iast dX13_findRanges_282 as_78 g2 ?_
  refine q_iinc (v := x4 + 1) (lo' := [some (.ref (ad 54)), some (.int x1), some (.int x2), some (.int x3), some (.int (x4 + 1)), some (.int x5)]) dX13_findRanges_283 rfl (congrArg (fun q => x4 + q) kI_1) (by decide) rfl ?_
  refine r_goto (tgt := 133) dX13_findRanges_286 (by decide) ?_
  exact q_weak (lo' := [some (.ref (ad 54)), some (.int x1), some (.int x2), some (.int x3), some (.int (x4 + 1)), none]) ⟨rfl, rfl, rfl, rfl, rfl, trivial⟩ K1
theorem en_X13_findRanges  (K : Fw l D ad kA mX13_findRanges 0 [some (.ref (ad 54)), none, none, none, none, none] [] M Q) : Cal l D ad kA mX13_findRanges [.ref (ad 54)] M Q := Cal.of (by decide) rfl rfl (Nat.le_of_ble_eq_true rfl) K
theorem t_X13_takeRanges_0  
    (K1 : Fw l D ad kA mX13_takeRanges 2 [some (.ref (ad 54)), some (.int 0), none, none, none, none] [] M Q) : Fw l D ad kA mX13_takeRanges 0 [some (.ref (ad 54)), none, none, none, none, none] [] M Q := by
  refine r_iconst (v := 0) dX13_takeRanges_0 kI_0 ?_
  refine q_istore_n (lo' := [some (.ref (ad 54)), some (.int 0), none, none, none, none]) dX13_takeRanges_1 (by decide) rfl ?_
  exact K1
theorem t_X13_takeRanges_2 {x1 : Int32} 
    (g1 : (¬ (48 ≤ x1)) → vp_in x1 48)
    (K1 : (48 ≤ x1) → Fw l D ad kA mX13_takeRanges 25 [some (.ref (ad 54)), some (.int 0), some (.int 0), none, none, none] [] M Q)
    (K2 : (¬ (48 ≤ x1)) → Fw l D ad kA mX13_takeRanges 2 [some (.ref (ad 54)), some (.int (x1 + 1)), none, none, none, none] [] (sI M 68 x1.toNatClampNeg (-1)) Q) : Fw l D ad kA mX13_takeRanges 2 [some (.ref (ad 54)), some (.int x1), none, none, none, none] [] M Q := by
  refine r_iload_n dX13_takeRanges_2 rfl ?_
  refine r_bipush (v := 48) dX13_takeRanges_3 kB_48 ?_
  refine r_icmp_ge (tgt := 21) dX13_takeRanges_5 (by decide) (fun c1 => ?_) (fun c1 => ?_)
  · skip
    refine r_iconst (v := 0) dX13_takeRanges_21 kI_0 ?_
    refine q_istore_n (lo' := [some (.ref (ad 54)), some (.int 0), none, none, none, none]) dX13_takeRanges_22 (by decide) rfl ?_
    refine r_iconst (v := 0) dX13_takeRanges_23 kI_0 ?_
    refine q_istore_n (lo' := [some (.ref (ad 54)), some (.int 0), some (.int 0), none, none, none]) dX13_takeRanges_24 (by decide) rfl ?_
    exact (K1 c1)
  · skip
    refine r_aload_n dX13_takeRanges_8 rfl ?_
    refine r_getR dX13_takeRanges_9 fs_54_25 fk_X13_153 ?_
    refine r_iload_n dX13_takeRanges_12 rfl ?_
    refine r_iconst (v := (-1)) dX13_takeRanges_13 kI_m1 ?_
    refine r_iast dX13_takeRanges_14 as_68 (g1 c1) ?_
    refine q_iinc (v := x1 + 1) (lo' := [some (.ref (ad 54)), some (.int (x1 + 1)), none, none, none, none]) dX13_takeRanges_15 rfl (congrArg (fun q => x1 + q) kI_1) (by decide) rfl ?_
    refine r_goto (tgt := 2) dX13_takeRanges_18 (by decide) ?_
    exact (K2 c1)
theorem t_X13_takeRanges_25 {x1 : Int32} {x2 : Int32} 
    (K1 : ((gI M 54 41) ≤ x2) → Q (.returned none) (sI M 54 26 1))
    (K2 : (¬ ((gI M 54 41) ≤ x2)) → Fw l D ad kA mX13_takeRanges 42 [some (.ref (ad 54)), some (.int x1), some (.int x2), some (.int (v_X13_spot x2 x1)), some (.int x1), none] [] M Q) : Fw l D ad kA mX13_takeRanges 25 [some (.ref (ad 54)), some (.int x1), some (.int x2), none, none, none] [] M Q := by
  refine r_iload_n dX13_takeRanges_25 rfl ?_
  refine r_aload_n dX13_takeRanges_26 rfl ?_
  refine r_getI dX13_takeRanges_27 fs_54_41 fk_X13_329 ?_
  refine r_icmp_ge (tgt := 131) dX13_takeRanges_30 (by decide) (fun c1 => ?_) (fun c1 => ?_)
  · skip
    refine r_aload_n dX13_takeRanges_131 rfl ?_
    refine r_iconst (v := 1) dX13_takeRanges_132 kI_1 ?_
    refine r_putZ dX13_takeRanges_133 fs_54_26 fk_X13_236 fp_X13_26 (Or.inr rfl) ?_
    exact r_vret dX13_takeRanges_136 rfl (K1 c1)
  · skip
    refine r_iload_n dX13_takeRanges_33 rfl ?_
    refine r_iload_n dX13_takeRanges_34 rfl ?_
    refine r_callS (As := [.int x2, .int x1]) (rest := []) dX13_takeRanges_35 mk_X13_320 ms_X13_spot rm_X13_takeRanges_X13_spot rfl rfl (Nat.le_of_ble_eq_true rfl) (ct_X13_spot (⟨_, rfl, ?_⟩))
    refine q_istore_n (lo' := [some (.ref (ad 54)), some (.int x1), some (.int x2), some (.int (v_X13_spot x2 x1)), none, none]) dX13_takeRanges_38 (by decide) rfl ?_
    refine r_iload_n dX13_takeRanges_39 rfl ?_
    refine q_istore (lo' := [some (.ref (ad 54)), some (.int x1), some (.int x2), some (.int (v_X13_spot x2 x1)), some (.int x1), none]) dX13_takeRanges_40 (by decide) rfl ?_
    exact (K2 c1)
theorem t_X13_takeRanges_42 {x1 : Int32} {x2 : Int32} {x3 : Int32} {x4 : Int32} 
    (g1 : g_X13_mayHave M x2 x1 x4)
    (g2 : (¬ ((v_X13_mayHave M x2 x1 x4) = 0)) → vp_in x3 637)
    (K1 : ((v_X13_mayHave M x2 x1 x4) = 0) → Fw l D ad kA mX13_takeRanges 42 [some (.ref (ad 54)), some (.int x1), some (.int x2), some (.int x3), some (.int (x4 + 1)), none] [] M Q)
    (K2 : (¬ ((v_X13_mayHave M x2 x1 x4) = 0)) → Cal l D ad kA mX13_compare [.ref (ad 54), .int x2, .int x1, .int x4, .int (gI M 76 x3.toNatClampNeg), .int (gI M 77 x3.toNatClampNeg), .int (gI M 78 x3.toNatClampNeg)] M (fun oc M2 => ∃ r : Int32, oc = .returned (some (.int r)) ∧ Fw l D ad kA mX13_takeRanges 79 [some (.ref (ad 54)), some (.int x1), some (.int x2), some (.int x3), some (.int x4), none] [.int r] M2 Q)) : Fw l D ad kA mX13_takeRanges 42 [some (.ref (ad 54)), some (.int x1), some (.int x2), some (.int x3), some (.int x4), none] [] M Q := by
  refine r_aload_n dX13_takeRanges_42 rfl ?_
  refine r_iload_n dX13_takeRanges_43 rfl ?_
  refine r_iload_n dX13_takeRanges_44 rfl ?_
  refine r_iload dX13_takeRanges_45 rfl ?_
  refine r_callV (x := 54) (As := [.int x2, .int x1, .int x4]) (rest := []) dX13_takeRanges_47 mk_X13_332 mv_X13_mayHave rm_X13_takeRanges_X13_mayHave rfl rfl (by decide +kernel) (Nat.le_of_ble_eq_true rfl) (ct_X13_mayHave g1 (⟨_, rfl, ?_⟩))
  refine r_if_eq (tgt := 82) dX13_takeRanges_50 (by decide) (fun c1 => ?_) (fun c1 => ?_)
  · skip
    refine q_iinc (v := x4 + 1) (lo' := [some (.ref (ad 54)), some (.int x1), some (.int x2), some (.int x3), some (.int (x4 + 1)), none]) dX13_takeRanges_82 rfl (congrArg (fun q => x4 + q) kI_1) (by decide) rfl ?_
    refine r_goto (tgt := 42) dX13_takeRanges_85 (by decide) ?_
    exact (K1 c1)
  · skip
    refine r_aload_n dX13_takeRanges_53 rfl ?_
    refine r_iload_n dX13_takeRanges_54 rfl ?_
    refine r_iload_n dX13_takeRanges_55 rfl ?_
    refine r_iload dX13_takeRanges_56 rfl ?_
    refine r_aload_n dX13_takeRanges_58 rfl ?_
    refine r_getR dX13_takeRanges_59 fs_54_36 fk_X13_178 ?_
    refine r_iload_n dX13_takeRanges_62 rfl ?_
    refine r_iald dX13_takeRanges_63 as_76 (g2 c1) ?_
    refine r_aload_n dX13_takeRanges_64 rfl ?_
    refine r_getR dX13_takeRanges_65 fs_54_37 fk_X13_181 ?_
    refine r_iload_n dX13_takeRanges_68 rfl ?_
    refine r_iald dX13_takeRanges_69 as_77 (g2 c1) ?_
    refine r_aload_n dX13_takeRanges_70 rfl ?_
    refine r_getR dX13_takeRanges_71 fs_54_38 fk_X13_184 ?_
    refine r_iload_n dX13_takeRanges_74 rfl ?_
    refine r_iald dX13_takeRanges_75 as_78 (g2 c1) ?_
    exact r_callV (x := 54) (As := [.int x2, .int x1, .int x4, .int (gI M 76 x3.toNatClampNeg), .int (gI M 77 x3.toNatClampNeg), .int (gI M 78 x3.toNatClampNeg)]) (rest := []) dX13_takeRanges_76 mk_X13_336 mv_X13_compare rm_X13_takeRanges_X13_compare rfl rfl (by decide +kernel) (Nat.le_of_ble_eq_true rfl) (cal_i (lo' := [some (.ref (ad 54)), some (.int x1), some (.int x2), some (.int x3), some (.int x4), none]) ⟨rfl, rfl, rfl, rfl, rfl, trivial⟩ (K2 c1))
theorem t_X13_takeRanges_79 {x1 : Int32} {x2 : Int32} {x3 : Int32} {x4 : Int32} {s1 : Int32} 
    (K1 : (s1 = 0) → Fw l D ad kA mX13_takeRanges 91 [some (.ref (ad 54)), none, some (.int x2), none, some (.int x4), some (.int x1)] [] M Q)
    (K2 : (¬ (s1 = 0)) → Fw l D ad kA mX13_takeRanges 42 [some (.ref (ad 54)), some (.int x1), some (.int x2), some (.int x3), some (.int (x4 + 1)), none] [] M Q) : Fw l D ad kA mX13_takeRanges 79 [some (.ref (ad 54)), some (.int x1), some (.int x2), some (.int x3), some (.int x4), none] [.int s1] M Q := by
  refine r_if_eq (tgt := 88) dX13_takeRanges_79 (by decide) (fun c1 => ?_) (fun c1 => ?_)
  · skip
    refine r_iload_n dX13_takeRanges_88 rfl ?_
    refine q_istore (lo' := [some (.ref (ad 54)), some (.int x1), some (.int x2), some (.int x3), some (.int x4), some (.int x1)]) dX13_takeRanges_89 (by decide) rfl ?_
    exact q_weak (lo' := [some (.ref (ad 54)), none, some (.int x2), none, some (.int x4), some (.int x1)]) ⟨rfl, rfl, rfl, rfl, trivial⟩ (K1 c1)
  · skip
    refine q_iinc (v := x4 + 1) (lo' := [some (.ref (ad 54)), some (.int x1), some (.int x2), some (.int x3), some (.int (x4 + 1)), none]) dX13_takeRanges_82 rfl (congrArg (fun q => x4 + q) kI_1) (by decide) rfl ?_
    refine r_goto (tgt := 42) dX13_takeRanges_85 (by decide) ?_
    exact (K2 c1)
theorem t_X13_takeRanges_91 {x2 : Int32} {x4 : Int32} {x5 : Int32} 
    (g1 : (¬ (x4 ≤ x5)) → vp_in x5 48)
    (g2 : (¬ (x4 ≤ x5)) → vp_in x2 12)
    (g3 : (¬ (x4 ≤ x5)) → vp_in (gI M 73 x5.toNatClampNeg) 48)
    (K1 : (x4 ≤ x5) → Fw l D ad kA mX13_takeRanges 25 [some (.ref (ad 54)), some (.int x4), some (.int (x2 + 1)), none, none, none] [] M Q)
    (K2 : (¬ (x4 ≤ x5)) → Fw l D ad kA mX13_takeRanges 91 [some (.ref (ad 54)), none, some (.int x2), none, some (.int x4), some (.int (x5 + 1))] [] (sI M 68 (gI M 73 x5.toNatClampNeg).toNatClampNeg (gI M 74 x2.toNatClampNeg)) Q) : Fw l D ad kA mX13_takeRanges 91 [some (.ref (ad 54)), none, some (.int x2), none, some (.int x4), some (.int x5)] [] M Q := by
  refine r_iload dX13_takeRanges_91 rfl ?_
  refine r_iload dX13_takeRanges_93 rfl ?_
  refine r_icmp_ge (tgt := 122) dX13_takeRanges_95 (by decide) (fun c1 => ?_) (fun c1 => ?_)
  · skip
    refine r_iload dX13_takeRanges_122 rfl ?_
    refine q_istore_n (lo' := [some (.ref (ad 54)), some (.int x4), some (.int x2), none, some (.int x4), some (.int x5)]) dX13_takeRanges_124 (by decide) rfl ?_
    refine q_iinc (v := x2 + 1) (lo' := [some (.ref (ad 54)), some (.int x4), some (.int (x2 + 1)), none, some (.int x4), some (.int x5)]) dX13_takeRanges_125 rfl (congrArg (fun q => x2 + q) kI_1) (by decide) rfl ?_
    refine r_goto (tgt := 25) dX13_takeRanges_128 (by decide) ?_
    exact q_weak (lo' := [some (.ref (ad 54)), some (.int x4), some (.int (x2 + 1)), none, none, none]) ⟨rfl, rfl, rfl, trivial⟩ (K1 c1)
  · skip
    refine r_aload_n dX13_takeRanges_98 rfl ?_
    refine r_getR dX13_takeRanges_99 fs_54_25 fk_X13_153 ?_
    refine r_aload_n dX13_takeRanges_102 rfl ?_
    refine r_getR dX13_takeRanges_103 fs_54_33 fk_X13_169 ?_
    refine r_iload dX13_takeRanges_106 rfl ?_
    refine r_iald dX13_takeRanges_108 as_73 (g1 c1) ?_
    refine r_aload_n dX13_takeRanges_109 rfl ?_
    refine r_getR dX13_takeRanges_110 fs_54_34 fk_X13_172 ?_
    refine r_iload_n dX13_takeRanges_113 rfl ?_
    refine r_iald dX13_takeRanges_114 as_74 (g2 c1) ?_
    refine r_iast dX13_takeRanges_115 as_68 (g3 c1) ?_
    refine q_iinc (v := x5 + 1) (lo' := [some (.ref (ad 54)), none, some (.int x2), none, some (.int x4), some (.int (x5 + 1))]) dX13_takeRanges_116 rfl (congrArg (fun q => x5 + q) kI_1) (by decide) rfl ?_
    refine r_goto (tgt := 91) dX13_takeRanges_119 (by decide) ?_
    exact (K2 c1)
theorem en_X13_takeRanges  (K : Fw l D ad kA mX13_takeRanges 0 [some (.ref (ad 54)), none, none, none, none, none] [] M Q) : Cal l D ad kA mX13_takeRanges [.ref (ad 54)] M Q := Cal.of (by decide) rfl rfl (Nat.le_of_ble_eq_true rfl) K
theorem t_X13_findThere_0 {x1 : Int32} 
    (K1 : Fw l D ad kA mX13_findThere 7 [some (.ref (ad 54)), some (.int x1), some (.int 0)] [] (sI M 54 41 0) Q) : Fw l D ad kA mX13_findThere 0 [some (.ref (ad 54)), some (.int x1), none] [] M Q := by
  refine r_aload_n dX13_findThere_0 rfl ?_
  refine r_iconst (v := 0) dX13_findThere_1 kI_0 ?_
  refine r_putI dX13_findThere_2 fs_54_41 fk_X13_329 fp_X13_41 ?_
  refine r_iconst (v := 0) dX13_findThere_5 kI_0 ?_
  refine q_istore_n (lo' := [some (.ref (ad 54)), some (.int x1), some (.int 0)]) dX13_findThere_6 (by decide) rfl ?_
  exact K1
theorem t_X13_findThere_7 {x1 : Int32} {x2 : Int32} 
    (g1 : (¬ ((gI M 54 23) ≤ x2)) → vp_in x2 12)
    (g2 : (¬ ((gI M 54 23) ≤ x2)) → ((gI M 67 x2.toNatClampNeg) = 0) → (¬ (x2 = x1)) → vp_in (gI M 54 41) 12)
    (K1 : ((gI M 54 23) ≤ x2) → Q (.returned none) M)
    (K2 : (¬ ((gI M 54 23) ≤ x2)) → (¬ ((gI M 67 x2.toNatClampNeg) = 0)) → Fw l D ad kA mX13_findThere 7 [some (.ref (ad 54)), some (.int x1), some (.int (x2 + 1))] [] M Q)
    (K3 : (¬ ((gI M 54 23) ≤ x2)) → ((gI M 67 x2.toNatClampNeg) = 0) → (¬ (x2 = x1)) → Fw l D ad kA mX13_findThere 7 [some (.ref (ad 54)), some (.int x1), some (.int (x2 + 1))] [] (sI (sI M 74 (gI M 54 41).toNatClampNeg x2) 54 41 ((gI M 54 41) + 1)) Q)
    (K4 : (¬ ((gI M 54 23) ≤ x2)) → ((gI M 67 x2.toNatClampNeg) = 0) → (x2 = x1) → Fw l D ad kA mX13_findThere 7 [some (.ref (ad 54)), some (.int x1), some (.int (x2 + 1))] [] M Q) : Fw l D ad kA mX13_findThere 7 [some (.ref (ad 54)), some (.int x1), some (.int x2)] [] M Q := by
  refine r_iload_n dX13_findThere_7 rfl ?_
  refine r_aload_n dX13_findThere_8 rfl ?_
  refine r_getI dX13_findThere_9 fs_54_23 fk_X13_147 ?_
  refine r_icmp_ge (tgt := 58) dX13_findThere_12 (by decide) (fun c1 => ?_) (fun c1 => ?_)
  · skip
    exact r_vret dX13_findThere_58 rfl (K1 c1)
  · skip
    refine r_aload_n dX13_findThere_15 rfl ?_
    refine r_getR dX13_findThere_16 fs_54_24 fk_X13_150 ?_
    refine r_iload_n dX13_findThere_19 rfl ?_
    refine r_zald dX13_findThere_20 as_67 (g1 c1) ?_
    refine r_if_ne (tgt := 52) dX13_findThere_21 (by decide) (fun c2 => ?_) (fun c2 => ?_)
    · skip
      refine q_iinc (v := x2 + 1) (lo' := [some (.ref (ad 54)), some (.int x1), some (.int (x2 + 1))]) dX13_findThere_52 rfl (congrArg (fun q => x2 + q) kI_1) (by decide) rfl ?_
      refine r_goto (tgt := 7) dX13_findThere_55 (by decide) ?_
      exact (K2 c1 c2)
    · skip
      refine r_iload_n dX13_findThere_24 rfl ?_
      refine r_iload_n dX13_findThere_25 rfl ?_
      refine r_icmp_ne (tgt := 32) dX13_findThere_26 (by decide) (fun c3 => ?_) (fun c3 => ?_)
      · skip
        refine r_aload_n dX13_findThere_32 rfl ?_
        refine r_getR dX13_findThere_33 fs_54_34 fk_X13_172 ?_
        refine r_aload_n dX13_findThere_36 rfl ?_
        refine r_getI dX13_findThere_37 fs_54_41 fk_X13_329 ?_
        refine r_iload_n dX13_findThere_40 rfl ?_
        refine r_iast dX13_findThere_41 as_74 (g2 c1 c2 c3) ?_
        refine r_aload_n dX13_findThere_42 rfl ?_
        refine r_dup dX13_findThere_43 rfl ?_
        refine q_getI (v := gI M 54 41) dX13_findThere_44 fs_54_41 fk_X13_329 rfl ?_
        refine r_iconst (v := 1) dX13_findThere_47 kI_1 ?_
        refine r_iadd dX13_findThere_48 ?_
        refine r_putI dX13_findThere_49 fs_54_41 fk_X13_329 fp_X13_41 ?_
        refine q_iinc (v := x2 + 1) (lo' := [some (.ref (ad 54)), some (.int x1), some (.int (x2 + 1))]) dX13_findThere_52 rfl (congrArg (fun q => x2 + q) kI_1) (by decide) rfl ?_
        refine r_goto (tgt := 7) dX13_findThere_55 (by decide) ?_
        exact (K3 c1 c2 c3)
      · skip
        refine r_goto (tgt := 52) dX13_findThere_29 (by decide) ?_
        refine q_iinc (v := x2 + 1) (lo' := [some (.ref (ad 54)), some (.int x1), some (.int (x2 + 1))]) dX13_findThere_52 rfl (congrArg (fun q => x2 + q) kI_1) (by decide) rfl ?_
        refine r_goto (tgt := 7) dX13_findThere_55 (by decide) ?_
        exact (K4 c1 c2 c3)
theorem en_X13_findThere {x1 : Int32} (K : Fw l D ad kA mX13_findThere 0 [some (.ref (ad 54)), some (.int x1), none] [] M Q) : Cal l D ad kA mX13_findThere [.ref (ad 54), .int x1] M Q := Cal.of (by decide) rfl rfl (Nat.le_of_ble_eq_true rfl) K
theorem t_X13_forgetHad_0  
    (K1 : Fw l D ad kA mX13_forgetHad 2 [some (.ref (ad 54)), some (.int 0)] [] M Q) : Fw l D ad kA mX13_forgetHad 0 [some (.ref (ad 54)), none] [] M Q := by
  refine r_iconst (v := 0) dX13_forgetHad_0 kI_0 ?_
  refine q_istore_n (lo' := [some (.ref (ad 54)), some (.int 0)]) dX13_forgetHad_1 (by decide) rfl ?_
  exact K1
theorem t_X13_forgetHad_2 {x1 : Int32} 
    (g1 : (¬ ((gI M 54 40) ≤ x1)) → vp_in x1 48)
    (K1 : ((gI M 54 40) ≤ x1) → Q (.returned none) M)
    (K2 : (¬ ((gI M 54 40) ≤ x1)) → Fw l D ad kA mX13_forgetHad 2 [some (.ref (ad 54)), some (.int (x1 + 1))] [] (sI M 79 x1.toNatClampNeg (-1)) Q) : Fw l D ad kA mX13_forgetHad 2 [some (.ref (ad 54)), some (.int x1)] [] M Q := by
  refine r_iload_n dX13_forgetHad_2 rfl ?_
  refine r_aload_n dX13_forgetHad_3 rfl ?_
  refine r_getI dX13_forgetHad_4 fs_54_40 fk_X13_314 ?_
  refine r_icmp_ge (tgt := 23) dX13_forgetHad_7 (by decide) (fun c1 => ?_) (fun c1 => ?_)
  · skip
    exact r_vret dX13_forgetHad_23 rfl (K1 c1)
  · skip
    refine r_aload_n dX13_forgetHad_10 rfl ?_
    refine r_getR dX13_forgetHad_11 fs_54_39 fk_X13_187 ?_
    refine r_iload_n dX13_forgetHad_14 rfl ?_
    refine r_iconst (v := (-1)) dX13_forgetHad_15 kI_m1 ?_
    refine r_iast dX13_forgetHad_16 as_79 (g1 c1) ?_
    refine q_iinc (v := x1 + 1) (lo' := [some (.ref (ad 54)), some (.int (x1 + 1))]) dX13_forgetHad_17 rfl (congrArg (fun q => x1 + q) kI_1) (by decide) rfl ?_
    refine r_goto (tgt := 2) dX13_forgetHad_20 (by decide) ?_
    exact (K2 c1)
theorem en_X13_forgetHad  (K : Fw l D ad kA mX13_forgetHad 0 [some (.ref (ad 54)), none] [] M Q) : Cal l D ad kA mX13_forgetHad [.ref (ad 54)] M Q := Cal.of (by decide) rfl rfl (Nat.le_of_ble_eq_true rfl) K
theorem t_X13_part_0  
    (K1 : Cal l D ad kA mX13_findUsed [.ref (ad 54)] M (fun oc M2 => oc = .returned none ∧ Fw l D ad kA mX13_part 4 [some (.ref (ad 54))] [] M2 Q)) : Fw l D ad kA mX13_part 0 [some (.ref (ad 54))] [] M Q := by
  refine r_aload_n dX13_part_0 rfl ?_
  exact r_callV (x := 54) (As := []) (rest := []) dX13_part_1 mk_X13_340 mv_X13_findUsed rm_X13_part_X13_findUsed rfl rfl (by decide +kernel) (Nat.le_of_ble_eq_true rfl) (cal_v (lo' := [some (.ref (ad 54))]) ⟨rfl, trivial⟩ K1)
theorem t_X13_part_4  
    (K1 : Cal l D ad kA mX13_findThere [.ref (ad 54), .int (-1)] M (fun oc M2 => oc = .returned none ∧ Fw l D ad kA mX13_part 9 [some (.ref (ad 54))] [] M2 Q)) : Fw l D ad kA mX13_part 4 [some (.ref (ad 54))] [] M Q := by
  refine r_aload_n dX13_part_4 rfl ?_
  refine r_iconst (v := (-1)) dX13_part_5 kI_m1 ?_
  exact r_callV (x := 54) (As := [.int (-1)]) (rest := []) dX13_part_6 mk_X13_343 mv_X13_findThere rm_X13_part_X13_findThere rfl rfl (by decide +kernel) (Nat.le_of_ble_eq_true rfl) (cal_v (lo' := [some (.ref (ad 54))]) ⟨rfl, trivial⟩ K1)
theorem t_X13_part_9  
    (K1 : Cal l D ad kA mX13_forgetHad [.ref (ad 54)] M (fun oc M2 => oc = .returned none ∧ Fw l D ad kA mX13_part 13 [some (.ref (ad 54))] [] M2 Q)) : Fw l D ad kA mX13_part 9 [some (.ref (ad 54))] [] M Q := by
  refine r_aload_n dX13_part_9 rfl ?_
  exact r_callV (x := 54) (As := []) (rest := []) dX13_part_10 mk_X13_346 mv_X13_forgetHad rm_X13_part_X13_forgetHad rfl rfl (by decide +kernel) (Nat.le_of_ble_eq_true rfl) (cal_v (lo' := [some (.ref (ad 54))]) ⟨rfl, trivial⟩ K1)
theorem t_X13_part_13  
    (K1 : Cal l D ad kA mX13_findRanges [.ref (ad 54)] M (fun oc M2 => ∃ r : Int32, oc = .returned (some (.int r)) ∧ Fw l D ad kA mX13_part 17 [some (.ref (ad 54))] [.int r] M2 Q)) : Fw l D ad kA mX13_part 13 [some (.ref (ad 54))] [] M Q := by
  refine r_aload_n dX13_part_13 rfl ?_
  exact r_callV (x := 54) (As := []) (rest := []) dX13_part_14 mk_X13_349 mv_X13_findRanges rm_X13_part_X13_findRanges rfl rfl (by decide +kernel) (Nat.le_of_ble_eq_true rfl) (cal_i (lo' := [some (.ref (ad 54))]) ⟨rfl, trivial⟩ K1)
theorem t_X13_part_17 {s1 : Int32} 
    (K1 : (¬ (s1 = 0)) → Cal l D ad kA mX13_takeRanges [.ref (ad 54)] M (fun oc M2 => oc = .returned none ∧ Fw l D ad kA mX13_part 26 [some (.ref (ad 54))] [] M2 Q))
    (K2 : (s1 = 0) → Q (.returned (some (.int (-1)))) M) : Fw l D ad kA mX13_part 17 [some (.ref (ad 54))] [.int s1] M Q := by
  refine r_if_ne (tgt := 22) dX13_part_17 (by decide) (fun c1 => ?_) (fun c1 => ?_)
  · skip
    refine r_aload_n dX13_part_22 rfl ?_
    exact r_callV (x := 54) (As := []) (rest := []) dX13_part_23 mk_X13_353 mv_X13_takeRanges rm_X13_part_X13_takeRanges rfl rfl (by decide +kernel) (Nat.le_of_ble_eq_true rfl) (cal_v (lo' := [some (.ref (ad 54))]) ⟨rfl, trivial⟩ (K1 c1))
  · skip
    refine r_iconst (v := (-1)) dX13_part_20 kI_m1 ?_
    exact r_iret dX13_part_21 rfl (K2 c1)
theorem t_X13_part_26  
    (g1 : vp_in (v_X13_spot 0 0) 637)
    (K1 : Q (.returned (some (.int (gI M 77 (v_X13_spot 0 0).toNatClampNeg)))) M) : Fw l D ad kA mX13_part 26 [some (.ref (ad 54))] [] M Q := by
  refine r_aload_n dX13_part_26 rfl ?_
  refine r_getR dX13_part_27 fs_54_37 fk_X13_181 ?_
  refine r_iconst (v := 0) dX13_part_30 kI_0 ?_
  refine r_iconst (v := 0) dX13_part_31 kI_0 ?_
  refine r_callS (As := [.int 0, .int 0]) (rest := [.ref (ad 77)]) dX13_part_32 mk_X13_320 ms_X13_spot rm_X13_part_X13_spot rfl rfl (Nat.le_of_ble_eq_true rfl) (ct_X13_spot (⟨_, rfl, ?_⟩))
  refine r_iald dX13_part_35 as_77 g1 ?_
  exact r_iret dX13_part_36 rfl K1
theorem en_X13_part  (K : Fw l D ad kA mX13_part 0 [some (.ref (ad 54))] [] M Q) : Cal l D ad kA mX13_part [.ref (ad 54)] M Q := Cal.of (by decide) rfl rfl (Nat.le_of_ble_eq_true rfl) K
theorem t_X13_give_0 {x1 : Int32} {x2 : Int32} 
    (K1 : ((v_X13_isRinger M x2) = 0) → Q (.returned (some (.int (-2)))) M)
    (K2 : (¬ ((v_X13_isRinger M x2) = 0)) → ((v_X13_in x1.toInt64 0 47) = 0) → Q (.returned (some (.int (-2)))) M)
    (K3 : (¬ ((v_X13_isRinger M x2) = 0)) → (¬ ((v_X13_in x1.toInt64 0 47) = 0)) → Cal l D ad kA mX13_isUsed [.ref (ad 54), .int x1] M (fun oc M2 => ∃ r : Int32, oc = .returned (some (.int r)) ∧ Fw l D ad kA mX13_give 25 [some (.ref (ad 54)), some (.int x1), some (.int x2), none] [.int r] M2 Q)) : Fw l D ad kA mX13_give 0 [some (.ref (ad 54)), some (.int x1), some (.int x2), none] [] M Q := by
  refine r_aload_n dX13_give_0 rfl ?_
  refine r_iload_n dX13_give_1 rfl ?_
  refine r_callV (x := 54) (As := [.int x2]) (rest := []) dX13_give_2 mk_X13_279 mv_X13_isRinger rm_X13_give_X13_isRinger rfl rfl (by decide +kernel) (Nat.le_of_ble_eq_true rfl) (ct_X13_isRinger (⟨_, rfl, ?_⟩))
  refine r_if_eq (tgt := 28) dX13_give_5 (by decide) (fun c1 => ?_) (fun c1 => ?_)
  · skip
    refine r_bipush (v := (-2)) dX13_give_28 kB_m2 ?_
    exact r_iret dX13_give_30 rfl (K1 c1)
  · skip
    refine r_iload_n dX13_give_8 rfl ?_
    refine r_i2l dX13_give_9 ?_
    refine r_lconst (v := 0) dX13_give_10 kL_0 ?_
    refine r_ldc2 (v := 47) dX13_give_11 co_X13_356 ?_
    refine r_callS (As := [.long x1.toInt64, .long 0, .long 47]) (rest := []) dX13_give_14 mk_X13_5 ms_X13_in rm_X13_give_X13_in rfl rfl (Nat.le_of_ble_eq_true rfl) (ct_X13_in (⟨_, rfl, ?_⟩))
    refine r_if_eq (tgt := 28) dX13_give_17 (by decide) (fun c2 => ?_) (fun c2 => ?_)
    · skip
      refine r_bipush (v := (-2)) dX13_give_28 kB_m2 ?_
      exact r_iret dX13_give_30 rfl (K2 c1 c2)
    · skip
      refine r_aload_n dX13_give_20 rfl ?_
      refine r_iload_n dX13_give_21 rfl ?_
      exact r_callV (x := 54) (As := [.int x1]) (rest := []) dX13_give_22 mk_X13_317 mv_X13_isUsed rm_X13_give_X13_isUsed rfl rfl (by decide +kernel) (Nat.le_of_ble_eq_true rfl) (cal_i (lo' := [some (.ref (ad 54)), some (.int x1), some (.int x2), none]) ⟨rfl, rfl, rfl, trivial⟩ (K3 c1 c2))
theorem t_X13_give_25 {x1 : Int32} {x2 : Int32} {s1 : Int32} 
    (g1 : (¬ (s1 = 0)) → (¬ ((gI M 54 26) = 0)) → vp_in x1 48)
    (K1 : (¬ (s1 = 0)) → (¬ ((gI M 54 26) = 0)) → Q (.returned (some (.int (gI M 68 x1.toNatClampNeg)))) (sI M 68 x1.toNatClampNeg x2))
    (K2 : (¬ (s1 = 0)) → ((gI M 54 26) = 0) → Q (.returned (some (.int (-4)))) M)
    (K3 : (s1 = 0) → Q (.returned (some (.int (-2)))) M) : Fw l D ad kA mX13_give 25 [some (.ref (ad 54)), some (.int x1), some (.int x2), none] [.int s1] M Q := by
  refine r_if_ne (tgt := 31) dX13_give_25 (by decide) (fun c1 => ?_) (fun c1 => ?_)
  · skip
    refine r_aload_n dX13_give_31 rfl ?_
    refine r_getI dX13_give_32 fs_54_26 fk_X13_236 ?_
    refine r_if_ne (tgt := 41) dX13_give_35 (by decide) (fun c2 => ?_) (fun c2 => ?_)
    · skip
      refine r_aload_n dX13_give_41 rfl ?_
      refine r_getR dX13_give_42 fs_54_25 fk_X13_153 ?_
      refine r_iload_n dX13_give_45 rfl ?_
      refine r_iald dX13_give_46 as_68 (g1 c1 c2) ?_
      refine q_istore_n (lo' := [some (.ref (ad 54)), some (.int x1), some (.int x2), some (.int (gI M 68 x1.toNatClampNeg))]) dX13_give_47 (by decide) rfl ?_
      refine r_aload_n dX13_give_48 rfl ?_
      refine r_getR dX13_give_49 fs_54_25 fk_X13_153 ?_
      refine r_iload_n dX13_give_52 rfl ?_
      refine r_iload_n dX13_give_53 rfl ?_
      refine r_iast dX13_give_54 as_68 (g1 c1 c2) ?_
      refine r_iload_n dX13_give_55 rfl ?_
      exact r_iret dX13_give_56 rfl (K1 c1 c2)
    · skip
      refine r_bipush (v := (-4)) dX13_give_38 kB_m4 ?_
      exact r_iret dX13_give_40 rfl (K2 c1 c2)
  · skip
    refine r_bipush (v := (-2)) dX13_give_28 kB_m2 ?_
    exact r_iret dX13_give_30 rfl (K3 c1)
theorem en_X13_give {x1 : Int32} {x2 : Int32} (K : Fw l D ad kA mX13_give 0 [some (.ref (ad 54)), some (.int x1), some (.int x2), none] [] M Q) : Cal l D ad kA mX13_give [.ref (ad 54), .int x1, .int x2] M Q := Cal.of (by decide) rfl rfl (Nat.le_of_ble_eq_true rfl) K
theorem t_X13_parted_0 {x1 : Int32} 
    (K1 : ((gI M 54 26) = 0) → Q (.returned (some (.int (-1)))) M)
    (K2 : (¬ ((gI M 54 26) = 0)) → ((v_X13_in x1.toInt64 0 47) = 0) → Q (.returned (some (.int (-1)))) M)
    (K3 : (¬ ((gI M 54 26) = 0)) → (¬ ((v_X13_in x1.toInt64 0 47) = 0)) → Cal l D ad kA mX13_isUsed [.ref (ad 54), .int x1] M (fun oc M2 => ∃ r : Int32, oc = .returned (some (.int r)) ∧ Fw l D ad kA mX13_parted 24 [some (.ref (ad 54)), some (.int x1)] [.int r] M2 Q)) : Fw l D ad kA mX13_parted 0 [some (.ref (ad 54)), some (.int x1)] [] M Q := by
  refine r_aload_n dX13_parted_0 rfl ?_
  refine r_getI dX13_parted_1 fs_54_26 fk_X13_236 ?_
  refine r_if_eq (tgt := 36) dX13_parted_4 (by decide) (fun c1 => ?_) (fun c1 => ?_)
  · skip
    refine r_iconst (v := (-1)) dX13_parted_36 kI_m1 ?_
    exact r_iret dX13_parted_37 rfl (K1 c1)
  · skip
    refine r_iload_n dX13_parted_7 rfl ?_
    refine r_i2l dX13_parted_8 ?_
    refine r_lconst (v := 0) dX13_parted_9 kL_0 ?_
    refine r_ldc2 (v := 47) dX13_parted_10 co_X13_356 ?_
    refine r_callS (As := [.long x1.toInt64, .long 0, .long 47]) (rest := []) dX13_parted_13 mk_X13_5 ms_X13_in rm_X13_parted_X13_in rfl rfl (Nat.le_of_ble_eq_true rfl) (ct_X13_in (⟨_, rfl, ?_⟩))
    refine r_if_eq (tgt := 36) dX13_parted_16 (by decide) (fun c2 => ?_) (fun c2 => ?_)
    · skip
      refine r_iconst (v := (-1)) dX13_parted_36 kI_m1 ?_
      exact r_iret dX13_parted_37 rfl (K2 c1 c2)
    · skip
      refine r_aload_n dX13_parted_19 rfl ?_
      refine r_iload_n dX13_parted_20 rfl ?_
      exact r_callV (x := 54) (As := [.int x1]) (rest := []) dX13_parted_21 mk_X13_317 mv_X13_isUsed rm_X13_parted_X13_isUsed rfl rfl (by decide +kernel) (Nat.le_of_ble_eq_true rfl) (cal_i (lo' := [some (.ref (ad 54)), some (.int x1)]) ⟨rfl, rfl, trivial⟩ (K3 c1 c2))
theorem t_X13_parted_24 {x1 : Int32} {s1 : Int32} 
    (g1 : (¬ (s1 = 0)) → vp_in x1 48)
    (K1 : Q (.returned (some (.int (if s1 = 0 then (-1) else gI M 68 x1.toNatClampNeg)))) M) : Fw l D ad kA mX13_parted 24 [some (.ref (ad 54)), some (.int x1)] [.int s1] M Q := by
  suffices hJ1 : Fw l D ad kA mX13_parted 37 [none, none] [.int (if s1 = 0 then (-1) else gI M 68 x1.toNatClampNeg)] M Q by
    refine r_if_eq (tgt := 36) dX13_parted_24 (by decide) (fun c1 => ?_) (fun c1 => ?_)
    · skip
      refine r_iconst (v := (-1)) dX13_parted_36 kI_m1 ?_
      exact q_weak (lo' := [none, none]) trivial (by have h9 := hJ1; simp only [if_pos c1] at h9; first | exact h9 | (simp only [if_pos c1]; exact h9))
    · skip
      refine r_aload_n dX13_parted_27 rfl ?_
      refine r_getR dX13_parted_28 fs_54_25 fk_X13_153 ?_
      refine r_iload_n dX13_parted_31 rfl ?_
      refine r_iald dX13_parted_32 as_68 (g1 c1) ?_
      refine r_goto (tgt := 37) dX13_parted_33 (by decide) ?_
      exact q_weak (lo' := [none, none]) trivial (by have h9 := hJ1; simp only [if_neg c1] at h9; first | exact h9 | (simp only [if_neg c1]; exact h9))
  exact r_iret dX13_parted_37 rfl K1
theorem en_X13_parted {x1 : Int32} (K : Fw l D ad kA mX13_parted 0 [some (.ref (ad 54)), some (.int x1)] [] M Q) : Cal l D ad kA mX13_parted [.ref (ad 54), .int x1] M Q := Cal.of (by decide) rfl rfl (Nat.le_of_ble_eq_true rfl) K
theorem t_X13_bellsOf_0 {x1 : Int32} 
    (K1 : Fw l D ad kA mX13_bellsOf 5 [some (.ref (ad 54)), some (.int x1), some (.long 0), none, some (.int 0)] [] M Q) : Fw l D ad kA mX13_bellsOf 0 [some (.ref (ad 54)), some (.int x1), none, none, none] [] M Q := by
  refine r_lconst (v := 0) dX13_bellsOf_0 kL_0 ?_
  refine q_lstore_n (lo' := [some (.ref (ad 54)), some (.int x1), some (.long 0), none, none]) dX13_bellsOf_1 (by decide) rfl ?_
  refine r_iconst (v := 0) dX13_bellsOf_2 kI_0 ?_
  refine q_istore (lo' := [some (.ref (ad 54)), some (.int x1), some (.long 0), none, some (.int 0)]) dX13_bellsOf_3 (by decide) rfl ?_
  exact K1
theorem t_X13_bellsOf_5 {x1 : Int32} {z2 : Int64} {x4 : Int32} 
    (g1 : (¬ (48 ≤ x4)) → vp_in x4 48)
    (K1 : (48 ≤ x4) → Q (.returned (some (.long z2))) M)
    (K2 : (¬ (48 ≤ x4)) → Fw l D ad kA mX13_bellsOf 5 [some (.ref (ad 54)), some (.int x1), some (.long (if (gI M 68 x4.toNatClampNeg) = x1 then z2 ||| (lshl 1 x4) else z2)), none, some (.int (x4 + 1))] [] M Q) : Fw l D ad kA mX13_bellsOf 5 [some (.ref (ad 54)), some (.int x1), some (.long z2), none, some (.int x4)] [] M Q := by
  refine r_iload dX13_bellsOf_5 rfl ?_
  refine r_bipush (v := 48) dX13_bellsOf_7 kB_48 ?_
  refine r_icmp_ge (tgt := 36) dX13_bellsOf_9 (by decide) (fun c1 => ?_) (fun c1 => ?_)
  · skip
    refine r_lload_n dX13_bellsOf_36 rfl ?_
    exact r_lret dX13_bellsOf_37 rfl (K1 c1)
  · skip
    refine r_aload_n dX13_bellsOf_12 rfl ?_
    refine r_getR dX13_bellsOf_13 fs_54_25 fk_X13_153 ?_
    refine r_iload dX13_bellsOf_16 rfl ?_
    refine r_iald dX13_bellsOf_18 as_68 (g1 c1) ?_
    refine r_iload_n dX13_bellsOf_19 rfl ?_
    suffices hJ1 : Fw l D ad kA mX13_bellsOf 30 [some (.ref (ad 54)), some (.int x1), some (.long (if (gI M 68 x4.toNatClampNeg) = x1 then z2 ||| (lshl 1 x4) else z2)), none, some (.int x4)] [] M Q by
      refine r_icmp_ne (tgt := 30) dX13_bellsOf_20 (by decide) (fun c2 => ?_) (fun c2 => ?_)
      · skip
        exact q_weak (lo' := [some (.ref (ad 54)), some (.int x1), some (.long z2), none, some (.int x4)]) ⟨rfl, rfl, rfl, rfl, trivial⟩ (by have h9 := hJ1; simp only [if_neg c2] at h9; first | exact h9 | (simp only [if_neg c2]; exact h9))
      · skip
        refine r_lload_n dX13_bellsOf_23 rfl ?_
        refine r_lconst (v := 1) dX13_bellsOf_24 kL_1 ?_
        refine r_iload dX13_bellsOf_25 rfl ?_
        refine q_lshl dX13_bellsOf_27 ?_
        refine r_lor dX13_bellsOf_28 ?_
        refine q_lstore_n (lo' := [some (.ref (ad 54)), some (.int x1), some (.long (z2 ||| (lshl 1 x4))), none, some (.int x4)]) dX13_bellsOf_29 (by decide) rfl ?_
        exact q_weak (lo' := [some (.ref (ad 54)), some (.int x1), some (.long (z2 ||| (lshl 1 x4))), none, some (.int x4)]) ⟨rfl, rfl, rfl, rfl, trivial⟩ (by have h9 := hJ1; simp only [if_pos c2] at h9; first | exact h9 | (simp only [if_pos c2]; exact h9))
    refine q_iinc (v := x4 + 1) (lo' := [some (.ref (ad 54)), some (.int x1), some (.long (if (gI M 68 x4.toNatClampNeg) = x1 then z2 ||| (lshl 1 x4) else z2)), none, some (.int (x4 + 1))]) dX13_bellsOf_30 rfl (congrArg (fun q => x4 + q) kI_1) (by decide) rfl ?_
    refine r_goto (tgt := 5) dX13_bellsOf_33 (by decide) ?_
    exact (K2 c1)
theorem en_X13_bellsOf {x1 : Int32} (K : Fw l D ad kA mX13_bellsOf 0 [some (.ref (ad 54)), some (.int x1), none, none, none] [] M Q) : Cal l D ad kA mX13_bellsOf [.ref (ad 54), .int x1] M Q := Cal.of (by decide) rfl rfl (Nat.le_of_ble_eq_true rfl) K
theorem t_X13_load_0 {x1 : Int32} 
    (K1 : (¬ ((v_X13_isRinger M x1) = 0)) → (¬ ((gI M 54 26) = 0)) → Cal l D ad kA mX13_bellsOf [.ref (ad 54), .int x1] M (fun oc M2 => ∃ r : Int64, oc = .returned (some (.long r)) ∧ Fw l D ad kA mX13_load 27 [none, none, none] [.long r, .ref (ad 54)] M2 Q))
    (K2 : (¬ ((v_X13_isRinger M x1) = 0)) → ((gI M 54 26) = 0) → Q (.returned (some (.int (-4)))) M)
    (K3 : ((v_X13_isRinger M x1) = 0) → Q (.returned (some (.int (-2)))) M) : Fw l D ad kA mX13_load 0 [some (.ref (ad 54)), some (.int x1), none] [] M Q := by
  refine r_aload_n dX13_load_0 rfl ?_
  refine r_iload_n dX13_load_1 rfl ?_
  refine r_callV (x := 54) (As := [.int x1]) (rest := []) dX13_load_2 mk_X13_279 mv_X13_isRinger rm_X13_load_X13_isRinger rfl rfl (by decide +kernel) (Nat.le_of_ble_eq_true rfl) (ct_X13_isRinger (⟨_, rfl, ?_⟩))
  refine r_if_ne (tgt := 11) dX13_load_5 (by decide) (fun c1 => ?_) (fun c1 => ?_)
  · skip
    refine r_aload_n dX13_load_11 rfl ?_
    refine r_getI dX13_load_12 fs_54_26 fk_X13_236 ?_
    refine r_if_ne (tgt := 21) dX13_load_15 (by decide) (fun c2 => ?_) (fun c2 => ?_)
    · skip
      refine r_aload_n dX13_load_21 rfl ?_
      refine r_aload_n dX13_load_22 rfl ?_
      refine r_iload_n dX13_load_23 rfl ?_
      exact r_callV (x := 54) (As := [.int x1]) (rest := [.ref (ad 54)]) dX13_load_24 mk_X13_358 mv_X13_bellsOf rm_X13_load_X13_bellsOf rfl rfl (by decide +kernel) (Nat.le_of_ble_eq_true rfl) (cal_l (lo' := [none, none, none]) trivial (K1 c1 c2))
    · skip
      refine r_bipush (v := (-4)) dX13_load_18 kB_m4 ?_
      exact r_iret dX13_load_20 rfl (K2 c1 c2)
  · skip
    refine r_bipush (v := (-2)) dX13_load_8 kB_m2 ?_
    exact r_iret dX13_load_10 rfl (K3 c1)
theorem t_X13_load_27 {t2 : Int64} 
    (K1 : Cal l D ad kA mX13_takesOf [.ref (ad 54), .long t2] M (fun oc M2 => ∃ r : Int32, oc = .returned (some (.int r)) ∧ Fw l D ad kA mX13_load 30 [none, none, none] [.int r] M2 Q)) : Fw l D ad kA mX13_load 27 [none, none, none] [.long t2, .ref (ad 54)] M Q := by
  exact r_callV (x := 54) (As := [.long t2]) (rest := []) dX13_load_27 mk_X13_310 mv_X13_takesOf rm_X13_load_X13_takesOf rfl rfl (by decide +kernel) (Nat.le_of_ble_eq_true rfl) (cal_i (lo' := [none, none, none]) trivial K1)
theorem t_X13_load_30 {s1 : Int32} 
    (K1 : Q (.returned (some (.int (if s1 < 1000000 then s1 else (-1))))) M) : Fw l D ad kA mX13_load 30 [none, none, none] [.int s1] M Q := by
  refine q_istore_n (lo' := [none, none, some (.int s1)]) dX13_load_30 (by decide) rfl ?_
  refine r_iload_n dX13_load_31 rfl ?_
  refine r_ldcw (v := 1000000) dX13_load_32 co_X13_282 ?_
  suffices hJ1 : Fw l D ad kA mX13_load 43 [none, none, none] [.int (if s1 < 1000000 then s1 else (-1))] M Q by
    refine r_icmp_lt (tgt := 42) dX13_load_35 (by decide) (fun c1 => ?_) (fun c1 => ?_)
    · skip
      refine r_iload_n dX13_load_42 rfl ?_
      exact q_weak (lo' := [none, none, none]) trivial (by have h9 := hJ1; simp only [if_pos c1] at h9; first | exact h9 | (simp only [if_pos c1]; exact h9))
    · skip
      refine r_iconst (v := (-1)) dX13_load_38 kI_m1 ?_
      refine r_goto (tgt := 43) dX13_load_39 (by decide) ?_
      exact q_weak (lo' := [none, none, none]) trivial (by have h9 := hJ1; simp only [if_neg c1] at h9; first | exact h9 | (simp only [if_neg c1]; exact h9))
  exact r_iret dX13_load_43 rfl K1
theorem en_X13_load {x1 : Int32} (K : Fw l D ad kA mX13_load 0 [some (.ref (ad 54)), some (.int x1), none] [] M Q) : Cal l D ad kA mX13_load [.ref (ad 54), .int x1] M Q := Cal.of (by decide) rfl rfl (Nat.le_of_ble_eq_true rfl) K
theorem t_X13_cover_0 {x1 : Int32} 
    (K1 : (¬ ((v_X13_isRinger M x1) = 0)) → (¬ ((gI M 54 26) = 0)) → Cal l D ad kA mX13_findUsed [.ref (ad 54)] M (fun oc M2 => oc = .returned none ∧ Fw l D ad kA mX13_cover 25 [some (.ref (ad 54)), some (.int x1), none] [] M2 Q))
    (K2 : (¬ ((v_X13_isRinger M x1) = 0)) → ((gI M 54 26) = 0) → Q (.returned (some (.int (-4)))) M)
    (K3 : ((v_X13_isRinger M x1) = 0) → Q (.returned (some (.int (-2)))) M) : Fw l D ad kA mX13_cover 0 [some (.ref (ad 54)), some (.int x1), none] [] M Q := by
  refine r_aload_n dX13_cover_0 rfl ?_
  refine r_iload_n dX13_cover_1 rfl ?_
  refine r_callV (x := 54) (As := [.int x1]) (rest := []) dX13_cover_2 mk_X13_279 mv_X13_isRinger rm_X13_cover_X13_isRinger rfl rfl (by decide +kernel) (Nat.le_of_ble_eq_true rfl) (ct_X13_isRinger (⟨_, rfl, ?_⟩))
  refine r_if_ne (tgt := 11) dX13_cover_5 (by decide) (fun c1 => ?_) (fun c1 => ?_)
  · skip
    refine r_aload_n dX13_cover_11 rfl ?_
    refine r_getI dX13_cover_12 fs_54_26 fk_X13_236 ?_
    refine r_if_ne (tgt := 21) dX13_cover_15 (by decide) (fun c2 => ?_) (fun c2 => ?_)
    · skip
      refine r_aload_n dX13_cover_21 rfl ?_
      exact r_callV (x := 54) (As := []) (rest := []) dX13_cover_22 mk_X13_340 mv_X13_findUsed rm_X13_cover_X13_findUsed rfl rfl (by decide +kernel) (Nat.le_of_ble_eq_true rfl) (cal_v (lo' := [some (.ref (ad 54)), some (.int x1), none]) ⟨rfl, rfl, trivial⟩ (K1 c1 c2))
    · skip
      refine r_bipush (v := (-4)) dX13_cover_18 kB_m4 ?_
      exact r_iret dX13_cover_20 rfl (K2 c1 c2)
  · skip
    refine r_bipush (v := (-2)) dX13_cover_8 kB_m2 ?_
    exact r_iret dX13_cover_10 rfl (K3 c1)
theorem t_X13_cover_25 {x1 : Int32} 
    (K1 : Cal l D ad kA mX13_findThere [.ref (ad 54), .int x1] M (fun oc M2 => oc = .returned none ∧ Fw l D ad kA mX13_cover 30 [some (.ref (ad 54)), none, none] [] M2 Q)) : Fw l D ad kA mX13_cover 25 [some (.ref (ad 54)), some (.int x1), none] [] M Q := by
  refine r_aload_n dX13_cover_25 rfl ?_
  refine r_iload_n dX13_cover_26 rfl ?_
  exact r_callV (x := 54) (As := [.int x1]) (rest := []) dX13_cover_27 mk_X13_343 mv_X13_findThere rm_X13_cover_X13_findThere rfl rfl (by decide +kernel) (Nat.le_of_ble_eq_true rfl) (cal_v (lo' := [some (.ref (ad 54)), none, none]) ⟨rfl, trivial⟩ K1)
theorem t_X13_cover_30  
    (K1 : Fw l D ad kA mX13_cover 32 [some (.ref (ad 54)), none, some (.int 0)] [] M Q) : Fw l D ad kA mX13_cover 30 [some (.ref (ad 54)), none, none] [] M Q := by
  refine r_iconst (v := 0) dX13_cover_30 kI_0 ?_
  refine q_istore_n (lo' := [some (.ref (ad 54)), none, some (.int 0)]) dX13_cover_31 (by decide) rfl ?_
  exact K1
theorem t_X13_cover_32 {x2 : Int32} 
    (g1 : (¬ ((gI M 54 40) ≤ x2)) → vp_in x2 48)
    (g2 : (¬ ((gI M 54 40) ≤ x2)) → vp_in (gI M 73 x2.toNatClampNeg) 48)
    (K1 : ((gI M 54 40) ≤ x2) → Cal l D ad kA mX13_findRanges [.ref (ad 54)] M (fun oc M2 => ∃ r : Int32, oc = .returned (some (.int r)) ∧ Fw l D ad kA mX13_cover 67 [some (.ref (ad 54)), none, none] [.int r] M2 Q))
    (K2 : (¬ ((gI M 54 40) ≤ x2)) → Fw l D ad kA mX13_cover 32 [some (.ref (ad 54)), none, some (.int (x2 + 1))] [] (sI M 79 x2.toNatClampNeg (gI M 68 (gI M 73 x2.toNatClampNeg).toNatClampNeg)) Q) : Fw l D ad kA mX13_cover 32 [some (.ref (ad 54)), none, some (.int x2)] [] M Q := by
  refine r_iload_n dX13_cover_32 rfl ?_
  refine r_aload_n dX13_cover_33 rfl ?_
  refine r_getI dX13_cover_34 fs_54_40 fk_X13_314 ?_
  refine r_icmp_ge (tgt := 63) dX13_cover_37 (by decide) (fun c1 => ?_) (fun c1 => ?_)
  · skip
    refine r_aload_n dX13_cover_63 rfl ?_
    exact r_callV (x := 54) (As := []) (rest := []) dX13_cover_64 mk_X13_349 mv_X13_findRanges rm_X13_cover_X13_findRanges rfl rfl (by decide +kernel) (Nat.le_of_ble_eq_true rfl) (cal_i (lo' := [some (.ref (ad 54)), none, none]) ⟨rfl, trivial⟩ (K1 c1))
  · skip
    refine r_aload_n dX13_cover_40 rfl ?_
    refine r_getR dX13_cover_41 fs_54_39 fk_X13_187 ?_
    refine r_iload_n dX13_cover_44 rfl ?_
    refine r_aload_n dX13_cover_45 rfl ?_
    refine r_getR dX13_cover_46 fs_54_25 fk_X13_153 ?_
    refine r_aload_n dX13_cover_49 rfl ?_
    refine r_getR dX13_cover_50 fs_54_33 fk_X13_169 ?_
    refine r_iload_n dX13_cover_53 rfl ?_
    refine r_iald dX13_cover_54 as_73 (g1 c1) ?_
    refine r_iald dX13_cover_55 as_68 (g2 c1) ?_
    refine r_iast dX13_cover_56 as_79 (g1 c1) ?_
    refine q_iinc (v := x2 + 1) (lo' := [some (.ref (ad 54)), none, some (.int (x2 + 1))]) dX13_cover_57 rfl (congrArg (fun q => x2 + q) kI_1) (by decide) rfl ?_
    refine r_goto (tgt := 32) dX13_cover_60 (by decide) ?_
    exact (K2 c1)
theorem t_X13_cover_67 {s1 : Int32} 
    (K1 : (¬ (s1 = 0)) → Cal l D ad kA mX13_takeRanges [.ref (ad 54)] M (fun oc M2 => oc = .returned none ∧ Fw l D ad kA mX13_cover 76 [some (.ref (ad 54)), none, none] [] M2 Q))
    (K2 : (s1 = 0) → Q (.returned (some (.int (-1)))) M) : Fw l D ad kA mX13_cover 67 [some (.ref (ad 54)), none, none] [.int s1] M Q := by
  refine r_if_ne (tgt := 72) dX13_cover_67 (by decide) (fun c1 => ?_) (fun c1 => ?_)
  · skip
    refine r_aload_n dX13_cover_72 rfl ?_
    exact r_callV (x := 54) (As := []) (rest := []) dX13_cover_73 mk_X13_353 mv_X13_takeRanges rm_X13_cover_X13_takeRanges rfl rfl (by decide +kernel) (Nat.le_of_ble_eq_true rfl) (cal_v (lo' := [some (.ref (ad 54)), none, none]) ⟨rfl, trivial⟩ (K1 c1))
  · skip
    refine r_iconst (v := (-1)) dX13_cover_70 kI_m1 ?_
    exact r_iret dX13_cover_71 rfl (K2 c1)
theorem t_X13_cover_76  
    (g1 : vp_in (v_X13_spot 0 0) 637)
    (K1 : Q (.returned (some (.int (gI M 76 (v_X13_spot 0 0).toNatClampNeg)))) M) : Fw l D ad kA mX13_cover 76 [some (.ref (ad 54)), none, none] [] M Q := by
  refine r_aload_n dX13_cover_76 rfl ?_
  refine r_getR dX13_cover_77 fs_54_36 fk_X13_178 ?_
  refine r_iconst (v := 0) dX13_cover_80 kI_0 ?_
  refine r_iconst (v := 0) dX13_cover_81 kI_0 ?_
  refine r_callS (As := [.int 0, .int 0]) (rest := [.ref (ad 76)]) dX13_cover_82 mk_X13_320 ms_X13_spot rm_X13_cover_X13_spot rfl rfl (Nat.le_of_ble_eq_true rfl) (ct_X13_spot (⟨_, rfl, ?_⟩))
  refine r_iald dX13_cover_85 as_76 g1 ?_
  exact r_iret dX13_cover_86 rfl K1
theorem en_X13_cover {x1 : Int32} (K : Fw l D ad kA mX13_cover 0 [some (.ref (ad 54)), some (.int x1), none] [] M Q) : Cal l D ad kA mX13_cover [.ref (ad 54), .int x1] M Q := Cal.of (by decide) rfl rfl (Nat.le_of_ble_eq_true rfl) K
end W_model3
