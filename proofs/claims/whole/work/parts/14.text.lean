/-! isWord, BeatText: decode rows, links, walks from cut to cut (printed by wip/gen) -/
theorem dX10_isWord_0 : decode cX10_isWord 0 = .ok (.aload_n 0, 1) := by decide +kernel
theorem dX10_isWord_1 : decode cX10_isWord 1 = .ok (.getfield 39, 3) := by decide +kernel
theorem dX10_isWord_4 : decode cX10_isWord 4 = .ok (.iconst 1, 1) := by decide +kernel
theorem dX10_isWord_5 : decode cX10_isWord 5 = .ok (.if_icmp .ne 23, 3) := by decide +kernel
theorem dX10_isWord_8 : decode cX10_isWord 8 = .ok (.aload_n 1, 1) := by decide +kernel
theorem dX10_isWord_9 : decode cX10_isWord 9 = .ok (.invokevirtual 57, 3) := by decide +kernel
theorem dX10_isWord_12 : decode cX10_isWord 12 = .ok (.aload_n 0, 1) := by decide +kernel
theorem dX10_isWord_13 : decode cX10_isWord 13 = .ok (.getfield 22, 3) := by decide +kernel
theorem dX10_isWord_16 : decode cX10_isWord 16 = .ok (.aload_n 0, 1) := by decide +kernel
theorem dX10_isWord_17 : decode cX10_isWord 17 = .ok (.getfield 28, 3) := by decide +kernel
theorem dX10_isWord_20 : decode cX10_isWord 20 = .ok (.isub, 1) := by decide +kernel
theorem dX10_isWord_21 : decode cX10_isWord 21 = .ok (.if_icmp .ne 7, 3) := by decide +kernel
theorem dX10_isWord_24 : decode cX10_isWord 24 = .ok (.iconst 1, 1) := by decide +kernel
theorem dX10_isWord_25 : decode cX10_isWord 25 = .ok (.goto 4, 3) := by decide +kernel
theorem dX10_isWord_28 : decode cX10_isWord 28 = .ok (.iconst 0, 1) := by decide +kernel
theorem dX10_isWord_29 : decode cX10_isWord 29 = .ok (.istore_n 2, 1) := by decide +kernel
theorem dX10_isWord_30 : decode cX10_isWord 30 = .ok (.iconst 0, 1) := by decide +kernel
theorem dX10_isWord_31 : decode cX10_isWord 31 = .ok (.istore_n 3, 1) := by decide +kernel
theorem dX10_isWord_32 : decode cX10_isWord 32 = .ok (.iload_n 2, 1) := by decide +kernel
theorem dX10_isWord_33 : decode cX10_isWord 33 = .ok (.ifCond .eq 41, 3) := by decide +kernel
theorem dX10_isWord_36 : decode cX10_isWord 36 = .ok (.iload_n 3, 1) := by decide +kernel
theorem dX10_isWord_37 : decode cX10_isWord 37 = .ok (.aload_n 1, 1) := by decide +kernel
theorem dX10_isWord_38 : decode cX10_isWord 38 = .ok (.invokevirtual 57, 3) := by decide +kernel
theorem dX10_isWord_41 : decode cX10_isWord 41 = .ok (.if_icmp .ge 33, 3) := by decide +kernel
theorem dX10_isWord_44 : decode cX10_isWord 44 = .ok (.aload_n 1, 1) := by decide +kernel
theorem dX10_isWord_45 : decode cX10_isWord 45 = .ok (.iload_n 3, 1) := by decide +kernel
theorem dX10_isWord_46 : decode cX10_isWord 46 = .ok (.invokevirtual 63, 3) := by decide +kernel
theorem dX10_isWord_49 : decode cX10_isWord 49 = .ok (.aload_n 0, 1) := by decide +kernel
theorem dX10_isWord_50 : decode cX10_isWord 50 = .ok (.aload_n 0, 1) := by decide +kernel
theorem dX10_isWord_51 : decode cX10_isWord 51 = .ok (.getfield 28, 3) := by decide +kernel
theorem dX10_isWord_54 : decode cX10_isWord 54 = .ok (.iload_n 3, 1) := by decide +kernel
theorem dX10_isWord_55 : decode cX10_isWord 55 = .ok (.iadd, 1) := by decide +kernel
theorem dX10_isWord_56 : decode cX10_isWord 56 = .ok (.invokevirtual 31, 3) := by decide +kernel
theorem dX10_isWord_59 : decode cX10_isWord 59 = .ok (.if_icmp .ne 7, 3) := by decide +kernel
theorem dX10_isWord_62 : decode cX10_isWord 62 = .ok (.iconst 1, 1) := by decide +kernel
theorem dX10_isWord_63 : decode cX10_isWord 63 = .ok (.goto 4, 3) := by decide +kernel
theorem dX10_isWord_66 : decode cX10_isWord 66 = .ok (.iconst 0, 1) := by decide +kernel
theorem dX10_isWord_67 : decode cX10_isWord 67 = .ok (.istore_n 2, 1) := by decide +kernel
theorem dX10_isWord_68 : decode cX10_isWord 68 = .ok (.iinc 3 1, 3) := by decide +kernel
theorem dX10_isWord_71 : decode cX10_isWord 71 = .ok (.goto (-39), 3) := by decide +kernel
theorem dX10_isWord_74 : decode cX10_isWord 74 = .ok (.iload_n 2, 1) := by decide +kernel
theorem dX10_isWord_75 : decode cX10_isWord 75 = .ok (.ireturn, 1) := by decide +kernel
theorem dX0_goOnIf_0 : decode cX0_goOnIf 0 = .ok (.iload_n 1, 1) := by decide +kernel
theorem dX0_goOnIf_1 : decode cX0_goOnIf 1 = .ok (.ifCond .eq 11, 3) := by decide +kernel
theorem dX0_goOnIf_4 : decode cX0_goOnIf 4 = .ok (.aload_n 0, 1) := by decide +kernel
theorem dX0_goOnIf_5 : decode cX0_goOnIf 5 = .ok (.iload_n 2, 1) := by decide +kernel
theorem dX0_goOnIf_6 : decode cX0_goOnIf 6 = .ok (.putfield 31, 3) := by decide +kernel
theorem dX0_goOnIf_9 : decode cX0_goOnIf 9 = .ok (.goto 11, 3) := by decide +kernel
theorem dX0_goOnIf_12 : decode cX0_goOnIf 12 = .ok (.aload_n 0, 1) := by decide +kernel
theorem dX0_goOnIf_13 : decode cX0_goOnIf 13 = .ok (.getfield 18, 3) := by decide +kernel
theorem dX0_goOnIf_16 : decode cX0_goOnIf 16 = .ok (.iconst 1, 1) := by decide +kernel
theorem dX0_goOnIf_17 : decode cX0_goOnIf 17 = .ok (.invokevirtual 72, 3) := by decide +kernel
theorem dX0_goOnIf_20 : decode cX0_goOnIf 20 = .ok (.return_, 1) := by decide +kernel
theorem dX0_takeBeat_0 : decode cX0_takeBeat 0 = .ok (.aload_n 0, 1) := by decide +kernel
theorem dX0_takeBeat_1 : decode cX0_takeBeat 1 = .ok (.aload_n 0, 1) := by decide +kernel
theorem dX0_takeBeat_2 : decode cX0_takeBeat 2 = .ok (.getfield 18, 3) := by decide +kernel
theorem dX0_takeBeat_5 : decode cX0_takeBeat 5 = .ok (.getfield 43, 3) := by decide +kernel
theorem dX0_takeBeat_8 : decode cX0_takeBeat 8 = .ok (.iconst 2, 1) := by decide +kernel
theorem dX0_takeBeat_9 : decode cX0_takeBeat 9 = .ok (.if_icmp .ne 7, 3) := by decide +kernel
theorem dX0_takeBeat_12 : decode cX0_takeBeat 12 = .ok (.iconst 1, 1) := by decide +kernel
theorem dX0_takeBeat_13 : decode cX0_takeBeat 13 = .ok (.goto 4, 3) := by decide +kernel
theorem dX0_takeBeat_16 : decode cX0_takeBeat 16 = .ok (.iconst 0, 1) := by decide +kernel
theorem dX0_takeBeat_17 : decode cX0_takeBeat 17 = .ok (.iconst 2, 1) := by decide +kernel
theorem dX0_takeBeat_18 : decode cX0_takeBeat 18 = .ok (.invokevirtual 56, 3) := by decide +kernel
theorem dX0_takeBeat_21 : decode cX0_takeBeat 21 = .ok (.aload_n 0, 1) := by decide +kernel
theorem dX0_takeBeat_22 : decode cX0_takeBeat 22 = .ok (.getfield 18, 3) := by decide +kernel
theorem dX0_takeBeat_25 : decode cX0_takeBeat 25 = .ok (.getfield 37, 3) := by decide +kernel
theorem dX0_takeBeat_28 : decode cX0_takeBeat 28 = .ok (.ifCond .ne 25, 3) := by decide +kernel
theorem dX0_takeBeat_31 : decode cX0_takeBeat 31 = .ok (.aload_n 0, 1) := by decide +kernel
theorem dX0_takeBeat_32 : decode cX0_takeBeat 32 = .ok (.getfield 18, 3) := by decide +kernel
theorem dX0_takeBeat_35 : decode cX0_takeBeat 35 = .ok (.getfield 76, 3) := by decide +kernel
theorem dX0_takeBeat_38 : decode cX0_takeBeat 38 = .ok (.aload_n 0, 1) := by decide +kernel
theorem dX0_takeBeat_39 : decode cX0_takeBeat 39 = .ok (.getfield 34, 3) := by decide +kernel
theorem dX0_takeBeat_42 : decode cX0_takeBeat 42 = .ok (.if_icmp .ge 11, 3) := by decide +kernel
theorem dX0_takeBeat_45 : decode cX0_takeBeat 45 = .ok (.aload_n 0, 1) := by decide +kernel
theorem dX0_takeBeat_46 : decode cX0_takeBeat 46 = .ok (.getfield 18, 3) := by decide +kernel
theorem dX0_takeBeat_49 : decode cX0_takeBeat 49 = .ok (.iconst 2, 1) := by decide +kernel
theorem dX0_takeBeat_50 : decode cX0_takeBeat 50 = .ok (.invokevirtual 72, 3) := by decide +kernel
theorem dX0_takeBeat_53 : decode cX0_takeBeat 53 = .ok (.aload_n 0, 1) := by decide +kernel
theorem dX0_takeBeat_54 : decode cX0_takeBeat 54 = .ok (.aload_n 0, 1) := by decide +kernel
theorem dX0_takeBeat_55 : decode cX0_takeBeat 55 = .ok (.getfield 18, 3) := by decide +kernel
theorem dX0_takeBeat_58 : decode cX0_takeBeat 58 = .ok (.getfield 76, 3) := by decide +kernel
theorem dX0_takeBeat_61 : decode cX0_takeBeat 61 = .ok (.putfield 34, 3) := by decide +kernel
theorem dX0_takeBeat_64 : decode cX0_takeBeat 64 = .ok (.return_, 1) := by decide +kernel
theorem dX0_takeBell_0 : decode cX0_takeBell 0 = .ok (.aload_n 0, 1) := by decide +kernel
theorem dX0_takeBell_1 : decode cX0_takeBell 1 = .ok (.getfield 18, 3) := by decide +kernel
theorem dX0_takeBell_4 : decode cX0_takeBell 4 = .ok (.getfield 76, 3) := by decide +kernel
theorem dX0_takeBell_7 : decode cX0_takeBell 7 = .ok (.invokestatic 79, 3) := by decide +kernel
theorem dX0_takeBell_10 : decode cX0_takeBell 10 = .ok (.ifCond .ne 14, 3) := by decide +kernel
theorem dX0_takeBell_13 : decode cX0_takeBell 13 = .ok (.aload_n 0, 1) := by decide +kernel
theorem dX0_takeBell_14 : decode cX0_takeBell 14 = .ok (.getfield 18, 3) := by decide +kernel
theorem dX0_takeBell_17 : decode cX0_takeBell 17 = .ok (.iconst 2, 1) := by decide +kernel
theorem dX0_takeBell_18 : decode cX0_takeBell 18 = .ok (.invokevirtual 72, 3) := by decide +kernel
theorem dX0_takeBell_21 : decode cX0_takeBell 21 = .ok (.goto 95, 3) := by decide +kernel
theorem dX0_takeBell_24 : decode cX0_takeBell 24 = .ok (.aload_n 0, 1) := by decide +kernel
theorem dX0_takeBell_25 : decode cX0_takeBell 25 = .ok (.getfield 12, 3) := by decide +kernel
theorem dX0_takeBell_28 : decode cX0_takeBell 28 = .ok (.aload_n 0, 1) := by decide +kernel
theorem dX0_takeBell_29 : decode cX0_takeBell 29 = .ok (.getfield 34, 3) := by decide +kernel
theorem dX0_takeBell_32 : decode cX0_takeBell 32 = .ok (.aload_n 0, 1) := by decide +kernel
theorem dX0_takeBell_33 : decode cX0_takeBell 33 = .ok (.getfield 18, 3) := by decide +kernel
theorem dX0_takeBell_36 : decode cX0_takeBell 36 = .ok (.getfield 76, 3) := by decide +kernel
theorem dX0_takeBell_39 : decode cX0_takeBell 39 = .ok (.invokevirtual 83, 3) := by decide +kernel
theorem dX0_takeBell_42 : decode cX0_takeBell 42 = .ok (.ifCond .eq 14, 3) := by decide +kernel
theorem dX0_takeBell_45 : decode cX0_takeBell 45 = .ok (.aload_n 0, 1) := by decide +kernel
theorem dX0_takeBell_46 : decode cX0_takeBell 46 = .ok (.getfield 18, 3) := by decide +kernel
theorem dX0_takeBell_49 : decode cX0_takeBell 49 = .ok (.iconst 3, 1) := by decide +kernel
theorem dX0_takeBell_50 : decode cX0_takeBell 50 = .ok (.invokevirtual 72, 3) := by decide +kernel
theorem dX0_takeBell_53 : decode cX0_takeBell 53 = .ok (.goto 63, 3) := by decide +kernel
theorem dX0_takeBell_56 : decode cX0_takeBell 56 = .ok (.aload_n 0, 1) := by decide +kernel
theorem dX0_takeBell_57 : decode cX0_takeBell 57 = .ok (.getfield 12, 3) := by decide +kernel
theorem dX0_takeBell_60 : decode cX0_takeBell 60 = .ok (.getfield 27, 3) := by decide +kernel
theorem dX0_takeBell_63 : decode cX0_takeBell 63 = .ok (.sipush 160, 3) := by decide +kernel
theorem dX0_takeBell_66 : decode cX0_takeBell 66 = .ok (.if_icmp .lt 14, 3) := by decide +kernel
theorem dX0_takeBell_69 : decode cX0_takeBell 69 = .ok (.aload_n 0, 1) := by decide +kernel
theorem dX0_takeBell_70 : decode cX0_takeBell 70 = .ok (.getfield 18, 3) := by decide +kernel
theorem dX0_takeBell_73 : decode cX0_takeBell 73 = .ok (.iconst 4, 1) := by decide +kernel
theorem dX0_takeBell_74 : decode cX0_takeBell 74 = .ok (.invokevirtual 72, 3) := by decide +kernel
theorem dX0_takeBell_77 : decode cX0_takeBell 77 = .ok (.goto 39, 3) := by decide +kernel
theorem dX0_takeBell_80 : decode cX0_takeBell 80 = .ok (.aload_n 0, 1) := by decide +kernel
theorem dX0_takeBell_81 : decode cX0_takeBell 81 = .ok (.aload_n 0, 1) := by decide +kernel
theorem dX0_takeBell_82 : decode cX0_takeBell 82 = .ok (.getfield 12, 3) := by decide +kernel
theorem dX0_takeBell_85 : decode cX0_takeBell 85 = .ok (.aload_n 0, 1) := by decide +kernel
theorem dX0_takeBell_86 : decode cX0_takeBell 86 = .ok (.getfield 34, 3) := by decide +kernel
theorem dX0_takeBell_89 : decode cX0_takeBell 89 = .ok (.aload_n 0, 1) := by decide +kernel
theorem dX0_takeBell_90 : decode cX0_takeBell 90 = .ok (.getfield 18, 3) := by decide +kernel
theorem dX0_takeBell_93 : decode cX0_takeBell 93 = .ok (.getfield 76, 3) := by decide +kernel
theorem dX0_takeBell_96 : decode cX0_takeBell 96 = .ok (.invokevirtual 87, 3) := by decide +kernel
theorem dX0_takeBell_99 : decode cX0_takeBell 99 = .ok (.putfield 91, 3) := by decide +kernel
theorem dX0_takeBell_102 : decode cX0_takeBell 102 = .ok (.aload_n 0, 1) := by decide +kernel
theorem dX0_takeBell_103 : decode cX0_takeBell 103 = .ok (.iload_n 1, 1) := by decide +kernel
theorem dX0_takeBell_104 : decode cX0_takeBell 104 = .ok (.ifCond .eq 8, 3) := by decide +kernel
theorem dX0_takeBell_107 : decode cX0_takeBell 107 = .ok (.bipush 6, 2) := by decide +kernel
theorem dX0_takeBell_109 : decode cX0_takeBell 109 = .ok (.goto 4, 3) := by decide +kernel
theorem dX0_takeBell_112 : decode cX0_takeBell 112 = .ok (.iconst 3, 1) := by decide +kernel
theorem dX0_takeBell_113 : decode cX0_takeBell 113 = .ok (.putfield 31, 3) := by decide +kernel
theorem dX0_takeBell_116 : decode cX0_takeBell 116 = .ok (.return_, 1) := by decide +kernel
theorem dX0_takeLength_0 : decode cX0_takeLength 0 = .ok (.aload_n 0, 1) := by decide +kernel
theorem dX0_takeLength_1 : decode cX0_takeLength 1 = .ok (.aload_n 0, 1) := by decide +kernel
theorem dX0_takeLength_2 : decode cX0_takeLength 2 = .ok (.getfield 18, 3) := by decide +kernel
theorem dX0_takeLength_5 : decode cX0_takeLength 5 = .ok (.getfield 43, 3) := by decide +kernel
theorem dX0_takeLength_8 : decode cX0_takeLength 8 = .ok (.iconst 2, 1) := by decide +kernel
theorem dX0_takeLength_9 : decode cX0_takeLength 9 = .ok (.if_icmp .ne 7, 3) := by decide +kernel
theorem dX0_takeLength_12 : decode cX0_takeLength 12 = .ok (.iconst 1, 1) := by decide +kernel
theorem dX0_takeLength_13 : decode cX0_takeLength 13 = .ok (.goto 4, 3) := by decide +kernel
theorem dX0_takeLength_16 : decode cX0_takeLength 16 = .ok (.iconst 0, 1) := by decide +kernel
theorem dX0_takeLength_17 : decode cX0_takeLength 17 = .ok (.iconst 5, 1) := by decide +kernel
theorem dX0_takeLength_18 : decode cX0_takeLength 18 = .ok (.invokevirtual 56, 3) := by decide +kernel
theorem dX0_takeLength_21 : decode cX0_takeLength 21 = .ok (.aload_n 0, 1) := by decide +kernel
theorem dX0_takeLength_22 : decode cX0_takeLength 22 = .ok (.getfield 18, 3) := by decide +kernel
theorem dX0_takeLength_25 : decode cX0_takeLength 25 = .ok (.getfield 37, 3) := by decide +kernel
theorem dX0_takeLength_28 : decode cX0_takeLength 28 = .ok (.ifCond .eq 4, 3) := by decide +kernel
theorem dX0_takeLength_31 : decode cX0_takeLength 31 = .ok (.return_, 1) := by decide +kernel
theorem dX0_takeLength_32 : decode cX0_takeLength 32 = .ok (.aload_n 0, 1) := by decide +kernel
theorem dX0_takeLength_33 : decode cX0_takeLength 33 = .ok (.getfield 18, 3) := by decide +kernel
theorem dX0_takeLength_36 : decode cX0_takeLength 36 = .ok (.getfield 76, 3) := by decide +kernel
theorem dX0_takeLength_39 : decode cX0_takeLength 39 = .ok (.iconst 1, 1) := by decide +kernel
theorem dX0_takeLength_40 : decode cX0_takeLength 40 = .ok (.if_icmp .lt 15, 3) := by decide +kernel
theorem dX0_takeLength_43 : decode cX0_takeLength 43 = .ok (.aload_n 0, 1) := by decide +kernel
theorem dX0_takeLength_44 : decode cX0_takeLength 44 = .ok (.getfield 18, 3) := by decide +kernel
theorem dX0_takeLength_47 : decode cX0_takeLength 47 = .ok (.getfield 76, 3) := by decide +kernel
theorem dX0_takeLength_50 : decode cX0_takeLength 50 = .ok (.bipush 16, 2) := by decide +kernel
theorem dX0_takeLength_52 : decode cX0_takeLength 52 = .ok (.if_icmp .le 12, 3) := by decide +kernel
theorem dX0_takeLength_55 : decode cX0_takeLength 55 = .ok (.aload_n 0, 1) := by decide +kernel
theorem dX0_takeLength_56 : decode cX0_takeLength 56 = .ok (.getfield 18, 3) := by decide +kernel
theorem dX0_takeLength_59 : decode cX0_takeLength 59 = .ok (.iconst 2, 1) := by decide +kernel
theorem dX0_takeLength_60 : decode cX0_takeLength 60 = .ok (.invokevirtual 72, 3) := by decide +kernel
theorem dX0_takeLength_63 : decode cX0_takeLength 63 = .ok (.return_, 1) := by decide +kernel
theorem dX0_takeLength_64 : decode cX0_takeLength 64 = .ok (.aload_n 0, 1) := by decide +kernel
theorem dX0_takeLength_65 : decode cX0_takeLength 65 = .ok (.getfield 12, 3) := by decide +kernel
theorem dX0_takeLength_68 : decode cX0_takeLength 68 = .ok (.getfield 94, 3) := by decide +kernel
theorem dX0_takeLength_71 : decode cX0_takeLength 71 = .ok (.aload_n 0, 1) := by decide +kernel
theorem dX0_takeLength_72 : decode cX0_takeLength 72 = .ok (.getfield 91, 3) := by decide +kernel
theorem dX0_takeLength_75 : decode cX0_takeLength 75 = .ok (.aload_n 0, 1) := by decide +kernel
theorem dX0_takeLength_76 : decode cX0_takeLength 76 = .ok (.getfield 18, 3) := by decide +kernel
theorem dX0_takeLength_79 : decode cX0_takeLength 79 = .ok (.getfield 76, 3) := by decide +kernel
theorem dX0_takeLength_82 : decode cX0_takeLength 82 = .ok (.iastore, 1) := by decide +kernel
theorem dX0_takeLength_83 : decode cX0_takeLength 83 = .ok (.return_, 1) := by decide +kernel
theorem dX0_takeWord_0 : decode cX0_takeWord 0 = .ok (.aload_n 0, 1) := by decide +kernel
theorem dX0_takeWord_1 : decode cX0_takeWord 1 = .ok (.getfield 31, 3) := by decide +kernel
theorem dX0_takeWord_4 : decode cX0_takeWord 4 = .ok (.iconst 3, 1) := by decide +kernel
theorem dX0_takeWord_5 : decode cX0_takeWord 5 = .ok (.if_icmp .eq 11, 3) := by decide +kernel
theorem dX0_takeWord_8 : decode cX0_takeWord 8 = .ok (.aload_n 0, 1) := by decide +kernel
theorem dX0_takeWord_9 : decode cX0_takeWord 9 = .ok (.getfield 31, 3) := by decide +kernel
theorem dX0_takeWord_12 : decode cX0_takeWord 12 = .ok (.iconst 5, 1) := by decide +kernel
theorem dX0_takeWord_13 : decode cX0_takeWord 13 = .ok (.if_icmp .ne 7, 3) := by decide +kernel
theorem dX0_takeWord_16 : decode cX0_takeWord 16 = .ok (.iconst 1, 1) := by decide +kernel
theorem dX0_takeWord_17 : decode cX0_takeWord 17 = .ok (.goto 4, 3) := by decide +kernel
theorem dX0_takeWord_20 : decode cX0_takeWord 20 = .ok (.iconst 0, 1) := by decide +kernel
theorem dX0_takeWord_21 : decode cX0_takeWord 21 = .ok (.istore_n 1, 1) := by decide +kernel
theorem dX0_takeWord_22 : decode cX0_takeWord 22 = .ok (.aload_n 0, 1) := by decide +kernel
theorem dX0_takeWord_23 : decode cX0_takeWord 23 = .ok (.getfield 31, 3) := by decide +kernel
theorem dX0_takeWord_26 : decode cX0_takeWord 26 = .ok (.iconst 3, 1) := by decide +kernel
theorem dX0_takeWord_27 : decode cX0_takeWord 27 = .ok (.if_icmp .ne 23, 3) := by decide +kernel
theorem dX0_takeWord_30 : decode cX0_takeWord 30 = .ok (.aload_n 0, 1) := by decide +kernel
theorem dX0_takeWord_31 : decode cX0_takeWord 31 = .ok (.getfield 18, 3) := by decide +kernel
theorem dX0_takeWord_34 : decode cX0_takeWord 34 = .ok (.ldc 98, 2) := by decide +kernel
theorem dX0_takeWord_36 : decode cX0_takeWord 36 = .ok (.invokevirtual 52, 3) := by decide +kernel
theorem dX0_takeWord_39 : decode cX0_takeWord 39 = .ok (.ifCond .eq 11, 3) := by decide +kernel
theorem dX0_takeWord_42 : decode cX0_takeWord 42 = .ok (.aload_n 0, 1) := by decide +kernel
theorem dX0_takeWord_43 : decode cX0_takeWord 43 = .ok (.iconst 4, 1) := by decide +kernel
theorem dX0_takeWord_44 : decode cX0_takeWord 44 = .ok (.putfield 31, 3) := by decide +kernel
theorem dX0_takeWord_47 : decode cX0_takeWord 47 = .ok (.goto 87, 3) := by decide +kernel
theorem dX0_takeWord_50 : decode cX0_takeWord 50 = .ok (.iload_n 1, 1) := by decide +kernel
theorem dX0_takeWord_51 : decode cX0_takeWord 51 = .ok (.ifCond .eq 37, 3) := by decide +kernel
theorem dX0_takeWord_54 : decode cX0_takeWord 54 = .ok (.aload_n 0, 1) := by decide +kernel
theorem dX0_takeWord_55 : decode cX0_takeWord 55 = .ok (.getfield 18, 3) := by decide +kernel
theorem dX0_takeWord_58 : decode cX0_takeWord 58 = .ok (.ldc 100, 2) := by decide +kernel
theorem dX0_takeWord_60 : decode cX0_takeWord 60 = .ok (.invokevirtual 52, 3) := by decide +kernel
theorem dX0_takeWord_63 : decode cX0_takeWord 63 = .ok (.ifCond .eq 25, 3) := by decide +kernel
theorem dX0_takeWord_66 : decode cX0_takeWord 66 = .ok (.aload_n 0, 1) := by decide +kernel
theorem dX0_takeWord_67 : decode cX0_takeWord 67 = .ok (.getfield 12, 3) := by decide +kernel
theorem dX0_takeWord_70 : decode cX0_takeWord 70 = .ok (.getfield 102, 3) := by decide +kernel
theorem dX0_takeWord_73 : decode cX0_takeWord 73 = .ok (.aload_n 0, 1) := by decide +kernel
theorem dX0_takeWord_74 : decode cX0_takeWord 74 = .ok (.getfield 91, 3) := by decide +kernel
theorem dX0_takeWord_77 : decode cX0_takeWord 77 = .ok (.iconst 1, 1) := by decide +kernel
theorem dX0_takeWord_78 : decode cX0_takeWord 78 = .ok (.iastore, 1) := by decide +kernel
theorem dX0_takeWord_79 : decode cX0_takeWord 79 = .ok (.aload_n 0, 1) := by decide +kernel
theorem dX0_takeWord_80 : decode cX0_takeWord 80 = .ok (.bipush 6, 2) := by decide +kernel
theorem dX0_takeWord_82 : decode cX0_takeWord 82 = .ok (.putfield 31, 3) := by decide +kernel
theorem dX0_takeWord_85 : decode cX0_takeWord 85 = .ok (.goto 49, 3) := by decide +kernel
theorem dX0_takeWord_88 : decode cX0_takeWord 88 = .ok (.iload_n 1, 1) := by decide +kernel
theorem dX0_takeWord_89 : decode cX0_takeWord 89 = .ok (.ifCond .eq 37, 3) := by decide +kernel
theorem dX0_takeWord_92 : decode cX0_takeWord 92 = .ok (.aload_n 0, 1) := by decide +kernel
theorem dX0_takeWord_93 : decode cX0_takeWord 93 = .ok (.getfield 18, 3) := by decide +kernel
theorem dX0_takeWord_96 : decode cX0_takeWord 96 = .ok (.ldc 105, 2) := by decide +kernel
theorem dX0_takeWord_98 : decode cX0_takeWord 98 = .ok (.invokevirtual 52, 3) := by decide +kernel
theorem dX0_takeWord_101 : decode cX0_takeWord 101 = .ok (.ifCond .eq 25, 3) := by decide +kernel
theorem dX0_takeWord_104 : decode cX0_takeWord 104 = .ok (.aload_n 0, 1) := by decide +kernel
theorem dX0_takeWord_105 : decode cX0_takeWord 105 = .ok (.getfield 12, 3) := by decide +kernel
theorem dX0_takeWord_108 : decode cX0_takeWord 108 = .ok (.getfield 102, 3) := by decide +kernel
theorem dX0_takeWord_111 : decode cX0_takeWord 111 = .ok (.aload_n 0, 1) := by decide +kernel
theorem dX0_takeWord_112 : decode cX0_takeWord 112 = .ok (.getfield 91, 3) := by decide +kernel
theorem dX0_takeWord_115 : decode cX0_takeWord 115 = .ok (.iconst 2, 1) := by decide +kernel
theorem dX0_takeWord_116 : decode cX0_takeWord 116 = .ok (.iastore, 1) := by decide +kernel
theorem dX0_takeWord_117 : decode cX0_takeWord 117 = .ok (.aload_n 0, 1) := by decide +kernel
theorem dX0_takeWord_118 : decode cX0_takeWord 118 = .ok (.bipush 6, 2) := by decide +kernel
theorem dX0_takeWord_120 : decode cX0_takeWord 120 = .ok (.putfield 31, 3) := by decide +kernel
theorem dX0_takeWord_123 : decode cX0_takeWord 123 = .ok (.goto 11, 3) := by decide +kernel
theorem dX0_takeWord_126 : decode cX0_takeWord 126 = .ok (.aload_n 0, 1) := by decide +kernel
theorem dX0_takeWord_127 : decode cX0_takeWord 127 = .ok (.getfield 18, 3) := by decide +kernel
theorem dX0_takeWord_130 : decode cX0_takeWord 130 = .ok (.iconst 1, 1) := by decide +kernel
theorem dX0_takeWord_131 : decode cX0_takeWord 131 = .ok (.invokevirtual 72, 3) := by decide +kernel
theorem dX0_takeWord_134 : decode cX0_takeWord 134 = .ok (.return_, 1) := by decide +kernel
theorem dX0_take_0 : decode cX0_take 0 = .ok (.aload_n 0, 1) := by decide +kernel
theorem dX0_take_1 : decode cX0_take 1 = .ok (.getfield 31, 3) := by decide +kernel
theorem dX0_take_4 : decode cX0_take 4 = .ok (.ifCond .ne 20, 3) := by decide +kernel
theorem dX0_take_7 : decode cX0_take 7 = .ok (.aload_n 0, 1) := by decide +kernel
theorem dX0_take_8 : decode cX0_take 8 = .ok (.aload_n 0, 1) := by decide +kernel
theorem dX0_take_9 : decode cX0_take 9 = .ok (.getfield 18, 3) := by decide +kernel
theorem dX0_take_12 : decode cX0_take 12 = .ok (.ldc 50, 2) := by decide +kernel
theorem dX0_take_14 : decode cX0_take 14 = .ok (.invokevirtual 52, 3) := by decide +kernel
theorem dX0_take_17 : decode cX0_take 17 = .ok (.iconst 1, 1) := by decide +kernel
theorem dX0_take_18 : decode cX0_take 18 = .ok (.invokevirtual 56, 3) := by decide +kernel
theorem dX0_take_21 : decode cX0_take 21 = .ok (.goto 88, 3) := by decide +kernel
theorem dX0_take_24 : decode cX0_take 24 = .ok (.aload_n 0, 1) := by decide +kernel
theorem dX0_take_25 : decode cX0_take 25 = .ok (.getfield 31, 3) := by decide +kernel
theorem dX0_take_28 : decode cX0_take 28 = .ok (.iconst 1, 1) := by decide +kernel
theorem dX0_take_29 : decode cX0_take 29 = .ok (.if_icmp .ne 10, 3) := by decide +kernel
theorem dX0_take_32 : decode cX0_take 32 = .ok (.aload_n 0, 1) := by decide +kernel
theorem dX0_take_33 : decode cX0_take 33 = .ok (.invokevirtual 60, 3) := by decide +kernel
theorem dX0_take_36 : decode cX0_take 36 = .ok (.goto 73, 3) := by decide +kernel
theorem dX0_take_39 : decode cX0_take 39 = .ok (.aload_n 0, 1) := by decide +kernel
theorem dX0_take_40 : decode cX0_take 40 = .ok (.getfield 31, 3) := by decide +kernel
theorem dX0_take_43 : decode cX0_take 43 = .ok (.iconst 4, 1) := by decide +kernel
theorem dX0_take_44 : decode cX0_take 44 = .ok (.if_icmp .ne 10, 3) := by decide +kernel
theorem dX0_take_47 : decode cX0_take 47 = .ok (.aload_n 0, 1) := by decide +kernel
theorem dX0_take_48 : decode cX0_take 48 = .ok (.invokevirtual 63, 3) := by decide +kernel
theorem dX0_take_51 : decode cX0_take 51 = .ok (.goto 58, 3) := by decide +kernel
theorem dX0_take_54 : decode cX0_take 54 = .ok (.aload_n 0, 1) := by decide +kernel
theorem dX0_take_55 : decode cX0_take 55 = .ok (.getfield 18, 3) := by decide +kernel
theorem dX0_take_58 : decode cX0_take 58 = .ok (.getfield 43, 3) := by decide +kernel
theorem dX0_take_61 : decode cX0_take 61 = .ok (.iconst 2, 1) := by decide +kernel
theorem dX0_take_62 : decode cX0_take 62 = .ok (.if_icmp .ne 11, 3) := by decide +kernel
theorem dX0_take_65 : decode cX0_take 65 = .ok (.aload_n 0, 1) := by decide +kernel
theorem dX0_take_66 : decode cX0_take 66 = .ok (.iload_n 1, 1) := by decide +kernel
theorem dX0_take_67 : decode cX0_take 67 = .ok (.invokevirtual 66, 3) := by decide +kernel
theorem dX0_take_70 : decode cX0_take 70 = .ok (.goto 39, 3) := by decide +kernel
theorem dX0_take_73 : decode cX0_take 73 = .ok (.aload_n 0, 1) := by decide +kernel
theorem dX0_take_74 : decode cX0_take 74 = .ok (.getfield 18, 3) := by decide +kernel
theorem dX0_take_77 : decode cX0_take 77 = .ok (.getfield 43, 3) := by decide +kernel
theorem dX0_take_80 : decode cX0_take 80 = .ok (.iconst 3, 1) := by decide +kernel
theorem dX0_take_81 : decode cX0_take 81 = .ok (.if_icmp .ne 24, 3) := by decide +kernel
theorem dX0_take_84 : decode cX0_take 84 = .ok (.aload_n 0, 1) := by decide +kernel
theorem dX0_take_85 : decode cX0_take 85 = .ok (.aload_n 0, 1) := by decide +kernel
theorem dX0_take_86 : decode cX0_take 86 = .ok (.getfield 31, 3) := by decide +kernel
theorem dX0_take_89 : decode cX0_take 89 = .ok (.iconst 2, 1) := by decide +kernel
theorem dX0_take_90 : decode cX0_take 90 = .ok (.if_icmp .eq 7, 3) := by decide +kernel
theorem dX0_take_93 : decode cX0_take 93 = .ok (.iconst 1, 1) := by decide +kernel
theorem dX0_take_94 : decode cX0_take 94 = .ok (.goto 4, 3) := by decide +kernel
theorem dX0_take_97 : decode cX0_take 97 = .ok (.iconst 0, 1) := by decide +kernel
theorem dX0_take_98 : decode cX0_take 98 = .ok (.iconst 0, 1) := by decide +kernel
theorem dX0_take_99 : decode cX0_take 99 = .ok (.invokevirtual 56, 3) := by decide +kernel
theorem dX0_take_102 : decode cX0_take 102 = .ok (.goto 7, 3) := by decide +kernel
theorem dX0_take_105 : decode cX0_take 105 = .ok (.aload_n 0, 1) := by decide +kernel
theorem dX0_take_106 : decode cX0_take 106 = .ok (.invokevirtual 69, 3) := by decide +kernel
theorem dX0_take_109 : decode cX0_take 109 = .ok (.return_, 1) := by decide +kernel
theorem dX0_readAll_0 : decode cX0_readAll 0 = .ok (.aload_n 0, 1) := by decide +kernel
theorem dX0_readAll_1 : decode cX0_readAll 1 = .ok (.getfield 18, 3) := by decide +kernel
theorem dX0_readAll_4 : decode cX0_readAll 4 = .ok (.invokevirtual 22, 3) := by decide +kernel
theorem dX0_readAll_7 : decode cX0_readAll 7 = .ok (.aload_n 0, 1) := by decide +kernel
theorem dX0_readAll_8 : decode cX0_readAll 8 = .ok (.getfield 12, 3) := by decide +kernel
theorem dX0_readAll_11 : decode cX0_readAll 11 = .ok (.iconst 0, 1) := by decide +kernel
theorem dX0_readAll_12 : decode cX0_readAll 12 = .ok (.putfield 27, 3) := by decide +kernel
theorem dX0_readAll_15 : decode cX0_readAll 15 = .ok (.aload_n 0, 1) := by decide +kernel
theorem dX0_readAll_16 : decode cX0_readAll 16 = .ok (.iconst 0, 1) := by decide +kernel
theorem dX0_readAll_17 : decode cX0_readAll 17 = .ok (.putfield 31, 3) := by decide +kernel
theorem dX0_readAll_20 : decode cX0_readAll 20 = .ok (.aload_n 0, 1) := by decide +kernel
theorem dX0_readAll_21 : decode cX0_readAll 21 = .ok (.iconst 0, 1) := by decide +kernel
theorem dX0_readAll_22 : decode cX0_readAll 22 = .ok (.putfield 34, 3) := by decide +kernel
theorem dX0_readAll_25 : decode cX0_readAll 25 = .ok (.iconst 0, 1) := by decide +kernel
theorem dX0_readAll_26 : decode cX0_readAll 26 = .ok (.istore_n 2, 1) := by decide +kernel
theorem dX0_readAll_27 : decode cX0_readAll 27 = .ok (.iconst 0, 1) := by decide +kernel
theorem dX0_readAll_28 : decode cX0_readAll 28 = .ok (.istore_n 3, 1) := by decide +kernel
theorem dX0_readAll_29 : decode cX0_readAll 29 = .ok (.iload_n 3, 1) := by decide +kernel
theorem dX0_readAll_30 : decode cX0_readAll 30 = .ok (.sipush 1200, 3) := by decide +kernel
theorem dX0_readAll_33 : decode cX0_readAll 33 = .ok (.if_icmp .gt 62, 3) := by decide +kernel
theorem dX0_readAll_36 : decode cX0_readAll 36 = .ok (.iload_n 2, 1) := by decide +kernel
theorem dX0_readAll_37 : decode cX0_readAll 37 = .ok (.ifCond .ne 58, 3) := by decide +kernel
theorem dX0_readAll_40 : decode cX0_readAll 40 = .ok (.aload_n 0, 1) := by decide +kernel
theorem dX0_readAll_41 : decode cX0_readAll 41 = .ok (.getfield 18, 3) := by decide +kernel
theorem dX0_readAll_44 : decode cX0_readAll 44 = .ok (.getfield 37, 3) := by decide +kernel
theorem dX0_readAll_47 : decode cX0_readAll 47 = .ok (.ifCond .ne 48, 3) := by decide +kernel
theorem dX0_readAll_50 : decode cX0_readAll 50 = .ok (.aload_n 0, 1) := by decide +kernel
theorem dX0_readAll_51 : decode cX0_readAll 51 = .ok (.getfield 18, 3) := by decide +kernel
theorem dX0_readAll_54 : decode cX0_readAll 54 = .ok (.invokevirtual 40, 3) := by decide +kernel
theorem dX0_readAll_57 : decode cX0_readAll 57 = .ok (.aload_n 0, 1) := by decide +kernel
theorem dX0_readAll_58 : decode cX0_readAll 58 = .ok (.getfield 18, 3) := by decide +kernel
theorem dX0_readAll_61 : decode cX0_readAll 61 = .ok (.getfield 43, 3) := by decide +kernel
theorem dX0_readAll_64 : decode cX0_readAll 64 = .ok (.ifCond .ne 14, 3) := by decide +kernel
theorem dX0_readAll_67 : decode cX0_readAll 67 = .ok (.aload_n 0, 1) := by decide +kernel
theorem dX0_readAll_68 : decode cX0_readAll 68 = .ok (.getfield 31, 3) := by decide +kernel
theorem dX0_readAll_71 : decode cX0_readAll 71 = .ok (.ifCond .ne 7, 3) := by decide +kernel
theorem dX0_readAll_74 : decode cX0_readAll 74 = .ok (.iconst 1, 1) := by decide +kernel
theorem dX0_readAll_75 : decode cX0_readAll 75 = .ok (.goto 4, 3) := by decide +kernel
theorem dX0_readAll_78 : decode cX0_readAll 78 = .ok (.iconst 0, 1) := by decide +kernel
theorem dX0_readAll_79 : decode cX0_readAll 79 = .ok (.istore_n 2, 1) := by decide +kernel
theorem dX0_readAll_80 : decode cX0_readAll 80 = .ok (.iload_n 2, 1) := by decide +kernel
theorem dX0_readAll_81 : decode cX0_readAll 81 = .ok (.ifCond .ne 8, 3) := by decide +kernel
theorem dX0_readAll_84 : decode cX0_readAll 84 = .ok (.aload_n 0, 1) := by decide +kernel
theorem dX0_readAll_85 : decode cX0_readAll 85 = .ok (.iload_n 1, 1) := by decide +kernel
theorem dX0_readAll_86 : decode cX0_readAll 86 = .ok (.invokevirtual 46, 3) := by decide +kernel
theorem dX0_readAll_89 : decode cX0_readAll 89 = .ok (.iinc 3 1, 3) := by decide +kernel
theorem dX0_readAll_92 : decode cX0_readAll 92 = .ok (.goto (-63), 3) := by decide +kernel
theorem dX0_readAll_95 : decode cX0_readAll 95 = .ok (.iload_n 2, 1) := by decide +kernel
theorem dX0_readAll_96 : decode cX0_readAll 96 = .ok (.ireturn, 1) := by decide +kernel
abbrev mX10_isWord : MI := (yX10_isWord, cX10_isWord, 4, some .boolean, 5, 106, [])
abbrev mX0_goOnIf : MI := (yX0_goOnIf, cX0_goOnIf, 3, none, 2, 42, [])
abbrev mX0_takeBeat : MI := (yX0_takeBeat, cX0_takeBeat, 1, none, 3, 64, [])
abbrev mX0_takeBell : MI := (yX0_takeBell, cX0_takeBell, 2, none, 2, 45, [])
abbrev mX0_takeLength : MI := (yX0_takeLength, cX0_takeLength, 1, none, 3, 64, [])
abbrev mX0_takeWord : MI := (yX0_takeWord, cX0_takeWord, 2, none, 6, 129, [])
abbrev mX0_take : MI := (yX0_take, cX0_take, 2, none, 7, 150, [])
abbrev mX0_readAll : MI := (yX0_readAll, cX0_readAll, 4, some .boolean, 8, 171, [])
theorem kB_6 : (Int8.ofInt 6).toInt32 = 6 := by decide
theorem kB_16 : (Int8.ofInt 16).toInt32 = 16 := by decide
theorem kI_5 : Int32.ofInt 5 = 5 := by decide
theorem kS_160 : (Int16.ofInt 160).toInt32 = 160 := by decide
theorem fk_X0_12 : Fk RX0 12 0 1 := ⟨RX0, TX0, 5, tyX0, rfl, inX0, by decide, lw_in (i := 127) (by decide +kernel) (by decide +kernel), tyX0_ok, nmX0⟩
theorem fk_X0_18 : Fk RX0 18 0 0 := ⟨RX0, TX0, 5, tyX0, rfl, inX0, by decide, lw_in (i := 126) (by decide +kernel) (by decide +kernel), tyX0_ok, nmX0⟩
theorem fk_X0_27 : Fk RX0 27 9 4 := ⟨RX9, TX9, 5, tyX9, rfl, inX9, by decide, lw_in (i := 106) (by decide +kernel) (by decide +kernel), tyX9_ok, nmX9⟩
theorem fk_X0_31 : Fk RX0 31 0 2 := ⟨RX0, TX0, 5, tyX0, rfl, inX0, by decide, lw_in (i := 129) (by decide +kernel) (by decide +kernel), tyX0_ok, nmX0⟩
theorem fk_X0_34 : Fk RX0 34 0 3 := ⟨RX0, TX0, 5, tyX0, rfl, inX0, by decide, lw_in (i := 130) (by decide +kernel) (by decide +kernel), tyX0_ok, nmX0⟩
theorem fk_X0_37 : Fk RX0 37 10 3 := ⟨RX10, TX10, 8, tyX10, rfl, inX10, by decide, lw_in (i := 45) (by decide +kernel) (by decide +kernel), tyX10_ok, nmX10⟩
theorem fk_X0_43 : Fk RX0 43 10 1 := ⟨RX10, TX10, 8, tyX10, rfl, inX10, by decide, lw_in (i := 39) (by decide +kernel) (by decide +kernel), tyX10_ok, nmX10⟩
theorem fk_X0_76 : Fk RX0 76 10 2 := ⟨RX10, TX10, 8, tyX10, rfl, inX10, by decide, lw_in (i := 43) (by decide +kernel) (by decide +kernel), tyX10_ok, nmX10⟩
theorem fk_X0_91 : Fk RX0 91 0 4 := ⟨RX0, TX0, 5, tyX0, rfl, inX0, by decide, lw_in (i := 131) (by decide +kernel) (by decide +kernel), tyX0_ok, nmX0⟩
theorem fk_X0_94 : Fk RX0 94 9 2 := ⟨RX9, TX9, 5, tyX9, rfl, inX9, by decide, lw_in (i := 98) (by decide +kernel) (by decide +kernel), tyX9_ok, nmX9⟩
theorem fk_X0_102 : Fk RX0 102 9 3 := ⟨RX9, TX9, 5, tyX9, rfl, inX9, by decide, lw_in (i := 102) (by decide +kernel) (by decide +kernel), tyX9_ok, nmX9⟩
theorem fp_X0_2 : Fp 0 2 .int := ⟨RX0, TX0, 5, rfl, rfl, by decide +kernel⟩
theorem fp_X0_3 : Fp 0 3 .int := ⟨RX0, TX0, 5, rfl, rfl, by decide +kernel⟩
theorem fp_X0_4 : Fp 0 4 .int := ⟨RX0, TX0, 5, rfl, rfl, by decide +kernel⟩
theorem mi_X11_isBell : Cond.initialized mX11_isBell.y.cls ∈ lw_w ∧ Cond.code mX11_isBell.y mX11_isBell.cc mX11_isBell.nL mX11_isBell.ret ∈ lw_w := ⟨lw_in (i := 1) (by decide +kernel) (by decide +kernel), lw_in (i := 592) (by decide +kernel) (by decide +kernel)⟩
theorem ms_X11_isBell : Cond.static mX11_isBell.y ∈ lw_w := lw_in (i := 591) (by decide +kernel) (by decide +kernel)
theorem mv_J0_charAt_5068e : MkV mJ0_charAt_5068e := ⟨lw_in (i := 533) (by decide +kernel) (by decide +kernel), lw_in (i := 534) (by decide +kernel) (by decide +kernel)⟩
theorem mv_J0_length_8abf5 : MkV mJ0_length_8abf5 := ⟨lw_in (i := 523) (by decide +kernel) (by decide +kernel), lw_in (i := 524) (by decide +kernel) (by decide +kernel)⟩
theorem mv_X0_goOnIf : MkV mX0_goOnIf := ⟨lw_in (i := 572) (by decide +kernel) (by decide +kernel), lw_se (i := 4) (by decide +kernel) (by decide +kernel)⟩
theorem mv_X0_take : MkV mX0_take := ⟨lw_in (i := 515) (by decide +kernel) (by decide +kernel), lw_se (i := 3) (by decide +kernel) (by decide +kernel)⟩
theorem mv_X0_takeBeat : MkV mX0_takeBeat := ⟨lw_in (i := 580) (by decide +kernel) (by decide +kernel), lw_se (i := 5) (by decide +kernel) (by decide +kernel)⟩
theorem mv_X0_takeBell : MkV mX0_takeBell := ⟨lw_in (i := 588) (by decide +kernel) (by decide +kernel), lw_se (i := 7) (by decide +kernel) (by decide +kernel)⟩
theorem mv_X0_takeLength : MkV mX0_takeLength := ⟨lw_in (i := 584) (by decide +kernel) (by decide +kernel), lw_se (i := 6) (by decide +kernel) (by decide +kernel)⟩
theorem mv_X0_takeWord : MkV mX0_takeWord := ⟨lw_in (i := 603) (by decide +kernel) (by decide +kernel), lw_se (i := 8) (by decide +kernel) (by decide +kernel)⟩
theorem mv_X10_isWord : MkV mX10_isWord := ⟨lw_in (i := 519) (by decide +kernel) (by decide +kernel), lw_in (i := 520) (by decide +kernel) (by decide +kernel)⟩
theorem mv_X10_readToken : MkV mX10_readToken := ⟨lw_in (i := 489) (by decide +kernel) (by decide +kernel), lw_in (i := 490) (by decide +kernel) (by decide +kernel)⟩
theorem mv_X10_refuse : MkV mX10_refuse := ⟨lw_in (i := 575) (by decide +kernel) (by decide +kernel), lw_in (i := 576) (by decide +kernel) (by decide +kernel)⟩
theorem mv_X10_start : MkV mX10_start := ⟨lw_in (i := 485) (by decide +kernel) (by decide +kernel), lw_in (i := 486) (by decide +kernel) (by decide +kernel)⟩
theorem mv_X9_hasAt : MkV mX9_hasAt := ⟨lw_in (i := 594) (by decide +kernel) (by decide +kernel), lw_in (i := 595) (by decide +kernel) (by decide +kernel)⟩
theorem mv_X9_insert : MkV mX9_insert := ⟨lw_in (i := 598) (by decide +kernel) (by decide +kernel), lw_in (i := 599) (by decide +kernel) (by decide +kernel)⟩
theorem mk_X0_22 : Mk RX0 22 mX10_start 0 := ⟨lw_in (i := 484) (by decide +kernel) (by decide +kernel), lw_in (i := 2) (by decide +kernel) (by decide +kernel), lw_in (i := 487) (by decide +kernel) (by decide +kernel), by decide +kernel⟩
theorem mk_X0_40 : Mk RX0 40 mX10_readToken 0 := ⟨lw_in (i := 488) (by decide +kernel) (by decide +kernel), lw_in (i := 2) (by decide +kernel) (by decide +kernel), lw_in (i := 491) (by decide +kernel) (by decide +kernel), by decide +kernel⟩
theorem mk_X0_46 : Mk RX0 46 mX0_take 1 := ⟨lw_in (i := 513) (by decide +kernel) (by decide +kernel), lw_in (i := 3) (by decide +kernel) (by decide +kernel), lw_in (i := 516) (by decide +kernel) (by decide +kernel), by decide +kernel⟩
theorem mk_X0_52 : Mk RX0 52 mX10_isWord 1 := ⟨lw_in (i := 518) (by decide +kernel) (by decide +kernel), lw_in (i := 2) (by decide +kernel) (by decide +kernel), lw_in (i := 521) (by decide +kernel) (by decide +kernel), by decide +kernel⟩
theorem mk_X0_56 : Mk RX0 56 mX0_goOnIf 2 := ⟨lw_in (i := 570) (by decide +kernel) (by decide +kernel), lw_in (i := 3) (by decide +kernel) (by decide +kernel), lw_in (i := 573) (by decide +kernel) (by decide +kernel), by decide +kernel⟩
theorem mk_X0_60 : Mk RX0 60 mX0_takeBeat 0 := ⟨lw_in (i := 578) (by decide +kernel) (by decide +kernel), lw_in (i := 3) (by decide +kernel) (by decide +kernel), lw_in (i := 581) (by decide +kernel) (by decide +kernel), by decide +kernel⟩
theorem mk_X0_63 : Mk RX0 63 mX0_takeLength 0 := ⟨lw_in (i := 582) (by decide +kernel) (by decide +kernel), lw_in (i := 3) (by decide +kernel) (by decide +kernel), lw_in (i := 585) (by decide +kernel) (by decide +kernel), by decide +kernel⟩
theorem mk_X0_66 : Mk RX0 66 mX0_takeBell 1 := ⟨lw_in (i := 586) (by decide +kernel) (by decide +kernel), lw_in (i := 3) (by decide +kernel) (by decide +kernel), lw_in (i := 589) (by decide +kernel) (by decide +kernel), by decide +kernel⟩
theorem mk_X0_69 : Mk RX0 69 mX0_takeWord 0 := ⟨lw_in (i := 601) (by decide +kernel) (by decide +kernel), lw_in (i := 3) (by decide +kernel) (by decide +kernel), lw_in (i := 604) (by decide +kernel) (by decide +kernel), by decide +kernel⟩
theorem mk_X0_72 : Mk RX0 72 mX10_refuse 1 := ⟨lw_in (i := 574) (by decide +kernel) (by decide +kernel), lw_in (i := 2) (by decide +kernel) (by decide +kernel), lw_in (i := 577) (by decide +kernel) (by decide +kernel), by decide +kernel⟩
theorem mk_X0_83 : Mk RX0 83 mX9_hasAt 2 := ⟨lw_in (i := 593) (by decide +kernel) (by decide +kernel), lw_in (i := 4) (by decide +kernel) (by decide +kernel), lw_in (i := 596) (by decide +kernel) (by decide +kernel), by decide +kernel⟩
theorem mk_X0_87 : Mk RX0 87 mX9_insert 2 := ⟨lw_in (i := 597) (by decide +kernel) (by decide +kernel), lw_in (i := 4) (by decide +kernel) (by decide +kernel), lw_in (i := 600) (by decide +kernel) (by decide +kernel), by decide +kernel⟩
theorem mk_X10_57 : Mk RX10 57 mJ0_length_8abf5 0 := ⟨lw_in (i := 522) (by decide +kernel) (by decide +kernel), lw_in (i := 18) (by decide +kernel) (by decide +kernel), lw_in (i := 525) (by decide +kernel) (by decide +kernel), by decide +kernel⟩
theorem mk_X10_63 : Mk RX10 63 mJ0_charAt_5068e 1 := ⟨lw_in (i := 532) (by decide +kernel) (by decide +kernel), lw_in (i := 18) (by decide +kernel) (by decide +kernel), lw_in (i := 535) (by decide +kernel) (by decide +kernel), by decide +kernel⟩
theorem rm_X0_goOnIf_X10_refuse : Rm mX0_goOnIf mX10_refuse := ⟨by decide, by decide⟩
theorem rm_X0_readAll_X0_take : Rm mX0_readAll mX0_take := ⟨by decide, by decide⟩
theorem rm_X0_readAll_X10_readToken : Rm mX0_readAll mX10_readToken := ⟨by decide, by decide⟩
theorem rm_X0_readAll_X10_start : Rm mX0_readAll mX10_start := ⟨by decide, by decide⟩
theorem rm_X0_take_X0_goOnIf : Rm mX0_take mX0_goOnIf := ⟨by decide, by decide⟩
theorem rm_X0_take_X0_takeBeat : Rm mX0_take mX0_takeBeat := ⟨by decide, by decide⟩
theorem rm_X0_take_X0_takeBell : Rm mX0_take mX0_takeBell := ⟨by decide, by decide⟩
theorem rm_X0_take_X0_takeLength : Rm mX0_take mX0_takeLength := ⟨by decide, by decide⟩
theorem rm_X0_take_X0_takeWord : Rm mX0_take mX0_takeWord := ⟨by decide, by decide⟩
theorem rm_X0_take_X10_isWord : Rm mX0_take mX10_isWord := ⟨by decide, by decide⟩
theorem rm_X0_takeBeat_X0_goOnIf : Rm mX0_takeBeat mX0_goOnIf := ⟨by decide, by decide⟩
theorem rm_X0_takeBeat_X10_refuse : Rm mX0_takeBeat mX10_refuse := ⟨by decide, by decide⟩
theorem rm_X0_takeBell_X10_refuse : Rm mX0_takeBell mX10_refuse := ⟨by decide, by decide⟩
theorem rm_X0_takeBell_X11_isBell : Rm mX0_takeBell mX11_isBell := ⟨by decide, by decide⟩
theorem rm_X0_takeBell_X9_hasAt : Rm mX0_takeBell mX9_hasAt := ⟨by decide, by decide⟩
theorem rm_X0_takeBell_X9_insert : Rm mX0_takeBell mX9_insert := ⟨by decide, by decide⟩
theorem rm_X0_takeLength_X0_goOnIf : Rm mX0_takeLength mX0_goOnIf := ⟨by decide, by decide⟩
theorem rm_X0_takeLength_X10_refuse : Rm mX0_takeLength mX10_refuse := ⟨by decide, by decide⟩
theorem rm_X0_takeWord_X10_isWord : Rm mX0_takeWord mX10_isWord := ⟨by decide, by decide⟩
theorem rm_X0_takeWord_X10_refuse : Rm mX0_takeWord mX10_refuse := ⟨by decide, by decide⟩
theorem rm_X10_isWord_J0_charAt_5068e : Rm mX10_isWord mJ0_charAt_5068e := ⟨by decide, by decide⟩
theorem rm_X10_isWord_J0_length_8abf5 : Rm mX10_isWord mJ0_length_8abf5 := ⟨by decide, by decide⟩
theorem rm_X10_isWord_X10_byteAt : Rm mX10_isWord mX10_byteAt := ⟨by decide, by decide⟩
section W_text
variable {l : Launch} {D : va_G} {ad : Nat → Nat} {kA : Nat → ClassId} {M : Mem} {Q : Outcome → Mem → Prop}
theorem t_X10_isWord_0 {w : Nat} (hw : w < 15)
    (K1 : Fw l D ad kA mX10_isWord 32 [some (.ref (ad 1)), some (.ref (ad (210 + w))), some (.int (if (gI M 1 1) = 1 then if (v_J0_length_8abf5 w) = ((gI M 1 7) - (gI M 1 6)) then 1 else 0 else 0)), some (.int 0)] [] M Q) : Fw l D ad kA mX10_isWord 0 [some (.ref (ad 1)), some (.ref (ad (210 + w))), none, none] [] M Q := by
  refine r_aload_n dX10_isWord_0 rfl ?_
  refine r_getI dX10_isWord_1 fs_1_1 fk_X10_39 ?_
  refine r_iconst (v := 1) dX10_isWord_4 kI_1 ?_
  suffices hJ1 : Fw l D ad kA mX10_isWord 29 [some (.ref (ad 1)), some (.ref (ad (210 + w))), none, none] [.int (if (gI M 1 1) = 1 then if (v_J0_length_8abf5 w) = ((gI M 1 7) - (gI M 1 6)) then 1 else 0 else 0)] M Q by
    refine r_icmp_ne (tgt := 28) dX10_isWord_5 (by decide) (fun c1 => ?_) (fun c1 => ?_)
    · skip
      refine r_iconst (v := 0) dX10_isWord_28 kI_0 ?_
      exact q_weak (lo' := [some (.ref (ad 1)), some (.ref (ad (210 + w))), none, none]) ⟨rfl, rfl, trivial⟩ (by have h9 := hJ1; simp only [if_neg c1] at h9; first | exact h9 | (simp only [if_neg c1]; exact h9))
    · skip
      refine r_aload_n dX10_isWord_8 rfl ?_
      refine r_callT (i := w) (As := []) (rest := []) dX10_isWord_9 mk_X10_57 mv_J0_length_8abf5 rm_X10_isWord_J0_length_8abf5 rfl rfl hw rfl (Nat.le_of_ble_eq_true rfl) (ct_J0_length_8abf5 hw (⟨_, rfl, ?_⟩))
      refine r_aload_n dX10_isWord_12 rfl ?_
      refine r_getI dX10_isWord_13 fs_1_7 fk_X10_22 ?_
      refine r_aload_n dX10_isWord_16 rfl ?_
      refine r_getI dX10_isWord_17 fs_1_6 fk_X10_28 ?_
      refine r_isub dX10_isWord_20 ?_
      refine r_icmp_ne (tgt := 28) dX10_isWord_21 (by decide) (fun c2 => ?_) (fun c2 => ?_)
      · skip
        refine r_iconst (v := 0) dX10_isWord_28 kI_0 ?_
        exact q_weak (lo' := [some (.ref (ad 1)), some (.ref (ad (210 + w))), none, none]) ⟨rfl, rfl, trivial⟩ (by have h9 := hJ1; simp only [if_pos c1, if_neg c2] at h9; first | exact h9 | (simp only [if_pos c1, if_neg c2]; exact h9))
      · skip
        refine r_iconst (v := 1) dX10_isWord_24 kI_1 ?_
        refine r_goto (tgt := 29) dX10_isWord_25 (by decide) ?_
        exact q_weak (lo' := [some (.ref (ad 1)), some (.ref (ad (210 + w))), none, none]) ⟨rfl, rfl, trivial⟩ (by have h9 := hJ1; simp only [if_pos c1, if_pos c2] at h9; first | exact h9 | (simp only [if_pos c1, if_pos c2]; exact h9))
  refine q_istore_n (lo' := [some (.ref (ad 1)), some (.ref (ad (210 + w))), some (.int (if (gI M 1 1) = 1 then if (v_J0_length_8abf5 w) = ((gI M 1 7) - (gI M 1 6)) then 1 else 0 else 0)), none]) dX10_isWord_29 (by decide) rfl ?_
  refine r_iconst (v := 0) dX10_isWord_30 kI_0 ?_
  refine q_istore_n (lo' := [some (.ref (ad 1)), some (.ref (ad (210 + w))), some (.int (if (gI M 1 1) = 1 then if (v_J0_length_8abf5 w) = ((gI M 1 7) - (gI M 1 6)) then 1 else 0 else 0)), some (.int 0)]) dX10_isWord_31 (by decide) rfl ?_
  exact K1
theorem t_X10_isWord_32 {w : Nat} {x2 : Int32} {x3 : Int32} (hw : w < 15)
    (g1 : (x2 = 0) → x2 = 0 ∨ x2 = 1)
    (g2 : (¬ (x2 = 0)) → ((v_J0_length_8abf5 w) ≤ x3) → x2 = 0 ∨ x2 = 1)
    (g3 : (¬ (x2 = 0)) → (¬ ((v_J0_length_8abf5 w) ≤ x3)) → g_J0_charAt_5068e M w x3)
    (g4 : (¬ (x2 = 0)) → (¬ ((v_J0_length_8abf5 w) ≤ x3)) → g_X10_byteAt M ((gI M 1 6) + x3))
    (K1 : (x2 = 0) → Q (.returned (some (.int x2))) M)
    (K2 : (¬ (x2 = 0)) → ((v_J0_length_8abf5 w) ≤ x3) → Q (.returned (some (.int x2))) M)
    (K3 : (¬ (x2 = 0)) → (¬ ((v_J0_length_8abf5 w) ≤ x3)) → Fw l D ad kA mX10_isWord 32 [some (.ref (ad 1)), some (.ref (ad (210 + w))), some (.int (if (v_J0_charAt_5068e w x3) = (v_X10_byteAt M ((gI M 1 6) + x3)) then 1 else 0)), some (.int (x3 + 1))] [] M Q) : Fw l D ad kA mX10_isWord 32 [some (.ref (ad 1)), some (.ref (ad (210 + w))), some (.int x2), some (.int x3)] [] M Q := by
  refine r_iload_n dX10_isWord_32 rfl ?_
  refine r_if_eq (tgt := 74) dX10_isWord_33 (by decide) (fun c1 => ?_) (fun c1 => ?_)
  · skip
    refine r_iload_n dX10_isWord_74 rfl ?_
    exact r_zret dX10_isWord_75 rfl (nar_z (g1 c1)).1 (K1 c1)
  · skip
    refine r_iload_n dX10_isWord_36 rfl ?_
    refine r_aload_n dX10_isWord_37 rfl ?_
    refine r_callT (i := w) (As := []) (rest := [.int x3]) dX10_isWord_38 mk_X10_57 mv_J0_length_8abf5 rm_X10_isWord_J0_length_8abf5 rfl rfl hw rfl (Nat.le_of_ble_eq_true rfl) (ct_J0_length_8abf5 hw (⟨_, rfl, ?_⟩))
    refine r_icmp_ge (tgt := 74) dX10_isWord_41 (by decide) (fun c2 => ?_) (fun c2 => ?_)
    · skip
      refine r_iload_n dX10_isWord_74 rfl ?_
      exact r_zret dX10_isWord_75 rfl (nar_z (g2 c1 c2)).1 (K2 c1 c2)
    · skip
      refine r_aload_n dX10_isWord_44 rfl ?_
      refine r_iload_n dX10_isWord_45 rfl ?_
      refine r_callT (i := w) (As := [.int x3]) (rest := []) dX10_isWord_46 mk_X10_63 mv_J0_charAt_5068e rm_X10_isWord_J0_charAt_5068e rfl rfl hw rfl (Nat.le_of_ble_eq_true rfl) (ct_J0_charAt_5068e hw (g3 c1 c2) (⟨_, rfl, ?_⟩))
      refine r_aload_n dX10_isWord_49 rfl ?_
      refine r_aload_n dX10_isWord_50 rfl ?_
      refine r_getI dX10_isWord_51 fs_1_6 fk_X10_28 ?_
      refine r_iload_n dX10_isWord_54 rfl ?_
      refine r_iadd dX10_isWord_55 ?_
      refine r_callV (x := 1) (As := [.int ((gI M 1 6) + x3)]) (rest := [.int (v_J0_charAt_5068e w x3)]) dX10_isWord_56 mk_X10_31 mv_X10_byteAt rm_X10_isWord_X10_byteAt rfl rfl (by decide +kernel) (Nat.le_of_ble_eq_true rfl) (ct_X10_byteAt (g4 c1 c2) (⟨_, rfl, ?_⟩))
      suffices hJ1 : Fw l D ad kA mX10_isWord 67 [some (.ref (ad 1)), some (.ref (ad (210 + w))), none, some (.int x3)] [.int (if (v_J0_charAt_5068e w x3) = (v_X10_byteAt M ((gI M 1 6) + x3)) then 1 else 0)] M Q by
        refine r_icmp_ne (tgt := 66) dX10_isWord_59 (by decide) (fun c3 => ?_) (fun c3 => ?_)
        · skip
          refine r_iconst (v := 0) dX10_isWord_66 kI_0 ?_
          exact q_weak (lo' := [some (.ref (ad 1)), some (.ref (ad (210 + w))), none, some (.int x3)]) ⟨rfl, rfl, rfl, trivial⟩ (by have h9 := hJ1; simp only [if_neg c3] at h9; first | exact h9 | (simp only [if_neg c3]; exact h9))
        · skip
          refine r_iconst (v := 1) dX10_isWord_62 kI_1 ?_
          refine r_goto (tgt := 67) dX10_isWord_63 (by decide) ?_
          exact q_weak (lo' := [some (.ref (ad 1)), some (.ref (ad (210 + w))), none, some (.int x3)]) ⟨rfl, rfl, rfl, trivial⟩ (by have h9 := hJ1; simp only [if_pos c3] at h9; first | exact h9 | (simp only [if_pos c3]; exact h9))
      refine q_istore_n (lo' := [some (.ref (ad 1)), some (.ref (ad (210 + w))), some (.int (if (v_J0_charAt_5068e w x3) = (v_X10_byteAt M ((gI M 1 6) + x3)) then 1 else 0)), some (.int x3)]) dX10_isWord_67 (by decide) rfl ?_
      refine q_iinc (v := x3 + 1) (lo' := [some (.ref (ad 1)), some (.ref (ad (210 + w))), some (.int (if (v_J0_charAt_5068e w x3) = (v_X10_byteAt M ((gI M 1 6) + x3)) then 1 else 0)), some (.int (x3 + 1))]) dX10_isWord_68 rfl (congrArg (fun q => x3 + q) kI_1) (by decide) rfl ?_
      refine r_goto (tgt := 32) dX10_isWord_71 (by decide) ?_
      exact (K3 c1 c2)
theorem en_X10_isWord {w : Nat} (K : Fw l D ad kA mX10_isWord 0 [some (.ref (ad 1)), some (.ref (ad (210 + w))), none, none] [] M Q) : Cal l D ad kA mX10_isWord [.ref (ad 1), .ref (ad (210 + w))] M Q := Cal.of (by decide) rfl rfl (Nat.le_of_ble_eq_true rfl) K
theorem t_X0_goOnIf_0 {x1 : Int32} {x2 : Int32} 
    (K1 : (x1 = 0) → Cal l D ad kA mX10_refuse [.ref (ad 1), .int 1] M (fun oc M2 => oc = .returned none ∧ Fw l D ad kA mX0_goOnIf 20 [none, none, none] [] M2 Q))
    (K2 : (¬ (x1 = 0)) → Q (.returned none) (sI M 3 2 x2)) : Fw l D ad kA mX0_goOnIf 0 [some (.ref (ad 3)), some (.int x1), some (.int x2)] [] M Q := by
  refine r_iload_n dX0_goOnIf_0 rfl ?_
  refine r_if_eq (tgt := 12) dX0_goOnIf_1 (by decide) (fun c1 => ?_) (fun c1 => ?_)
  · skip
    refine r_aload_n dX0_goOnIf_12 rfl ?_
    refine r_getR dX0_goOnIf_13 fs_3_0 fk_X0_18 ?_
    refine r_iconst (v := 1) dX0_goOnIf_16 kI_1 ?_
    exact r_callV (x := 1) (As := [.int 1]) (rest := []) dX0_goOnIf_17 mk_X0_72 mv_X10_refuse rm_X0_goOnIf_X10_refuse rfl rfl (by decide +kernel) (Nat.le_of_ble_eq_true rfl) (cal_v (lo' := [none, none, none]) trivial (K1 c1))
  · skip
    refine r_aload_n dX0_goOnIf_4 rfl ?_
    refine r_iload_n dX0_goOnIf_5 rfl ?_
    refine r_putI dX0_goOnIf_6 fs_3_2 fk_X0_31 fp_X0_2 ?_
    refine r_goto (tgt := 20) dX0_goOnIf_9 (by decide) ?_
    exact r_vret dX0_goOnIf_20 rfl (K2 c1)
theorem t_X0_goOnIf_20  
    (K1 : Q (.returned none) M) : Fw l D ad kA mX0_goOnIf 20 [none, none, none] [] M Q := by
  exact r_vret dX0_goOnIf_20 rfl K1
theorem en_X0_goOnIf {x1 : Int32} {x2 : Int32} (K : Fw l D ad kA mX0_goOnIf 0 [some (.ref (ad 3)), some (.int x1), some (.int x2)] [] M Q) : Cal l D ad kA mX0_goOnIf [.ref (ad 3), .int x1, .int x2] M Q := Cal.of (by decide) rfl rfl (Nat.le_of_ble_eq_true rfl) K
theorem t_X0_takeBeat_0  
    (K1 : Cal l D ad kA mX0_goOnIf [.ref (ad 3), .int (if (gI M 1 1) = 2 then 1 else 0), .int 2] M (fun oc M2 => oc = .returned none ∧ Fw l D ad kA mX0_takeBeat 21 [some (.ref (ad 3))] [] M2 Q)) : Fw l D ad kA mX0_takeBeat 0 [some (.ref (ad 3))] [] M Q := by
  refine r_aload_n dX0_takeBeat_0 rfl ?_
  refine r_aload_n dX0_takeBeat_1 rfl ?_
  refine r_getR dX0_takeBeat_2 fs_3_0 fk_X0_18 ?_
  refine r_getI dX0_takeBeat_5 fs_1_1 fk_X0_43 ?_
  refine r_iconst (v := 2) dX0_takeBeat_8 kI_2 ?_
  suffices hJ1 : Fw l D ad kA mX0_takeBeat 17 [some (.ref (ad 3))] [.int (if (gI M 1 1) = 2 then 1 else 0), .ref (ad 3)] M Q by
    refine r_icmp_ne (tgt := 16) dX0_takeBeat_9 (by decide) (fun c1 => ?_) (fun c1 => ?_)
    · skip
      refine r_iconst (v := 0) dX0_takeBeat_16 kI_0 ?_
      exact q_weak (lo' := [some (.ref (ad 3))]) ⟨rfl, trivial⟩ (by have h9 := hJ1; simp only [if_neg c1] at h9; first | exact h9 | (simp only [if_neg c1]; exact h9))
    · skip
      refine r_iconst (v := 1) dX0_takeBeat_12 kI_1 ?_
      refine r_goto (tgt := 17) dX0_takeBeat_13 (by decide) ?_
      exact q_weak (lo' := [some (.ref (ad 3))]) ⟨rfl, trivial⟩ (by have h9 := hJ1; simp only [if_pos c1] at h9; first | exact h9 | (simp only [if_pos c1]; exact h9))
  refine r_iconst (v := 2) dX0_takeBeat_17 kI_2 ?_
  exact r_callV (x := 3) (As := [.int (if (gI M 1 1) = 2 then 1 else 0), .int 2]) (rest := []) dX0_takeBeat_18 mk_X0_56 mv_X0_goOnIf rm_X0_takeBeat_X0_goOnIf rfl rfl (by decide +kernel) (Nat.le_of_ble_eq_true rfl) (cal_v (lo' := [some (.ref (ad 3))]) ⟨rfl, trivial⟩ K1)
theorem t_X0_takeBeat_21  
    (K1 : (¬ ((gI M 1 3) = 0)) → Q (.returned none) (sI M 3 3 (gI M 1 2)))
    (K2 : ((gI M 1 3) = 0) → ((gI M 3 3) ≤ (gI M 1 2)) → Q (.returned none) (sI M 3 3 (gI M 1 2)))
    (K3 : ((gI M 1 3) = 0) → (¬ ((gI M 3 3) ≤ (gI M 1 2))) → Cal l D ad kA mX10_refuse [.ref (ad 1), .int 2] M (fun oc M2 => oc = .returned none ∧ Fw l D ad kA mX0_takeBeat 53 [some (.ref (ad 3))] [] M2 Q)) : Fw l D ad kA mX0_takeBeat 21 [some (.ref (ad 3))] [] M Q := by
  refine r_aload_n dX0_takeBeat_21 rfl ?_
  refine r_getR dX0_takeBeat_22 fs_3_0 fk_X0_18 ?_
  refine r_getI dX0_takeBeat_25 fs_1_3 fk_X0_37 ?_
  refine r_if_ne (tgt := 53) dX0_takeBeat_28 (by decide) (fun c1 => ?_) (fun c1 => ?_)
  · skip
    refine r_aload_n dX0_takeBeat_53 rfl ?_
    refine r_aload_n dX0_takeBeat_54 rfl ?_
    refine r_getR dX0_takeBeat_55 fs_3_0 fk_X0_18 ?_
    refine r_getI dX0_takeBeat_58 fs_1_2 fk_X0_76 ?_
    refine r_putI dX0_takeBeat_61 fs_3_3 fk_X0_34 fp_X0_3 ?_
    exact r_vret dX0_takeBeat_64 rfl (K1 c1)
  · skip
    refine r_aload_n dX0_takeBeat_31 rfl ?_
    refine r_getR dX0_takeBeat_32 fs_3_0 fk_X0_18 ?_
    refine r_getI dX0_takeBeat_35 fs_1_2 fk_X0_76 ?_
    refine r_aload_n dX0_takeBeat_38 rfl ?_
    refine r_getI dX0_takeBeat_39 fs_3_3 fk_X0_34 ?_
    refine r_icmp_ge (tgt := 53) dX0_takeBeat_42 (by decide) (fun c2 => ?_) (fun c2 => ?_)
    · skip
      refine r_aload_n dX0_takeBeat_53 rfl ?_
      refine r_aload_n dX0_takeBeat_54 rfl ?_
      refine r_getR dX0_takeBeat_55 fs_3_0 fk_X0_18 ?_
      refine r_getI dX0_takeBeat_58 fs_1_2 fk_X0_76 ?_
      refine r_putI dX0_takeBeat_61 fs_3_3 fk_X0_34 fp_X0_3 ?_
      exact r_vret dX0_takeBeat_64 rfl (K2 c1 c2)
    · skip
      refine r_aload_n dX0_takeBeat_45 rfl ?_
      refine r_getR dX0_takeBeat_46 fs_3_0 fk_X0_18 ?_
      refine r_iconst (v := 2) dX0_takeBeat_49 kI_2 ?_
      exact r_callV (x := 1) (As := [.int 2]) (rest := []) dX0_takeBeat_50 mk_X0_72 mv_X10_refuse rm_X0_takeBeat_X10_refuse rfl rfl (by decide +kernel) (Nat.le_of_ble_eq_true rfl) (cal_v (lo' := [some (.ref (ad 3))]) ⟨rfl, trivial⟩ (K3 c1 c2))
theorem t_X0_takeBeat_53  
    (K1 : Q (.returned none) (sI M 3 3 (gI M 1 2))) : Fw l D ad kA mX0_takeBeat 53 [some (.ref (ad 3))] [] M Q := by
  refine r_aload_n dX0_takeBeat_53 rfl ?_
  refine r_aload_n dX0_takeBeat_54 rfl ?_
  refine r_getR dX0_takeBeat_55 fs_3_0 fk_X0_18 ?_
  refine r_getI dX0_takeBeat_58 fs_1_2 fk_X0_76 ?_
  refine r_putI dX0_takeBeat_61 fs_3_3 fk_X0_34 fp_X0_3 ?_
  exact r_vret dX0_takeBeat_64 rfl K1
theorem en_X0_takeBeat  (K : Fw l D ad kA mX0_takeBeat 0 [some (.ref (ad 3))] [] M Q) : Cal l D ad kA mX0_takeBeat [.ref (ad 3)] M Q := Cal.of (by decide) rfl rfl (Nat.le_of_ble_eq_true rfl) K
theorem t_X0_takeBell_0 {x1 : Int32} 
    (K1 : (¬ ((v_X11_isBell (gI M 1 2)) = 0)) → Cal l D ad kA mX9_hasAt [.ref (ad 4), .int (gI M 3 3), .int (gI M 1 2)] M (fun oc M2 => ∃ r : Int32, oc = .returned (some (.int r)) ∧ Fw l D ad kA mX0_takeBell 42 [some (.ref (ad 3)), some (.int x1)] [.int r] M2 Q))
    (K2 : ((v_X11_isBell (gI M 1 2)) = 0) → Cal l D ad kA mX10_refuse [.ref (ad 1), .int 2] M (fun oc M2 => oc = .returned none ∧ Fw l D ad kA mX0_takeBell 21 [none, none] [] M2 Q)) : Fw l D ad kA mX0_takeBell 0 [some (.ref (ad 3)), some (.int x1)] [] M Q := by
  refine r_aload_n dX0_takeBell_0 rfl ?_
  refine r_getR dX0_takeBell_1 fs_3_0 fk_X0_18 ?_
  refine r_getI dX0_takeBell_4 fs_1_2 fk_X0_76 ?_
  refine r_callN (As := [.int (gI M 1 2)]) (rest := []) (n := 1) (mi2 := mX11_isBell) dX0_takeBell_7 rfl (by decide) mi_X11_isBell.1 mi_X11_isBell.2 (by decide +kernel) ms_X11_isBell rm_X0_takeBell_X11_isBell rfl rfl (Nat.le_of_ble_eq_true rfl) (ct_X11_isBell (⟨_, rfl, ?_⟩))
  refine r_if_ne (tgt := 24) dX0_takeBell_10 (by decide) (fun c1 => ?_) (fun c1 => ?_)
  · skip
    refine r_aload_n dX0_takeBell_24 rfl ?_
    refine r_getR dX0_takeBell_25 fs_3_1 fk_X0_12 ?_
    refine r_aload_n dX0_takeBell_28 rfl ?_
    refine r_getI dX0_takeBell_29 fs_3_3 fk_X0_34 ?_
    refine r_aload_n dX0_takeBell_32 rfl ?_
    refine r_getR dX0_takeBell_33 fs_3_0 fk_X0_18 ?_
    refine r_getI dX0_takeBell_36 fs_1_2 fk_X0_76 ?_
    exact r_callV (x := 4) (As := [.int (gI M 3 3), .int (gI M 1 2)]) (rest := []) dX0_takeBell_39 mk_X0_83 mv_X9_hasAt rm_X0_takeBell_X9_hasAt rfl rfl (by decide +kernel) (Nat.le_of_ble_eq_true rfl) (cal_i (lo' := [some (.ref (ad 3)), some (.int x1)]) ⟨rfl, rfl, trivial⟩ (K1 c1))
  · skip
    refine r_aload_n dX0_takeBell_13 rfl ?_
    refine r_getR dX0_takeBell_14 fs_3_0 fk_X0_18 ?_
    refine r_iconst (v := 2) dX0_takeBell_17 kI_2 ?_
    exact r_callV (x := 1) (As := [.int 2]) (rest := []) dX0_takeBell_18 mk_X0_72 mv_X10_refuse rm_X0_takeBell_X10_refuse rfl rfl (by decide +kernel) (Nat.le_of_ble_eq_true rfl) (cal_v (lo' := [none, none]) trivial (K2 c1))
theorem t_X0_takeBell_42 {x1 : Int32} {s1 : Int32} 
    (K1 : (s1 = 0) → ((gI M 4 4) < 160) → Cal l D ad kA mX9_insert [.ref (ad 4), .int (gI M 3 3), .int (gI M 1 2)] M (fun oc M2 => ∃ r : Int32, oc = .returned (some (.int r)) ∧ Fw l D ad kA mX0_takeBell 99 [some (.ref (ad 3)), some (.int x1)] [.int r, .ref (ad 3)] M2 Q))
    (K2 : (s1 = 0) → (¬ ((gI M 4 4) < 160)) → Cal l D ad kA mX10_refuse [.ref (ad 1), .int 4] M (fun oc M2 => oc = .returned none ∧ Fw l D ad kA mX0_takeBell 77 [none, none] [] M2 Q))
    (K3 : (¬ (s1 = 0)) → Cal l D ad kA mX10_refuse [.ref (ad 1), .int 3] M (fun oc M2 => oc = .returned none ∧ Fw l D ad kA mX0_takeBell 53 [none, none] [] M2 Q)) : Fw l D ad kA mX0_takeBell 42 [some (.ref (ad 3)), some (.int x1)] [.int s1] M Q := by
  refine r_if_eq (tgt := 56) dX0_takeBell_42 (by decide) (fun c1 => ?_) (fun c1 => ?_)
  · skip
    refine r_aload_n dX0_takeBell_56 rfl ?_
    refine r_getR dX0_takeBell_57 fs_3_1 fk_X0_12 ?_
    refine r_getI dX0_takeBell_60 fs_4_4 fk_X0_27 ?_
    refine r_sipush (v := 160) dX0_takeBell_63 kS_160 ?_
    refine r_icmp_lt (tgt := 80) dX0_takeBell_66 (by decide) (fun c2 => ?_) (fun c2 => ?_)
    · skip
      refine r_aload_n dX0_takeBell_80 rfl ?_
      refine r_aload_n dX0_takeBell_81 rfl ?_
      refine r_getR dX0_takeBell_82 fs_3_1 fk_X0_12 ?_
      refine r_aload_n dX0_takeBell_85 rfl ?_
      refine r_getI dX0_takeBell_86 fs_3_3 fk_X0_34 ?_
      refine r_aload_n dX0_takeBell_89 rfl ?_
      refine r_getR dX0_takeBell_90 fs_3_0 fk_X0_18 ?_
      refine r_getI dX0_takeBell_93 fs_1_2 fk_X0_76 ?_
      exact r_callV (x := 4) (As := [.int (gI M 3 3), .int (gI M 1 2)]) (rest := [.ref (ad 3)]) dX0_takeBell_96 mk_X0_87 mv_X9_insert rm_X0_takeBell_X9_insert rfl rfl (by decide +kernel) (Nat.le_of_ble_eq_true rfl) (cal_i (lo' := [some (.ref (ad 3)), some (.int x1)]) ⟨rfl, rfl, trivial⟩ (K1 c1 c2))
    · skip
      refine r_aload_n dX0_takeBell_69 rfl ?_
      refine r_getR dX0_takeBell_70 fs_3_0 fk_X0_18 ?_
      refine r_iconst (v := 4) dX0_takeBell_73 kI_4 ?_
      exact r_callV (x := 1) (As := [.int 4]) (rest := []) dX0_takeBell_74 mk_X0_72 mv_X10_refuse rm_X0_takeBell_X10_refuse rfl rfl (by decide +kernel) (Nat.le_of_ble_eq_true rfl) (cal_v (lo' := [none, none]) trivial (K2 c1 c2))
  · skip
    refine r_aload_n dX0_takeBell_45 rfl ?_
    refine r_getR dX0_takeBell_46 fs_3_0 fk_X0_18 ?_
    refine r_iconst (v := 3) dX0_takeBell_49 kI_3 ?_
    exact r_callV (x := 1) (As := [.int 3]) (rest := []) dX0_takeBell_50 mk_X0_72 mv_X10_refuse rm_X0_takeBell_X10_refuse rfl rfl (by decide +kernel) (Nat.le_of_ble_eq_true rfl) (cal_v (lo' := [none, none]) trivial (K3 c1))
theorem t_X0_takeBell_21  
    (K1 : Q (.returned none) M) : Fw l D ad kA mX0_takeBell 21 [none, none] [] M Q := by
  refine r_goto (tgt := 116) dX0_takeBell_21 (by decide) ?_
  exact r_vret dX0_takeBell_116 rfl K1
theorem t_X0_takeBell_99 {x1 : Int32} {s2 : Int32} 
    (K1 : Q (.returned none) (sI (sI M 3 4 s2) 3 2 (if x1 = 0 then 3 else 6))) : Fw l D ad kA mX0_takeBell 99 [some (.ref (ad 3)), some (.int x1)] [.int s2, .ref (ad 3)] M Q := by
  refine r_putI dX0_takeBell_99 fs_3_4 fk_X0_91 fp_X0_4 ?_
  refine r_aload_n dX0_takeBell_102 rfl ?_
  refine r_iload_n dX0_takeBell_103 rfl ?_
  suffices hJ1 : Fw l D ad kA mX0_takeBell 113 [none, none] [.int (if x1 = 0 then 3 else 6), .ref (ad 3)] (sI M 3 4 s2) Q by
    refine r_if_eq (tgt := 112) dX0_takeBell_104 (by decide) (fun c1 => ?_) (fun c1 => ?_)
    · skip
      refine r_iconst (v := 3) dX0_takeBell_112 kI_3 ?_
      exact q_weak (lo' := [none, none]) trivial (by have h9 := hJ1; simp only [if_pos c1] at h9; first | exact h9 | (simp only [if_pos c1]; exact h9))
    · skip
      refine r_bipush (v := 6) dX0_takeBell_107 kB_6 ?_
      refine r_goto (tgt := 113) dX0_takeBell_109 (by decide) ?_
      exact q_weak (lo' := [none, none]) trivial (by have h9 := hJ1; simp only [if_neg c1] at h9; first | exact h9 | (simp only [if_neg c1]; exact h9))
  refine r_putI dX0_takeBell_113 fs_3_2 fk_X0_31 fp_X0_2 ?_
  exact r_vret dX0_takeBell_116 rfl K1
theorem t_X0_takeBell_77  
    (K1 : Q (.returned none) M) : Fw l D ad kA mX0_takeBell 77 [none, none] [] M Q := by
  refine r_goto (tgt := 116) dX0_takeBell_77 (by decide) ?_
  exact r_vret dX0_takeBell_116 rfl K1
theorem t_X0_takeBell_53  
    (K1 : Q (.returned none) M) : Fw l D ad kA mX0_takeBell 53 [none, none] [] M Q := by
  refine r_goto (tgt := 116) dX0_takeBell_53 (by decide) ?_
  exact r_vret dX0_takeBell_116 rfl K1
theorem en_X0_takeBell {x1 : Int32} (K : Fw l D ad kA mX0_takeBell 0 [some (.ref (ad 3)), some (.int x1)] [] M Q) : Cal l D ad kA mX0_takeBell [.ref (ad 3), .int x1] M Q := Cal.of (by decide) rfl rfl (Nat.le_of_ble_eq_true rfl) K
theorem t_X0_takeLength_0  
    (K1 : Cal l D ad kA mX0_goOnIf [.ref (ad 3), .int (if (gI M 1 1) = 2 then 1 else 0), .int 5] M (fun oc M2 => oc = .returned none ∧ Fw l D ad kA mX0_takeLength 21 [some (.ref (ad 3))] [] M2 Q)) : Fw l D ad kA mX0_takeLength 0 [some (.ref (ad 3))] [] M Q := by
  refine r_aload_n dX0_takeLength_0 rfl ?_
  refine r_aload_n dX0_takeLength_1 rfl ?_
  refine r_getR dX0_takeLength_2 fs_3_0 fk_X0_18 ?_
  refine r_getI dX0_takeLength_5 fs_1_1 fk_X0_43 ?_
  refine r_iconst (v := 2) dX0_takeLength_8 kI_2 ?_
  suffices hJ1 : Fw l D ad kA mX0_takeLength 17 [some (.ref (ad 3))] [.int (if (gI M 1 1) = 2 then 1 else 0), .ref (ad 3)] M Q by
    refine r_icmp_ne (tgt := 16) dX0_takeLength_9 (by decide) (fun c1 => ?_) (fun c1 => ?_)
    · skip
      refine r_iconst (v := 0) dX0_takeLength_16 kI_0 ?_
      exact q_weak (lo' := [some (.ref (ad 3))]) ⟨rfl, trivial⟩ (by have h9 := hJ1; simp only [if_neg c1] at h9; first | exact h9 | (simp only [if_neg c1]; exact h9))
    · skip
      refine r_iconst (v := 1) dX0_takeLength_12 kI_1 ?_
      refine r_goto (tgt := 17) dX0_takeLength_13 (by decide) ?_
      exact q_weak (lo' := [some (.ref (ad 3))]) ⟨rfl, trivial⟩ (by have h9 := hJ1; simp only [if_pos c1] at h9; first | exact h9 | (simp only [if_pos c1]; exact h9))
  refine r_iconst (v := 5) dX0_takeLength_17 kI_5 ?_
  exact r_callV (x := 3) (As := [.int (if (gI M 1 1) = 2 then 1 else 0), .int 5]) (rest := []) dX0_takeLength_18 mk_X0_56 mv_X0_goOnIf rm_X0_takeLength_X0_goOnIf rfl rfl (by decide +kernel) (Nat.le_of_ble_eq_true rfl) (cal_v (lo' := [some (.ref (ad 3))]) ⟨rfl, trivial⟩ K1)
theorem t_X0_takeLength_21  
    (g1 : ((gI M 1 3) = 0) → (¬ ((gI M 1 2) < 1)) → ((gI M 1 2) ≤ 16) → vp_in (gI M 3 4) 160)
    (K1 : ((gI M 1 3) = 0) → ((gI M 1 2) < 1) → Cal l D ad kA mX10_refuse [.ref (ad 1), .int 2] M (fun oc M2 => oc = .returned none ∧ Fw l D ad kA mX0_takeLength 63 [none] [] M2 Q))
    (K2 : ((gI M 1 3) = 0) → (¬ ((gI M 1 2) < 1)) → ((gI M 1 2) ≤ 16) → Q (.returned none) (sI M 7 (gI M 3 4).toNatClampNeg (gI M 1 2)))
    (K3 : ((gI M 1 3) = 0) → (¬ ((gI M 1 2) < 1)) → (¬ ((gI M 1 2) ≤ 16)) → Cal l D ad kA mX10_refuse [.ref (ad 1), .int 2] M (fun oc M2 => oc = .returned none ∧ Fw l D ad kA mX0_takeLength 63 [none] [] M2 Q))
    (K4 : (¬ ((gI M 1 3) = 0)) → Q (.returned none) M) : Fw l D ad kA mX0_takeLength 21 [some (.ref (ad 3))] [] M Q := by
  refine r_aload_n dX0_takeLength_21 rfl ?_
  refine r_getR dX0_takeLength_22 fs_3_0 fk_X0_18 ?_
  refine r_getI dX0_takeLength_25 fs_1_3 fk_X0_37 ?_
  refine r_if_eq (tgt := 32) dX0_takeLength_28 (by decide) (fun c1 => ?_) (fun c1 => ?_)
  · skip
    refine r_aload_n dX0_takeLength_32 rfl ?_
    refine r_getR dX0_takeLength_33 fs_3_0 fk_X0_18 ?_
    refine r_getI dX0_takeLength_36 fs_1_2 fk_X0_76 ?_
    refine r_iconst (v := 1) dX0_takeLength_39 kI_1 ?_
    refine r_icmp_lt (tgt := 55) dX0_takeLength_40 (by decide) (fun c2 => ?_) (fun c2 => ?_)
    · skip
      refine r_aload_n dX0_takeLength_55 rfl ?_
      refine r_getR dX0_takeLength_56 fs_3_0 fk_X0_18 ?_
      refine r_iconst (v := 2) dX0_takeLength_59 kI_2 ?_
      exact r_callV (x := 1) (As := [.int 2]) (rest := []) dX0_takeLength_60 mk_X0_72 mv_X10_refuse rm_X0_takeLength_X10_refuse rfl rfl (by decide +kernel) (Nat.le_of_ble_eq_true rfl) (cal_v (lo' := [none]) trivial (K1 c1 c2))
    · skip
      refine r_aload_n dX0_takeLength_43 rfl ?_
      refine r_getR dX0_takeLength_44 fs_3_0 fk_X0_18 ?_
      refine r_getI dX0_takeLength_47 fs_1_2 fk_X0_76 ?_
      refine r_bipush (v := 16) dX0_takeLength_50 kB_16 ?_
      refine r_icmp_le (tgt := 64) dX0_takeLength_52 (by decide) (fun c3 => ?_) (fun c3 => ?_)
      · skip
        refine r_aload_n dX0_takeLength_64 rfl ?_
        refine r_getR dX0_takeLength_65 fs_3_1 fk_X0_12 ?_
        refine r_getR dX0_takeLength_68 fs_4_2 fk_X0_94 ?_
        refine r_aload_n dX0_takeLength_71 rfl ?_
        refine r_getI dX0_takeLength_72 fs_3_4 fk_X0_91 ?_
        refine r_aload_n dX0_takeLength_75 rfl ?_
        refine r_getR dX0_takeLength_76 fs_3_0 fk_X0_18 ?_
        refine r_getI dX0_takeLength_79 fs_1_2 fk_X0_76 ?_
        refine r_iast dX0_takeLength_82 as_7 (g1 c1 c2 c3) ?_
        exact r_vret dX0_takeLength_83 rfl (K2 c1 c2 c3)
      · skip
        refine r_aload_n dX0_takeLength_55 rfl ?_
        refine r_getR dX0_takeLength_56 fs_3_0 fk_X0_18 ?_
        refine r_iconst (v := 2) dX0_takeLength_59 kI_2 ?_
        exact r_callV (x := 1) (As := [.int 2]) (rest := []) dX0_takeLength_60 mk_X0_72 mv_X10_refuse rm_X0_takeLength_X10_refuse rfl rfl (by decide +kernel) (Nat.le_of_ble_eq_true rfl) (cal_v (lo' := [none]) trivial (K3 c1 c2 c3))
  · skip
    exact r_vret dX0_takeLength_31 rfl (K4 c1)
theorem t_X0_takeLength_63  
    (K1 : Q (.returned none) M) : Fw l D ad kA mX0_takeLength 63 [none] [] M Q := by
  exact r_vret dX0_takeLength_63 rfl K1
theorem en_X0_takeLength  (K : Fw l D ad kA mX0_takeLength 0 [some (.ref (ad 3))] [] M Q) : Cal l D ad kA mX0_takeLength [.ref (ad 3)] M Q := Cal.of (by decide) rfl rfl (Nat.le_of_ble_eq_true rfl) K
theorem t_X0_takeWord_0  
    (K1 : (¬ ((gI M 3 2) = 3)) → ((if (gI M 3 2) = 3 then 1 else if (gI M 3 2) = 5 then 1 else 0 : Int32) = 0) → Cal l D ad kA mX10_refuse [.ref (ad 1), .int 1] M (fun oc M2 => oc = .returned none ∧ Fw l D ad kA mX0_takeWord 134 [none, none] [] M2 Q))
    (K2 : (¬ ((gI M 3 2) = 3)) → (¬ ((if (gI M 3 2) = 3 then 1 else if (gI M 3 2) = 5 then 1 else 0 : Int32) = 0)) → Cal l D ad kA mX10_isWord [.ref (ad 1), .ref (ad (210 + 2))] M (fun oc M2 => ∃ r : Int32, oc = .returned (some (.int r)) ∧ Fw l D ad kA mX0_takeWord 63 [some (.ref (ad 3)), some (.int (if (gI M 3 2) = 3 then 1 else if (gI M 3 2) = 5 then 1 else 0))] [.int r] M2 Q))
    (K3 : ((gI M 3 2) = 3) → Cal l D ad kA mX10_isWord [.ref (ad 1), .ref (ad (210 + 1))] M (fun oc M2 => ∃ r : Int32, oc = .returned (some (.int r)) ∧ Fw l D ad kA mX0_takeWord 39 [some (.ref (ad 3)), some (.int (if (gI M 3 2) = 3 then 1 else if (gI M 3 2) = 5 then 1 else 0))] [.int r] M2 Q)) : Fw l D ad kA mX0_takeWord 0 [some (.ref (ad 3)), none] [] M Q := by
  refine r_aload_n dX0_takeWord_0 rfl ?_
  refine r_getI dX0_takeWord_1 fs_3_2 fk_X0_31 ?_
  refine r_iconst (v := 3) dX0_takeWord_4 kI_3 ?_
  suffices hJ1 : Fw l D ad kA mX0_takeWord 21 [some (.ref (ad 3)), none] [.int (if (gI M 3 2) = 3 then 1 else if (gI M 3 2) = 5 then 1 else 0)] M Q by
    refine r_icmp_eq (tgt := 16) dX0_takeWord_5 (by decide) (fun c1 => ?_) (fun c1 => ?_)
    · skip
      refine r_iconst (v := 1) dX0_takeWord_16 kI_1 ?_
      refine r_goto (tgt := 21) dX0_takeWord_17 (by decide) ?_
      exact q_weak (lo' := [some (.ref (ad 3)), none]) ⟨rfl, trivial⟩ (by have h9 := hJ1; simp only [if_pos c1] at h9; first | exact h9 | (simp only [if_pos c1]; exact h9))
    · skip
      refine r_aload_n dX0_takeWord_8 rfl ?_
      refine r_getI dX0_takeWord_9 fs_3_2 fk_X0_31 ?_
      refine r_iconst (v := 5) dX0_takeWord_12 kI_5 ?_
      refine r_icmp_ne (tgt := 20) dX0_takeWord_13 (by decide) (fun c2 => ?_) (fun c2 => ?_)
      · skip
        refine r_iconst (v := 0) dX0_takeWord_20 kI_0 ?_
        exact q_weak (lo' := [some (.ref (ad 3)), none]) ⟨rfl, trivial⟩ (by have h9 := hJ1; simp only [if_neg c1, if_neg c2] at h9; first | exact h9 | (simp only [if_neg c1, if_neg c2]; exact h9))
      · skip
        refine r_iconst (v := 1) dX0_takeWord_16 kI_1 ?_
        refine r_goto (tgt := 21) dX0_takeWord_17 (by decide) ?_
        exact q_weak (lo' := [some (.ref (ad 3)), none]) ⟨rfl, trivial⟩ (by have h9 := hJ1; simp only [if_neg c1, if_pos c2] at h9; first | exact h9 | (simp only [if_neg c1, if_pos c2]; exact h9))
  refine q_istore_n (lo' := [some (.ref (ad 3)), some (.int (if (gI M 3 2) = 3 then 1 else if (gI M 3 2) = 5 then 1 else 0))]) dX0_takeWord_21 (by decide) rfl ?_
  refine r_aload_n dX0_takeWord_22 rfl ?_
  refine r_getI dX0_takeWord_23 fs_3_2 fk_X0_31 ?_
  refine r_iconst (v := 3) dX0_takeWord_26 kI_3 ?_
  refine r_icmp_ne (tgt := 50) dX0_takeWord_27 (by decide) (fun c3 => ?_) (fun c3 => ?_)
  · skip
    refine r_iload_n dX0_takeWord_50 rfl ?_
    refine r_if_eq (tgt := 88) dX0_takeWord_51 (by decide) (fun c4 => ?_) (fun c4 => ?_)
    · skip
      refine r_iload_n dX0_takeWord_88 rfl ?_
      refine r_if_eq (tgt := 126) dX0_takeWord_89 (by decide) (fun _ => ?_) (fun q => absurd c4 q)
      refine r_aload_n dX0_takeWord_126 rfl ?_
      refine r_getR dX0_takeWord_127 fs_3_0 fk_X0_18 ?_
      refine r_iconst (v := 1) dX0_takeWord_130 kI_1 ?_
      exact r_callV (x := 1) (As := [.int 1]) (rest := []) dX0_takeWord_131 mk_X0_72 mv_X10_refuse rm_X0_takeWord_X10_refuse rfl rfl (by decide +kernel) (Nat.le_of_ble_eq_true rfl) (cal_v (lo' := [none, none]) trivial (K1 c3 c4))
    · skip
      refine r_aload_n dX0_takeWord_54 rfl ?_
      refine r_getR dX0_takeWord_55 fs_3_0 fk_X0_18 ?_
      refine r_ldcS (i := 2) dX0_takeWord_58 (by decide) rfl ?_
      exact r_callV (x := 1) (As := [.ref (ad (210 + 2))]) (rest := []) dX0_takeWord_60 mk_X0_52 mv_X10_isWord rm_X0_takeWord_X10_isWord rfl rfl (by decide +kernel) (Nat.le_of_ble_eq_true rfl) (cal_i (lo' := [some (.ref (ad 3)), some (.int (if (gI M 3 2) = 3 then 1 else if (gI M 3 2) = 5 then 1 else 0))]) ⟨rfl, rfl, trivial⟩ (K2 c3 c4))
  · skip
    refine r_aload_n dX0_takeWord_30 rfl ?_
    refine r_getR dX0_takeWord_31 fs_3_0 fk_X0_18 ?_
    refine r_ldcS (i := 1) dX0_takeWord_34 (by decide) rfl ?_
    exact r_callV (x := 1) (As := [.ref (ad (210 + 1))]) (rest := []) dX0_takeWord_36 mk_X0_52 mv_X10_isWord rm_X0_takeWord_X10_isWord rfl rfl (by decide +kernel) (Nat.le_of_ble_eq_true rfl) (cal_i (lo' := [some (.ref (ad 3)), some (.int (if (gI M 3 2) = 3 then 1 else if (gI M 3 2) = 5 then 1 else 0))]) ⟨rfl, rfl, trivial⟩ (K3 c3))
theorem t_X0_takeWord_134  
    (K1 : Q (.returned none) M) : Fw l D ad kA mX0_takeWord 134 [none, none] [] M Q := by
  exact r_vret dX0_takeWord_134 rfl K1
theorem t_X0_takeWord_63 {x1 : Int32} {s1 : Int32} 
    (g1 : (¬ (s1 = 0)) → vp_in (gI M 3 4) 160)
    (K1 : (s1 = 0) → (x1 = 0) → Cal l D ad kA mX10_refuse [.ref (ad 1), .int 1] M (fun oc M2 => oc = .returned none ∧ Fw l D ad kA mX0_takeWord 134 [none, none] [] M2 Q))
    (K2 : (s1 = 0) → (¬ (x1 = 0)) → Cal l D ad kA mX10_isWord [.ref (ad 1), .ref (ad (210 + 3))] M (fun oc M2 => ∃ r : Int32, oc = .returned (some (.int r)) ∧ Fw l D ad kA mX0_takeWord 101 [some (.ref (ad 3)), none] [.int r] M2 Q))
    (K3 : (¬ (s1 = 0)) → Q (.returned none) (sI (sI M 8 (gI M 3 4).toNatClampNeg 1) 3 2 6)) : Fw l D ad kA mX0_takeWord 63 [some (.ref (ad 3)), some (.int x1)] [.int s1] M Q := by
  refine r_if_eq (tgt := 88) dX0_takeWord_63 (by decide) (fun c1 => ?_) (fun c1 => ?_)
  · skip
    refine r_iload_n dX0_takeWord_88 rfl ?_
    refine r_if_eq (tgt := 126) dX0_takeWord_89 (by decide) (fun c2 => ?_) (fun c2 => ?_)
    · skip
      refine r_aload_n dX0_takeWord_126 rfl ?_
      refine r_getR dX0_takeWord_127 fs_3_0 fk_X0_18 ?_
      refine r_iconst (v := 1) dX0_takeWord_130 kI_1 ?_
      exact r_callV (x := 1) (As := [.int 1]) (rest := []) dX0_takeWord_131 mk_X0_72 mv_X10_refuse rm_X0_takeWord_X10_refuse rfl rfl (by decide +kernel) (Nat.le_of_ble_eq_true rfl) (cal_v (lo' := [none, none]) trivial (K1 c1 c2))
    · skip
      refine r_aload_n dX0_takeWord_92 rfl ?_
      refine r_getR dX0_takeWord_93 fs_3_0 fk_X0_18 ?_
      refine r_ldcS (i := 3) dX0_takeWord_96 (by decide) rfl ?_
      exact r_callV (x := 1) (As := [.ref (ad (210 + 3))]) (rest := []) dX0_takeWord_98 mk_X0_52 mv_X10_isWord rm_X0_takeWord_X10_isWord rfl rfl (by decide +kernel) (Nat.le_of_ble_eq_true rfl) (cal_i (lo' := [some (.ref (ad 3)), none]) ⟨rfl, trivial⟩ (K2 c1 c2))
  · skip
    refine r_aload_n dX0_takeWord_66 rfl ?_
    refine r_getR dX0_takeWord_67 fs_3_1 fk_X0_12 ?_
    refine r_getR dX0_takeWord_70 fs_4_3 fk_X0_102 ?_
    refine r_aload_n dX0_takeWord_73 rfl ?_
    refine r_getI dX0_takeWord_74 fs_3_4 fk_X0_91 ?_
    refine r_iconst (v := 1) dX0_takeWord_77 kI_1 ?_
    refine r_iast dX0_takeWord_78 as_8 (g1 c1) ?_
    refine r_aload_n dX0_takeWord_79 rfl ?_
    refine r_bipush (v := 6) dX0_takeWord_80 kB_6 ?_
    refine r_putI dX0_takeWord_82 fs_3_2 fk_X0_31 fp_X0_2 ?_
    refine r_goto (tgt := 134) dX0_takeWord_85 (by decide) ?_
    exact r_vret dX0_takeWord_134 rfl (K3 c1)
theorem t_X0_takeWord_39 {x1 : Int32} {s1 : Int32} 
    (K1 : (s1 = 0) → (x1 = 0) → Cal l D ad kA mX10_refuse [.ref (ad 1), .int 1] M (fun oc M2 => oc = .returned none ∧ Fw l D ad kA mX0_takeWord 134 [none, none] [] M2 Q))
    (K2 : (s1 = 0) → (¬ (x1 = 0)) → Cal l D ad kA mX10_isWord [.ref (ad 1), .ref (ad (210 + 2))] M (fun oc M2 => ∃ r : Int32, oc = .returned (some (.int r)) ∧ Fw l D ad kA mX0_takeWord 63 [some (.ref (ad 3)), some (.int x1)] [.int r] M2 Q))
    (K3 : (¬ (s1 = 0)) → Q (.returned none) (sI M 3 2 4)) : Fw l D ad kA mX0_takeWord 39 [some (.ref (ad 3)), some (.int x1)] [.int s1] M Q := by
  refine r_if_eq (tgt := 50) dX0_takeWord_39 (by decide) (fun c1 => ?_) (fun c1 => ?_)
  · skip
    refine r_iload_n dX0_takeWord_50 rfl ?_
    refine r_if_eq (tgt := 88) dX0_takeWord_51 (by decide) (fun c2 => ?_) (fun c2 => ?_)
    · skip
      refine r_iload_n dX0_takeWord_88 rfl ?_
      refine r_if_eq (tgt := 126) dX0_takeWord_89 (by decide) (fun _ => ?_) (fun q => absurd c2 q)
      refine r_aload_n dX0_takeWord_126 rfl ?_
      refine r_getR dX0_takeWord_127 fs_3_0 fk_X0_18 ?_
      refine r_iconst (v := 1) dX0_takeWord_130 kI_1 ?_
      exact r_callV (x := 1) (As := [.int 1]) (rest := []) dX0_takeWord_131 mk_X0_72 mv_X10_refuse rm_X0_takeWord_X10_refuse rfl rfl (by decide +kernel) (Nat.le_of_ble_eq_true rfl) (cal_v (lo' := [none, none]) trivial (K1 c1 c2))
    · skip
      refine r_aload_n dX0_takeWord_54 rfl ?_
      refine r_getR dX0_takeWord_55 fs_3_0 fk_X0_18 ?_
      refine r_ldcS (i := 2) dX0_takeWord_58 (by decide) rfl ?_
      exact r_callV (x := 1) (As := [.ref (ad (210 + 2))]) (rest := []) dX0_takeWord_60 mk_X0_52 mv_X10_isWord rm_X0_takeWord_X10_isWord rfl rfl (by decide +kernel) (Nat.le_of_ble_eq_true rfl) (cal_i (lo' := [some (.ref (ad 3)), some (.int x1)]) ⟨rfl, rfl, trivial⟩ (K2 c1 c2))
  · skip
    refine r_aload_n dX0_takeWord_42 rfl ?_
    refine r_iconst (v := 4) dX0_takeWord_43 kI_4 ?_
    refine r_putI dX0_takeWord_44 fs_3_2 fk_X0_31 fp_X0_2 ?_
    refine r_goto (tgt := 134) dX0_takeWord_47 (by decide) ?_
    exact r_vret dX0_takeWord_134 rfl (K3 c1)
theorem t_X0_takeWord_101 {s1 : Int32} 
    (g1 : (¬ (s1 = 0)) → vp_in (gI M 3 4) 160)
    (K1 : (s1 = 0) → Cal l D ad kA mX10_refuse [.ref (ad 1), .int 1] M (fun oc M2 => oc = .returned none ∧ Fw l D ad kA mX0_takeWord 134 [none, none] [] M2 Q))
    (K2 : (¬ (s1 = 0)) → Q (.returned none) (sI (sI M 8 (gI M 3 4).toNatClampNeg 2) 3 2 6)) : Fw l D ad kA mX0_takeWord 101 [some (.ref (ad 3)), none] [.int s1] M Q := by
  refine r_if_eq (tgt := 126) dX0_takeWord_101 (by decide) (fun c1 => ?_) (fun c1 => ?_)
  · skip
    refine r_aload_n dX0_takeWord_126 rfl ?_
    refine r_getR dX0_takeWord_127 fs_3_0 fk_X0_18 ?_
    refine r_iconst (v := 1) dX0_takeWord_130 kI_1 ?_
    exact r_callV (x := 1) (As := [.int 1]) (rest := []) dX0_takeWord_131 mk_X0_72 mv_X10_refuse rm_X0_takeWord_X10_refuse rfl rfl (by decide +kernel) (Nat.le_of_ble_eq_true rfl) (cal_v (lo' := [none, none]) trivial (K1 c1))
  · skip
    refine r_aload_n dX0_takeWord_104 rfl ?_
    refine r_getR dX0_takeWord_105 fs_3_1 fk_X0_12 ?_
    refine r_getR dX0_takeWord_108 fs_4_3 fk_X0_102 ?_
    refine r_aload_n dX0_takeWord_111 rfl ?_
    refine r_getI dX0_takeWord_112 fs_3_4 fk_X0_91 ?_
    refine r_iconst (v := 2) dX0_takeWord_115 kI_2 ?_
    refine r_iast dX0_takeWord_116 as_8 (g1 c1) ?_
    refine r_aload_n dX0_takeWord_117 rfl ?_
    refine r_bipush (v := 6) dX0_takeWord_118 kB_6 ?_
    refine r_putI dX0_takeWord_120 fs_3_2 fk_X0_31 fp_X0_2 ?_
    refine r_goto (tgt := 134) dX0_takeWord_123 (by decide) ?_
    exact r_vret dX0_takeWord_134 rfl (K2 c1)
theorem en_X0_takeWord  (K : Fw l D ad kA mX0_takeWord 0 [some (.ref (ad 3)), none] [] M Q) : Cal l D ad kA mX0_takeWord [.ref (ad 3)] M Q := Cal.of (by decide) rfl rfl (Nat.le_of_ble_eq_true rfl) K
theorem t_X0_take_0 {x1 : Int32} 
    (K1 : (¬ ((gI M 3 2) = 0)) → (¬ ((gI M 3 2) = 1)) → (¬ ((gI M 3 2) = 4)) → (¬ ((gI M 1 1) = 2)) → (¬ ((gI M 1 1) = 3)) → Cal l D ad kA mX0_takeWord [.ref (ad 3)] M (fun oc M2 => oc = .returned none ∧ Fw l D ad kA mX0_take 109 [none, none] [] M2 Q))
    (K2 : (¬ ((gI M 3 2) = 0)) → (¬ ((gI M 3 2) = 1)) → (¬ ((gI M 3 2) = 4)) → (¬ ((gI M 1 1) = 2)) → ((gI M 1 1) = 3) → Cal l D ad kA mX0_goOnIf [.ref (ad 3), .int (if (gI M 3 2) = 2 then 0 else 1), .int 0] M (fun oc M2 => oc = .returned none ∧ Fw l D ad kA mX0_take 102 [none, none] [] M2 Q))
    (K3 : (¬ ((gI M 3 2) = 0)) → (¬ ((gI M 3 2) = 1)) → (¬ ((gI M 3 2) = 4)) → ((gI M 1 1) = 2) → Cal l D ad kA mX0_takeBell [.ref (ad 3), .int x1] M (fun oc M2 => oc = .returned none ∧ Fw l D ad kA mX0_take 70 [none, none] [] M2 Q))
    (K4 : (¬ ((gI M 3 2) = 0)) → (¬ ((gI M 3 2) = 1)) → ((gI M 3 2) = 4) → Cal l D ad kA mX0_takeLength [.ref (ad 3)] M (fun oc M2 => oc = .returned none ∧ Fw l D ad kA mX0_take 51 [none, none] [] M2 Q))
    (K5 : (¬ ((gI M 3 2) = 0)) → ((gI M 3 2) = 1) → Cal l D ad kA mX0_takeBeat [.ref (ad 3)] M (fun oc M2 => oc = .returned none ∧ Fw l D ad kA mX0_take 36 [none, none] [] M2 Q))
    (K6 : ((gI M 3 2) = 0) → Cal l D ad kA mX10_isWord [.ref (ad 1), .ref (ad (210 + 0))] M (fun oc M2 => ∃ r : Int32, oc = .returned (some (.int r)) ∧ Fw l D ad kA mX0_take 17 [none, none] [.int r, .ref (ad 3)] M2 Q)) : Fw l D ad kA mX0_take 0 [some (.ref (ad 3)), some (.int x1)] [] M Q := by
  refine r_aload_n dX0_take_0 rfl ?_
  refine r_getI dX0_take_1 fs_3_2 fk_X0_31 ?_
  refine r_if_ne (tgt := 24) dX0_take_4 (by decide) (fun c1 => ?_) (fun c1 => ?_)
  · skip
    refine r_aload_n dX0_take_24 rfl ?_
    refine r_getI dX0_take_25 fs_3_2 fk_X0_31 ?_
    refine r_iconst (v := 1) dX0_take_28 kI_1 ?_
    refine r_icmp_ne (tgt := 39) dX0_take_29 (by decide) (fun c2 => ?_) (fun c2 => ?_)
    · skip
      refine r_aload_n dX0_take_39 rfl ?_
      refine r_getI dX0_take_40 fs_3_2 fk_X0_31 ?_
      refine r_iconst (v := 4) dX0_take_43 kI_4 ?_
      refine r_icmp_ne (tgt := 54) dX0_take_44 (by decide) (fun c3 => ?_) (fun c3 => ?_)
      · skip
        refine r_aload_n dX0_take_54 rfl ?_
        refine r_getR dX0_take_55 fs_3_0 fk_X0_18 ?_
        refine r_getI dX0_take_58 fs_1_1 fk_X0_43 ?_
        refine r_iconst (v := 2) dX0_take_61 kI_2 ?_
        refine r_icmp_ne (tgt := 73) dX0_take_62 (by decide) (fun c4 => ?_) (fun c4 => ?_)
        · skip
          refine r_aload_n dX0_take_73 rfl ?_
          refine r_getR dX0_take_74 fs_3_0 fk_X0_18 ?_
          refine r_getI dX0_take_77 fs_1_1 fk_X0_43 ?_
          refine r_iconst (v := 3) dX0_take_80 kI_3 ?_
          refine r_icmp_ne (tgt := 105) dX0_take_81 (by decide) (fun c5 => ?_) (fun c5 => ?_)
          · skip
            refine r_aload_n dX0_take_105 rfl ?_
            exact r_callV (x := 3) (As := []) (rest := []) dX0_take_106 mk_X0_69 mv_X0_takeWord rm_X0_take_X0_takeWord rfl rfl (by decide +kernel) (Nat.le_of_ble_eq_true rfl) (cal_v (lo' := [none, none]) trivial (K1 c1 c2 c3 c4 c5))
          · skip
            refine r_aload_n dX0_take_84 rfl ?_
            refine r_aload_n dX0_take_85 rfl ?_
            refine r_getI dX0_take_86 fs_3_2 fk_X0_31 ?_
            refine r_iconst (v := 2) dX0_take_89 kI_2 ?_
            suffices hJ1 : Fw l D ad kA mX0_take 98 [none, none] [.int (if (gI M 3 2) = 2 then 0 else 1), .ref (ad 3)] M Q by
              refine r_icmp_eq (tgt := 97) dX0_take_90 (by decide) (fun c6 => ?_) (fun c6 => ?_)
              · skip
                refine r_iconst (v := 0) dX0_take_97 kI_0 ?_
                exact q_weak (lo' := [none, none]) trivial (by have h9 := hJ1; simp only [if_pos c6] at h9; first | exact h9 | (simp only [if_pos c6]; exact h9))
              · skip
                refine r_iconst (v := 1) dX0_take_93 kI_1 ?_
                refine r_goto (tgt := 98) dX0_take_94 (by decide) ?_
                exact q_weak (lo' := [none, none]) trivial (by have h9 := hJ1; simp only [if_neg c6] at h9; first | exact h9 | (simp only [if_neg c6]; exact h9))
            refine r_iconst (v := 0) dX0_take_98 kI_0 ?_
            exact r_callV (x := 3) (As := [.int (if (gI M 3 2) = 2 then 0 else 1), .int 0]) (rest := []) dX0_take_99 mk_X0_56 mv_X0_goOnIf rm_X0_take_X0_goOnIf rfl rfl (by decide +kernel) (Nat.le_of_ble_eq_true rfl) (cal_v (lo' := [none, none]) trivial (K2 c1 c2 c3 c4 c5))
        · skip
          refine r_aload_n dX0_take_65 rfl ?_
          refine r_iload_n dX0_take_66 rfl ?_
          exact r_callV (x := 3) (As := [.int x1]) (rest := []) dX0_take_67 mk_X0_66 mv_X0_takeBell rm_X0_take_X0_takeBell rfl rfl (by decide +kernel) (Nat.le_of_ble_eq_true rfl) (cal_v (lo' := [none, none]) trivial (K3 c1 c2 c3 c4))
      · skip
        refine r_aload_n dX0_take_47 rfl ?_
        exact r_callV (x := 3) (As := []) (rest := []) dX0_take_48 mk_X0_63 mv_X0_takeLength rm_X0_take_X0_takeLength rfl rfl (by decide +kernel) (Nat.le_of_ble_eq_true rfl) (cal_v (lo' := [none, none]) trivial (K4 c1 c2 c3))
    · skip
      refine r_aload_n dX0_take_32 rfl ?_
      exact r_callV (x := 3) (As := []) (rest := []) dX0_take_33 mk_X0_60 mv_X0_takeBeat rm_X0_take_X0_takeBeat rfl rfl (by decide +kernel) (Nat.le_of_ble_eq_true rfl) (cal_v (lo' := [none, none]) trivial (K5 c1 c2))
  · skip
    refine r_aload_n dX0_take_7 rfl ?_
    refine r_aload_n dX0_take_8 rfl ?_
    refine r_getR dX0_take_9 fs_3_0 fk_X0_18 ?_
    refine r_ldcS (i := 0) dX0_take_12 (by decide) rfl ?_
    exact r_callV (x := 1) (As := [.ref (ad (210 + 0))]) (rest := [.ref (ad 3)]) dX0_take_14 mk_X0_52 mv_X10_isWord rm_X0_take_X10_isWord rfl rfl (by decide +kernel) (Nat.le_of_ble_eq_true rfl) (cal_i (lo' := [none, none]) trivial (K6 c1))
theorem t_X0_take_109  
    (K1 : Q (.returned none) M) : Fw l D ad kA mX0_take 109 [none, none] [] M Q := by
  exact r_vret dX0_take_109 rfl K1
theorem t_X0_take_102  
    (K1 : Q (.returned none) M) : Fw l D ad kA mX0_take 102 [none, none] [] M Q := by
  refine r_goto (tgt := 109) dX0_take_102 (by decide) ?_
  exact r_vret dX0_take_109 rfl K1
theorem t_X0_take_70  
    (K1 : Q (.returned none) M) : Fw l D ad kA mX0_take 70 [none, none] [] M Q := by
  refine r_goto (tgt := 109) dX0_take_70 (by decide) ?_
  exact r_vret dX0_take_109 rfl K1
theorem t_X0_take_51  
    (K1 : Q (.returned none) M) : Fw l D ad kA mX0_take 51 [none, none] [] M Q := by
  refine r_goto (tgt := 109) dX0_take_51 (by decide) ?_
  exact r_vret dX0_take_109 rfl K1
theorem t_X0_take_36  
    (K1 : Q (.returned none) M) : Fw l D ad kA mX0_take 36 [none, none] [] M Q := by
  refine r_goto (tgt := 109) dX0_take_36 (by decide) ?_
  exact r_vret dX0_take_109 rfl K1
theorem t_X0_take_17 {s2 : Int32} 
    (K1 : Cal l D ad kA mX0_goOnIf [.ref (ad 3), .int s2, .int 1] M (fun oc M2 => oc = .returned none ∧ Fw l D ad kA mX0_take 21 [none, none] [] M2 Q)) : Fw l D ad kA mX0_take 17 [none, none] [.int s2, .ref (ad 3)] M Q := by
  refine r_iconst (v := 1) dX0_take_17 kI_1 ?_
  exact r_callV (x := 3) (As := [.int s2, .int 1]) (rest := []) dX0_take_18 mk_X0_56 mv_X0_goOnIf rm_X0_take_X0_goOnIf rfl rfl (by decide +kernel) (Nat.le_of_ble_eq_true rfl) (cal_v (lo' := [none, none]) trivial K1)
theorem t_X0_take_21  
    (K1 : Q (.returned none) M) : Fw l D ad kA mX0_take 21 [none, none] [] M Q := by
  refine r_goto (tgt := 109) dX0_take_21 (by decide) ?_
  exact r_vret dX0_take_109 rfl K1
theorem en_X0_take {x1 : Int32} (K : Fw l D ad kA mX0_take 0 [some (.ref (ad 3)), some (.int x1)] [] M Q) : Cal l D ad kA mX0_take [.ref (ad 3), .int x1] M Q := Cal.of (by decide) rfl rfl (Nat.le_of_ble_eq_true rfl) K
theorem t_X0_readAll_0 {x1 : Int32} 
    (K1 : Cal l D ad kA mX10_start [.ref (ad 1)] M (fun oc M2 => oc = .returned none ∧ Fw l D ad kA mX0_readAll 7 [some (.ref (ad 3)), some (.int x1), none, none] [] M2 Q)) : Fw l D ad kA mX0_readAll 0 [some (.ref (ad 3)), some (.int x1), none, none] [] M Q := by
  refine r_aload_n dX0_readAll_0 rfl ?_
  refine r_getR dX0_readAll_1 fs_3_0 fk_X0_18 ?_
  exact r_callV (x := 1) (As := []) (rest := []) dX0_readAll_4 mk_X0_22 mv_X10_start rm_X0_readAll_X10_start rfl rfl (by decide +kernel) (Nat.le_of_ble_eq_true rfl) (cal_v (lo' := [some (.ref (ad 3)), some (.int x1), none, none]) ⟨rfl, rfl, trivial⟩ K1)
theorem t_X0_readAll_7 {x1 : Int32} 
    (K1 : Fw l D ad kA mX0_readAll 29 [some (.ref (ad 3)), some (.int x1), some (.int 0), some (.int 0)] [] (sI (sI (sI M 4 4 0) 3 2 0) 3 3 0) Q) : Fw l D ad kA mX0_readAll 7 [some (.ref (ad 3)), some (.int x1), none, none] [] M Q := by
  refine r_aload_n dX0_readAll_7 rfl ?_
  refine r_getR dX0_readAll_8 fs_3_1 fk_X0_12 ?_
  refine r_iconst (v := 0) dX0_readAll_11 kI_0 ?_
  refine r_putI dX0_readAll_12 fs_4_4 fk_X0_27 fp_X9_4 ?_
  refine r_aload_n dX0_readAll_15 rfl ?_
  refine r_iconst (v := 0) dX0_readAll_16 kI_0 ?_
  refine r_putI dX0_readAll_17 fs_3_2 fk_X0_31 fp_X0_2 ?_
  refine r_aload_n dX0_readAll_20 rfl ?_
  refine r_iconst (v := 0) dX0_readAll_21 kI_0 ?_
  refine r_putI dX0_readAll_22 fs_3_3 fk_X0_34 fp_X0_3 ?_
  refine r_iconst (v := 0) dX0_readAll_25 kI_0 ?_
  refine q_istore_n (lo' := [some (.ref (ad 3)), some (.int x1), some (.int 0), none]) dX0_readAll_26 (by decide) rfl ?_
  refine r_iconst (v := 0) dX0_readAll_27 kI_0 ?_
  refine q_istore_n (lo' := [some (.ref (ad 3)), some (.int x1), some (.int 0), some (.int 0)]) dX0_readAll_28 (by decide) rfl ?_
  exact K1
theorem t_X0_readAll_29 {x1 : Int32} {x2 : Int32} {x3 : Int32} 
    (g1 : (1200 < x3) → x2 = 0 ∨ x2 = 1)
    (g2 : (¬ (1200 < x3)) → (¬ (x2 = 0)) → x2 = 0 ∨ x2 = 1)
    (g3 : (¬ (1200 < x3)) → (x2 = 0) → (¬ ((gI M 1 3) = 0)) → x2 = 0 ∨ x2 = 1)
    (K1 : (1200 < x3) → Q (.returned (some (.int x2))) M)
    (K2 : (¬ (1200 < x3)) → (¬ (x2 = 0)) → Q (.returned (some (.int x2))) M)
    (K3 : (¬ (1200 < x3)) → (x2 = 0) → (¬ ((gI M 1 3) = 0)) → Q (.returned (some (.int x2))) M)
    (K4 : (¬ (1200 < x3)) → (x2 = 0) → ((gI M 1 3) = 0) → Cal l D ad kA mX10_readToken [.ref (ad 1)] M (fun oc M2 => oc = .returned none ∧ Fw l D ad kA mX0_readAll 57 [some (.ref (ad 3)), some (.int x1), none, some (.int x3)] [] M2 Q)) : Fw l D ad kA mX0_readAll 29 [some (.ref (ad 3)), some (.int x1), some (.int x2), some (.int x3)] [] M Q := by
  refine r_iload_n dX0_readAll_29 rfl ?_
  refine r_sipush (v := 1200) dX0_readAll_30 kS_1200 ?_
  refine r_icmp_gt (tgt := 95) dX0_readAll_33 (by decide) (fun c1 => ?_) (fun c1 => ?_)
  · skip
    refine r_iload_n dX0_readAll_95 rfl ?_
    exact r_zret dX0_readAll_96 rfl (nar_z (g1 c1)).1 (K1 c1)
  · skip
    refine r_iload_n dX0_readAll_36 rfl ?_
    refine r_if_ne (tgt := 95) dX0_readAll_37 (by decide) (fun c2 => ?_) (fun c2 => ?_)
    · skip
      refine r_iload_n dX0_readAll_95 rfl ?_
      exact r_zret dX0_readAll_96 rfl (nar_z (g2 c1 c2)).1 (K2 c1 c2)
    · skip
      refine r_aload_n dX0_readAll_40 rfl ?_
      refine r_getR dX0_readAll_41 fs_3_0 fk_X0_18 ?_
      refine r_getI dX0_readAll_44 fs_1_3 fk_X0_37 ?_
      refine r_if_ne (tgt := 95) dX0_readAll_47 (by decide) (fun c3 => ?_) (fun c3 => ?_)
      · skip
        refine r_iload_n dX0_readAll_95 rfl ?_
        exact r_zret dX0_readAll_96 rfl (nar_z (g3 c1 c2 c3)).1 (K3 c1 c2 c3)
      · skip
        refine r_aload_n dX0_readAll_50 rfl ?_
        refine r_getR dX0_readAll_51 fs_3_0 fk_X0_18 ?_
        exact r_callV (x := 1) (As := []) (rest := []) dX0_readAll_54 mk_X0_40 mv_X10_readToken rm_X0_readAll_X10_readToken rfl rfl (by decide +kernel) (Nat.le_of_ble_eq_true rfl) (cal_v (lo' := [some (.ref (ad 3)), some (.int x1), none, some (.int x3)]) ⟨rfl, rfl, rfl, trivial⟩ (K4 c1 c2 c3))
theorem t_X0_readAll_57 {x1 : Int32} {x3 : Int32} 
    (K1 : (¬ ((if (gI M 1 1) = 0 then if (gI M 3 2) = 0 then 1 else 0 else 0 : Int32) = 0)) → Fw l D ad kA mX0_readAll 29 [some (.ref (ad 3)), some (.int x1), some (.int (if (gI M 1 1) = 0 then if (gI M 3 2) = 0 then 1 else 0 else 0)), some (.int (x3 + 1))] [] M Q)
    (K2 : ((if (gI M 1 1) = 0 then if (gI M 3 2) = 0 then 1 else 0 else 0 : Int32) = 0) → Cal l D ad kA mX0_take [.ref (ad 3), .int x1] M (fun oc M2 => oc = .returned none ∧ Fw l D ad kA mX0_readAll 89 [some (.ref (ad 3)), some (.int x1), some (.int (if (gI M 1 1) = 0 then if (gI M 3 2) = 0 then 1 else 0 else 0)), some (.int x3)] [] M2 Q)) : Fw l D ad kA mX0_readAll 57 [some (.ref (ad 3)), some (.int x1), none, some (.int x3)] [] M Q := by
  refine r_aload_n dX0_readAll_57 rfl ?_
  refine r_getR dX0_readAll_58 fs_3_0 fk_X0_18 ?_
  refine r_getI dX0_readAll_61 fs_1_1 fk_X0_43 ?_
  suffices hJ1 : Fw l D ad kA mX0_readAll 79 [some (.ref (ad 3)), some (.int x1), none, some (.int x3)] [.int (if (gI M 1 1) = 0 then if (gI M 3 2) = 0 then 1 else 0 else 0)] M Q by
    refine r_if_ne (tgt := 78) dX0_readAll_64 (by decide) (fun c1 => ?_) (fun c1 => ?_)
    · skip
      refine r_iconst (v := 0) dX0_readAll_78 kI_0 ?_
      exact q_weak (lo' := [some (.ref (ad 3)), some (.int x1), none, some (.int x3)]) ⟨rfl, rfl, rfl, trivial⟩ (by have h9 := hJ1; simp only [if_neg c1] at h9; first | exact h9 | (simp only [if_neg c1]; exact h9))
    · skip
      refine r_aload_n dX0_readAll_67 rfl ?_
      refine r_getI dX0_readAll_68 fs_3_2 fk_X0_31 ?_
      refine r_if_ne (tgt := 78) dX0_readAll_71 (by decide) (fun c2 => ?_) (fun c2 => ?_)
      · skip
        refine r_iconst (v := 0) dX0_readAll_78 kI_0 ?_
        exact q_weak (lo' := [some (.ref (ad 3)), some (.int x1), none, some (.int x3)]) ⟨rfl, rfl, rfl, trivial⟩ (by have h9 := hJ1; simp only [if_pos c1, if_neg c2] at h9; first | exact h9 | (simp only [if_pos c1, if_neg c2]; exact h9))
      · skip
        refine r_iconst (v := 1) dX0_readAll_74 kI_1 ?_
        refine r_goto (tgt := 79) dX0_readAll_75 (by decide) ?_
        exact q_weak (lo' := [some (.ref (ad 3)), some (.int x1), none, some (.int x3)]) ⟨rfl, rfl, rfl, trivial⟩ (by have h9 := hJ1; simp only [if_pos c1, if_pos c2] at h9; first | exact h9 | (simp only [if_pos c1, if_pos c2]; exact h9))
  refine q_istore_n (lo' := [some (.ref (ad 3)), some (.int x1), some (.int (if (gI M 1 1) = 0 then if (gI M 3 2) = 0 then 1 else 0 else 0)), some (.int x3)]) dX0_readAll_79 (by decide) rfl ?_
  refine r_iload_n dX0_readAll_80 rfl ?_
  refine r_if_ne (tgt := 89) dX0_readAll_81 (by decide) (fun c3 => ?_) (fun c3 => ?_)
  · skip
    refine q_iinc (v := x3 + 1) (lo' := [some (.ref (ad 3)), some (.int x1), some (.int (if (gI M 1 1) = 0 then if (gI M 3 2) = 0 then 1 else 0 else 0)), some (.int (x3 + 1))]) dX0_readAll_89 rfl (congrArg (fun q => x3 + q) kI_1) (by decide) rfl ?_
    refine r_goto (tgt := 29) dX0_readAll_92 (by decide) ?_
    exact (K1 c3)
  · skip
    refine r_aload_n dX0_readAll_84 rfl ?_
    refine r_iload_n dX0_readAll_85 rfl ?_
    exact r_callV (x := 3) (As := [.int x1]) (rest := []) dX0_readAll_86 mk_X0_46 mv_X0_take rm_X0_readAll_X0_take rfl rfl (by decide +kernel) (Nat.le_of_ble_eq_true rfl) (cal_v (lo' := [some (.ref (ad 3)), some (.int x1), some (.int (if (gI M 1 1) = 0 then if (gI M 3 2) = 0 then 1 else 0 else 0)), some (.int x3)]) ⟨rfl, rfl, rfl, rfl, trivial⟩ (K2 c3))
theorem t_X0_readAll_89 {x1 : Int32} {x2 : Int32} {x3 : Int32} 
    (K1 : Fw l D ad kA mX0_readAll 29 [some (.ref (ad 3)), some (.int x1), some (.int x2), some (.int (x3 + 1))] [] M Q) : Fw l D ad kA mX0_readAll 89 [some (.ref (ad 3)), some (.int x1), some (.int x2), some (.int x3)] [] M Q := by
  refine q_iinc (v := x3 + 1) (lo' := [some (.ref (ad 3)), some (.int x1), some (.int x2), some (.int (x3 + 1))]) dX0_readAll_89 rfl (congrArg (fun q => x3 + q) kI_1) (by decide) rfl ?_
  refine r_goto (tgt := 29) dX0_readAll_92 (by decide) ?_
  exact K1
theorem en_X0_readAll {x1 : Int32} (K : Fw l D ad kA mX0_readAll 0 [some (.ref (ad 3)), some (.int x1), none, none] [] M Q) : Cal l D ad kA mX0_readAll [.ref (ad 3), .int x1] M Q := Cal.of (by decide) rfl rfl (Nat.le_of_ble_eq_true rfl) K
end W_text
