/-! Sound: decode rows, links, walks from cut to cut (printed by wip/gen) -/
theorem dX8_areNext_0 : decode cX8_areNext 0 = .ok (.aload_n 0, 1) := by decide +kernel
theorem dX8_areNext_1 : decode cX8_areNext 1 = .ok (.getfield 25, 3) := by decide +kernel
theorem dX8_areNext_4 : decode cX8_areNext 4 = .ok (.getfield 35, 3) := by decide +kernel
theorem dX8_areNext_7 : decode cX8_areNext 7 = .ok (.iload_n 1, 1) := by decide +kernel
theorem dX8_areNext_8 : decode cX8_areNext 8 = .ok (.iaload, 1) := by decide +kernel
theorem dX8_areNext_9 : decode cX8_areNext 9 = .ok (.aload_n 0, 1) := by decide +kernel
theorem dX8_areNext_10 : decode cX8_areNext 10 = .ok (.getfield 25, 3) := by decide +kernel
theorem dX8_areNext_13 : decode cX8_areNext 13 = .ok (.getfield 35, 3) := by decide +kernel
theorem dX8_areNext_16 : decode cX8_areNext 16 = .ok (.iload_n 2, 1) := by decide +kernel
theorem dX8_areNext_17 : decode cX8_areNext 17 = .ok (.iaload, 1) := by decide +kernel
theorem dX8_areNext_18 : decode cX8_areNext 18 = .ok (.isub, 1) := by decide +kernel
theorem dX8_areNext_19 : decode cX8_areNext 19 = .ok (.invokestatic 65, 3) := by decide +kernel
theorem dX8_areNext_22 : decode cX8_areNext 22 = .ok (.iconst 1, 1) := by decide +kernel
theorem dX8_areNext_23 : decode cX8_areNext 23 = .ok (.if_icmp .ne 7, 3) := by decide +kernel
theorem dX8_areNext_26 : decode cX8_areNext 26 = .ok (.iconst 1, 1) := by decide +kernel
theorem dX8_areNext_27 : decode cX8_areNext 27 = .ok (.goto 4, 3) := by decide +kernel
theorem dX8_areNext_30 : decode cX8_areNext 30 = .ok (.iconst 0, 1) := by decide +kernel
theorem dX8_areNext_31 : decode cX8_areNext 31 = .ok (.ireturn, 1) := by decide +kernel
theorem dX8_measure_0 : decode cX8_measure 0 = .ok (.iconst 0, 1) := by decide +kernel
theorem dX8_measure_1 : decode cX8_measure 1 = .ok (.istore_n 1, 1) := by decide +kernel
theorem dX8_measure_2 : decode cX8_measure 2 = .ok (.iload_n 1, 1) := by decide +kernel
theorem dX8_measure_3 : decode cX8_measure 3 = .ok (.bipush 48, 2) := by decide +kernel
theorem dX8_measure_5 : decode cX8_measure 5 = .ok (.if_icmp .ge 17, 3) := by decide +kernel
theorem dX8_measure_8 : decode cX8_measure 8 = .ok (.aload_n 0, 1) := by decide +kernel
theorem dX8_measure_9 : decode cX8_measure 9 = .ok (.getfield 22, 3) := by decide +kernel
theorem dX8_measure_12 : decode cX8_measure 12 = .ok (.iload_n 1, 1) := by decide +kernel
theorem dX8_measure_13 : decode cX8_measure 13 = .ok (.ldc 29, 2) := by decide +kernel
theorem dX8_measure_15 : decode cX8_measure 15 = .ok (.iastore, 1) := by decide +kernel
theorem dX8_measure_16 : decode cX8_measure 16 = .ok (.iinc 1 1, 3) := by decide +kernel
theorem dX8_measure_19 : decode cX8_measure 19 = .ok (.goto (-17), 3) := by decide +kernel
theorem dX8_measure_22 : decode cX8_measure 22 = .ok (.aload_n 0, 1) := by decide +kernel
theorem dX8_measure_23 : decode cX8_measure 23 = .ok (.getfield 25, 3) := by decide +kernel
theorem dX8_measure_26 : decode cX8_measure 26 = .ok (.getfield 30, 3) := by decide +kernel
theorem dX8_measure_29 : decode cX8_measure 29 = .ok (.iconst 1, 1) := by decide +kernel
theorem dX8_measure_30 : decode cX8_measure 30 = .ok (.isub, 1) := by decide +kernel
theorem dX8_measure_31 : decode cX8_measure 31 = .ok (.istore_n 1, 1) := by decide +kernel
theorem dX8_measure_32 : decode cX8_measure 32 = .ok (.iload_n 1, 1) := by decide +kernel
theorem dX8_measure_33 : decode cX8_measure 33 = .ok (.ifCond .lt 68, 3) := by decide +kernel
theorem dX8_measure_36 : decode cX8_measure 36 = .ok (.aload_n 0, 1) := by decide +kernel
theorem dX8_measure_37 : decode cX8_measure 37 = .ok (.getfield 25, 3) := by decide +kernel
theorem dX8_measure_40 : decode cX8_measure 40 = .ok (.getfield 35, 3) := by decide +kernel
theorem dX8_measure_43 : decode cX8_measure 43 = .ok (.iload_n 1, 1) := by decide +kernel
theorem dX8_measure_44 : decode cX8_measure 44 = .ok (.iaload, 1) := by decide +kernel
theorem dX8_measure_45 : decode cX8_measure 45 = .ok (.istore_n 2, 1) := by decide +kernel
theorem dX8_measure_46 : decode cX8_measure 46 = .ok (.aload_n 0, 1) := by decide +kernel
theorem dX8_measure_47 : decode cX8_measure 47 = .ok (.getfield 9, 3) := by decide +kernel
theorem dX8_measure_50 : decode cX8_measure 50 = .ok (.iload_n 1, 1) := by decide +kernel
theorem dX8_measure_51 : decode cX8_measure 51 = .ok (.aload_n 0, 1) := by decide +kernel
theorem dX8_measure_52 : decode cX8_measure 52 = .ok (.getfield 25, 3) := by decide +kernel
theorem dX8_measure_55 : decode cX8_measure 55 = .ok (.getfield 38, 3) := by decide +kernel
theorem dX8_measure_58 : decode cX8_measure 58 = .ok (.iload_n 1, 1) := by decide +kernel
theorem dX8_measure_59 : decode cX8_measure 59 = .ok (.iaload, 1) := by decide +kernel
theorem dX8_measure_60 : decode cX8_measure 60 = .ok (.aload_n 0, 1) := by decide +kernel
theorem dX8_measure_61 : decode cX8_measure 61 = .ok (.getfield 25, 3) := by decide +kernel
theorem dX8_measure_64 : decode cX8_measure 64 = .ok (.getfield 41, 3) := by decide +kernel
theorem dX8_measure_67 : decode cX8_measure 67 = .ok (.iload_n 1, 1) := by decide +kernel
theorem dX8_measure_68 : decode cX8_measure 68 = .ok (.iaload, 1) := by decide +kernel
theorem dX8_measure_69 : decode cX8_measure 69 = .ok (.iadd, 1) := by decide +kernel
theorem dX8_measure_70 : decode cX8_measure 70 = .ok (.aload_n 0, 1) := by decide +kernel
theorem dX8_measure_71 : decode cX8_measure 71 = .ok (.getfield 22, 3) := by decide +kernel
theorem dX8_measure_74 : decode cX8_measure 74 = .ok (.iload_n 2, 1) := by decide +kernel
theorem dX8_measure_75 : decode cX8_measure 75 = .ok (.iaload, 1) := by decide +kernel
theorem dX8_measure_76 : decode cX8_measure 76 = .ok (.invokestatic 44, 3) := by decide +kernel
theorem dX8_measure_79 : decode cX8_measure 79 = .ok (.iastore, 1) := by decide +kernel
theorem dX8_measure_80 : decode cX8_measure 80 = .ok (.aload_n 0, 1) := by decide +kernel
theorem dX8_measure_81 : decode cX8_measure 81 = .ok (.getfield 22, 3) := by decide +kernel
theorem dX8_measure_84 : decode cX8_measure 84 = .ok (.iload_n 2, 1) := by decide +kernel
theorem dX8_measure_85 : decode cX8_measure 85 = .ok (.aload_n 0, 1) := by decide +kernel
theorem dX8_measure_86 : decode cX8_measure 86 = .ok (.getfield 25, 3) := by decide +kernel
theorem dX8_measure_89 : decode cX8_measure 89 = .ok (.getfield 38, 3) := by decide +kernel
theorem dX8_measure_92 : decode cX8_measure 92 = .ok (.iload_n 1, 1) := by decide +kernel
theorem dX8_measure_93 : decode cX8_measure 93 = .ok (.iaload, 1) := by decide +kernel
theorem dX8_measure_94 : decode cX8_measure 94 = .ok (.iastore, 1) := by decide +kernel
theorem dX8_measure_95 : decode cX8_measure 95 = .ok (.iinc 1 (-1), 3) := by decide +kernel
theorem dX8_measure_98 : decode cX8_measure 98 = .ok (.goto (-66), 3) := by decide +kernel
theorem dX8_measure_101 : decode cX8_measure 101 = .ok (.return_, 1) := by decide +kernel
theorem dX8_walkTo_0 : decode cX8_walkTo 0 = .ok (.iconst 0, 1) := by decide +kernel
theorem dX8_walkTo_1 : decode cX8_walkTo 1 = .ok (.istore_n 2, 1) := by decide +kernel
theorem dX8_walkTo_2 : decode cX8_walkTo 2 = .ok (.aload_n 0, 1) := by decide +kernel
theorem dX8_walkTo_3 : decode cX8_walkTo 3 = .ok (.iconst (-1), 1) := by decide +kernel
theorem dX8_walkTo_4 : decode cX8_walkTo 4 = .ok (.putfield 15, 3) := by decide +kernel
theorem dX8_walkTo_7 : decode cX8_walkTo 7 = .ok (.aload_n 0, 1) := by decide +kernel
theorem dX8_walkTo_8 : decode cX8_walkTo 8 = .ok (.iconst (-1), 1) := by decide +kernel
theorem dX8_walkTo_9 : decode cX8_walkTo 9 = .ok (.putfield 19, 3) := by decide +kernel
theorem dX8_walkTo_12 : decode cX8_walkTo 12 = .ok (.iconst 0, 1) := by decide +kernel
theorem dX8_walkTo_13 : decode cX8_walkTo 13 = .ok (.istore_n 3, 1) := by decide +kernel
theorem dX8_walkTo_14 : decode cX8_walkTo 14 = .ok (.iload_n 3, 1) := by decide +kernel
theorem dX8_walkTo_15 : decode cX8_walkTo 15 = .ok (.aload_n 0, 1) := by decide +kernel
theorem dX8_walkTo_16 : decode cX8_walkTo 16 = .ok (.getfield 25, 3) := by decide +kernel
theorem dX8_walkTo_19 : decode cX8_walkTo 19 = .ok (.getfield 30, 3) := by decide +kernel
theorem dX8_walkTo_22 : decode cX8_walkTo 22 = .ok (.if_icmp .ge 108, 3) := by decide +kernel
theorem dX8_walkTo_25 : decode cX8_walkTo 25 = .ok (.aload_n 0, 1) := by decide +kernel
theorem dX8_walkTo_26 : decode cX8_walkTo 26 = .ok (.getfield 15, 3) := by decide +kernel
theorem dX8_walkTo_29 : decode cX8_walkTo 29 = .ok (.iconst (-1), 1) := by decide +kernel
theorem dX8_walkTo_30 : decode cX8_walkTo 30 = .ok (.if_icmp .ne 100, 3) := by decide +kernel
theorem dX8_walkTo_33 : decode cX8_walkTo 33 = .ok (.iload_n 3, 1) := by decide +kernel
theorem dX8_walkTo_34 : decode cX8_walkTo 34 = .ok (.iconst 1, 1) := by decide +kernel
theorem dX8_walkTo_35 : decode cX8_walkTo 35 = .ok (.iadd, 1) := by decide +kernel
theorem dX8_walkTo_36 : decode cX8_walkTo 36 = .ok (.istore 4, 2) := by decide +kernel
theorem dX8_walkTo_38 : decode cX8_walkTo 38 = .ok (.iload 4, 2) := by decide +kernel
theorem dX8_walkTo_40 : decode cX8_walkTo 40 = .ok (.aload_n 0, 1) := by decide +kernel
theorem dX8_walkTo_41 : decode cX8_walkTo 41 = .ok (.getfield 25, 3) := by decide +kernel
theorem dX8_walkTo_44 : decode cX8_walkTo 44 = .ok (.getfield 30, 3) := by decide +kernel
theorem dX8_walkTo_47 : decode cX8_walkTo 47 = .ok (.if_icmp .ge 77, 3) := by decide +kernel
theorem dX8_walkTo_50 : decode cX8_walkTo 50 = .ok (.aload_n 0, 1) := by decide +kernel
theorem dX8_walkTo_51 : decode cX8_walkTo 51 = .ok (.getfield 25, 3) := by decide +kernel
theorem dX8_walkTo_54 : decode cX8_walkTo 54 = .ok (.getfield 38, 3) := by decide +kernel
theorem dX8_walkTo_57 : decode cX8_walkTo 57 = .ok (.iload 4, 2) := by decide +kernel
theorem dX8_walkTo_59 : decode cX8_walkTo 59 = .ok (.iaload, 1) := by decide +kernel
theorem dX8_walkTo_60 : decode cX8_walkTo 60 = .ok (.aload_n 0, 1) := by decide +kernel
theorem dX8_walkTo_61 : decode cX8_walkTo 61 = .ok (.getfield 9, 3) := by decide +kernel
theorem dX8_walkTo_64 : decode cX8_walkTo 64 = .ok (.iload_n 3, 1) := by decide +kernel
theorem dX8_walkTo_65 : decode cX8_walkTo 65 = .ok (.iaload, 1) := by decide +kernel
theorem dX8_walkTo_66 : decode cX8_walkTo 66 = .ok (.if_icmp .ge 58, 3) := by decide +kernel
theorem dX8_walkTo_69 : decode cX8_walkTo 69 = .ok (.aload_n 0, 1) := by decide +kernel
theorem dX8_walkTo_70 : decode cX8_walkTo 70 = .ok (.getfield 15, 3) := by decide +kernel
theorem dX8_walkTo_73 : decode cX8_walkTo 73 = .ok (.iconst (-1), 1) := by decide +kernel
theorem dX8_walkTo_74 : decode cX8_walkTo 74 = .ok (.if_icmp .ne 50, 3) := by decide +kernel
theorem dX8_walkTo_77 : decode cX8_walkTo 77 = .ok (.aload_n 0, 1) := by decide +kernel
theorem dX8_walkTo_78 : decode cX8_walkTo 78 = .ok (.iload_n 3, 1) := by decide +kernel
theorem dX8_walkTo_79 : decode cX8_walkTo 79 = .ok (.iload 4, 2) := by decide +kernel
theorem dX8_walkTo_81 : decode cX8_walkTo 81 = .ok (.invokevirtual 50, 3) := by decide +kernel
theorem dX8_walkTo_84 : decode cX8_walkTo 84 = .ok (.istore 5, 2) := by decide +kernel
theorem dX8_walkTo_86 : decode cX8_walkTo 86 = .ok (.iload 5, 2) := by decide +kernel
theorem dX8_walkTo_88 : decode cX8_walkTo 88 = .ok (.ifCond .eq 22, 3) := by decide +kernel
theorem dX8_walkTo_91 : decode cX8_walkTo 91 = .ok (.iload_n 2, 1) := by decide +kernel
theorem dX8_walkTo_92 : decode cX8_walkTo 92 = .ok (.iload_n 1, 1) := by decide +kernel
theorem dX8_walkTo_93 : decode cX8_walkTo 93 = .ok (.if_icmp .ne 17, 3) := by decide +kernel
theorem dX8_walkTo_96 : decode cX8_walkTo 96 = .ok (.aload_n 0, 1) := by decide +kernel
theorem dX8_walkTo_97 : decode cX8_walkTo 97 = .ok (.iload_n 3, 1) := by decide +kernel
theorem dX8_walkTo_98 : decode cX8_walkTo 98 = .ok (.putfield 15, 3) := by decide +kernel
theorem dX8_walkTo_101 : decode cX8_walkTo 101 = .ok (.aload_n 0, 1) := by decide +kernel
theorem dX8_walkTo_102 : decode cX8_walkTo 102 = .ok (.iload 4, 2) := by decide +kernel
theorem dX8_walkTo_104 : decode cX8_walkTo 104 = .ok (.putfield 19, 3) := by decide +kernel
theorem dX8_walkTo_107 : decode cX8_walkTo 107 = .ok (.goto 11, 3) := by decide +kernel
theorem dX8_walkTo_110 : decode cX8_walkTo 110 = .ok (.iload 5, 2) := by decide +kernel
theorem dX8_walkTo_112 : decode cX8_walkTo 112 = .ok (.ifCond .eq 6, 3) := by decide +kernel
theorem dX8_walkTo_115 : decode cX8_walkTo 115 = .ok (.iinc 2 1, 3) := by decide +kernel
theorem dX8_walkTo_118 : decode cX8_walkTo 118 = .ok (.iinc 4 1, 3) := by decide +kernel
theorem dX8_walkTo_121 : decode cX8_walkTo 121 = .ok (.goto (-83), 3) := by decide +kernel
theorem dX8_walkTo_124 : decode cX8_walkTo 124 = .ok (.iinc 3 1, 3) := by decide +kernel
theorem dX8_walkTo_127 : decode cX8_walkTo 127 = .ok (.goto (-113), 3) := by decide +kernel
theorem dX8_walkTo_130 : decode cX8_walkTo 130 = .ok (.iload_n 2, 1) := by decide +kernel
theorem dX8_walkTo_131 : decode cX8_walkTo 131 = .ok (.ireturn, 1) := by decide +kernel
theorem dX8_beatsOfBoth_0 : decode cX8_beatsOfBoth 0 = .ok (.aload_n 0, 1) := by decide +kernel
theorem dX8_beatsOfBoth_1 : decode cX8_beatsOfBoth 1 = .ok (.getfield 25, 3) := by decide +kernel
theorem dX8_beatsOfBoth_4 : decode cX8_beatsOfBoth 4 = .ok (.aload_n 0, 1) := by decide +kernel
theorem dX8_beatsOfBoth_5 : decode cX8_beatsOfBoth 5 = .ok (.getfield 15, 3) := by decide +kernel
theorem dX8_beatsOfBoth_8 : decode cX8_beatsOfBoth 8 = .ok (.invokevirtual 54, 3) := by decide +kernel
theorem dX8_beatsOfBoth_11 : decode cX8_beatsOfBoth 11 = .ok (.ifCond .eq 17, 3) := by decide +kernel
theorem dX8_beatsOfBoth_14 : decode cX8_beatsOfBoth 14 = .ok (.aload_n 0, 1) := by decide +kernel
theorem dX8_beatsOfBoth_15 : decode cX8_beatsOfBoth 15 = .ok (.getfield 25, 3) := by decide +kernel
theorem dX8_beatsOfBoth_18 : decode cX8_beatsOfBoth 18 = .ok (.aload_n 0, 1) := by decide +kernel
theorem dX8_beatsOfBoth_19 : decode cX8_beatsOfBoth 19 = .ok (.getfield 19, 3) := by decide +kernel
theorem dX8_beatsOfBoth_22 : decode cX8_beatsOfBoth 22 = .ok (.invokevirtual 54, 3) := by decide +kernel
theorem dX8_beatsOfBoth_25 : decode cX8_beatsOfBoth 25 = .ok (.ifCond .ne 5, 3) := by decide +kernel
theorem dX8_beatsOfBoth_28 : decode cX8_beatsOfBoth 28 = .ok (.iconst (-1), 1) := by decide +kernel
theorem dX8_beatsOfBoth_29 : decode cX8_beatsOfBoth 29 = .ok (.ireturn, 1) := by decide +kernel
theorem dX8_beatsOfBoth_30 : decode cX8_beatsOfBoth 30 = .ok (.aload_n 0, 1) := by decide +kernel
theorem dX8_beatsOfBoth_31 : decode cX8_beatsOfBoth 31 = .ok (.getfield 9, 3) := by decide +kernel
theorem dX8_beatsOfBoth_34 : decode cX8_beatsOfBoth 34 = .ok (.aload_n 0, 1) := by decide +kernel
theorem dX8_beatsOfBoth_35 : decode cX8_beatsOfBoth 35 = .ok (.getfield 15, 3) := by decide +kernel
theorem dX8_beatsOfBoth_38 : decode cX8_beatsOfBoth 38 = .ok (.iaload, 1) := by decide +kernel
theorem dX8_beatsOfBoth_39 : decode cX8_beatsOfBoth 39 = .ok (.aload_n 0, 1) := by decide +kernel
theorem dX8_beatsOfBoth_40 : decode cX8_beatsOfBoth 40 = .ok (.getfield 9, 3) := by decide +kernel
theorem dX8_beatsOfBoth_43 : decode cX8_beatsOfBoth 43 = .ok (.aload_n 0, 1) := by decide +kernel
theorem dX8_beatsOfBoth_44 : decode cX8_beatsOfBoth 44 = .ok (.getfield 19, 3) := by decide +kernel
theorem dX8_beatsOfBoth_47 : decode cX8_beatsOfBoth 47 = .ok (.iaload, 1) := by decide +kernel
theorem dX8_beatsOfBoth_48 : decode cX8_beatsOfBoth 48 = .ok (.invokestatic 44, 3) := by decide +kernel
theorem dX8_beatsOfBoth_51 : decode cX8_beatsOfBoth 51 = .ok (.aload_n 0, 1) := by decide +kernel
theorem dX8_beatsOfBoth_52 : decode cX8_beatsOfBoth 52 = .ok (.getfield 25, 3) := by decide +kernel
theorem dX8_beatsOfBoth_55 : decode cX8_beatsOfBoth 55 = .ok (.getfield 38, 3) := by decide +kernel
theorem dX8_beatsOfBoth_58 : decode cX8_beatsOfBoth 58 = .ok (.aload_n 0, 1) := by decide +kernel
theorem dX8_beatsOfBoth_59 : decode cX8_beatsOfBoth 59 = .ok (.getfield 19, 3) := by decide +kernel
theorem dX8_beatsOfBoth_62 : decode cX8_beatsOfBoth 62 = .ok (.iaload, 1) := by decide +kernel
theorem dX8_beatsOfBoth_63 : decode cX8_beatsOfBoth 63 = .ok (.isub, 1) := by decide +kernel
theorem dX8_beatsOfBoth_64 : decode cX8_beatsOfBoth 64 = .ok (.ireturn, 1) := by decide +kernel
theorem dX8_lengthDamped_0 : decode cX8_lengthDamped 0 = .ok (.iconst (-1), 1) := by decide +kernel
theorem dX8_lengthDamped_1 : decode cX8_lengthDamped 1 = .ok (.istore_n 2, 1) := by decide +kernel
theorem dX8_lengthDamped_2 : decode cX8_lengthDamped 2 = .ok (.iload_n 1, 1) := by decide +kernel
theorem dX8_lengthDamped_3 : decode cX8_lengthDamped 3 = .ok (.iconst 1, 1) := by decide +kernel
theorem dX8_lengthDamped_4 : decode cX8_lengthDamped 4 = .ok (.iadd, 1) := by decide +kernel
theorem dX8_lengthDamped_5 : decode cX8_lengthDamped 5 = .ok (.istore_n 3, 1) := by decide +kernel
theorem dX8_lengthDamped_6 : decode cX8_lengthDamped 6 = .ok (.iload_n 3, 1) := by decide +kernel
theorem dX8_lengthDamped_7 : decode cX8_lengthDamped 7 = .ok (.aload_n 0, 1) := by decide +kernel
theorem dX8_lengthDamped_8 : decode cX8_lengthDamped 8 = .ok (.getfield 25, 3) := by decide +kernel
theorem dX8_lengthDamped_11 : decode cX8_lengthDamped 11 = .ok (.getfield 30, 3) := by decide +kernel
theorem dX8_lengthDamped_14 : decode cX8_lengthDamped 14 = .ok (.if_icmp .ge 82, 3) := by decide +kernel
theorem dX8_lengthDamped_17 : decode cX8_lengthDamped 17 = .ok (.aload_n 0, 1) := by decide +kernel
theorem dX8_lengthDamped_18 : decode cX8_lengthDamped 18 = .ok (.getfield 25, 3) := by decide +kernel
theorem dX8_lengthDamped_21 : decode cX8_lengthDamped 21 = .ok (.getfield 38, 3) := by decide +kernel
theorem dX8_lengthDamped_24 : decode cX8_lengthDamped 24 = .ok (.iload_n 3, 1) := by decide +kernel
theorem dX8_lengthDamped_25 : decode cX8_lengthDamped 25 = .ok (.iaload, 1) := by decide +kernel
theorem dX8_lengthDamped_26 : decode cX8_lengthDamped 26 = .ok (.aload_n 0, 1) := by decide +kernel
theorem dX8_lengthDamped_27 : decode cX8_lengthDamped 27 = .ok (.getfield 9, 3) := by decide +kernel
theorem dX8_lengthDamped_30 : decode cX8_lengthDamped 30 = .ok (.iload_n 1, 1) := by decide +kernel
theorem dX8_lengthDamped_31 : decode cX8_lengthDamped 31 = .ok (.iaload, 1) := by decide +kernel
theorem dX8_lengthDamped_32 : decode cX8_lengthDamped 32 = .ok (.if_icmp .ge 64, 3) := by decide +kernel
theorem dX8_lengthDamped_35 : decode cX8_lengthDamped 35 = .ok (.iload_n 2, 1) := by decide +kernel
theorem dX8_lengthDamped_36 : decode cX8_lengthDamped 36 = .ok (.iconst (-1), 1) := by decide +kernel
theorem dX8_lengthDamped_37 : decode cX8_lengthDamped 37 = .ok (.if_icmp .ne 59, 3) := by decide +kernel
theorem dX8_lengthDamped_40 : decode cX8_lengthDamped 40 = .ok (.aload_n 0, 1) := by decide +kernel
theorem dX8_lengthDamped_41 : decode cX8_lengthDamped 41 = .ok (.iload_n 1, 1) := by decide +kernel
theorem dX8_lengthDamped_42 : decode cX8_lengthDamped 42 = .ok (.iload_n 3, 1) := by decide +kernel
theorem dX8_lengthDamped_43 : decode cX8_lengthDamped 43 = .ok (.invokevirtual 50, 3) := by decide +kernel
theorem dX8_lengthDamped_46 : decode cX8_lengthDamped 46 = .ok (.ifCond .eq 44, 3) := by decide +kernel
theorem dX8_lengthDamped_49 : decode cX8_lengthDamped 49 = .ok (.aload_n 0, 1) := by decide +kernel
theorem dX8_lengthDamped_50 : decode cX8_lengthDamped 50 = .ok (.getfield 25, 3) := by decide +kernel
theorem dX8_lengthDamped_53 : decode cX8_lengthDamped 53 = .ok (.getfield 38, 3) := by decide +kernel
theorem dX8_lengthDamped_56 : decode cX8_lengthDamped 56 = .ok (.iload_n 3, 1) := by decide +kernel
theorem dX8_lengthDamped_57 : decode cX8_lengthDamped 57 = .ok (.iaload, 1) := by decide +kernel
theorem dX8_lengthDamped_58 : decode cX8_lengthDamped 58 = .ok (.aload_n 0, 1) := by decide +kernel
theorem dX8_lengthDamped_59 : decode cX8_lengthDamped 59 = .ok (.getfield 25, 3) := by decide +kernel
theorem dX8_lengthDamped_62 : decode cX8_lengthDamped 62 = .ok (.getfield 38, 3) := by decide +kernel
theorem dX8_lengthDamped_65 : decode cX8_lengthDamped 65 = .ok (.iload_n 1, 1) := by decide +kernel
theorem dX8_lengthDamped_66 : decode cX8_lengthDamped 66 = .ok (.iaload, 1) := by decide +kernel
theorem dX8_lengthDamped_67 : decode cX8_lengthDamped 67 = .ok (.if_icmp .le 23, 3) := by decide +kernel
theorem dX8_lengthDamped_70 : decode cX8_lengthDamped 70 = .ok (.aload_n 0, 1) := by decide +kernel
theorem dX8_lengthDamped_71 : decode cX8_lengthDamped 71 = .ok (.getfield 25, 3) := by decide +kernel
theorem dX8_lengthDamped_74 : decode cX8_lengthDamped 74 = .ok (.getfield 38, 3) := by decide +kernel
theorem dX8_lengthDamped_77 : decode cX8_lengthDamped 77 = .ok (.iload_n 3, 1) := by decide +kernel
theorem dX8_lengthDamped_78 : decode cX8_lengthDamped 78 = .ok (.iaload, 1) := by decide +kernel
theorem dX8_lengthDamped_79 : decode cX8_lengthDamped 79 = .ok (.aload_n 0, 1) := by decide +kernel
theorem dX8_lengthDamped_80 : decode cX8_lengthDamped 80 = .ok (.getfield 25, 3) := by decide +kernel
theorem dX8_lengthDamped_83 : decode cX8_lengthDamped 83 = .ok (.getfield 38, 3) := by decide +kernel
theorem dX8_lengthDamped_86 : decode cX8_lengthDamped 86 = .ok (.iload_n 1, 1) := by decide +kernel
theorem dX8_lengthDamped_87 : decode cX8_lengthDamped 87 = .ok (.iaload, 1) := by decide +kernel
theorem dX8_lengthDamped_88 : decode cX8_lengthDamped 88 = .ok (.isub, 1) := by decide +kernel
theorem dX8_lengthDamped_89 : decode cX8_lengthDamped 89 = .ok (.istore_n 2, 1) := by decide +kernel
theorem dX8_lengthDamped_90 : decode cX8_lengthDamped 90 = .ok (.iinc 3 1, 3) := by decide +kernel
theorem dX8_lengthDamped_93 : decode cX8_lengthDamped 93 = .ok (.goto (-87), 3) := by decide +kernel
theorem dX8_lengthDamped_96 : decode cX8_lengthDamped 96 = .ok (.iload_n 2, 1) := by decide +kernel
theorem dX8_lengthDamped_97 : decode cX8_lengthDamped 97 = .ok (.iconst (-1), 1) := by decide +kernel
theorem dX8_lengthDamped_98 : decode cX8_lengthDamped 98 = .ok (.if_icmp .ne 15, 3) := by decide +kernel
theorem dX8_lengthDamped_101 : decode cX8_lengthDamped 101 = .ok (.aload_n 0, 1) := by decide +kernel
theorem dX8_lengthDamped_102 : decode cX8_lengthDamped 102 = .ok (.getfield 25, 3) := by decide +kernel
theorem dX8_lengthDamped_105 : decode cX8_lengthDamped 105 = .ok (.getfield 41, 3) := by decide +kernel
theorem dX8_lengthDamped_108 : decode cX8_lengthDamped 108 = .ok (.iload_n 1, 1) := by decide +kernel
theorem dX8_lengthDamped_109 : decode cX8_lengthDamped 109 = .ok (.iaload, 1) := by decide +kernel
theorem dX8_lengthDamped_110 : decode cX8_lengthDamped 110 = .ok (.goto 4, 3) := by decide +kernel
theorem dX8_lengthDamped_113 : decode cX8_lengthDamped 113 = .ok (.iload_n 2, 1) := by decide +kernel
theorem dX8_lengthDamped_114 : decode cX8_lengthDamped 114 = .ok (.ireturn, 1) := by decide +kernel
theorem dX8_cutDown_0 : decode cX8_cutDown 0 = .ok (.iconst 0, 1) := by decide +kernel
theorem dX8_cutDown_1 : decode cX8_cutDown 1 = .ok (.istore_n 1, 1) := by decide +kernel
theorem dX8_cutDown_2 : decode cX8_cutDown 2 = .ok (.iconst 0, 1) := by decide +kernel
theorem dX8_cutDown_3 : decode cX8_cutDown 3 = .ok (.istore_n 2, 1) := by decide +kernel
theorem dX8_cutDown_4 : decode cX8_cutDown 4 = .ok (.iload_n 2, 1) := by decide +kernel
theorem dX8_cutDown_5 : decode cX8_cutDown 5 = .ok (.aload_n 0, 1) := by decide +kernel
theorem dX8_cutDown_6 : decode cX8_cutDown 6 = .ok (.getfield 25, 3) := by decide +kernel
theorem dX8_cutDown_9 : decode cX8_cutDown 9 = .ok (.getfield 30, 3) := by decide +kernel
theorem dX8_cutDown_12 : decode cX8_cutDown 12 = .ok (.if_icmp .ge 39, 3) := by decide +kernel
theorem dX8_cutDown_15 : decode cX8_cutDown 15 = .ok (.aload_n 0, 1) := by decide +kernel
theorem dX8_cutDown_16 : decode cX8_cutDown 16 = .ok (.iload_n 2, 1) := by decide +kernel
theorem dX8_cutDown_17 : decode cX8_cutDown 17 = .ok (.invokevirtual 58, 3) := by decide +kernel
theorem dX8_cutDown_20 : decode cX8_cutDown 20 = .ok (.istore_n 3, 1) := by decide +kernel
theorem dX8_cutDown_21 : decode cX8_cutDown 21 = .ok (.iload_n 1, 1) := by decide +kernel
theorem dX8_cutDown_22 : decode cX8_cutDown 22 = .ok (.aload_n 0, 1) := by decide +kernel
theorem dX8_cutDown_23 : decode cX8_cutDown 23 = .ok (.getfield 25, 3) := by decide +kernel
theorem dX8_cutDown_26 : decode cX8_cutDown 26 = .ok (.getfield 41, 3) := by decide +kernel
theorem dX8_cutDown_29 : decode cX8_cutDown 29 = .ok (.iload_n 2, 1) := by decide +kernel
theorem dX8_cutDown_30 : decode cX8_cutDown 30 = .ok (.iaload, 1) := by decide +kernel
theorem dX8_cutDown_31 : decode cX8_cutDown 31 = .ok (.iload_n 3, 1) := by decide +kernel
theorem dX8_cutDown_32 : decode cX8_cutDown 32 = .ok (.isub, 1) := by decide +kernel
theorem dX8_cutDown_33 : decode cX8_cutDown 33 = .ok (.iadd, 1) := by decide +kernel
theorem dX8_cutDown_34 : decode cX8_cutDown 34 = .ok (.istore_n 1, 1) := by decide +kernel
theorem dX8_cutDown_35 : decode cX8_cutDown 35 = .ok (.aload_n 0, 1) := by decide +kernel
theorem dX8_cutDown_36 : decode cX8_cutDown 36 = .ok (.getfield 25, 3) := by decide +kernel
theorem dX8_cutDown_39 : decode cX8_cutDown 39 = .ok (.getfield 41, 3) := by decide +kernel
theorem dX8_cutDown_42 : decode cX8_cutDown 42 = .ok (.iload_n 2, 1) := by decide +kernel
theorem dX8_cutDown_43 : decode cX8_cutDown 43 = .ok (.iload_n 3, 1) := by decide +kernel
theorem dX8_cutDown_44 : decode cX8_cutDown 44 = .ok (.iastore, 1) := by decide +kernel
theorem dX8_cutDown_45 : decode cX8_cutDown 45 = .ok (.iinc 2 1, 3) := by decide +kernel
theorem dX8_cutDown_48 : decode cX8_cutDown 48 = .ok (.goto (-44), 3) := by decide +kernel
theorem dX8_cutDown_51 : decode cX8_cutDown 51 = .ok (.aload_n 0, 1) := by decide +kernel
theorem dX8_cutDown_52 : decode cX8_cutDown 52 = .ok (.invokevirtual 62, 3) := by decide +kernel
theorem dX8_cutDown_55 : decode cX8_cutDown 55 = .ok (.iload_n 1, 1) := by decide +kernel
theorem dX8_cutDown_56 : decode cX8_cutDown 56 = .ok (.ireturn, 1) := by decide +kernel
abbrev mX8_areNext : MI := (yX8_areNext, cX8_areNext, 3, some .boolean, 1, 21, [])
abbrev mX8_measure : MI := (yX8_measure, cX8_measure, 3, none, 1, 21, [])
abbrev mX8_walkTo : MI := (yX8_walkTo, cX8_walkTo, 6, some .int, 2, 43, [])
abbrev mX8_beatsOfBoth : MI := (yX8_beatsOfBoth, cX8_beatsOfBoth, 1, some .int, 2, 42, [])
abbrev mX8_lengthDamped : MI := (yX8_lengthDamped, cX8_lengthDamped, 4, some .int, 2, 43, [])
abbrev mX8_cutDown : MI := (yX8_cutDown, cX8_cutDown, 4, some .int, 3, 66, [])
theorem co_X8_29 : Cond.constant RX8 29 16777216 ∈ lw_w := lw_in (i := 617) (by decide +kernel) (by decide +kernel)
theorem fk_X8_9 : Fk RX8 9 8 1 := ⟨RX8, TX8, 5, tyX8, rfl, inX8, by decide, lw_in (i := 304) (by decide +kernel) (by decide +kernel), tyX8_ok, nmX8⟩
theorem fk_X8_15 : Fk RX8 15 8 2 := ⟨RX8, TX8, 5, tyX8, rfl, inX8, by decide, lw_in (i := 306) (by decide +kernel) (by decide +kernel), tyX8_ok, nmX8⟩
theorem fk_X8_19 : Fk RX8 19 8 3 := ⟨RX8, TX8, 5, tyX8, rfl, inX8, by decide, lw_in (i := 308) (by decide +kernel) (by decide +kernel), tyX8_ok, nmX8⟩
theorem fk_X8_22 : Fk RX8 22 8 4 := ⟨RX8, TX8, 5, tyX8, rfl, inX8, by decide, lw_in (i := 310) (by decide +kernel) (by decide +kernel), tyX8_ok, nmX8⟩
theorem fk_X8_25 : Fk RX8 25 8 0 := ⟨RX8, TX8, 5, tyX8, rfl, inX8, by decide, lw_in (i := 303) (by decide +kernel) (by decide +kernel), tyX8_ok, nmX8⟩
theorem fk_X8_30 : Fk RX8 30 9 4 := ⟨RX9, TX9, 5, tyX9, rfl, inX9, by decide, lw_in (i := 107) (by decide +kernel) (by decide +kernel), tyX9_ok, nmX9⟩
theorem fk_X8_35 : Fk RX8 35 9 1 := ⟨RX9, TX9, 5, tyX9, rfl, inX9, by decide, lw_in (i := 90) (by decide +kernel) (by decide +kernel), tyX9_ok, nmX9⟩
theorem fk_X8_38 : Fk RX8 38 9 0 := ⟨RX9, TX9, 5, tyX9, rfl, inX9, by decide, lw_in (i := 85) (by decide +kernel) (by decide +kernel), tyX9_ok, nmX9⟩
theorem fk_X8_41 : Fk RX8 41 9 2 := ⟨RX9, TX9, 5, tyX9, rfl, inX9, by decide, lw_in (i := 97) (by decide +kernel) (by decide +kernel), tyX9_ok, nmX9⟩
theorem fp_X8_2 : Fp 8 2 .int := ⟨RX8, TX8, 5, rfl, rfl, by decide +kernel⟩
theorem fp_X8_3 : Fp 8 3 .int := ⟨RX8, TX8, 5, rfl, rfl, by decide +kernel⟩
theorem mv_X8_areNext : MkV mX8_areNext := ⟨lw_in (i := 925) (by decide +kernel) (by decide +kernel), lw_se (i := 37) (by decide +kernel) (by decide +kernel)⟩
theorem mv_X8_lengthDamped : MkV mX8_lengthDamped := ⟨lw_in (i := 949) (by decide +kernel) (by decide +kernel), lw_se (i := 38) (by decide +kernel) (by decide +kernel)⟩
theorem mv_X8_measure : MkV mX8_measure := ⟨lw_in (i := 614) (by decide +kernel) (by decide +kernel), lw_in (i := 615) (by decide +kernel) (by decide +kernel)⟩
theorem mv_X9_hasNumber : MkV mX9_hasNumber := ⟨lw_in (i := 698) (by decide +kernel) (by decide +kernel), lw_in (i := 699) (by decide +kernel) (by decide +kernel)⟩
theorem mk_X8_44 : Cond.methodLink RX8 44 Lib.Math.min.name ∈ lw_w := lw_in (i := 618) (by decide +kernel) (by decide +kernel)
theorem mk_X8_50 : Mk RX8 50 mX8_areNext 2 := ⟨lw_in (i := 923) (by decide +kernel) (by decide +kernel), lw_in (i := 10) (by decide +kernel) (by decide +kernel), lw_in (i := 926) (by decide +kernel) (by decide +kernel), by decide +kernel⟩
theorem mk_X8_54 : Mk RX8 54 mX9_hasNumber 1 := ⟨lw_in (i := 938) (by decide +kernel) (by decide +kernel), lw_in (i := 4) (by decide +kernel) (by decide +kernel), lw_in (i := 700) (by decide +kernel) (by decide +kernel), by decide +kernel⟩
theorem mk_X8_58 : Mk RX8 58 mX8_lengthDamped 1 := ⟨lw_in (i := 947) (by decide +kernel) (by decide +kernel), lw_in (i := 10) (by decide +kernel) (by decide +kernel), lw_in (i := 950) (by decide +kernel) (by decide +kernel), by decide +kernel⟩
theorem mk_X8_62 : Mk RX8 62 mX8_measure 0 := ⟨lw_in (i := 951) (by decide +kernel) (by decide +kernel), lw_in (i := 10) (by decide +kernel) (by decide +kernel), lw_in (i := 616) (by decide +kernel) (by decide +kernel), by decide +kernel⟩
theorem mk_X8_65 : Cond.methodLink RX8 65 Lib.Math.abs.name ∈ lw_w := lw_in (i := 927) (by decide +kernel) (by decide +kernel)
theorem rm_X8_beatsOfBoth_X9_hasNumber : Rm mX8_beatsOfBoth mX9_hasNumber := ⟨by decide, by decide⟩
theorem rm_X8_cutDown_X8_lengthDamped : Rm mX8_cutDown mX8_lengthDamped := ⟨by decide, by decide⟩
theorem rm_X8_cutDown_X8_measure : Rm mX8_cutDown mX8_measure := ⟨by decide, by decide⟩
theorem rm_X8_lengthDamped_X8_areNext : Rm mX8_lengthDamped mX8_areNext := ⟨by decide, by decide⟩
theorem rm_X8_walkTo_X8_areNext : Rm mX8_walkTo mX8_areNext := ⟨by decide, by decide⟩
section W_sound
variable {l : Launch} {D : va_G} {ad : Nat → Nat} {kA : Nat → ClassId} {M : Mem} {Q : Outcome → Mem → Prop}
def v_X8_areNext (M : Mem) (x1 : Int32) (x2 : Int32) : Int32 := if (iabs ((gI M 11 x1.toNatClampNeg) - (gI M 11 x2.toNatClampNeg))) = 1 then 1 else 0
def g_X8_areNext (M : Mem) (x1 : Int32) (x2 : Int32) : Prop := (vp_in x1 160) ∧ (vp_in x2 160)
theorem ct_X8_areNext {x1 : Int32} {x2 : Int32}  (g : g_X8_areNext M x1 x2) (h : Q (.returned (some (.int (v_X8_areNext M x1 x2)))) M) : Cal l D ad kA mX8_areNext [.ref (ad 32), .int x1, .int x2] M Q := by
  refine Cal.of (lo := [some (.ref (ad 32)), some (.int x1), some (.int x2)]) (by decide) rfl rfl (Nat.le_of_ble_eq_true rfl) ?_
  obtain ⟨g1, g2⟩ := g
  refine r_aload_n dX8_areNext_0 rfl ?_
  refine r_getR dX8_areNext_1 fs_32_0 fk_X8_25 ?_
  refine r_getR dX8_areNext_4 fs_9_1 fk_X8_35 ?_
  refine r_iload_n dX8_areNext_7 rfl ?_
  refine r_iald dX8_areNext_8 as_11 g1 ?_
  refine r_aload_n dX8_areNext_9 rfl ?_
  refine r_getR dX8_areNext_10 fs_32_0 fk_X8_25 ?_
  refine r_getR dX8_areNext_13 fs_9_1 fk_X8_35 ?_
  refine r_iload_n dX8_areNext_16 rfl ?_
  refine r_iald dX8_areNext_17 as_11 g2 ?_
  refine r_isub dX8_areNext_18 ?_
  refine q_mabs dX8_areNext_19 mk_X8_65 (by decide) (Nat.le_of_ble_eq_true rfl) ?_
  refine r_iconst (v := 1) dX8_areNext_22 kI_1 ?_
  suffices hJ1 : Fw l D ad kA mX8_areNext 31 [none, none, none] [.int (if (iabs ((gI M 11 x1.toNatClampNeg) - (gI M 11 x2.toNatClampNeg))) = 1 then 1 else 0)] M Q by
    refine r_icmp_ne (tgt := 30) dX8_areNext_23 (by decide) (fun c1 => ?_) (fun c1 => ?_)
    · skip
      refine r_iconst (v := 0) dX8_areNext_30 kI_0 ?_
      exact q_weak (lo' := [none, none, none]) trivial (by have h9 := hJ1; simp only [if_neg c1] at h9; first | exact h9 | (simp only [if_neg c1]; exact h9))
    · skip
      refine r_iconst (v := 1) dX8_areNext_26 kI_1 ?_
      refine r_goto (tgt := 31) dX8_areNext_27 (by decide) ?_
      exact q_weak (lo' := [none, none, none]) trivial (by have h9 := hJ1; simp only [if_pos c1] at h9; first | exact h9 | (simp only [if_pos c1]; exact h9))
  exact r_zret dX8_areNext_31 rfl (nar_z (ite01 (Or.inr rfl) (Or.inl rfl))).1 h
theorem z_X8_areNext {M : Mem} {x1 : Int32} {x2 : Int32} : v_X8_areNext M x1 x2 = 0 ∨ v_X8_areNext M x1 x2 = 1 := (ite01 (Or.inr rfl) (Or.inl rfl))
theorem t_X8_measure_0  
    (K1 : Fw l D ad kA mX8_measure 2 [some (.ref (ad 32)), some (.int 0), none] [] M Q) : Fw l D ad kA mX8_measure 0 [some (.ref (ad 32)), none, none] [] M Q := by
  refine r_iconst (v := 0) dX8_measure_0 kI_0 ?_
  refine q_istore_n (lo' := [some (.ref (ad 32)), some (.int 0), none]) dX8_measure_1 (by decide) rfl ?_
  exact K1
theorem t_X8_measure_2 {x1 : Int32} 
    (g1 : (¬ (48 ≤ x1)) → vp_in x1 48)
    (K1 : (48 ≤ x1) → Fw l D ad kA mX8_measure 32 [some (.ref (ad 32)), some (.int ((gI M 9 4) - 1)), none] [] M Q)
    (K2 : (¬ (48 ≤ x1)) → Fw l D ad kA mX8_measure 2 [some (.ref (ad 32)), some (.int (x1 + 1)), none] [] (sI M 34 x1.toNatClampNeg 16777216) Q) : Fw l D ad kA mX8_measure 2 [some (.ref (ad 32)), some (.int x1), none] [] M Q := by
  refine r_iload_n dX8_measure_2 rfl ?_
  refine r_bipush (v := 48) dX8_measure_3 kB_48 ?_
  refine r_icmp_ge (tgt := 22) dX8_measure_5 (by decide) (fun c1 => ?_) (fun c1 => ?_)
  · skip
    refine r_aload_n dX8_measure_22 rfl ?_
    refine r_getR dX8_measure_23 fs_32_0 fk_X8_25 ?_
    refine r_getI dX8_measure_26 fs_9_4 fk_X8_30 ?_
    refine r_iconst (v := 1) dX8_measure_29 kI_1 ?_
    refine r_isub dX8_measure_30 ?_
    refine q_istore_n (lo' := [some (.ref (ad 32)), some (.int ((gI M 9 4) - 1)), none]) dX8_measure_31 (by decide) rfl ?_
    exact (K1 c1)
  · skip
    refine r_aload_n dX8_measure_8 rfl ?_
    refine r_getR dX8_measure_9 fs_32_4 fk_X8_22 ?_
    refine r_iload_n dX8_measure_12 rfl ?_
    refine r_ldc (v := 16777216) dX8_measure_13 co_X8_29 ?_
    refine r_iast dX8_measure_15 as_34 (g1 c1) ?_
    refine q_iinc (v := x1 + 1) (lo' := [some (.ref (ad 32)), some (.int (x1 + 1)), none]) dX8_measure_16 rfl (congrArg (fun q => x1 + q) kI_1) (by decide) rfl ?_
    refine r_goto (tgt := 2) dX8_measure_19 (by decide) ?_
    exact (K2 c1)
theorem t_X8_measure_32 {x1 : Int32} 
    (g1 : (¬ (x1 < 0)) → vp_in x1 160)
    (g2 : (¬ (x1 < 0)) → vp_in (gI M 11 x1.toNatClampNeg) 48)
    (K1 : (x1 < 0) → Q (.returned none) M)
    (K2 : (¬ (x1 < 0)) → Fw l D ad kA mX8_measure 32 [some (.ref (ad 32)), some (.int (x1 + (-1))), none] [] (sI (sI M 33 x1.toNatClampNeg (imin ((gI M 10 x1.toNatClampNeg) + (gI M 12 x1.toNatClampNeg)) (gI M 34 (gI M 11 x1.toNatClampNeg).toNatClampNeg))) 34 (gI M 11 x1.toNatClampNeg).toNatClampNeg (gI M 10 x1.toNatClampNeg)) Q) : Fw l D ad kA mX8_measure 32 [some (.ref (ad 32)), some (.int x1), none] [] M Q := by
  refine r_iload_n dX8_measure_32 rfl ?_
  refine r_if_lt (tgt := 101) dX8_measure_33 (by decide) (fun c1 => ?_) (fun c1 => ?_)
  · skip
    exact r_vret dX8_measure_101 rfl (K1 c1)
  · skip
    refine r_aload_n dX8_measure_36 rfl ?_
    refine r_getR dX8_measure_37 fs_32_0 fk_X8_25 ?_
    refine r_getR dX8_measure_40 fs_9_1 fk_X8_35 ?_
    refine r_iload_n dX8_measure_43 rfl ?_
    refine r_iald dX8_measure_44 as_11 (g1 c1) ?_
    refine q_istore_n (lo' := [some (.ref (ad 32)), some (.int x1), some (.int (gI M 11 x1.toNatClampNeg))]) dX8_measure_45 (by decide) rfl ?_
    refine r_aload_n dX8_measure_46 rfl ?_
    refine r_getR dX8_measure_47 fs_32_1 fk_X8_9 ?_
    refine r_iload_n dX8_measure_50 rfl ?_
    refine r_aload_n dX8_measure_51 rfl ?_
    refine r_getR dX8_measure_52 fs_32_0 fk_X8_25 ?_
    refine r_getR dX8_measure_55 fs_9_0 fk_X8_38 ?_
    refine r_iload_n dX8_measure_58 rfl ?_
    refine r_iald dX8_measure_59 as_10 (g1 c1) ?_
    refine r_aload_n dX8_measure_60 rfl ?_
    refine r_getR dX8_measure_61 fs_32_0 fk_X8_25 ?_
    refine r_getR dX8_measure_64 fs_9_2 fk_X8_41 ?_
    refine r_iload_n dX8_measure_67 rfl ?_
    refine r_iald dX8_measure_68 as_12 (g1 c1) ?_
    refine r_iadd dX8_measure_69 ?_
    refine r_aload_n dX8_measure_70 rfl ?_
    refine r_getR dX8_measure_71 fs_32_4 fk_X8_22 ?_
    refine r_iload_n dX8_measure_74 rfl ?_
    refine r_iald dX8_measure_75 as_34 (g2 c1) ?_
    refine q_mmin dX8_measure_76 mk_X8_44 (by decide) (Nat.le_of_ble_eq_true rfl) ?_
    refine r_iast dX8_measure_79 as_33 (g1 c1) ?_
    refine r_aload_n dX8_measure_80 rfl ?_
    refine r_getR dX8_measure_81 fs_32_4 fk_X8_22 ?_
    refine r_iload_n dX8_measure_84 rfl ?_
    refine r_aload_n dX8_measure_85 rfl ?_
    refine r_getR dX8_measure_86 fs_32_0 fk_X8_25 ?_
    refine r_getR dX8_measure_89 fs_9_0 fk_X8_38 ?_
    refine r_iload_n dX8_measure_92 rfl ?_
    refine q_iald (v := gI M 10 x1.toNatClampNeg) dX8_measure_93 as_10 (g1 c1) rfl ?_
    refine r_iast dX8_measure_94 as_34 (g2 c1) ?_
    refine q_iinc (v := x1 + (-1)) (lo' := [some (.ref (ad 32)), some (.int (x1 + (-1))), some (.int (gI M 11 x1.toNatClampNeg))]) dX8_measure_95 rfl (congrArg (fun q => x1 + q) kI_m1) (by decide) rfl ?_
    refine r_goto (tgt := 32) dX8_measure_98 (by decide) ?_
    exact q_weak (lo' := [some (.ref (ad 32)), some (.int (x1 + (-1))), none]) ⟨rfl, rfl, trivial⟩ (K2 c1)
theorem en_X8_measure  (K : Fw l D ad kA mX8_measure 0 [some (.ref (ad 32)), none, none] [] M Q) : Cal l D ad kA mX8_measure [.ref (ad 32)] M Q := Cal.of (by decide) rfl rfl (Nat.le_of_ble_eq_true rfl) K
theorem t_X8_walkTo_0 {x1 : Int32} 
    (K1 : Fw l D ad kA mX8_walkTo 14 [some (.ref (ad 32)), some (.int x1), some (.int 0), some (.int 0), none, none] [] (sI (sI M 32 2 (-1)) 32 3 (-1)) Q) : Fw l D ad kA mX8_walkTo 0 [some (.ref (ad 32)), some (.int x1), none, none, none, none] [] M Q := by
  refine r_iconst (v := 0) dX8_walkTo_0 kI_0 ?_
  refine q_istore_n (lo' := [some (.ref (ad 32)), some (.int x1), some (.int 0), none, none, none]) dX8_walkTo_1 (by decide) rfl ?_
  refine r_aload_n dX8_walkTo_2 rfl ?_
  refine r_iconst (v := (-1)) dX8_walkTo_3 kI_m1 ?_
  refine r_putI dX8_walkTo_4 fs_32_2 fk_X8_15 fp_X8_2 ?_
  refine r_aload_n dX8_walkTo_7 rfl ?_
  refine r_iconst (v := (-1)) dX8_walkTo_8 kI_m1 ?_
  refine r_putI dX8_walkTo_9 fs_32_3 fk_X8_19 fp_X8_3 ?_
  refine r_iconst (v := 0) dX8_walkTo_12 kI_0 ?_
  refine q_istore_n (lo' := [some (.ref (ad 32)), some (.int x1), some (.int 0), some (.int 0), none, none]) dX8_walkTo_13 (by decide) rfl ?_
  exact K1
theorem t_X8_walkTo_14 {x1 : Int32} {x2 : Int32} {x3 : Int32} 
    (K1 : ((gI M 9 4) ≤ x3) → Q (.returned (some (.int x2))) M)
    (K2 : (¬ ((gI M 9 4) ≤ x3)) → (¬ ((gI M 32 2) = (-1))) → Q (.returned (some (.int x2))) M)
    (K3 : (¬ ((gI M 9 4) ≤ x3)) → ((gI M 32 2) = (-1)) → Fw l D ad kA mX8_walkTo 38 [some (.ref (ad 32)), some (.int x1), some (.int x2), some (.int x3), some (.int (x3 + 1)), none] [] M Q) : Fw l D ad kA mX8_walkTo 14 [some (.ref (ad 32)), some (.int x1), some (.int x2), some (.int x3), none, none] [] M Q := by
  refine r_iload_n dX8_walkTo_14 rfl ?_
  refine r_aload_n dX8_walkTo_15 rfl ?_
  refine r_getR dX8_walkTo_16 fs_32_0 fk_X8_25 ?_
  refine r_getI dX8_walkTo_19 fs_9_4 fk_X8_30 ?_
  refine r_icmp_ge (tgt := 130) dX8_walkTo_22 (by decide) (fun c1 => ?_) (fun c1 => ?_)
  · skip
    refine r_iload_n dX8_walkTo_130 rfl ?_
    exact r_iret dX8_walkTo_131 rfl (K1 c1)
  · skip
    refine r_aload_n dX8_walkTo_25 rfl ?_
    refine r_getI dX8_walkTo_26 fs_32_2 fk_X8_15 ?_
    refine r_iconst (v := (-1)) dX8_walkTo_29 kI_m1 ?_
    refine r_icmp_ne (tgt := 130) dX8_walkTo_30 (by decide) (fun c2 => ?_) (fun c2 => ?_)
    · skip
      refine r_iload_n dX8_walkTo_130 rfl ?_
      exact r_iret dX8_walkTo_131 rfl (K2 c1 c2)
    · skip
      refine r_iload_n dX8_walkTo_33 rfl ?_
      refine r_iconst (v := 1) dX8_walkTo_34 kI_1 ?_
      refine r_iadd dX8_walkTo_35 ?_
      refine q_istore (lo' := [some (.ref (ad 32)), some (.int x1), some (.int x2), some (.int x3), some (.int (x3 + 1)), none]) dX8_walkTo_36 (by decide) rfl ?_
      exact (K3 c1 c2)
theorem t_X8_walkTo_38 {x1 : Int32} {x2 : Int32} {x3 : Int32} {x4 : Int32} 
    (g1 : (¬ ((gI M 9 4) ≤ x4)) → vp_in x4 160)
    (g2 : (¬ ((gI M 9 4) ≤ x4)) → vp_in x3 160)
    (g3 : (¬ ((gI M 9 4) ≤ x4)) → (¬ ((gI M 33 x3.toNatClampNeg) ≤ (gI M 10 x4.toNatClampNeg))) → ((gI M 32 2) = (-1)) → g_X8_areNext M x3 x4)
    (K1 : ((gI M 9 4) ≤ x4) → Fw l D ad kA mX8_walkTo 14 [some (.ref (ad 32)), some (.int x1), some (.int x2), some (.int (x3 + 1)), none, none] [] M Q)
    (K2 : (¬ ((gI M 9 4) ≤ x4)) → ((gI M 33 x3.toNatClampNeg) ≤ (gI M 10 x4.toNatClampNeg)) → Fw l D ad kA mX8_walkTo 14 [some (.ref (ad 32)), some (.int x1), some (.int x2), some (.int (x3 + 1)), none, none] [] M Q)
    (K3 : (¬ ((gI M 9 4) ≤ x4)) → (¬ ((gI M 33 x3.toNatClampNeg) ≤ (gI M 10 x4.toNatClampNeg))) → (¬ ((gI M 32 2) = (-1))) → Fw l D ad kA mX8_walkTo 14 [some (.ref (ad 32)), some (.int x1), some (.int x2), some (.int (x3 + 1)), none, none] [] M Q)
    (K4 : (¬ ((gI M 9 4) ≤ x4)) → (¬ ((gI M 33 x3.toNatClampNeg) ≤ (gI M 10 x4.toNatClampNeg))) → ((gI M 32 2) = (-1)) → ((v_X8_areNext M x3 x4) = 0) → Fw l D ad kA mX8_walkTo 38 [some (.ref (ad 32)), some (.int x1), some (.int x2), some (.int x3), some (.int (x4 + 1)), none] [] M Q)
    (K5 : (¬ ((gI M 9 4) ≤ x4)) → (¬ ((gI M 33 x3.toNatClampNeg) ≤ (gI M 10 x4.toNatClampNeg))) → ((gI M 32 2) = (-1)) → (¬ ((v_X8_areNext M x3 x4) = 0)) → (¬ (x2 = x1)) → Fw l D ad kA mX8_walkTo 38 [some (.ref (ad 32)), some (.int x1), some (.int (x2 + 1)), some (.int x3), some (.int (x4 + 1)), none] [] M Q)
    (K6 : (¬ ((gI M 9 4) ≤ x4)) → (¬ ((gI M 33 x3.toNatClampNeg) ≤ (gI M 10 x4.toNatClampNeg))) → ((gI M 32 2) = (-1)) → (¬ ((v_X8_areNext M x3 x4) = 0)) → (x2 = x1) → Fw l D ad kA mX8_walkTo 38 [some (.ref (ad 32)), some (.int x1), some (.int x2), some (.int x3), some (.int (x4 + 1)), none] [] (sI (sI M 32 2 x3) 32 3 x4) Q) : Fw l D ad kA mX8_walkTo 38 [some (.ref (ad 32)), some (.int x1), some (.int x2), some (.int x3), some (.int x4), none] [] M Q := by
  refine r_iload dX8_walkTo_38 rfl ?_
  refine r_aload_n dX8_walkTo_40 rfl ?_
  refine r_getR dX8_walkTo_41 fs_32_0 fk_X8_25 ?_
  refine r_getI dX8_walkTo_44 fs_9_4 fk_X8_30 ?_
  refine r_icmp_ge (tgt := 124) dX8_walkTo_47 (by decide) (fun c1 => ?_) (fun c1 => ?_)
  · skip
    refine q_iinc (v := x3 + 1) (lo' := [some (.ref (ad 32)), some (.int x1), some (.int x2), some (.int (x3 + 1)), some (.int x4), none]) dX8_walkTo_124 rfl (congrArg (fun q => x3 + q) kI_1) (by decide) rfl ?_
    refine r_goto (tgt := 14) dX8_walkTo_127 (by decide) ?_
    exact q_weak (lo' := [some (.ref (ad 32)), some (.int x1), some (.int x2), some (.int (x3 + 1)), none, none]) ⟨rfl, rfl, rfl, rfl, trivial⟩ (K1 c1)
  · skip
    refine r_aload_n dX8_walkTo_50 rfl ?_
    refine r_getR dX8_walkTo_51 fs_32_0 fk_X8_25 ?_
    refine r_getR dX8_walkTo_54 fs_9_0 fk_X8_38 ?_
    refine r_iload dX8_walkTo_57 rfl ?_
    refine r_iald dX8_walkTo_59 as_10 (g1 c1) ?_
    refine r_aload_n dX8_walkTo_60 rfl ?_
    refine r_getR dX8_walkTo_61 fs_32_1 fk_X8_9 ?_
    refine r_iload_n dX8_walkTo_64 rfl ?_
    refine r_iald dX8_walkTo_65 as_33 (g2 c1) ?_
    refine r_icmp_ge (tgt := 124) dX8_walkTo_66 (by decide) (fun c2 => ?_) (fun c2 => ?_)
    · skip
      refine q_iinc (v := x3 + 1) (lo' := [some (.ref (ad 32)), some (.int x1), some (.int x2), some (.int (x3 + 1)), some (.int x4), none]) dX8_walkTo_124 rfl (congrArg (fun q => x3 + q) kI_1) (by decide) rfl ?_
      refine r_goto (tgt := 14) dX8_walkTo_127 (by decide) ?_
      exact q_weak (lo' := [some (.ref (ad 32)), some (.int x1), some (.int x2), some (.int (x3 + 1)), none, none]) ⟨rfl, rfl, rfl, rfl, trivial⟩ (K2 c1 c2)
    · skip
      refine r_aload_n dX8_walkTo_69 rfl ?_
      refine r_getI dX8_walkTo_70 fs_32_2 fk_X8_15 ?_
      refine r_iconst (v := (-1)) dX8_walkTo_73 kI_m1 ?_
      refine r_icmp_ne (tgt := 124) dX8_walkTo_74 (by decide) (fun c3 => ?_) (fun c3 => ?_)
      · skip
        refine q_iinc (v := x3 + 1) (lo' := [some (.ref (ad 32)), some (.int x1), some (.int x2), some (.int (x3 + 1)), some (.int x4), none]) dX8_walkTo_124 rfl (congrArg (fun q => x3 + q) kI_1) (by decide) rfl ?_
        refine r_goto (tgt := 14) dX8_walkTo_127 (by decide) ?_
        exact q_weak (lo' := [some (.ref (ad 32)), some (.int x1), some (.int x2), some (.int (x3 + 1)), none, none]) ⟨rfl, rfl, rfl, rfl, trivial⟩ (K3 c1 c2 c3)
      · skip
        refine r_aload_n dX8_walkTo_77 rfl ?_
        refine r_iload_n dX8_walkTo_78 rfl ?_
        refine r_iload dX8_walkTo_79 rfl ?_
        refine r_callV (x := 32) (As := [.int x3, .int x4]) (rest := []) dX8_walkTo_81 mk_X8_50 mv_X8_areNext rm_X8_walkTo_X8_areNext rfl rfl (by decide +kernel) (Nat.le_of_ble_eq_true rfl) (ct_X8_areNext (g3 c1 c2 c3) (⟨_, rfl, ?_⟩))
        refine q_istore (lo' := [some (.ref (ad 32)), some (.int x1), some (.int x2), some (.int x3), some (.int x4), some (.int (v_X8_areNext M x3 x4))]) dX8_walkTo_84 (by decide) rfl ?_
        refine r_iload dX8_walkTo_86 rfl ?_
        refine r_if_eq (tgt := 110) dX8_walkTo_88 (by decide) (fun c4 => ?_) (fun c4 => ?_)
        · skip
          refine r_iload dX8_walkTo_110 rfl ?_
          refine r_if_eq (tgt := 118) dX8_walkTo_112 (by decide) (fun _ => ?_) (fun q => absurd c4 q)
          refine q_iinc (v := x4 + 1) (lo' := [some (.ref (ad 32)), some (.int x1), some (.int x2), some (.int x3), some (.int (x4 + 1)), some (.int (v_X8_areNext M x3 x4))]) dX8_walkTo_118 rfl (congrArg (fun q => x4 + q) kI_1) (by decide) rfl ?_
          refine r_goto (tgt := 38) dX8_walkTo_121 (by decide) ?_
          exact q_weak (lo' := [some (.ref (ad 32)), some (.int x1), some (.int x2), some (.int x3), some (.int (x4 + 1)), none]) ⟨rfl, rfl, rfl, rfl, rfl, trivial⟩ (K4 c1 c2 c3 c4)
        · skip
          refine r_iload_n dX8_walkTo_91 rfl ?_
          refine r_iload_n dX8_walkTo_92 rfl ?_
          refine r_icmp_ne (tgt := 110) dX8_walkTo_93 (by decide) (fun c5 => ?_) (fun c5 => ?_)
          · skip
            refine r_iload dX8_walkTo_110 rfl ?_
            refine r_if_eq (tgt := 118) dX8_walkTo_112 (by decide) (fun q => absurd q c4) (fun _ => ?_)
            refine q_iinc (v := x2 + 1) (lo' := [some (.ref (ad 32)), some (.int x1), some (.int (x2 + 1)), some (.int x3), some (.int x4), some (.int (v_X8_areNext M x3 x4))]) dX8_walkTo_115 rfl (congrArg (fun q => x2 + q) kI_1) (by decide) rfl ?_
            refine q_iinc (v := x4 + 1) (lo' := [some (.ref (ad 32)), some (.int x1), some (.int (x2 + 1)), some (.int x3), some (.int (x4 + 1)), some (.int (v_X8_areNext M x3 x4))]) dX8_walkTo_118 rfl (congrArg (fun q => x4 + q) kI_1) (by decide) rfl ?_
            refine r_goto (tgt := 38) dX8_walkTo_121 (by decide) ?_
            exact q_weak (lo' := [some (.ref (ad 32)), some (.int x1), some (.int (x2 + 1)), some (.int x3), some (.int (x4 + 1)), none]) ⟨rfl, rfl, rfl, rfl, rfl, trivial⟩ (K5 c1 c2 c3 c4 c5)
          · skip
            refine r_aload_n dX8_walkTo_96 rfl ?_
            refine r_iload_n dX8_walkTo_97 rfl ?_
            refine r_putI dX8_walkTo_98 fs_32_2 fk_X8_15 fp_X8_2 ?_
            refine r_aload_n dX8_walkTo_101 rfl ?_
            refine r_iload dX8_walkTo_102 rfl ?_
            refine r_putI dX8_walkTo_104 fs_32_3 fk_X8_19 fp_X8_3 ?_
            refine r_goto (tgt := 118) dX8_walkTo_107 (by decide) ?_
            refine q_iinc (v := x4 + 1) (lo' := [some (.ref (ad 32)), some (.int x1), some (.int x2), some (.int x3), some (.int (x4 + 1)), some (.int (v_X8_areNext M x3 x4))]) dX8_walkTo_118 rfl (congrArg (fun q => x4 + q) kI_1) (by decide) rfl ?_
            refine r_goto (tgt := 38) dX8_walkTo_121 (by decide) ?_
            exact q_weak (lo' := [some (.ref (ad 32)), some (.int x1), some (.int x2), some (.int x3), some (.int (x4 + 1)), none]) ⟨rfl, rfl, rfl, rfl, rfl, trivial⟩ (K6 c1 c2 c3 c4 c5)
theorem en_X8_walkTo {x1 : Int32} (K : Fw l D ad kA mX8_walkTo 0 [some (.ref (ad 32)), some (.int x1), none, none, none, none] [] M Q) : Cal l D ad kA mX8_walkTo [.ref (ad 32), .int x1] M Q := Cal.of (by decide) rfl rfl (Nat.le_of_ble_eq_true rfl) K
def v_X8_beatsOfBoth (M : Mem)  : Int32 := if (v_X9_hasNumber M (gI M 32 2)) = 0 then (-1) else if (v_X9_hasNumber M (gI M 32 3)) = 0 then (-1) else (imin (gI M 33 (gI M 32 2).toNatClampNeg) (gI M 33 (gI M 32 3).toNatClampNeg)) - (gI M 10 (gI M 32 3).toNatClampNeg)
def g_X8_beatsOfBoth (M : Mem)  : Prop := ((¬ ((v_X9_hasNumber M (gI M 32 2)) = 0)) → (¬ ((v_X9_hasNumber M (gI M 32 3)) = 0)) → vp_in (gI M 32 2) 160) ∧ ((¬ ((v_X9_hasNumber M (gI M 32 2)) = 0)) → (¬ ((v_X9_hasNumber M (gI M 32 3)) = 0)) → vp_in (gI M 32 3) 160)
theorem ct_X8_beatsOfBoth   (g : g_X8_beatsOfBoth M ) (h : Q (.returned (some (.int (v_X8_beatsOfBoth M )))) M) : Cal l D ad kA mX8_beatsOfBoth [.ref (ad 32)] M Q := by
  refine Cal.of (lo := [some (.ref (ad 32))]) (by decide) rfl rfl (Nat.le_of_ble_eq_true rfl) ?_
  obtain ⟨g1, g2⟩ := g
  refine r_aload_n dX8_beatsOfBoth_0 rfl ?_
  refine r_getR dX8_beatsOfBoth_1 fs_32_0 fk_X8_25 ?_
  refine r_aload_n dX8_beatsOfBoth_4 rfl ?_
  refine r_getI dX8_beatsOfBoth_5 fs_32_2 fk_X8_15 ?_
  refine r_callV (x := 9) (As := [.int (gI M 32 2)]) (rest := []) dX8_beatsOfBoth_8 mk_X8_54 mv_X9_hasNumber rm_X8_beatsOfBoth_X9_hasNumber rfl rfl (by decide +kernel) (Nat.le_of_ble_eq_true rfl) (ct_X9_hasNumber (⟨_, rfl, ?_⟩))
  refine r_if_eq (tgt := 28) dX8_beatsOfBoth_11 (by decide) (fun c1 => ?_) (fun c1 => ?_)
  · skip
    refine r_iconst (v := (-1)) dX8_beatsOfBoth_28 kI_m1 ?_
    exact r_iret dX8_beatsOfBoth_29 rfl (by have h9 := h; simp only [v_X8_beatsOfBoth, if_pos c1] at h9; first | exact h9 | (simp only [if_pos c1]; exact h9))
  · skip
    refine r_aload_n dX8_beatsOfBoth_14 rfl ?_
    refine r_getR dX8_beatsOfBoth_15 fs_32_0 fk_X8_25 ?_
    refine r_aload_n dX8_beatsOfBoth_18 rfl ?_
    refine r_getI dX8_beatsOfBoth_19 fs_32_3 fk_X8_19 ?_
    refine r_callV (x := 9) (As := [.int (gI M 32 3)]) (rest := []) dX8_beatsOfBoth_22 mk_X8_54 mv_X9_hasNumber rm_X8_beatsOfBoth_X9_hasNumber rfl rfl (by decide +kernel) (Nat.le_of_ble_eq_true rfl) (ct_X9_hasNumber (⟨_, rfl, ?_⟩))
    refine r_if_ne (tgt := 30) dX8_beatsOfBoth_25 (by decide) (fun c2 => ?_) (fun c2 => ?_)
    · skip
      refine r_aload_n dX8_beatsOfBoth_30 rfl ?_
      refine r_getR dX8_beatsOfBoth_31 fs_32_1 fk_X8_9 ?_
      refine r_aload_n dX8_beatsOfBoth_34 rfl ?_
      refine r_getI dX8_beatsOfBoth_35 fs_32_2 fk_X8_15 ?_
      refine r_iald dX8_beatsOfBoth_38 as_33 (g1 c1 c2) ?_
      refine r_aload_n dX8_beatsOfBoth_39 rfl ?_
      refine r_getR dX8_beatsOfBoth_40 fs_32_1 fk_X8_9 ?_
      refine r_aload_n dX8_beatsOfBoth_43 rfl ?_
      refine r_getI dX8_beatsOfBoth_44 fs_32_3 fk_X8_19 ?_
      refine r_iald dX8_beatsOfBoth_47 as_33 (g2 c1 c2) ?_
      refine q_mmin dX8_beatsOfBoth_48 mk_X8_44 (by decide) (Nat.le_of_ble_eq_true rfl) ?_
      refine r_aload_n dX8_beatsOfBoth_51 rfl ?_
      refine r_getR dX8_beatsOfBoth_52 fs_32_0 fk_X8_25 ?_
      refine r_getR dX8_beatsOfBoth_55 fs_9_0 fk_X8_38 ?_
      refine r_aload_n dX8_beatsOfBoth_58 rfl ?_
      refine r_getI dX8_beatsOfBoth_59 fs_32_3 fk_X8_19 ?_
      refine r_iald dX8_beatsOfBoth_62 as_10 (g2 c1 c2) ?_
      refine r_isub dX8_beatsOfBoth_63 ?_
      exact r_iret dX8_beatsOfBoth_64 rfl (by have h9 := h; simp only [v_X8_beatsOfBoth, if_neg c1, if_neg c2] at h9; first | exact h9 | (simp only [if_neg c1, if_neg c2]; exact h9))
    · skip
      refine r_iconst (v := (-1)) dX8_beatsOfBoth_28 kI_m1 ?_
      exact r_iret dX8_beatsOfBoth_29 rfl (by have h9 := h; simp only [v_X8_beatsOfBoth, if_neg c1, if_pos c2] at h9; first | exact h9 | (simp only [if_neg c1, if_pos c2]; exact h9))
theorem t_X8_lengthDamped_0 {x1 : Int32} 
    (K1 : Fw l D ad kA mX8_lengthDamped 6 [some (.ref (ad 32)), some (.int x1), some (.int (-1)), some (.int (x1 + 1))] [] M Q) : Fw l D ad kA mX8_lengthDamped 0 [some (.ref (ad 32)), some (.int x1), none, none] [] M Q := by
  refine r_iconst (v := (-1)) dX8_lengthDamped_0 kI_m1 ?_
  refine q_istore_n (lo' := [some (.ref (ad 32)), some (.int x1), some (.int (-1)), none]) dX8_lengthDamped_1 (by decide) rfl ?_
  refine r_iload_n dX8_lengthDamped_2 rfl ?_
  refine r_iconst (v := 1) dX8_lengthDamped_3 kI_1 ?_
  refine r_iadd dX8_lengthDamped_4 ?_
  refine q_istore_n (lo' := [some (.ref (ad 32)), some (.int x1), some (.int (-1)), some (.int (x1 + 1))]) dX8_lengthDamped_5 (by decide) rfl ?_
  exact K1
theorem t_X8_lengthDamped_6 {x1 : Int32} {x2 : Int32} {x3 : Int32} 
    (g1 : ((gI M 9 4) ≤ x3) → (x2 = (-1)) → vp_in x1 160)
    (g2 : (¬ ((gI M 9 4) ≤ x3)) → vp_in x3 160)
    (g3 : (¬ ((gI M 9 4) ≤ x3)) → vp_in x1 160)
    (g4 : (¬ ((gI M 9 4) ≤ x3)) → (¬ ((gI M 33 x1.toNatClampNeg) ≤ (gI M 10 x3.toNatClampNeg))) → (x2 = (-1)) → g_X8_areNext M x1 x3)
    (K1 : ((gI M 9 4) ≤ x3) → Q (.returned (some (.int (if x2 = (-1) then gI M 12 x1.toNatClampNeg else x2)))) M)
    (K2 : (¬ ((gI M 9 4) ≤ x3)) → ((gI M 33 x1.toNatClampNeg) ≤ (gI M 10 x3.toNatClampNeg)) → Q (.returned (some (.int (if x2 = (-1) then gI M 12 x1.toNatClampNeg else x2)))) M)
    (K3 : (¬ ((gI M 9 4) ≤ x3)) → (¬ ((gI M 33 x1.toNatClampNeg) ≤ (gI M 10 x3.toNatClampNeg))) → (¬ (x2 = (-1))) → Q (.returned (some (.int x2))) M)
    (K4 : (¬ ((gI M 9 4) ≤ x3)) → (¬ ((gI M 33 x1.toNatClampNeg) ≤ (gI M 10 x3.toNatClampNeg))) → (x2 = (-1)) → Fw l D ad kA mX8_lengthDamped 6 [some (.ref (ad 32)), some (.int x1), some (.int (if (v_X8_areNext M x1 x3) = 0 then x2 else if (gI M 10 x3.toNatClampNeg) ≤ (gI M 10 x1.toNatClampNeg) then x2 else (gI M 10 x3.toNatClampNeg) - (gI M 10 x1.toNatClampNeg))), some (.int (x3 + 1))] [] M Q) : Fw l D ad kA mX8_lengthDamped 6 [some (.ref (ad 32)), some (.int x1), some (.int x2), some (.int x3)] [] M Q := by
  refine r_iload_n dX8_lengthDamped_6 rfl ?_
  refine r_aload_n dX8_lengthDamped_7 rfl ?_
  refine r_getR dX8_lengthDamped_8 fs_32_0 fk_X8_25 ?_
  refine r_getI dX8_lengthDamped_11 fs_9_4 fk_X8_30 ?_
  refine r_icmp_ge (tgt := 96) dX8_lengthDamped_14 (by decide) (fun c1 => ?_) (fun c1 => ?_)
  · skip
    refine r_iload_n dX8_lengthDamped_96 rfl ?_
    refine r_iconst (v := (-1)) dX8_lengthDamped_97 kI_m1 ?_
    suffices hJ1 : Fw l D ad kA mX8_lengthDamped 114 [none, none, none, none] [.int (if x2 = (-1) then gI M 12 x1.toNatClampNeg else x2)] M Q by
      refine r_icmp_ne (tgt := 113) dX8_lengthDamped_98 (by decide) (fun c2 => ?_) (fun c2 => ?_)
      · skip
        refine r_iload_n dX8_lengthDamped_113 rfl ?_
        exact q_weak (lo' := [none, none, none, none]) trivial (by have h9 := hJ1; simp only [if_neg c2] at h9; first | exact h9 | (simp only [if_neg c2]; exact h9))
      · skip
        refine r_aload_n dX8_lengthDamped_101 rfl ?_
        refine r_getR dX8_lengthDamped_102 fs_32_0 fk_X8_25 ?_
        refine r_getR dX8_lengthDamped_105 fs_9_2 fk_X8_41 ?_
        refine r_iload_n dX8_lengthDamped_108 rfl ?_
        refine r_iald dX8_lengthDamped_109 as_12 (g1 c1 c2) ?_
        refine r_goto (tgt := 114) dX8_lengthDamped_110 (by decide) ?_
        exact q_weak (lo' := [none, none, none, none]) trivial (by have h9 := hJ1; simp only [if_pos c2] at h9; first | exact h9 | (simp only [if_pos c2]; exact h9))
    exact r_iret dX8_lengthDamped_114 rfl (K1 c1)
  · skip
    refine r_aload_n dX8_lengthDamped_17 rfl ?_
    refine r_getR dX8_lengthDamped_18 fs_32_0 fk_X8_25 ?_
    refine r_getR dX8_lengthDamped_21 fs_9_0 fk_X8_38 ?_
    refine r_iload_n dX8_lengthDamped_24 rfl ?_
    refine r_iald dX8_lengthDamped_25 as_10 (g2 c1) ?_
    refine r_aload_n dX8_lengthDamped_26 rfl ?_
    refine r_getR dX8_lengthDamped_27 fs_32_1 fk_X8_9 ?_
    refine r_iload_n dX8_lengthDamped_30 rfl ?_
    refine r_iald dX8_lengthDamped_31 as_33 (g3 c1) ?_
    refine r_icmp_ge (tgt := 96) dX8_lengthDamped_32 (by decide) (fun c3 => ?_) (fun c3 => ?_)
    · skip
      refine r_iload_n dX8_lengthDamped_96 rfl ?_
      refine r_iconst (v := (-1)) dX8_lengthDamped_97 kI_m1 ?_
      suffices hJ2 : Fw l D ad kA mX8_lengthDamped 114 [none, none, none, none] [.int (if x2 = (-1) then gI M 12 x1.toNatClampNeg else x2)] M Q by
        refine r_icmp_ne (tgt := 113) dX8_lengthDamped_98 (by decide) (fun c4 => ?_) (fun c4 => ?_)
        · skip
          refine r_iload_n dX8_lengthDamped_113 rfl ?_
          exact q_weak (lo' := [none, none, none, none]) trivial (by have h9 := hJ2; simp only [if_neg c4] at h9; first | exact h9 | (simp only [if_neg c4]; exact h9))
        · skip
          refine r_aload_n dX8_lengthDamped_101 rfl ?_
          refine r_getR dX8_lengthDamped_102 fs_32_0 fk_X8_25 ?_
          refine r_getR dX8_lengthDamped_105 fs_9_2 fk_X8_41 ?_
          refine r_iload_n dX8_lengthDamped_108 rfl ?_
          refine r_iald dX8_lengthDamped_109 as_12 (g3 c1) ?_
          refine r_goto (tgt := 114) dX8_lengthDamped_110 (by decide) ?_
          exact q_weak (lo' := [none, none, none, none]) trivial (by have h9 := hJ2; simp only [if_pos c4] at h9; first | exact h9 | (simp only [if_pos c4]; exact h9))
      exact r_iret dX8_lengthDamped_114 rfl (K2 c1 c3)
    · skip
      refine r_iload_n dX8_lengthDamped_35 rfl ?_
      refine r_iconst (v := (-1)) dX8_lengthDamped_36 kI_m1 ?_
      refine r_icmp_ne (tgt := 96) dX8_lengthDamped_37 (by decide) (fun c5 => ?_) (fun c5 => ?_)
      · skip
        refine r_iload_n dX8_lengthDamped_96 rfl ?_
        refine r_iconst (v := (-1)) dX8_lengthDamped_97 kI_m1 ?_
        refine r_icmp_ne (tgt := 113) dX8_lengthDamped_98 (by decide) (fun _ => ?_) (fun q => absurd q c5)
        refine r_iload_n dX8_lengthDamped_113 rfl ?_
        exact r_iret dX8_lengthDamped_114 rfl (K3 c1 c3 c5)
      · skip
        refine r_aload_n dX8_lengthDamped_40 rfl ?_
        refine r_iload_n dX8_lengthDamped_41 rfl ?_
        refine r_iload_n dX8_lengthDamped_42 rfl ?_
        refine r_callV (x := 32) (As := [.int x1, .int x3]) (rest := []) dX8_lengthDamped_43 mk_X8_50 mv_X8_areNext rm_X8_lengthDamped_X8_areNext rfl rfl (by decide +kernel) (Nat.le_of_ble_eq_true rfl) (ct_X8_areNext (g4 c1 c3 c5) (⟨_, rfl, ?_⟩))
        suffices hJ3 : Fw l D ad kA mX8_lengthDamped 90 [some (.ref (ad 32)), some (.int x1), some (.int (if (v_X8_areNext M x1 x3) = 0 then x2 else if (gI M 10 x3.toNatClampNeg) ≤ (gI M 10 x1.toNatClampNeg) then x2 else (gI M 10 x3.toNatClampNeg) - (gI M 10 x1.toNatClampNeg))), some (.int x3)] [] M Q by
          refine r_if_eq (tgt := 90) dX8_lengthDamped_46 (by decide) (fun c6 => ?_) (fun c6 => ?_)
          · skip
            exact q_weak (lo' := [some (.ref (ad 32)), some (.int x1), some (.int x2), some (.int x3)]) ⟨rfl, rfl, rfl, rfl, trivial⟩ (by have h9 := hJ3; simp only [if_pos c6] at h9; first | exact h9 | (simp only [if_pos c6]; exact h9))
          · skip
            refine r_aload_n dX8_lengthDamped_49 rfl ?_
            refine r_getR dX8_lengthDamped_50 fs_32_0 fk_X8_25 ?_
            refine r_getR dX8_lengthDamped_53 fs_9_0 fk_X8_38 ?_
            refine r_iload_n dX8_lengthDamped_56 rfl ?_
            refine r_iald dX8_lengthDamped_57 as_10 (g2 c1) ?_
            refine r_aload_n dX8_lengthDamped_58 rfl ?_
            refine r_getR dX8_lengthDamped_59 fs_32_0 fk_X8_25 ?_
            refine r_getR dX8_lengthDamped_62 fs_9_0 fk_X8_38 ?_
            refine r_iload_n dX8_lengthDamped_65 rfl ?_
            refine r_iald dX8_lengthDamped_66 as_10 (g3 c1) ?_
            refine r_icmp_le (tgt := 90) dX8_lengthDamped_67 (by decide) (fun c7 => ?_) (fun c7 => ?_)
            · skip
              exact q_weak (lo' := [some (.ref (ad 32)), some (.int x1), some (.int x2), some (.int x3)]) ⟨rfl, rfl, rfl, rfl, trivial⟩ (by have h9 := hJ3; simp only [if_neg c6, if_pos c7] at h9; first | exact h9 | (simp only [if_neg c6, if_pos c7]; exact h9))
            · skip
              refine r_aload_n dX8_lengthDamped_70 rfl ?_
              refine r_getR dX8_lengthDamped_71 fs_32_0 fk_X8_25 ?_
              refine r_getR dX8_lengthDamped_74 fs_9_0 fk_X8_38 ?_
              refine r_iload_n dX8_lengthDamped_77 rfl ?_
              refine r_iald dX8_lengthDamped_78 as_10 (g2 c1) ?_
              refine r_aload_n dX8_lengthDamped_79 rfl ?_
              refine r_getR dX8_lengthDamped_80 fs_32_0 fk_X8_25 ?_
              refine r_getR dX8_lengthDamped_83 fs_9_0 fk_X8_38 ?_
              refine r_iload_n dX8_lengthDamped_86 rfl ?_
              refine r_iald dX8_lengthDamped_87 as_10 (g3 c1) ?_
              refine r_isub dX8_lengthDamped_88 ?_
              refine q_istore_n (lo' := [some (.ref (ad 32)), some (.int x1), some (.int ((gI M 10 x3.toNatClampNeg) - (gI M 10 x1.toNatClampNeg))), some (.int x3)]) dX8_lengthDamped_89 (by decide) rfl ?_
              exact q_weak (lo' := [some (.ref (ad 32)), some (.int x1), some (.int ((gI M 10 x3.toNatClampNeg) - (gI M 10 x1.toNatClampNeg))), some (.int x3)]) ⟨rfl, rfl, rfl, rfl, trivial⟩ (by have h9 := hJ3; simp only [if_neg c6, if_neg c7] at h9; first | exact h9 | (simp only [if_neg c6, if_neg c7]; exact h9))
        refine q_iinc (v := x3 + 1) (lo' := [some (.ref (ad 32)), some (.int x1), some (.int (if (v_X8_areNext M x1 x3) = 0 then x2 else if (gI M 10 x3.toNatClampNeg) ≤ (gI M 10 x1.toNatClampNeg) then x2 else (gI M 10 x3.toNatClampNeg) - (gI M 10 x1.toNatClampNeg))), some (.int (x3 + 1))]) dX8_lengthDamped_90 rfl (congrArg (fun q => x3 + q) kI_1) (by decide) rfl ?_
        refine r_goto (tgt := 6) dX8_lengthDamped_93 (by decide) ?_
        exact (K4 c1 c3 c5)
theorem en_X8_lengthDamped {x1 : Int32} (K : Fw l D ad kA mX8_lengthDamped 0 [some (.ref (ad 32)), some (.int x1), none, none] [] M Q) : Cal l D ad kA mX8_lengthDamped [.ref (ad 32), .int x1] M Q := Cal.of (by decide) rfl rfl (Nat.le_of_ble_eq_true rfl) K
theorem t_X8_cutDown_0  
    (K1 : Fw l D ad kA mX8_cutDown 4 [some (.ref (ad 32)), some (.int 0), some (.int 0), none] [] M Q) : Fw l D ad kA mX8_cutDown 0 [some (.ref (ad 32)), none, none, none] [] M Q := by
  refine r_iconst (v := 0) dX8_cutDown_0 kI_0 ?_
  refine q_istore_n (lo' := [some (.ref (ad 32)), some (.int 0), none, none]) dX8_cutDown_1 (by decide) rfl ?_
  refine r_iconst (v := 0) dX8_cutDown_2 kI_0 ?_
  refine q_istore_n (lo' := [some (.ref (ad 32)), some (.int 0), some (.int 0), none]) dX8_cutDown_3 (by decide) rfl ?_
  exact K1
theorem t_X8_cutDown_4 {x1 : Int32} {x2 : Int32} 
    (K1 : ((gI M 9 4) ≤ x2) → Cal l D ad kA mX8_measure [.ref (ad 32)] M (fun oc M2 => oc = .returned none ∧ Fw l D ad kA mX8_cutDown 55 [none, some (.int x1), none, none] [] M2 Q))
    (K2 : (¬ ((gI M 9 4) ≤ x2)) → Cal l D ad kA mX8_lengthDamped [.ref (ad 32), .int x2] M (fun oc M2 => ∃ r : Int32, oc = .returned (some (.int r)) ∧ Fw l D ad kA mX8_cutDown 20 [some (.ref (ad 32)), some (.int x1), some (.int x2), none] [.int r] M2 Q)) : Fw l D ad kA mX8_cutDown 4 [some (.ref (ad 32)), some (.int x1), some (.int x2), none] [] M Q := by
  refine r_iload_n dX8_cutDown_4 rfl ?_
  refine r_aload_n dX8_cutDown_5 rfl ?_
  refine r_getR dX8_cutDown_6 fs_32_0 fk_X8_25 ?_
  refine r_getI dX8_cutDown_9 fs_9_4 fk_X8_30 ?_
  refine r_icmp_ge (tgt := 51) dX8_cutDown_12 (by decide) (fun c1 => ?_) (fun c1 => ?_)
  · skip
    refine r_aload_n dX8_cutDown_51 rfl ?_
    exact r_callV (x := 32) (As := []) (rest := []) dX8_cutDown_52 mk_X8_62 mv_X8_measure rm_X8_cutDown_X8_measure rfl rfl (by decide +kernel) (Nat.le_of_ble_eq_true rfl) (cal_v (lo' := [none, some (.int x1), none, none]) ⟨rfl, trivial⟩ (K1 c1))
  · skip
    refine r_aload_n dX8_cutDown_15 rfl ?_
    refine r_iload_n dX8_cutDown_16 rfl ?_
    exact r_callV (x := 32) (As := [.int x2]) (rest := []) dX8_cutDown_17 mk_X8_58 mv_X8_lengthDamped rm_X8_cutDown_X8_lengthDamped rfl rfl (by decide +kernel) (Nat.le_of_ble_eq_true rfl) (cal_i (lo' := [some (.ref (ad 32)), some (.int x1), some (.int x2), none]) ⟨rfl, rfl, rfl, trivial⟩ (K2 c1))
theorem t_X8_cutDown_55 {x1 : Int32} 
    (K1 : Q (.returned (some (.int x1))) M) : Fw l D ad kA mX8_cutDown 55 [none, some (.int x1), none, none] [] M Q := by
  refine r_iload_n dX8_cutDown_55 rfl ?_
  exact r_iret dX8_cutDown_56 rfl K1
theorem t_X8_cutDown_20 {x1 : Int32} {x2 : Int32} {s1 : Int32} 
    (g1 : vp_in x2 160)
    (K1 : Fw l D ad kA mX8_cutDown 4 [some (.ref (ad 32)), some (.int (x1 + ((gI M 12 x2.toNatClampNeg) - s1))), some (.int (x2 + 1)), none] [] (sI M 12 x2.toNatClampNeg s1) Q) : Fw l D ad kA mX8_cutDown 20 [some (.ref (ad 32)), some (.int x1), some (.int x2), none] [.int s1] M Q := by
  refine q_istore_n (lo' := [some (.ref (ad 32)), some (.int x1), some (.int x2), some (.int s1)]) dX8_cutDown_20 (by decide) rfl ?_
  refine r_iload_n dX8_cutDown_21 rfl ?_
  refine r_aload_n dX8_cutDown_22 rfl ?_
  refine r_getR dX8_cutDown_23 fs_32_0 fk_X8_25 ?_
  refine r_getR dX8_cutDown_26 fs_9_2 fk_X8_41 ?_
  refine r_iload_n dX8_cutDown_29 rfl ?_
  refine r_iald dX8_cutDown_30 as_12 g1 ?_
  refine r_iload_n dX8_cutDown_31 rfl ?_
  refine r_isub dX8_cutDown_32 ?_
  refine r_iadd dX8_cutDown_33 ?_
  refine q_istore_n (lo' := [some (.ref (ad 32)), some (.int (x1 + ((gI M 12 x2.toNatClampNeg) - s1))), some (.int x2), some (.int s1)]) dX8_cutDown_34 (by decide) rfl ?_
  refine r_aload_n dX8_cutDown_35 rfl ?_
  refine r_getR dX8_cutDown_36 fs_32_0 fk_X8_25 ?_
  refine r_getR dX8_cutDown_39 fs_9_2 fk_X8_41 ?_
  refine r_iload_n dX8_cutDown_42 rfl ?_
  refine r_iload_n dX8_cutDown_43 rfl ?_
  refine r_iast dX8_cutDown_44 as_12 g1 ?_
  refine q_iinc (v := x2 + 1) (lo' := [some (.ref (ad 32)), some (.int (x1 + ((gI M 12 x2.toNatClampNeg) - s1))), some (.int (x2 + 1)), some (.int s1)]) dX8_cutDown_45 rfl (congrArg (fun q => x2 + q) kI_1) (by decide) rfl ?_
  refine r_goto (tgt := 4) dX8_cutDown_48 (by decide) ?_
  exact q_weak (lo' := [some (.ref (ad 32)), some (.int (x1 + ((gI M 12 x2.toNatClampNeg) - s1))), some (.int (x2 + 1)), none]) ⟨rfl, rfl, rfl, trivial⟩ K1
theorem en_X8_cutDown  (K : Fw l D ad kA mX8_cutDown 0 [some (.ref (ad 32)), none, none, none] [] M Q) : Cal l D ad kA mX8_cutDown [.ref (ad 32)] M Q := Cal.of (by decide) rfl rfl (Nat.le_of_ble_eq_true rfl) K
end W_sound
