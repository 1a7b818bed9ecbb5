/-! the model: hands: decode rows, links, walks from cut to cut (printed by wip/gen) -/
theorem dX13_takesBy_0 : decode cX13_takesBy 0 = .ok (.aload_n 0, 1) := by decide +kernel
theorem dX13_takesBy_1 : decode cX13_takesBy 1 = .ok (.iload 4, 2) := by decide +kernel
theorem dX13_takesBy_3 : decode cX13_takesBy 3 = .ok (.invokevirtual 283, 3) := by decide +kernel
theorem dX13_takesBy_6 : decode cX13_takesBy 6 = .ok (.aload_n 0, 1) := by decide +kernel
theorem dX13_takesBy_7 : decode cX13_takesBy 7 = .ok (.getfield 128, 3) := by decide +kernel
theorem dX13_takesBy_10 : decode cX13_takesBy 10 = .ok (.aload_n 0, 1) := by decide +kernel
theorem dX13_takesBy_11 : decode cX13_takesBy 11 = .ok (.getfield 156, 3) := by decide +kernel
theorem dX13_takesBy_14 : decode cX13_takesBy 14 = .ok (.iload_n 1, 1) := by decide +kernel
theorem dX13_takesBy_15 : decode cX13_takesBy 15 = .ok (.iaload, 1) := by decide +kernel
theorem dX13_takesBy_16 : decode cX13_takesBy 16 = .ok (.iaload, 1) := by decide +kernel
theorem dX13_takesBy_17 : decode cX13_takesBy 17 = .ok (.if_icmp .ne 7, 3) := by decide +kernel
theorem dX13_takesBy_20 : decode cX13_takesBy 20 = .ok (.ldc_w 282, 3) := by decide +kernel
theorem dX13_takesBy_23 : decode cX13_takesBy 23 = .ok (.ireturn, 1) := by decide +kernel
theorem dX13_takesBy_24 : decode cX13_takesBy 24 = .ok (.aload_n 0, 1) := by decide +kernel
theorem dX13_takesBy_25 : decode cX13_takesBy 25 = .ok (.iload_n 3, 1) := by decide +kernel
theorem dX13_takesBy_26 : decode cX13_takesBy 26 = .ok (.iload_n 1, 1) := by decide +kernel
theorem dX13_takesBy_27 : decode cX13_takesBy 27 = .ok (.invokevirtual 286, 3) := by decide +kernel
theorem dX13_takesBy_30 : decode cX13_takesBy 30 = .ok (.istore 5, 2) := by decide +kernel
theorem dX13_takesBy_32 : decode cX13_takesBy 32 = .ok (.iload 5, 2) := by decide +kernel
theorem dX13_takesBy_34 : decode cX13_takesBy 34 = .ok (.ldc_w 282, 3) := by decide +kernel
theorem dX13_takesBy_37 : decode cX13_takesBy 37 = .ok (.if_icmp .lt 9, 3) := by decide +kernel
theorem dX13_takesBy_40 : decode cX13_takesBy 40 = .ok (.ldc_w 282, 3) := by decide +kernel
theorem dX13_takesBy_43 : decode cX13_takesBy 43 = .ok (.goto 20, 3) := by decide +kernel
theorem dX13_takesBy_46 : decode cX13_takesBy 46 = .ok (.iload 5, 2) := by decide +kernel
theorem dX13_takesBy_48 : decode cX13_takesBy 48 = .ok (.aload_n 0, 1) := by decide +kernel
theorem dX13_takesBy_49 : decode cX13_takesBy 49 = .ok (.getfield 160, 3) := by decide +kernel
theorem dX13_takesBy_52 : decode cX13_takesBy 52 = .ok (.iload_n 1, 1) := by decide +kernel
theorem dX13_takesBy_53 : decode cX13_takesBy 53 = .ok (.iconst 1, 1) := by decide +kernel
theorem dX13_takesBy_54 : decode cX13_takesBy 54 = .ok (.iadd, 1) := by decide +kernel
theorem dX13_takesBy_55 : decode cX13_takesBy 55 = .ok (.iload_n 2, 1) := by decide +kernel
theorem dX13_takesBy_56 : decode cX13_takesBy 56 = .ok (.iload 4, 2) := by decide +kernel
theorem dX13_takesBy_58 : decode cX13_takesBy 58 = .ok (.invokestatic 289, 3) := by decide +kernel
theorem dX13_takesBy_61 : decode cX13_takesBy 61 = .ok (.iaload, 1) := by decide +kernel
theorem dX13_takesBy_62 : decode cX13_takesBy 62 = .ok (.iadd, 1) := by decide +kernel
theorem dX13_takesBy_63 : decode cX13_takesBy 63 = .ok (.ireturn, 1) := by decide +kernel
theorem dX13_takesFrom_0 : decode cX13_takesFrom 0 = .ok (.iload_n 1, 1) := by decide +kernel
theorem dX13_takesFrom_1 : decode cX13_takesFrom 1 = .ok (.aload_n 0, 1) := by decide +kernel
theorem dX13_takesFrom_2 : decode cX13_takesFrom 2 = .ok (.getfield 293, 3) := by decide +kernel
theorem dX13_takesFrom_5 : decode cX13_takesFrom 5 = .ok (.if_icmp .ne 5, 3) := by decide +kernel
theorem dX13_takesFrom_8 : decode cX13_takesFrom 8 = .ok (.iconst 0, 1) := by decide +kernel
theorem dX13_takesFrom_9 : decode cX13_takesFrom 9 = .ok (.ireturn, 1) := by decide +kernel
theorem dX13_takesFrom_10 : decode cX13_takesFrom 10 = .ok (.ldc_w 282, 3) := by decide +kernel
theorem dX13_takesFrom_13 : decode cX13_takesFrom 13 = .ok (.aload_n 0, 1) := by decide +kernel
theorem dX13_takesFrom_14 : decode cX13_takesFrom 14 = .ok (.iload_n 1, 1) := by decide +kernel
theorem dX13_takesFrom_15 : decode cX13_takesFrom 15 = .ok (.iload_n 2, 1) := by decide +kernel
theorem dX13_takesFrom_16 : decode cX13_takesFrom 16 = .ok (.iload_n 3, 1) := by decide +kernel
theorem dX13_takesFrom_17 : decode cX13_takesFrom 17 = .ok (.iload 4, 2) := by decide +kernel
theorem dX13_takesFrom_19 : decode cX13_takesFrom 19 = .ok (.invokevirtual 296, 3) := by decide +kernel
theorem dX13_takesFrom_22 : decode cX13_takesFrom 22 = .ok (.aload_n 0, 1) := by decide +kernel
theorem dX13_takesFrom_23 : decode cX13_takesFrom 23 = .ok (.iload_n 1, 1) := by decide +kernel
theorem dX13_takesFrom_24 : decode cX13_takesFrom 24 = .ok (.iconst 1, 1) := by decide +kernel
theorem dX13_takesFrom_25 : decode cX13_takesFrom 25 = .ok (.iload_n 2, 1) := by decide +kernel
theorem dX13_takesFrom_26 : decode cX13_takesFrom 26 = .ok (.isub, 1) := by decide +kernel
theorem dX13_takesFrom_27 : decode cX13_takesFrom 27 = .ok (.iload 4, 2) := by decide +kernel
theorem dX13_takesFrom_29 : decode cX13_takesFrom 29 = .ok (.iload_n 3, 1) := by decide +kernel
theorem dX13_takesFrom_30 : decode cX13_takesFrom 30 = .ok (.invokevirtual 296, 3) := by decide +kernel
theorem dX13_takesFrom_33 : decode cX13_takesFrom 33 = .ok (.invokestatic 266, 3) := by decide +kernel
theorem dX13_takesFrom_36 : decode cX13_takesFrom 36 = .ok (.invokestatic 266, 3) := by decide +kernel
theorem dX13_takesFrom_39 : decode cX13_takesFrom 39 = .ok (.ireturn, 1) := by decide +kernel
theorem dX13_findHands_0 : decode cX13_findHands 0 = .ok (.aload_n 0, 1) := by decide +kernel
theorem dX13_findHands_1 : decode cX13_findHands 1 = .ok (.getfield 293, 3) := by decide +kernel
theorem dX13_findHands_4 : decode cX13_findHands 4 = .ok (.istore_n 1, 1) := by decide +kernel
theorem dX13_findHands_5 : decode cX13_findHands 5 = .ok (.iload_n 1, 1) := by decide +kernel
theorem dX13_findHands_6 : decode cX13_findHands 6 = .ok (.ifCond .le 83, 3) := by decide +kernel
theorem dX13_findHands_9 : decode cX13_findHands 9 = .ok (.iconst 0, 1) := by decide +kernel
theorem dX13_findHands_10 : decode cX13_findHands 10 = .ok (.istore_n 2, 1) := by decide +kernel
theorem dX13_findHands_11 : decode cX13_findHands 11 = .ok (.iload_n 2, 1) := by decide +kernel
theorem dX13_findHands_12 : decode cX13_findHands 12 = .ok (.iconst 2, 1) := by decide +kernel
theorem dX13_findHands_13 : decode cX13_findHands 13 = .ok (.if_icmp .ge 70, 3) := by decide +kernel
theorem dX13_findHands_16 : decode cX13_findHands 16 = .ok (.iconst 0, 1) := by decide +kernel
theorem dX13_findHands_17 : decode cX13_findHands 17 = .ok (.istore_n 3, 1) := by decide +kernel
theorem dX13_findHands_18 : decode cX13_findHands 18 = .ok (.iload_n 3, 1) := by decide +kernel
theorem dX13_findHands_19 : decode cX13_findHands 19 = .ok (.iload_n 1, 1) := by decide +kernel
theorem dX13_findHands_20 : decode cX13_findHands 20 = .ok (.iconst 1, 1) := by decide +kernel
theorem dX13_findHands_21 : decode cX13_findHands 21 = .ok (.isub, 1) := by decide +kernel
theorem dX13_findHands_22 : decode cX13_findHands 22 = .ok (.if_icmp .ge 30, 3) := by decide +kernel
theorem dX13_findHands_25 : decode cX13_findHands 25 = .ok (.aload_n 0, 1) := by decide +kernel
theorem dX13_findHands_26 : decode cX13_findHands 26 = .ok (.getfield 160, 3) := by decide +kernel
theorem dX13_findHands_29 : decode cX13_findHands 29 = .ok (.iload_n 1, 1) := by decide +kernel
theorem dX13_findHands_30 : decode cX13_findHands 30 = .ok (.iload_n 2, 1) := by decide +kernel
theorem dX13_findHands_31 : decode cX13_findHands 31 = .ok (.iload_n 3, 1) := by decide +kernel
theorem dX13_findHands_32 : decode cX13_findHands 32 = .ok (.invokestatic 289, 3) := by decide +kernel
theorem dX13_findHands_35 : decode cX13_findHands 35 = .ok (.aload_n 0, 1) := by decide +kernel
theorem dX13_findHands_36 : decode cX13_findHands 36 = .ok (.iload_n 1, 1) := by decide +kernel
theorem dX13_findHands_37 : decode cX13_findHands 37 = .ok (.iload_n 2, 1) := by decide +kernel
theorem dX13_findHands_38 : decode cX13_findHands 38 = .ok (.iload_n 1, 1) := by decide +kernel
theorem dX13_findHands_39 : decode cX13_findHands 39 = .ok (.iconst 1, 1) := by decide +kernel
theorem dX13_findHands_40 : decode cX13_findHands 40 = .ok (.isub, 1) := by decide +kernel
theorem dX13_findHands_41 : decode cX13_findHands 41 = .ok (.iload_n 3, 1) := by decide +kernel
theorem dX13_findHands_42 : decode cX13_findHands 42 = .ok (.invokevirtual 300, 3) := by decide +kernel
theorem dX13_findHands_45 : decode cX13_findHands 45 = .ok (.iastore, 1) := by decide +kernel
theorem dX13_findHands_46 : decode cX13_findHands 46 = .ok (.iinc 3 1, 3) := by decide +kernel
theorem dX13_findHands_49 : decode cX13_findHands 49 = .ok (.goto (-31), 3) := by decide +kernel
theorem dX13_findHands_52 : decode cX13_findHands 52 = .ok (.aload_n 0, 1) := by decide +kernel
theorem dX13_findHands_53 : decode cX13_findHands 53 = .ok (.getfield 160, 3) := by decide +kernel
theorem dX13_findHands_56 : decode cX13_findHands 56 = .ok (.iload_n 1, 1) := by decide +kernel
theorem dX13_findHands_57 : decode cX13_findHands 57 = .ok (.iload_n 2, 1) := by decide +kernel
theorem dX13_findHands_58 : decode cX13_findHands 58 = .ok (.sipush 160, 3) := by decide +kernel
theorem dX13_findHands_61 : decode cX13_findHands 61 = .ok (.invokestatic 289, 3) := by decide +kernel
theorem dX13_findHands_64 : decode cX13_findHands 64 = .ok (.aload_n 0, 1) := by decide +kernel
theorem dX13_findHands_65 : decode cX13_findHands 65 = .ok (.iload_n 1, 1) := by decide +kernel
theorem dX13_findHands_66 : decode cX13_findHands 66 = .ok (.iload_n 2, 1) := by decide +kernel
theorem dX13_findHands_67 : decode cX13_findHands 67 = .ok (.iload_n 1, 1) := by decide +kernel
theorem dX13_findHands_68 : decode cX13_findHands 68 = .ok (.iconst 1, 1) := by decide +kernel
theorem dX13_findHands_69 : decode cX13_findHands 69 = .ok (.isub, 1) := by decide +kernel
theorem dX13_findHands_70 : decode cX13_findHands 70 = .ok (.sipush 160, 3) := by decide +kernel
theorem dX13_findHands_73 : decode cX13_findHands 73 = .ok (.invokevirtual 300, 3) := by decide +kernel
theorem dX13_findHands_76 : decode cX13_findHands 76 = .ok (.iastore, 1) := by decide +kernel
theorem dX13_findHands_77 : decode cX13_findHands 77 = .ok (.iinc 2 1, 3) := by decide +kernel
theorem dX13_findHands_80 : decode cX13_findHands 80 = .ok (.goto (-69), 3) := by decide +kernel
theorem dX13_findHands_83 : decode cX13_findHands 83 = .ok (.iinc 1 (-1), 3) := by decide +kernel
theorem dX13_findHands_86 : decode cX13_findHands 86 = .ok (.goto (-81), 3) := by decide +kernel
theorem dX13_findHands_89 : decode cX13_findHands 89 = .ok (.aload_n 0, 1) := by decide +kernel
theorem dX13_findHands_90 : decode cX13_findHands 90 = .ok (.iconst 0, 1) := by decide +kernel
theorem dX13_findHands_91 : decode cX13_findHands 91 = .ok (.iconst 0, 1) := by decide +kernel
theorem dX13_findHands_92 : decode cX13_findHands 92 = .ok (.sipush 160, 3) := by decide +kernel
theorem dX13_findHands_95 : decode cX13_findHands 95 = .ok (.sipush 160, 3) := by decide +kernel
theorem dX13_findHands_98 : decode cX13_findHands 98 = .ok (.invokevirtual 300, 3) := by decide +kernel
theorem dX13_findHands_101 : decode cX13_findHands 101 = .ok (.ireturn, 1) := by decide +kernel
theorem dX13_takeBells_0 : decode cX13_takeBells 0 = .ok (.aload_n 0, 1) := by decide +kernel
theorem dX13_takeBells_1 : decode cX13_takeBells 1 = .ok (.iconst 0, 1) := by decide +kernel
theorem dX13_takeBells_2 : decode cX13_takeBells 2 = .ok (.putfield 293, 3) := by decide +kernel
theorem dX13_takeBells_5 : decode cX13_takeBells 5 = .ok (.iconst 0, 1) := by decide +kernel
theorem dX13_takeBells_6 : decode cX13_takeBells 6 = .ok (.istore_n 3, 1) := by decide +kernel
theorem dX13_takeBells_7 : decode cX13_takeBells 7 = .ok (.iload_n 3, 1) := by decide +kernel
theorem dX13_takeBells_8 : decode cX13_takeBells 8 = .ok (.aload_n 0, 1) := by decide +kernel
theorem dX13_takeBells_9 : decode cX13_takeBells 9 = .ok (.getfield 233, 3) := by decide +kernel
theorem dX13_takeBells_12 : decode cX13_takeBells 12 = .ok (.if_icmp .ge 47, 3) := by decide +kernel
theorem dX13_takeBells_15 : decode cX13_takeBells 15 = .ok (.lload_n 1, 1) := by decide +kernel
theorem dX13_takeBells_16 : decode cX13_takeBells 16 = .ok (.aload_n 0, 1) := by decide +kernel
theorem dX13_takeBells_17 : decode cX13_takeBells 17 = .ok (.getfield 128, 3) := by decide +kernel
theorem dX13_takeBells_20 : decode cX13_takeBells 20 = .ok (.iload_n 3, 1) := by decide +kernel
theorem dX13_takeBells_21 : decode cX13_takeBells 21 = .ok (.iaload, 1) := by decide +kernel
theorem dX13_takeBells_22 : decode cX13_takeBells 22 = .ok (.lshr, 1) := by decide +kernel
theorem dX13_takeBells_23 : decode cX13_takeBells 23 = .ok (.lconst 1, 1) := by decide +kernel
theorem dX13_takeBells_24 : decode cX13_takeBells 24 = .ok (.land, 1) := by decide +kernel
theorem dX13_takeBells_25 : decode cX13_takeBells 25 = .ok (.lconst 0, 1) := by decide +kernel
theorem dX13_takeBells_26 : decode cX13_takeBells 26 = .ok (.lcmp, 1) := by decide +kernel
theorem dX13_takeBells_27 : decode cX13_takeBells 27 = .ok (.ifCond .ne 6, 3) := by decide +kernel
theorem dX13_takeBells_30 : decode cX13_takeBells 30 = .ok (.goto 23, 3) := by decide +kernel
theorem dX13_takeBells_33 : decode cX13_takeBells 33 = .ok (.aload_n 0, 1) := by decide +kernel
theorem dX13_takeBells_34 : decode cX13_takeBells 34 = .ok (.getfield 156, 3) := by decide +kernel
theorem dX13_takeBells_37 : decode cX13_takeBells 37 = .ok (.aload_n 0, 1) := by decide +kernel
theorem dX13_takeBells_38 : decode cX13_takeBells 38 = .ok (.getfield 293, 3) := by decide +kernel
theorem dX13_takeBells_41 : decode cX13_takeBells 41 = .ok (.iload_n 3, 1) := by decide +kernel
theorem dX13_takeBells_42 : decode cX13_takeBells 42 = .ok (.iastore, 1) := by decide +kernel
theorem dX13_takeBells_43 : decode cX13_takeBells 43 = .ok (.aload_n 0, 1) := by decide +kernel
theorem dX13_takeBells_44 : decode cX13_takeBells 44 = .ok (.dup, 1) := by decide +kernel
theorem dX13_takeBells_45 : decode cX13_takeBells 45 = .ok (.getfield 293, 3) := by decide +kernel
theorem dX13_takeBells_48 : decode cX13_takeBells 48 = .ok (.iconst 1, 1) := by decide +kernel
theorem dX13_takeBells_49 : decode cX13_takeBells 49 = .ok (.iadd, 1) := by decide +kernel
theorem dX13_takeBells_50 : decode cX13_takeBells 50 = .ok (.putfield 293, 3) := by decide +kernel
theorem dX13_takeBells_53 : decode cX13_takeBells 53 = .ok (.iinc 3 1, 3) := by decide +kernel
theorem dX13_takeBells_56 : decode cX13_takeBells 56 = .ok (.goto (-49), 3) := by decide +kernel
theorem dX13_takeBells_59 : decode cX13_takeBells 59 = .ok (.return_, 1) := by decide +kernel
theorem dX13_takesOf_0 : decode cX13_takesOf 0 = .ok (.aload_n 0, 1) := by decide +kernel
theorem dX13_takesOf_1 : decode cX13_takesOf 1 = .ok (.lload_n 1, 1) := by decide +kernel
theorem dX13_takesOf_2 : decode cX13_takesOf 2 = .ok (.invokevirtual 303, 3) := by decide +kernel
theorem dX13_takesOf_5 : decode cX13_takesOf 5 = .ok (.aload_n 0, 1) := by decide +kernel
theorem dX13_takesOf_6 : decode cX13_takesOf 6 = .ok (.invokevirtual 307, 3) := by decide +kernel
theorem dX13_takesOf_9 : decode cX13_takesOf 9 = .ok (.ireturn, 1) := by decide +kernel
theorem dX13_hands_0 : decode cX13_hands 0 = .ok (.lload_n 1, 1) := by decide +kernel
theorem dX13_hands_1 : decode cX13_hands 1 = .ok (.lconst 0, 1) := by decide +kernel
theorem dX13_hands_2 : decode cX13_hands 2 = .ok (.lcmp, 1) := by decide +kernel
theorem dX13_hands_3 : decode cX13_hands 3 = .ok (.ifCond .lt 12, 3) := by decide +kernel
theorem dX13_hands_6 : decode cX13_hands 6 = .ok (.lload_n 1, 1) := by decide +kernel
theorem dX13_hands_7 : decode cX13_hands 7 = .ok (.bipush 48, 2) := by decide +kernel
theorem dX13_hands_9 : decode cX13_hands 9 = .ok (.lshr, 1) := by decide +kernel
theorem dX13_hands_10 : decode cX13_hands 10 = .ok (.lconst 0, 1) := by decide +kernel
theorem dX13_hands_11 : decode cX13_hands 11 = .ok (.lcmp, 1) := by decide +kernel
theorem dX13_hands_12 : decode cX13_hands 12 = .ok (.ifCond .eq 6, 3) := by decide +kernel
theorem dX13_hands_15 : decode cX13_hands 15 = .ok (.bipush (-2), 2) := by decide +kernel
theorem dX13_hands_17 : decode cX13_hands 17 = .ok (.ireturn, 1) := by decide +kernel
theorem dX13_hands_18 : decode cX13_hands 18 = .ok (.aload_n 0, 1) := by decide +kernel
theorem dX13_hands_19 : decode cX13_hands 19 = .ok (.lload_n 1, 1) := by decide +kernel
theorem dX13_hands_20 : decode cX13_hands 20 = .ok (.invokevirtual 310, 3) := by decide +kernel
theorem dX13_hands_23 : decode cX13_hands 23 = .ok (.istore_n 3, 1) := by decide +kernel
theorem dX13_hands_24 : decode cX13_hands 24 = .ok (.iload_n 3, 1) := by decide +kernel
theorem dX13_hands_25 : decode cX13_hands 25 = .ok (.ldc_w 282, 3) := by decide +kernel
theorem dX13_hands_28 : decode cX13_hands 28 = .ok (.if_icmp .lt 5, 3) := by decide +kernel
theorem dX13_hands_31 : decode cX13_hands 31 = .ok (.iconst (-1), 1) := by decide +kernel
theorem dX13_hands_32 : decode cX13_hands 32 = .ok (.ireturn, 1) := by decide +kernel
theorem dX13_hands_33 : decode cX13_hands 33 = .ok (.iconst 0, 1) := by decide +kernel
theorem dX13_hands_34 : decode cX13_hands 34 = .ok (.istore 4, 2) := by decide +kernel
theorem dX13_hands_36 : decode cX13_hands 36 = .ok (.iload 4, 2) := by decide +kernel
theorem dX13_hands_38 : decode cX13_hands 38 = .ok (.sipush 160, 3) := by decide +kernel
theorem dX13_hands_41 : decode cX13_hands 41 = .ok (.if_icmp .ge 17, 3) := by decide +kernel
theorem dX13_hands_44 : decode cX13_hands 44 = .ok (.aload_n 0, 1) := by decide +kernel
theorem dX13_hands_45 : decode cX13_hands 45 = .ok (.getfield 163, 3) := by decide +kernel
theorem dX13_hands_48 : decode cX13_hands 48 = .ok (.iload 4, 2) := by decide +kernel
theorem dX13_hands_50 : decode cX13_hands 50 = .ok (.iconst (-1), 1) := by decide +kernel
theorem dX13_hands_51 : decode cX13_hands 51 = .ok (.iastore, 1) := by decide +kernel
theorem dX13_hands_52 : decode cX13_hands 52 = .ok (.iinc 4 1, 3) := by decide +kernel
theorem dX13_hands_55 : decode cX13_hands 55 = .ok (.goto (-19), 3) := by decide +kernel
theorem dX13_hands_58 : decode cX13_hands 58 = .ok (.aload_n 0, 1) := by decide +kernel
theorem dX13_hands_59 : decode cX13_hands 59 = .ok (.getfield 166, 3) := by decide +kernel
theorem dX13_hands_62 : decode cX13_hands 62 = .ok (.iconst 0, 1) := by decide +kernel
theorem dX13_hands_63 : decode cX13_hands 63 = .ok (.sipush 160, 3) := by decide +kernel
theorem dX13_hands_66 : decode cX13_hands 66 = .ok (.iastore, 1) := by decide +kernel
theorem dX13_hands_67 : decode cX13_hands 67 = .ok (.aload_n 0, 1) := by decide +kernel
theorem dX13_hands_68 : decode cX13_hands 68 = .ok (.getfield 166, 3) := by decide +kernel
theorem dX13_hands_71 : decode cX13_hands 71 = .ok (.iconst 1, 1) := by decide +kernel
theorem dX13_hands_72 : decode cX13_hands 72 = .ok (.sipush 160, 3) := by decide +kernel
theorem dX13_hands_75 : decode cX13_hands 75 = .ok (.iastore, 1) := by decide +kernel
theorem dX13_hands_76 : decode cX13_hands 76 = .ok (.iconst 0, 1) := by decide +kernel
theorem dX13_hands_77 : decode cX13_hands 77 = .ok (.istore 4, 2) := by decide +kernel
theorem dX13_hands_79 : decode cX13_hands 79 = .ok (.iload_n 3, 1) := by decide +kernel
theorem dX13_hands_80 : decode cX13_hands 80 = .ok (.istore 5, 2) := by decide +kernel
theorem dX13_hands_82 : decode cX13_hands 82 = .ok (.iload 4, 2) := by decide +kernel
theorem dX13_hands_84 : decode cX13_hands 84 = .ok (.aload_n 0, 1) := by decide +kernel
theorem dX13_hands_85 : decode cX13_hands 85 = .ok (.getfield 293, 3) := by decide +kernel
theorem dX13_hands_88 : decode cX13_hands 88 = .ok (.if_icmp .ge 81, 3) := by decide +kernel
theorem dX13_hands_91 : decode cX13_hands 91 = .ok (.aload_n 0, 1) := by decide +kernel
theorem dX13_hands_92 : decode cX13_hands 92 = .ok (.iload 4, 2) := by decide +kernel
theorem dX13_hands_94 : decode cX13_hands 94 = .ok (.iconst 0, 1) := by decide +kernel
theorem dX13_hands_95 : decode cX13_hands 95 = .ok (.aload_n 0, 1) := by decide +kernel
theorem dX13_hands_96 : decode cX13_hands 96 = .ok (.getfield 166, 3) := by decide +kernel
theorem dX13_hands_99 : decode cX13_hands 99 = .ok (.iconst 0, 1) := by decide +kernel
theorem dX13_hands_100 : decode cX13_hands 100 = .ok (.iaload, 1) := by decide +kernel
theorem dX13_hands_101 : decode cX13_hands 101 = .ok (.aload_n 0, 1) := by decide +kernel
theorem dX13_hands_102 : decode cX13_hands 102 = .ok (.getfield 166, 3) := by decide +kernel
theorem dX13_hands_105 : decode cX13_hands 105 = .ok (.iconst 1, 1) := by decide +kernel
theorem dX13_hands_106 : decode cX13_hands 106 = .ok (.iaload, 1) := by decide +kernel
theorem dX13_hands_107 : decode cX13_hands 107 = .ok (.invokevirtual 296, 3) := by decide +kernel
theorem dX13_hands_110 : decode cX13_hands 110 = .ok (.iload 5, 2) := by decide +kernel
theorem dX13_hands_112 : decode cX13_hands 112 = .ok (.if_icmp .ne 7, 3) := by decide +kernel
theorem dX13_hands_115 : decode cX13_hands 115 = .ok (.iconst 0, 1) := by decide +kernel
theorem dX13_hands_116 : decode cX13_hands 116 = .ok (.goto 4, 3) := by decide +kernel
theorem dX13_hands_119 : decode cX13_hands 119 = .ok (.iconst 1, 1) := by decide +kernel
theorem dX13_hands_120 : decode cX13_hands 120 = .ok (.istore 6, 2) := by decide +kernel
theorem dX13_hands_122 : decode cX13_hands 122 = .ok (.iload 5, 2) := by decide +kernel
theorem dX13_hands_124 : decode cX13_hands 124 = .ok (.aload_n 0, 1) := by decide +kernel
theorem dX13_hands_125 : decode cX13_hands 125 = .ok (.aload_n 0, 1) := by decide +kernel
theorem dX13_hands_126 : decode cX13_hands 126 = .ok (.getfield 166, 3) := by decide +kernel
theorem dX13_hands_129 : decode cX13_hands 129 = .ok (.iload 6, 2) := by decide +kernel
theorem dX13_hands_131 : decode cX13_hands 131 = .ok (.iaload, 1) := by decide +kernel
theorem dX13_hands_132 : decode cX13_hands 132 = .ok (.iload 4, 2) := by decide +kernel
theorem dX13_hands_134 : decode cX13_hands 134 = .ok (.invokevirtual 286, 3) := by decide +kernel
theorem dX13_hands_137 : decode cX13_hands 137 = .ok (.isub, 1) := by decide +kernel
theorem dX13_hands_138 : decode cX13_hands 138 = .ok (.istore 5, 2) := by decide +kernel
theorem dX13_hands_140 : decode cX13_hands 140 = .ok (.aload_n 0, 1) := by decide +kernel
theorem dX13_hands_141 : decode cX13_hands 141 = .ok (.getfield 166, 3) := by decide +kernel
theorem dX13_hands_144 : decode cX13_hands 144 = .ok (.iload 6, 2) := by decide +kernel
theorem dX13_hands_146 : decode cX13_hands 146 = .ok (.iload 4, 2) := by decide +kernel
theorem dX13_hands_148 : decode cX13_hands 148 = .ok (.iastore, 1) := by decide +kernel
theorem dX13_hands_149 : decode cX13_hands 149 = .ok (.aload_n 0, 1) := by decide +kernel
theorem dX13_hands_150 : decode cX13_hands 150 = .ok (.getfield 163, 3) := by decide +kernel
theorem dX13_hands_153 : decode cX13_hands 153 = .ok (.aload_n 0, 1) := by decide +kernel
theorem dX13_hands_154 : decode cX13_hands 154 = .ok (.getfield 156, 3) := by decide +kernel
theorem dX13_hands_157 : decode cX13_hands 157 = .ok (.iload 4, 2) := by decide +kernel
theorem dX13_hands_159 : decode cX13_hands 159 = .ok (.iaload, 1) := by decide +kernel
theorem dX13_hands_160 : decode cX13_hands 160 = .ok (.iload 6, 2) := by decide +kernel
theorem dX13_hands_162 : decode cX13_hands 162 = .ok (.iastore, 1) := by decide +kernel
theorem dX13_hands_163 : decode cX13_hands 163 = .ok (.iinc 4 1, 3) := by decide +kernel
theorem dX13_hands_166 : decode cX13_hands 166 = .ok (.goto (-84), 3) := by decide +kernel
theorem dX13_hands_169 : decode cX13_hands 169 = .ok (.aload_n 0, 1) := by decide +kernel
theorem dX13_hands_170 : decode cX13_hands 170 = .ok (.iconst 1, 1) := by decide +kernel
theorem dX13_hands_171 : decode cX13_hands 171 = .ok (.putfield 240, 3) := by decide +kernel
theorem dX13_hands_174 : decode cX13_hands 174 = .ok (.iload_n 3, 1) := by decide +kernel
theorem dX13_hands_175 : decode cX13_hands 175 = .ok (.ireturn, 1) := by decide +kernel
theorem dX13_hand_0 : decode cX13_hand 0 = .ok (.aload_n 0, 1) := by decide +kernel
theorem dX13_hand_1 : decode cX13_hand 1 = .ok (.getfield 240, 3) := by decide +kernel
theorem dX13_hand_4 : decode cX13_hand 4 = .ok (.ifCond .eq 20, 3) := by decide +kernel
theorem dX13_hand_7 : decode cX13_hand 7 = .ok (.aload_n 0, 1) := by decide +kernel
theorem dX13_hand_8 : decode cX13_hand 8 = .ok (.iload_n 1, 1) := by decide +kernel
theorem dX13_hand_9 : decode cX13_hand 9 = .ok (.invokevirtual 271, 3) := by decide +kernel
theorem dX13_hand_12 : decode cX13_hand 12 = .ok (.ifCond .eq 12, 3) := by decide +kernel
theorem dX13_hand_15 : decode cX13_hand 15 = .ok (.aload_n 0, 1) := by decide +kernel
theorem dX13_hand_16 : decode cX13_hand 16 = .ok (.getfield 163, 3) := by decide +kernel
theorem dX13_hand_19 : decode cX13_hand 19 = .ok (.iload_n 1, 1) := by decide +kernel
theorem dX13_hand_20 : decode cX13_hand 20 = .ok (.iaload, 1) := by decide +kernel
theorem dX13_hand_21 : decode cX13_hand 21 = .ok (.goto 4, 3) := by decide +kernel
theorem dX13_hand_24 : decode cX13_hand 24 = .ok (.iconst (-1), 1) := by decide +kernel
theorem dX13_hand_25 : decode cX13_hand 25 = .ok (.ireturn, 1) := by decide +kernel
abbrev mX13_takesBy : MI := (yX13_takesBy, cX13_takesBy, 6, some .int, 2, 49, [])
abbrev mX13_takesFrom : MI := (yX13_takesFrom, cX13_takesFrom, 5, some .int, 3, 74, [])
abbrev mX13_findHands : MI := (yX13_findHands, cX13_findHands, 4, some .int, 4, 98, [])
abbrev mX13_takeBells : MI := (yX13_takeBells, cX13_takeBells, 4, none, 1, 21, [])
abbrev mX13_takesOf : MI := (yX13_takesOf, cX13_takesOf, 3, some .int, 5, 121, [])
abbrev mX13_hands : MI := (yX13_hands, cX13_hands, 7, some .int, 6, 143, [])
abbrev mX13_hand : MI := (yX13_hand, cX13_hand, 2, some .int, 3, 67, [])
theorem fk_X13_160 : Fk RX13 160 13 28 := ⟨RX13, TX13, 66, tyX13, rfl, inX13, by decide, lw_in (i := 1185) (by decide +kernel) (by decide +kernel), tyX13_ok, nmX13⟩
theorem fk_X13_163 : Fk RX13 163 13 29 := ⟨RX13, TX13, 66, tyX13, rfl, inX13, by decide, lw_in (i := 1186) (by decide +kernel) (by decide +kernel), tyX13_ok, nmX13⟩
theorem fk_X13_166 : Fk RX13 166 13 30 := ⟨RX13, TX13, 66, tyX13, rfl, inX13, by decide, lw_in (i := 1187) (by decide +kernel) (by decide +kernel), tyX13_ok, nmX13⟩
theorem fk_X13_240 : Fk RX13 240 13 32 := ⟨RX13, TX13, 66, tyX13, rfl, inX13, by decide, lw_in (i := 1189) (by decide +kernel) (by decide +kernel), tyX13_ok, nmX13⟩
theorem fk_X13_293 : Fk RX13 293 13 31 := ⟨RX13, TX13, 66, tyX13, rfl, inX13, by decide, lw_in (i := 1188) (by decide +kernel) (by decide +kernel), tyX13_ok, nmX13⟩
theorem fp_X13_31 : Fp 13 31 .int := ⟨RX13, TX13, 66, rfl, rfl, by decide +kernel⟩
theorem fp_X13_32 : Fp 13 32 .boolean := ⟨RX13, TX13, 66, rfl, rfl, by decide +kernel⟩
theorem ms_X13_cell : Cond.static mX13_cell.y ∈ lw_w := lw_in (i := 1479) (by decide +kernel) (by decide +kernel)
theorem mv_X13_findHands : MkV mX13_findHands := ⟨lw_in (i := 1476) (by decide +kernel) (by decide +kernel), lw_se (i := 67) (by decide +kernel) (by decide +kernel)⟩
theorem mv_X13_go : MkV mX13_go := ⟨lw_in (i := 1496) (by decide +kernel) (by decide +kernel), lw_se (i := 71) (by decide +kernel) (by decide +kernel)⟩
theorem mv_X13_heldBell : MkV mX13_heldBell := ⟨lw_in (i := 1492) (by decide +kernel) (by decide +kernel), lw_se (i := 70) (by decide +kernel) (by decide +kernel)⟩
theorem mv_X13_takeBells : MkV mX13_takeBells := ⟨lw_in (i := 1472) (by decide +kernel) (by decide +kernel), lw_se (i := 66) (by decide +kernel) (by decide +kernel)⟩
theorem mv_X13_takesBy : MkV mX13_takesBy := ⟨lw_in (i := 1488) (by decide +kernel) (by decide +kernel), lw_se (i := 69) (by decide +kernel) (by decide +kernel)⟩
theorem mv_X13_takesFrom : MkV mX13_takesFrom := ⟨lw_in (i := 1483) (by decide +kernel) (by decide +kernel), lw_se (i := 68) (by decide +kernel) (by decide +kernel)⟩
theorem mv_X13_takesOf : MkV mX13_takesOf := ⟨lw_in (i := 1468) (by decide +kernel) (by decide +kernel), lw_se (i := 65) (by decide +kernel) (by decide +kernel)⟩
theorem mk_X13_283 : Mk RX13 283 mX13_heldBell 1 := ⟨lw_in (i := 1490) (by decide +kernel) (by decide +kernel), lw_in (i := 14) (by decide +kernel) (by decide +kernel), lw_in (i := 1493) (by decide +kernel) (by decide +kernel), by decide +kernel⟩
theorem mk_X13_286 : Mk RX13 286 mX13_go 2 := ⟨lw_in (i := 1494) (by decide +kernel) (by decide +kernel), lw_in (i := 14) (by decide +kernel) (by decide +kernel), lw_in (i := 1497) (by decide +kernel) (by decide +kernel), by decide +kernel⟩
theorem mk_X13_289 : Mk RX13 289 mX13_cell 3 := ⟨lw_in (i := 1478) (by decide +kernel) (by decide +kernel), lw_in (i := 14) (by decide +kernel) (by decide +kernel), lw_in (i := 1480) (by decide +kernel) (by decide +kernel), by decide +kernel⟩
theorem mk_X13_296 : Mk RX13 296 mX13_takesBy 4 := ⟨lw_in (i := 1486) (by decide +kernel) (by decide +kernel), lw_in (i := 14) (by decide +kernel) (by decide +kernel), lw_in (i := 1489) (by decide +kernel) (by decide +kernel), by decide +kernel⟩
theorem mk_X13_300 : Mk RX13 300 mX13_takesFrom 4 := ⟨lw_in (i := 1481) (by decide +kernel) (by decide +kernel), lw_in (i := 14) (by decide +kernel) (by decide +kernel), lw_in (i := 1484) (by decide +kernel) (by decide +kernel), by decide +kernel⟩
theorem mk_X13_303 : Mk RX13 303 mX13_takeBells 1 := ⟨lw_in (i := 1470) (by decide +kernel) (by decide +kernel), lw_in (i := 14) (by decide +kernel) (by decide +kernel), lw_in (i := 1473) (by decide +kernel) (by decide +kernel), by decide +kernel⟩
theorem mk_X13_307 : Mk RX13 307 mX13_findHands 0 := ⟨lw_in (i := 1474) (by decide +kernel) (by decide +kernel), lw_in (i := 14) (by decide +kernel) (by decide +kernel), lw_in (i := 1477) (by decide +kernel) (by decide +kernel), by decide +kernel⟩
theorem mk_X13_310 : Mk RX13 310 mX13_takesOf 1 := ⟨lw_in (i := 1466) (by decide +kernel) (by decide +kernel), lw_in (i := 14) (by decide +kernel) (by decide +kernel), lw_in (i := 1469) (by decide +kernel) (by decide +kernel), by decide +kernel⟩
theorem rm_X13_findHands_X13_cell : Rm mX13_findHands mX13_cell := ⟨by decide, by decide⟩
theorem rm_X13_findHands_X13_takesFrom : Rm mX13_findHands mX13_takesFrom := ⟨by decide, by decide⟩
theorem rm_X13_hand_X13_isStroke : Rm mX13_hand mX13_isStroke := ⟨by decide, by decide⟩
theorem rm_X13_hands_X13_go : Rm mX13_hands mX13_go := ⟨by decide, by decide⟩
theorem rm_X13_hands_X13_takesBy : Rm mX13_hands mX13_takesBy := ⟨by decide, by decide⟩
theorem rm_X13_hands_X13_takesOf : Rm mX13_hands mX13_takesOf := ⟨by decide, by decide⟩
theorem rm_X13_takesBy_X13_cell : Rm mX13_takesBy mX13_cell := ⟨by decide, by decide⟩
theorem rm_X13_takesBy_X13_go : Rm mX13_takesBy mX13_go := ⟨by decide, by decide⟩
theorem rm_X13_takesBy_X13_heldBell : Rm mX13_takesBy mX13_heldBell := ⟨by decide, by decide⟩
theorem rm_X13_takesFrom_X13_takesBy : Rm mX13_takesFrom mX13_takesBy := ⟨by decide, by decide⟩
theorem rm_X13_takesOf_X13_findHands : Rm mX13_takesOf mX13_findHands := ⟨by decide, by decide⟩
theorem rm_X13_takesOf_X13_takeBells : Rm mX13_takesOf mX13_takeBells := ⟨by decide, by decide⟩
section W_model2
variable {l : Launch} {D : va_G} {ad : Nat → Nat} {kA : Nat → ClassId} {M : Mem} {Q : Outcome → Mem → Prop}
def v_X13_takesBy (M : Mem) (x1 : Int32) (x2 : Int32) (x3 : Int32) (x4 : Int32) : Int32 := if (v_X13_heldBell M x4) = (gI M 57 (gI M 69 x1.toNatClampNeg).toNatClampNeg) then 1000000 else if (v_X13_go M x3 x1) < 1000000 then (v_X13_go M x3 x1) + (gI M 70 (v_X13_cell (x1 + 1) x2 x4).toNatClampNeg) else 1000000
def g_X13_takesBy (M : Mem) (x1 : Int32) (x2 : Int32) (x3 : Int32) (x4 : Int32) : Prop := (g_X13_heldBell M x4) ∧ (vp_in x1 160) ∧ (vp_in (gI M 69 x1.toNatClampNeg) 160) ∧ ((¬ ((v_X13_heldBell M x4) = (gI M 57 (gI M 69 x1.toNatClampNeg).toNatClampNeg))) → g_X13_go M x3 x1) ∧ ((¬ ((v_X13_heldBell M x4) = (gI M 57 (gI M 69 x1.toNatClampNeg).toNatClampNeg))) → ((v_X13_go M x3 x1) < 1000000) → vp_in (v_X13_cell (x1 + 1) x2 x4) 51842)
theorem ct_X13_takesBy {x1 : Int32} {x2 : Int32} {x3 : Int32} {x4 : Int32}  (g : g_X13_takesBy M x1 x2 x3 x4) (h : Q (.returned (some (.int (v_X13_takesBy M x1 x2 x3 x4)))) M) : Cal l D ad kA mX13_takesBy [.ref (ad 54), .int x1, .int x2, .int x3, .int x4] M Q := by
  refine Cal.of (lo := [some (.ref (ad 54)), some (.int x1), some (.int x2), some (.int x3), some (.int x4), none]) (by decide) rfl rfl (Nat.le_of_ble_eq_true rfl) ?_
  obtain ⟨g1, g2, g3, g4, g5⟩ := g
  refine r_aload_n dX13_takesBy_0 rfl ?_
  refine r_iload dX13_takesBy_1 rfl ?_
  refine r_callV (x := 54) (As := [.int x4]) (rest := []) dX13_takesBy_3 mk_X13_283 mv_X13_heldBell rm_X13_takesBy_X13_heldBell rfl rfl (by decide +kernel) (Nat.le_of_ble_eq_true rfl) (ct_X13_heldBell g1 (⟨_, rfl, ?_⟩))
  refine r_aload_n dX13_takesBy_6 rfl ?_
  refine r_getR dX13_takesBy_7 fs_54_13 fk_X13_128 ?_
  refine r_aload_n dX13_takesBy_10 rfl ?_
  refine r_getR dX13_takesBy_11 fs_54_27 fk_X13_156 ?_
  refine r_iload_n dX13_takesBy_14 rfl ?_
  refine r_iald dX13_takesBy_15 as_69 g2 ?_
  refine r_iald dX13_takesBy_16 as_57 g3 ?_
  refine r_icmp_ne (tgt := 24) dX13_takesBy_17 (by decide) (fun c1 => ?_) (fun c1 => ?_)
  · skip
    refine r_aload_n dX13_takesBy_24 rfl ?_
    refine r_iload_n dX13_takesBy_25 rfl ?_
    refine r_iload_n dX13_takesBy_26 rfl ?_
    refine r_callV (x := 54) (As := [.int x3, .int x1]) (rest := []) dX13_takesBy_27 mk_X13_286 mv_X13_go rm_X13_takesBy_X13_go rfl rfl (by decide +kernel) (Nat.le_of_ble_eq_true rfl) (ct_X13_go (g4 c1) (⟨_, rfl, ?_⟩))
    refine q_istore (lo' := [some (.ref (ad 54)), some (.int x1), some (.int x2), some (.int x3), some (.int x4), some (.int (v_X13_go M x3 x1))]) dX13_takesBy_30 (by decide) rfl ?_
    refine r_iload dX13_takesBy_32 rfl ?_
    refine r_ldcw (v := 1000000) dX13_takesBy_34 co_X13_282 ?_
    suffices hJ1 : Fw l D ad kA mX13_takesBy 63 [none, none, none, none, none, none] [.int (if (v_X13_go M x3 x1) < 1000000 then (v_X13_go M x3 x1) + (gI M 70 (v_X13_cell (x1 + 1) x2 x4).toNatClampNeg) else 1000000)] M Q by
      refine r_icmp_lt (tgt := 46) dX13_takesBy_37 (by decide) (fun c2 => ?_) (fun c2 => ?_)
      · skip
        refine r_iload dX13_takesBy_46 rfl ?_
        refine r_aload_n dX13_takesBy_48 rfl ?_
        refine r_getR dX13_takesBy_49 fs_54_28 fk_X13_160 ?_
        refine r_iload_n dX13_takesBy_52 rfl ?_
        refine r_iconst (v := 1) dX13_takesBy_53 kI_1 ?_
        refine r_iadd dX13_takesBy_54 ?_
        refine r_iload_n dX13_takesBy_55 rfl ?_
        refine r_iload dX13_takesBy_56 rfl ?_
        refine r_callS (As := [.int (x1 + 1), .int x2, .int x4]) (rest := [.ref (ad 70), .int (v_X13_go M x3 x1)]) dX13_takesBy_58 mk_X13_289 ms_X13_cell rm_X13_takesBy_X13_cell rfl rfl (Nat.le_of_ble_eq_true rfl) (ct_X13_cell (⟨_, rfl, ?_⟩))
        refine r_iald dX13_takesBy_61 as_70 (g5 c1 c2) ?_
        refine r_iadd dX13_takesBy_62 ?_
        exact q_weak (lo' := [none, none, none, none, none, none]) trivial (by have h9 := hJ1; simp only [if_pos c2] at h9; first | exact h9 | (simp only [if_pos c2]; exact h9))
      · skip
        refine r_ldcw (v := 1000000) dX13_takesBy_40 co_X13_282 ?_
        refine r_goto (tgt := 63) dX13_takesBy_43 (by decide) ?_
        exact q_weak (lo' := [none, none, none, none, none, none]) trivial (by have h9 := hJ1; simp only [if_neg c2] at h9; first | exact h9 | (simp only [if_neg c2]; exact h9))
    exact r_iret dX13_takesBy_63 rfl (by have h9 := h; simp only [v_X13_takesBy, if_neg c1] at h9; first | exact h9 | (simp only [if_neg c1]; exact h9))
  · skip
    refine r_ldcw (v := 1000000) dX13_takesBy_20 co_X13_282 ?_
    exact r_iret dX13_takesBy_23 rfl (by have h9 := h; simp only [v_X13_takesBy, if_pos c1] at h9; first | exact h9 | (simp only [if_pos c1]; exact h9))
def v_X13_takesFrom (M : Mem) (x1 : Int32) (x2 : Int32) (x3 : Int32) (x4 : Int32) : Int32 := if x1 = (gI M 54 31) then 0 else imin 1000000 (imin (v_X13_takesBy M x1 x2 x3 x4) (v_X13_takesBy M x1 (1 - x2) x4 x3))
def g_X13_takesFrom (M : Mem) (x1 : Int32) (x2 : Int32) (x3 : Int32) (x4 : Int32) : Prop := ((¬ (x1 = (gI M 54 31))) → g_X13_takesBy M x1 x2 x3 x4) ∧ ((¬ (x1 = (gI M 54 31))) → g_X13_takesBy M x1 (1 - x2) x4 x3)
theorem ct_X13_takesFrom {x1 : Int32} {x2 : Int32} {x3 : Int32} {x4 : Int32}  (g : g_X13_takesFrom M x1 x2 x3 x4) (h : Q (.returned (some (.int (v_X13_takesFrom M x1 x2 x3 x4)))) M) : Cal l D ad kA mX13_takesFrom [.ref (ad 54), .int x1, .int x2, .int x3, .int x4] M Q := by
  refine Cal.of (lo := [some (.ref (ad 54)), some (.int x1), some (.int x2), some (.int x3), some (.int x4)]) (by decide) rfl rfl (Nat.le_of_ble_eq_true rfl) ?_
  obtain ⟨g1, g2⟩ := g
  refine r_iload_n dX13_takesFrom_0 rfl ?_
  refine r_aload_n dX13_takesFrom_1 rfl ?_
  refine r_getI dX13_takesFrom_2 fs_54_31 fk_X13_293 ?_
  refine r_icmp_ne (tgt := 10) dX13_takesFrom_5 (by decide) (fun c1 => ?_) (fun c1 => ?_)
  · skip
    refine r_ldcw (v := 1000000) dX13_takesFrom_10 co_X13_282 ?_
    refine r_aload_n dX13_takesFrom_13 rfl ?_
    refine r_iload_n dX13_takesFrom_14 rfl ?_
    refine r_iload_n dX13_takesFrom_15 rfl ?_
    refine r_iload_n dX13_takesFrom_16 rfl ?_
    refine r_iload dX13_takesFrom_17 rfl ?_
    refine r_callV (x := 54) (As := [.int x1, .int x2, .int x3, .int x4]) (rest := [.int 1000000]) dX13_takesFrom_19 mk_X13_296 mv_X13_takesBy rm_X13_takesFrom_X13_takesBy rfl rfl (by decide +kernel) (Nat.le_of_ble_eq_true rfl) (ct_X13_takesBy (g1 c1) (⟨_, rfl, ?_⟩))
    refine r_aload_n dX13_takesFrom_22 rfl ?_
    refine r_iload_n dX13_takesFrom_23 rfl ?_
    refine r_iconst (v := 1) dX13_takesFrom_24 kI_1 ?_
    refine r_iload_n dX13_takesFrom_25 rfl ?_
    refine r_isub dX13_takesFrom_26 ?_
    refine r_iload dX13_takesFrom_27 rfl ?_
    refine r_iload_n dX13_takesFrom_29 rfl ?_
    refine r_callV (x := 54) (As := [.int x1, .int (1 - x2), .int x4, .int x3]) (rest := [.int (v_X13_takesBy M x1 x2 x3 x4), .int 1000000]) dX13_takesFrom_30 mk_X13_296 mv_X13_takesBy rm_X13_takesFrom_X13_takesBy rfl rfl (by decide +kernel) (Nat.le_of_ble_eq_true rfl) (ct_X13_takesBy (g2 c1) (⟨_, rfl, ?_⟩))
    refine q_mmin dX13_takesFrom_33 mk_X13_266 (by decide) (Nat.le_of_ble_eq_true rfl) ?_
    refine q_mmin dX13_takesFrom_36 mk_X13_266 (by decide) (Nat.le_of_ble_eq_true rfl) ?_
    exact r_iret dX13_takesFrom_39 rfl (by have h9 := h; simp only [v_X13_takesFrom, if_neg c1] at h9; first | exact h9 | (simp only [if_neg c1]; exact h9))
  · skip
    refine r_iconst (v := 0) dX13_takesFrom_8 kI_0 ?_
    exact r_iret dX13_takesFrom_9 rfl (by have h9 := h; simp only [v_X13_takesFrom, if_pos c1] at h9; first | exact h9 | (simp only [if_pos c1]; exact h9))
theorem t_X13_findHands_0  
    (K1 : Fw l D ad kA mX13_findHands 5 [some (.ref (ad 54)), some (.int (gI M 54 31)), none, none] [] M Q) : Fw l D ad kA mX13_findHands 0 [some (.ref (ad 54)), none, none, none] [] M Q := by
  refine r_aload_n dX13_findHands_0 rfl ?_
  refine r_getI dX13_findHands_1 fs_54_31 fk_X13_293 ?_
  refine q_istore_n (lo' := [some (.ref (ad 54)), some (.int (gI M 54 31)), none, none]) dX13_findHands_4 (by decide) rfl ?_
  exact K1
theorem t_X13_findHands_5 {x1 : Int32} 
    (g1 : (x1 ≤ 0) → g_X13_takesFrom M 0 0 160 160)
    (K1 : (x1 ≤ 0) → Q (.returned (some (.int (v_X13_takesFrom M 0 0 160 160)))) M)
    (K2 : (¬ (x1 ≤ 0)) → Fw l D ad kA mX13_findHands 11 [some (.ref (ad 54)), some (.int x1), some (.int 0), none] [] M Q) : Fw l D ad kA mX13_findHands 5 [some (.ref (ad 54)), some (.int x1), none, none] [] M Q := by
  refine r_iload_n dX13_findHands_5 rfl ?_
  refine r_if_le (tgt := 89) dX13_findHands_6 (by decide) (fun c1 => ?_) (fun c1 => ?_)
  · skip
    refine r_aload_n dX13_findHands_89 rfl ?_
    refine r_iconst (v := 0) dX13_findHands_90 kI_0 ?_
    refine r_iconst (v := 0) dX13_findHands_91 kI_0 ?_
    refine r_sipush (v := 160) dX13_findHands_92 kS_160 ?_
    refine r_sipush (v := 160) dX13_findHands_95 kS_160 ?_
    refine r_callV (x := 54) (As := [.int 0, .int 0, .int 160, .int 160]) (rest := []) dX13_findHands_98 mk_X13_300 mv_X13_takesFrom rm_X13_findHands_X13_takesFrom rfl rfl (by decide +kernel) (Nat.le_of_ble_eq_true rfl) (ct_X13_takesFrom (g1 c1) (⟨_, rfl, ?_⟩))
    exact r_iret dX13_findHands_101 rfl (K1 c1)
  · skip
    refine r_iconst (v := 0) dX13_findHands_9 kI_0 ?_
    refine q_istore_n (lo' := [some (.ref (ad 54)), some (.int x1), some (.int 0), none]) dX13_findHands_10 (by decide) rfl ?_
    exact (K2 c1)
theorem t_X13_findHands_11 {x1 : Int32} {x2 : Int32} 
    (K1 : (2 ≤ x2) → Fw l D ad kA mX13_findHands 5 [some (.ref (ad 54)), some (.int (x1 + (-1))), none, none] [] M Q)
    (K2 : (¬ (2 ≤ x2)) → Fw l D ad kA mX13_findHands 18 [some (.ref (ad 54)), some (.int x1), some (.int x2), some (.int 0)] [] M Q) : Fw l D ad kA mX13_findHands 11 [some (.ref (ad 54)), some (.int x1), some (.int x2), none] [] M Q := by
  refine r_iload_n dX13_findHands_11 rfl ?_
  refine r_iconst (v := 2) dX13_findHands_12 kI_2 ?_
  refine r_icmp_ge (tgt := 83) dX13_findHands_13 (by decide) (fun c1 => ?_) (fun c1 => ?_)
  · skip
    refine q_iinc (v := x1 + (-1)) (lo' := [some (.ref (ad 54)), some (.int (x1 + (-1))), some (.int x2), none]) dX13_findHands_83 rfl (congrArg (fun q => x1 + q) kI_m1) (by decide) rfl ?_
    refine r_goto (tgt := 5) dX13_findHands_86 (by decide) ?_
    exact q_weak (lo' := [some (.ref (ad 54)), some (.int (x1 + (-1))), none, none]) ⟨rfl, rfl, trivial⟩ (K1 c1)
  · skip
    refine r_iconst (v := 0) dX13_findHands_16 kI_0 ?_
    refine q_istore_n (lo' := [some (.ref (ad 54)), some (.int x1), some (.int x2), some (.int 0)]) dX13_findHands_17 (by decide) rfl ?_
    exact (K2 c1)
theorem t_X13_findHands_18 {x1 : Int32} {x2 : Int32} {x3 : Int32} 
    (g1 : ((x1 - 1) ≤ x3) → g_X13_takesFrom M x1 x2 (x1 - 1) 160)
    (g2 : ((x1 - 1) ≤ x3) → vp_in (v_X13_cell x1 x2 160) 51842)
    (g3 : (¬ ((x1 - 1) ≤ x3)) → g_X13_takesFrom M x1 x2 (x1 - 1) x3)
    (g4 : (¬ ((x1 - 1) ≤ x3)) → vp_in (v_X13_cell x1 x2 x3) 51842)
    (K1 : ((x1 - 1) ≤ x3) → Fw l D ad kA mX13_findHands 11 [some (.ref (ad 54)), some (.int x1), some (.int (x2 + 1)), none] [] (sI M 70 (v_X13_cell x1 x2 160).toNatClampNeg (v_X13_takesFrom M x1 x2 (x1 - 1) 160)) Q)
    (K2 : (¬ ((x1 - 1) ≤ x3)) → Fw l D ad kA mX13_findHands 18 [some (.ref (ad 54)), some (.int x1), some (.int x2), some (.int (x3 + 1))] [] (sI M 70 (v_X13_cell x1 x2 x3).toNatClampNeg (v_X13_takesFrom M x1 x2 (x1 - 1) x3)) Q) : Fw l D ad kA mX13_findHands 18 [some (.ref (ad 54)), some (.int x1), some (.int x2), some (.int x3)] [] M Q := by
  refine r_iload_n dX13_findHands_18 rfl ?_
  refine r_iload_n dX13_findHands_19 rfl ?_
  refine r_iconst (v := 1) dX13_findHands_20 kI_1 ?_
  refine r_isub dX13_findHands_21 ?_
  refine r_icmp_ge (tgt := 52) dX13_findHands_22 (by decide) (fun c1 => ?_) (fun c1 => ?_)
  · skip
    refine r_aload_n dX13_findHands_52 rfl ?_
    refine r_getR dX13_findHands_53 fs_54_28 fk_X13_160 ?_
    refine r_iload_n dX13_findHands_56 rfl ?_
    refine r_iload_n dX13_findHands_57 rfl ?_
    refine r_sipush (v := 160) dX13_findHands_58 kS_160 ?_
    refine r_callS (As := [.int x1, .int x2, .int 160]) (rest := [.ref (ad 70)]) dX13_findHands_61 mk_X13_289 ms_X13_cell rm_X13_findHands_X13_cell rfl rfl (Nat.le_of_ble_eq_true rfl) (ct_X13_cell (⟨_, rfl, ?_⟩))
    refine r_aload_n dX13_findHands_64 rfl ?_
    refine r_iload_n dX13_findHands_65 rfl ?_
    refine r_iload_n dX13_findHands_66 rfl ?_
    refine r_iload_n dX13_findHands_67 rfl ?_
    refine r_iconst (v := 1) dX13_findHands_68 kI_1 ?_
    refine r_isub dX13_findHands_69 ?_
    refine r_sipush (v := 160) dX13_findHands_70 kS_160 ?_
    refine r_callV (x := 54) (As := [.int x1, .int x2, .int (x1 - 1), .int 160]) (rest := [.int (v_X13_cell x1 x2 160), .ref (ad 70)]) dX13_findHands_73 mk_X13_300 mv_X13_takesFrom rm_X13_findHands_X13_takesFrom rfl rfl (by decide +kernel) (Nat.le_of_ble_eq_true rfl) (ct_X13_takesFrom (g1 c1) (⟨_, rfl, ?_⟩))
    refine r_iast dX13_findHands_76 as_70 (g2 c1) ?_
    refine q_iinc (v := x2 + 1) (lo' := [some (.ref (ad 54)), some (.int x1), some (.int (x2 + 1)), some (.int x3)]) dX13_findHands_77 rfl (congrArg (fun q => x2 + q) kI_1) (by decide) rfl ?_
    refine r_goto (tgt := 11) dX13_findHands_80 (by decide) ?_
    exact q_weak (lo' := [some (.ref (ad 54)), some (.int x1), some (.int (x2 + 1)), none]) ⟨rfl, rfl, rfl, trivial⟩ (K1 c1)
  · skip
    refine r_aload_n dX13_findHands_25 rfl ?_
    refine r_getR dX13_findHands_26 fs_54_28 fk_X13_160 ?_
    refine r_iload_n dX13_findHands_29 rfl ?_
    refine r_iload_n dX13_findHands_30 rfl ?_
    refine r_iload_n dX13_findHands_31 rfl ?_
    refine r_callS (As := [.int x1, .int x2, .int x3]) (rest := [.ref (ad 70)]) dX13_findHands_32 mk_X13_289 ms_X13_cell rm_X13_findHands_X13_cell rfl rfl (Nat.le_of_ble_eq_true rfl) (ct_X13_cell (⟨_, rfl, ?_⟩))
    refine r_aload_n dX13_findHands_35 rfl ?_
    refine r_iload_n dX13_findHands_36 rfl ?_
    refine r_iload_n dX13_findHands_37 rfl ?_
    refine r_iload_n dX13_findHands_38 rfl ?_
    refine r_iconst (v := 1) dX13_findHands_39 kI_1 ?_
    refine r_isub dX13_findHands_40 ?_
    refine r_iload_n dX13_findHands_41 rfl ?_
    refine r_callV (x := 54) (As := [.int x1, .int x2, .int (x1 - 1), .int x3]) (rest := [.int (v_X13_cell x1 x2 x3), .ref (ad 70)]) dX13_findHands_42 mk_X13_300 mv_X13_takesFrom rm_X13_findHands_X13_takesFrom rfl rfl (by decide +kernel) (Nat.le_of_ble_eq_true rfl) (ct_X13_takesFrom (g3 c1) (⟨_, rfl, ?_⟩))
    refine r_iast dX13_findHands_45 as_70 (g4 c1) ?_
    refine q_iinc (v := x3 + 1) (lo' := [some (.ref (ad 54)), some (.int x1), some (.int x2), some (.int (x3 + 1))]) dX13_findHands_46 rfl (congrArg (fun q => x3 + q) kI_1) (by decide) rfl ?_
    refine r_goto (tgt := 18) dX13_findHands_49 (by decide) ?_
    exact (K2 c1)
theorem en_X13_findHands  (K : Fw l D ad kA mX13_findHands 0 [some (.ref (ad 54)), none, none, none] [] M Q) : Cal l D ad kA mX13_findHands [.ref (ad 54)] M Q := Cal.of (by decide) rfl rfl (Nat.le_of_ble_eq_true rfl) K
theorem t_X13_takeBells_0 {z1 : Int64} 
    (K1 : Fw l D ad kA mX13_takeBells 7 [some (.ref (ad 54)), some (.long z1), none, some (.int 0)] [] (sI M 54 31 0) Q) : Fw l D ad kA mX13_takeBells 0 [some (.ref (ad 54)), some (.long z1), none, none] [] M Q := by
  refine r_aload_n dX13_takeBells_0 rfl ?_
  refine r_iconst (v := 0) dX13_takeBells_1 kI_0 ?_
  refine r_putI dX13_takeBells_2 fs_54_31 fk_X13_293 fp_X13_31 ?_
  refine r_iconst (v := 0) dX13_takeBells_5 kI_0 ?_
  refine q_istore_n (lo' := [some (.ref (ad 54)), some (.long z1), none, some (.int 0)]) dX13_takeBells_6 (by decide) rfl ?_
  exact K1
theorem t_X13_takeBells_7 {z1 : Int64} {x3 : Int32} 
    (g1 : (¬ ((gI M 54 10) ≤ x3)) → vp_in x3 160)
    (g2 : (¬ ((gI M 54 10) ≤ x3)) → (¬ ((lg_cmp ((lshr z1 (gI M 57 x3.toNatClampNeg)) &&& 1) 0) = 0)) → vp_in (gI M 54 31) 160)
    (K1 : ((gI M 54 10) ≤ x3) → Q (.returned none) M)
    (K2 : (¬ ((gI M 54 10) ≤ x3)) → (¬ ((lg_cmp ((lshr z1 (gI M 57 x3.toNatClampNeg)) &&& 1) 0) = 0)) → Fw l D ad kA mX13_takeBells 7 [some (.ref (ad 54)), some (.long z1), none, some (.int (x3 + 1))] [] (sI (sI M 69 (gI M 54 31).toNatClampNeg x3) 54 31 ((gI M 54 31) + 1)) Q)
    (K3 : (¬ ((gI M 54 10) ≤ x3)) → ((lg_cmp ((lshr z1 (gI M 57 x3.toNatClampNeg)) &&& 1) 0) = 0) → Fw l D ad kA mX13_takeBells 7 [some (.ref (ad 54)), some (.long z1), none, some (.int (x3 + 1))] [] M Q) : Fw l D ad kA mX13_takeBells 7 [some (.ref (ad 54)), some (.long z1), none, some (.int x3)] [] M Q := by
  refine r_iload_n dX13_takeBells_7 rfl ?_
  refine r_aload_n dX13_takeBells_8 rfl ?_
  refine r_getI dX13_takeBells_9 fs_54_10 fk_X13_233 ?_
  refine r_icmp_ge (tgt := 59) dX13_takeBells_12 (by decide) (fun c1 => ?_) (fun c1 => ?_)
  · skip
    exact r_vret dX13_takeBells_59 rfl (K1 c1)
  · skip
    refine r_lload_n dX13_takeBells_15 rfl ?_
    refine r_aload_n dX13_takeBells_16 rfl ?_
    refine r_getR dX13_takeBells_17 fs_54_13 fk_X13_128 ?_
    refine r_iload_n dX13_takeBells_20 rfl ?_
    refine r_iald dX13_takeBells_21 as_57 (g1 c1) ?_
    refine q_lshr dX13_takeBells_22 ?_
    refine r_lconst (v := 1) dX13_takeBells_23 kL_1 ?_
    refine r_land dX13_takeBells_24 ?_
    refine r_lconst (v := 0) dX13_takeBells_25 kL_0 ?_
    refine r_lcmp dX13_takeBells_26 ?_
    refine r_if_ne (tgt := 33) dX13_takeBells_27 (by decide) (fun c2 => ?_) (fun c2 => ?_)
    · skip
      refine r_aload_n dX13_takeBells_33 rfl ?_
      refine r_getR dX13_takeBells_34 fs_54_27 fk_X13_156 ?_
      refine r_aload_n dX13_takeBells_37 rfl ?_
      refine r_getI dX13_takeBells_38 fs_54_31 fk_X13_293 ?_
      refine r_iload_n dX13_takeBells_41 rfl ?_
      refine r_iast dX13_takeBells_42 as_69 (g2 c1 c2) ?_
      refine r_aload_n dX13_takeBells_43 rfl ?_
      refine r_dup dX13_takeBells_44 rfl ?_
      refine q_getI (v := gI M 54 31) dX13_takeBells_45 fs_54_31 fk_X13_293 rfl ?_
      refine r_iconst (v := 1) dX13_takeBells_48 kI_1 ?_
      refine r_iadd dX13_takeBells_49 ?_
      refine r_putI dX13_takeBells_50 fs_54_31 fk_X13_293 fp_X13_31 ?_
      refine q_iinc (v := x3 + 1) (lo' := [some (.ref (ad 54)), some (.long z1), none, some (.int (x3 + 1))]) dX13_takeBells_53 rfl (congrArg (fun q => x3 + q) kI_1) (by decide) rfl ?_
      refine r_goto (tgt := 7) dX13_takeBells_56 (by decide) ?_
      exact (K2 c1 c2)
    · skip
      refine r_goto (tgt := 53) dX13_takeBells_30 (by decide) ?_
      refine q_iinc (v := x3 + 1) (lo' := [some (.ref (ad 54)), some (.long z1), none, some (.int (x3 + 1))]) dX13_takeBells_53 rfl (congrArg (fun q => x3 + q) kI_1) (by decide) rfl ?_
      refine r_goto (tgt := 7) dX13_takeBells_56 (by decide) ?_
      exact (K3 c1 c2)
theorem en_X13_takeBells {z1 : Int64} (K : Fw l D ad kA mX13_takeBells 0 [some (.ref (ad 54)), some (.long z1), none, none] [] M Q) : Cal l D ad kA mX13_takeBells [.ref (ad 54), .long z1] M Q := Cal.of (by decide) rfl rfl (Nat.le_of_ble_eq_true rfl) K
theorem t_X13_takesOf_0 {z1 : Int64} 
    (K1 : Cal l D ad kA mX13_takeBells [.ref (ad 54), .long z1] M (fun oc M2 => oc = .returned none ∧ Fw l D ad kA mX13_takesOf 5 [some (.ref (ad 54)), none, none] [] M2 Q)) : Fw l D ad kA mX13_takesOf 0 [some (.ref (ad 54)), some (.long z1), none] [] M Q := by
  refine r_aload_n dX13_takesOf_0 rfl ?_
  refine r_lload_n dX13_takesOf_1 rfl ?_
  exact r_callV (x := 54) (As := [.long z1]) (rest := []) dX13_takesOf_2 mk_X13_303 mv_X13_takeBells rm_X13_takesOf_X13_takeBells rfl rfl (by decide +kernel) (Nat.le_of_ble_eq_true rfl) (cal_v (lo' := [some (.ref (ad 54)), none, none]) ⟨rfl, trivial⟩ K1)
theorem t_X13_takesOf_5  
    (K1 : Cal l D ad kA mX13_findHands [.ref (ad 54)] M (fun oc M2 => ∃ r : Int32, oc = .returned (some (.int r)) ∧ Fw l D ad kA mX13_takesOf 9 [none, none, none] [.int r] M2 Q)) : Fw l D ad kA mX13_takesOf 5 [some (.ref (ad 54)), none, none] [] M Q := by
  refine r_aload_n dX13_takesOf_5 rfl ?_
  exact r_callV (x := 54) (As := []) (rest := []) dX13_takesOf_6 mk_X13_307 mv_X13_findHands rm_X13_takesOf_X13_findHands rfl rfl (by decide +kernel) (Nat.le_of_ble_eq_true rfl) (cal_i (lo' := [none, none, none]) trivial K1)
theorem t_X13_takesOf_9 {s1 : Int32} 
    (K1 : Q (.returned (some (.int s1))) M) : Fw l D ad kA mX13_takesOf 9 [none, none, none] [.int s1] M Q := by
  exact r_iret dX13_takesOf_9 rfl K1
theorem en_X13_takesOf {z1 : Int64} (K : Fw l D ad kA mX13_takesOf 0 [some (.ref (ad 54)), some (.long z1), none] [] M Q) : Cal l D ad kA mX13_takesOf [.ref (ad 54), .long z1] M Q := Cal.of (by decide) rfl rfl (Nat.le_of_ble_eq_true rfl) K
theorem t_X13_hands_0 {z1 : Int64} 
    (K1 : ((lg_cmp z1 0) < 0) → Q (.returned (some (.int (-2)))) M)
    (K2 : (¬ ((lg_cmp z1 0) < 0)) → ((lg_cmp (lshr z1 48) 0) = 0) → Cal l D ad kA mX13_takesOf [.ref (ad 54), .long z1] M (fun oc M2 => ∃ r : Int32, oc = .returned (some (.int r)) ∧ Fw l D ad kA mX13_hands 23 [some (.ref (ad 54)), none, none, none, none, none, none] [.int r] M2 Q))
    (K3 : (¬ ((lg_cmp z1 0) < 0)) → (¬ ((lg_cmp (lshr z1 48) 0) = 0)) → Q (.returned (some (.int (-2)))) M) : Fw l D ad kA mX13_hands 0 [some (.ref (ad 54)), some (.long z1), none, none, none, none, none] [] M Q := by
  refine r_lload_n dX13_hands_0 rfl ?_
  refine r_lconst (v := 0) dX13_hands_1 kL_0 ?_
  refine r_lcmp dX13_hands_2 ?_
  refine r_if_lt (tgt := 15) dX13_hands_3 (by decide) (fun c1 => ?_) (fun c1 => ?_)
  · skip
    refine r_bipush (v := (-2)) dX13_hands_15 kB_m2 ?_
    exact r_iret dX13_hands_17 rfl (K1 c1)
  · skip
    refine r_lload_n dX13_hands_6 rfl ?_
    refine r_bipush (v := 48) dX13_hands_7 kB_48 ?_
    refine q_lshr dX13_hands_9 ?_
    refine r_lconst (v := 0) dX13_hands_10 kL_0 ?_
    refine r_lcmp dX13_hands_11 ?_
    refine r_if_eq (tgt := 18) dX13_hands_12 (by decide) (fun c2 => ?_) (fun c2 => ?_)
    · skip
      refine r_aload_n dX13_hands_18 rfl ?_
      refine r_lload_n dX13_hands_19 rfl ?_
      exact r_callV (x := 54) (As := [.long z1]) (rest := []) dX13_hands_20 mk_X13_310 mv_X13_takesOf rm_X13_hands_X13_takesOf rfl rfl (by decide +kernel) (Nat.le_of_ble_eq_true rfl) (cal_i (lo' := [some (.ref (ad 54)), none, none, none, none, none, none]) ⟨rfl, trivial⟩ (K2 c1 c2))
    · skip
      refine r_bipush (v := (-2)) dX13_hands_15 kB_m2 ?_
      exact r_iret dX13_hands_17 rfl (K3 c1 c2)
theorem t_X13_hands_23 {s1 : Int32} 
    (K1 : (s1 < 1000000) → Fw l D ad kA mX13_hands 36 [some (.ref (ad 54)), none, none, some (.int s1), some (.int 0), none, none] [] M Q)
    (K2 : (¬ (s1 < 1000000)) → Q (.returned (some (.int (-1)))) M) : Fw l D ad kA mX13_hands 23 [some (.ref (ad 54)), none, none, none, none, none, none] [.int s1] M Q := by
  refine q_istore_n (lo' := [some (.ref (ad 54)), none, none, some (.int s1), none, none, none]) dX13_hands_23 (by decide) rfl ?_
  refine r_iload_n dX13_hands_24 rfl ?_
  refine r_ldcw (v := 1000000) dX13_hands_25 co_X13_282 ?_
  refine r_icmp_lt (tgt := 33) dX13_hands_28 (by decide) (fun c1 => ?_) (fun c1 => ?_)
  · skip
    refine r_iconst (v := 0) dX13_hands_33 kI_0 ?_
    refine q_istore (lo' := [some (.ref (ad 54)), none, none, some (.int s1), some (.int 0), none, none]) dX13_hands_34 (by decide) rfl ?_
    exact (K1 c1)
  · skip
    refine r_iconst (v := (-1)) dX13_hands_31 kI_m1 ?_
    exact r_iret dX13_hands_32 rfl (K2 c1)
theorem t_X13_hands_36 {x3 : Int32} {x4 : Int32} 
    (g1 : (¬ (160 ≤ x4)) → vp_in x4 160)
    (K1 : (160 ≤ x4) → Fw l D ad kA mX13_hands 82 [some (.ref (ad 54)), none, none, some (.int x3), some (.int 0), some (.int x3), none] [] (sI (sI M 72 (0 : Int32).toNatClampNeg 160) 72 (1 : Int32).toNatClampNeg 160) Q)
    (K2 : (¬ (160 ≤ x4)) → Fw l D ad kA mX13_hands 36 [some (.ref (ad 54)), none, none, some (.int x3), some (.int (x4 + 1)), none, none] [] (sI M 71 x4.toNatClampNeg (-1)) Q) : Fw l D ad kA mX13_hands 36 [some (.ref (ad 54)), none, none, some (.int x3), some (.int x4), none, none] [] M Q := by
  refine r_iload dX13_hands_36 rfl ?_
  refine r_sipush (v := 160) dX13_hands_38 kS_160 ?_
  refine r_icmp_ge (tgt := 58) dX13_hands_41 (by decide) (fun c1 => ?_) (fun c1 => ?_)
  · skip
    refine r_aload_n dX13_hands_58 rfl ?_
    refine r_getR dX13_hands_59 fs_54_30 fk_X13_166 ?_
    refine r_iconst (v := 0) dX13_hands_62 kI_0 ?_
    refine r_sipush (v := 160) dX13_hands_63 kS_160 ?_
    refine r_iast dX13_hands_66 as_72 (by unfold vp_in; decide) ?_
    refine r_aload_n dX13_hands_67 rfl ?_
    refine r_getR dX13_hands_68 fs_54_30 fk_X13_166 ?_
    refine r_iconst (v := 1) dX13_hands_71 kI_1 ?_
    refine r_sipush (v := 160) dX13_hands_72 kS_160 ?_
    refine r_iast dX13_hands_75 as_72 (by unfold vp_in; decide) ?_
    refine r_iconst (v := 0) dX13_hands_76 kI_0 ?_
    refine q_istore (lo' := [some (.ref (ad 54)), none, none, some (.int x3), some (.int 0), none, none]) dX13_hands_77 (by decide) rfl ?_
    refine r_iload_n dX13_hands_79 rfl ?_
    refine q_istore (lo' := [some (.ref (ad 54)), none, none, some (.int x3), some (.int 0), some (.int x3), none]) dX13_hands_80 (by decide) rfl ?_
    exact (K1 c1)
  · skip
    refine r_aload_n dX13_hands_44 rfl ?_
    refine r_getR dX13_hands_45 fs_54_29 fk_X13_163 ?_
    refine r_iload dX13_hands_48 rfl ?_
    refine r_iconst (v := (-1)) dX13_hands_50 kI_m1 ?_
    refine r_iast dX13_hands_51 as_71 (g1 c1) ?_
    refine q_iinc (v := x4 + 1) (lo' := [some (.ref (ad 54)), none, none, some (.int x3), some (.int (x4 + 1)), none, none]) dX13_hands_52 rfl (congrArg (fun q => x4 + q) kI_1) (by decide) rfl ?_
    refine r_goto (tgt := 36) dX13_hands_55 (by decide) ?_
    exact (K2 c1)
theorem t_X13_hands_82 {x3 : Int32} {x4 : Int32} {x5 : Int32} 
    (g1 : (¬ ((gI M 54 31) ≤ x4)) → g_X13_takesBy M x4 0 (gI M 72 (0 : Int32).toNatClampNeg) (gI M 72 (1 : Int32).toNatClampNeg))
    (K1 : ((gI M 54 31) ≤ x4) → Q (.returned (some (.int x3))) (sI M 54 32 1))
    (K2 : (¬ ((gI M 54 31) ≤ x4)) → Fw l D ad kA mX13_hands 122 [some (.ref (ad 54)), none, none, some (.int x3), some (.int x4), some (.int x5), some (.int (if (v_X13_takesBy M x4 0 (gI M 72 (0 : Int32).toNatClampNeg) (gI M 72 (1 : Int32).toNatClampNeg)) = x5 then 0 else 1))] [] M Q) : Fw l D ad kA mX13_hands 82 [some (.ref (ad 54)), none, none, some (.int x3), some (.int x4), some (.int x5), none] [] M Q := by
  refine r_iload dX13_hands_82 rfl ?_
  refine r_aload_n dX13_hands_84 rfl ?_
  refine r_getI dX13_hands_85 fs_54_31 fk_X13_293 ?_
  refine r_icmp_ge (tgt := 169) dX13_hands_88 (by decide) (fun c1 => ?_) (fun c1 => ?_)
  · skip
    refine r_aload_n dX13_hands_169 rfl ?_
    refine r_iconst (v := 1) dX13_hands_170 kI_1 ?_
    refine r_putZ dX13_hands_171 fs_54_32 fk_X13_240 fp_X13_32 (Or.inr rfl) ?_
    refine r_iload_n dX13_hands_174 rfl ?_
    exact r_iret dX13_hands_175 rfl (K1 c1)
  · skip
    refine r_aload_n dX13_hands_91 rfl ?_
    refine r_iload dX13_hands_92 rfl ?_
    refine r_iconst (v := 0) dX13_hands_94 kI_0 ?_
    refine r_aload_n dX13_hands_95 rfl ?_
    refine r_getR dX13_hands_96 fs_54_30 fk_X13_166 ?_
    refine r_iconst (v := 0) dX13_hands_99 kI_0 ?_
    refine r_iald dX13_hands_100 as_72 (by unfold vp_in; decide) ?_
    refine r_aload_n dX13_hands_101 rfl ?_
    refine r_getR dX13_hands_102 fs_54_30 fk_X13_166 ?_
    refine r_iconst (v := 1) dX13_hands_105 kI_1 ?_
    refine r_iald dX13_hands_106 as_72 (by unfold vp_in; decide) ?_
    refine r_callV (x := 54) (As := [.int x4, .int 0, .int (gI M 72 (0 : Int32).toNatClampNeg), .int (gI M 72 (1 : Int32).toNatClampNeg)]) (rest := []) dX13_hands_107 mk_X13_296 mv_X13_takesBy rm_X13_hands_X13_takesBy rfl rfl (by decide +kernel) (Nat.le_of_ble_eq_true rfl) (ct_X13_takesBy (g1 c1) (⟨_, rfl, ?_⟩))
    refine r_iload dX13_hands_110 rfl ?_
    suffices hJ1 : Fw l D ad kA mX13_hands 120 [some (.ref (ad 54)), none, none, some (.int x3), some (.int x4), some (.int x5), none] [.int (if (v_X13_takesBy M x4 0 (gI M 72 (0 : Int32).toNatClampNeg) (gI M 72 (1 : Int32).toNatClampNeg)) = x5 then 0 else 1)] M Q by
      refine r_icmp_ne (tgt := 119) dX13_hands_112 (by decide) (fun c2 => ?_) (fun c2 => ?_)
      · skip
        refine r_iconst (v := 1) dX13_hands_119 kI_1 ?_
        exact q_weak (lo' := [some (.ref (ad 54)), none, none, some (.int x3), some (.int x4), some (.int x5), none]) ⟨rfl, rfl, rfl, rfl, trivial⟩ (by have h9 := hJ1; simp only [if_neg c2] at h9; first | exact h9 | (simp only [if_neg c2]; exact h9))
      · skip
        refine r_iconst (v := 0) dX13_hands_115 kI_0 ?_
        refine r_goto (tgt := 120) dX13_hands_116 (by decide) ?_
        exact q_weak (lo' := [some (.ref (ad 54)), none, none, some (.int x3), some (.int x4), some (.int x5), none]) ⟨rfl, rfl, rfl, rfl, trivial⟩ (by have h9 := hJ1; simp only [if_pos c2] at h9; first | exact h9 | (simp only [if_pos c2]; exact h9))
    refine q_istore (lo' := [some (.ref (ad 54)), none, none, some (.int x3), some (.int x4), some (.int x5), some (.int (if (v_X13_takesBy M x4 0 (gI M 72 (0 : Int32).toNatClampNeg) (gI M 72 (1 : Int32).toNatClampNeg)) = x5 then 0 else 1))]) dX13_hands_120 (by decide) rfl ?_
    exact (K2 c1)
theorem t_X13_hands_122 {x3 : Int32} {x4 : Int32} {x5 : Int32} {x6 : Int32} 
    (g1 : vp_in x6 2)
    (g2 : g_X13_go M (gI M 72 x6.toNatClampNeg) x4)
    (g3 : vp_in x4 160)
    (g4 : vp_in (gI M 69 x4.toNatClampNeg) 160)
    (K1 : Fw l D ad kA mX13_hands 82 [some (.ref (ad 54)), none, none, some (.int x3), some (.int (x4 + 1)), some (.int (x5 - (v_X13_go M (gI M 72 x6.toNatClampNeg) x4))), none] [] (sI (sI M 72 x6.toNatClampNeg x4) 71 (gI M 69 x4.toNatClampNeg).toNatClampNeg x6) Q) : Fw l D ad kA mX13_hands 122 [some (.ref (ad 54)), none, none, some (.int x3), some (.int x4), some (.int x5), some (.int x6)] [] M Q := by
  refine r_iload dX13_hands_122 rfl ?_
  refine r_aload_n dX13_hands_124 rfl ?_
  refine r_aload_n dX13_hands_125 rfl ?_
  refine r_getR dX13_hands_126 fs_54_30 fk_X13_166 ?_
  refine r_iload dX13_hands_129 rfl ?_
  refine r_iald dX13_hands_131 as_72 g1 ?_
  refine r_iload dX13_hands_132 rfl ?_
  refine r_callV (x := 54) (As := [.int (gI M 72 x6.toNatClampNeg), .int x4]) (rest := [.int x5]) dX13_hands_134 mk_X13_286 mv_X13_go rm_X13_hands_X13_go rfl rfl (by decide +kernel) (Nat.le_of_ble_eq_true rfl) (ct_X13_go g2 (⟨_, rfl, ?_⟩))
  refine r_isub dX13_hands_137 ?_
  refine q_istore (lo' := [some (.ref (ad 54)), none, none, some (.int x3), some (.int x4), some (.int (x5 - (v_X13_go M (gI M 72 x6.toNatClampNeg) x4))), some (.int x6)]) dX13_hands_138 (by decide) rfl ?_
  refine r_aload_n dX13_hands_140 rfl ?_
  refine r_getR dX13_hands_141 fs_54_30 fk_X13_166 ?_
  refine r_iload dX13_hands_144 rfl ?_
  refine r_iload dX13_hands_146 rfl ?_
  refine r_iast dX13_hands_148 as_72 g1 ?_
  refine r_aload_n dX13_hands_149 rfl ?_
  refine r_getR dX13_hands_150 fs_54_29 fk_X13_163 ?_
  refine r_aload_n dX13_hands_153 rfl ?_
  refine r_getR dX13_hands_154 fs_54_27 fk_X13_156 ?_
  refine r_iload dX13_hands_157 rfl ?_
  refine q_iald (v := gI M 69 x4.toNatClampNeg) dX13_hands_159 as_69 g3 rfl ?_
  refine r_iload dX13_hands_160 rfl ?_
  refine r_iast dX13_hands_162 as_71 g4 ?_
  refine q_iinc (v := x4 + 1) (lo' := [some (.ref (ad 54)), none, none, some (.int x3), some (.int (x4 + 1)), some (.int (x5 - (v_X13_go M (gI M 72 x6.toNatClampNeg) x4))), some (.int x6)]) dX13_hands_163 rfl (congrArg (fun q => x4 + q) kI_1) (by decide) rfl ?_
  refine r_goto (tgt := 82) dX13_hands_166 (by decide) ?_
  exact q_weak (lo' := [some (.ref (ad 54)), none, none, some (.int x3), some (.int (x4 + 1)), some (.int (x5 - (v_X13_go M (gI M 72 x6.toNatClampNeg) x4))), none]) ⟨rfl, rfl, rfl, rfl, trivial⟩ K1
theorem en_X13_hands {z1 : Int64} (K : Fw l D ad kA mX13_hands 0 [some (.ref (ad 54)), some (.long z1), none, none, none, none, none] [] M Q) : Cal l D ad kA mX13_hands [.ref (ad 54), .long z1] M Q := Cal.of (by decide) rfl rfl (Nat.le_of_ble_eq_true rfl) K
def v_X13_hand (M : Mem) (x1 : Int32) : Int32 := if (gI M 54 32) = 0 then (-1) else if (v_X13_isStroke M x1) = 0 then (-1) else gI M 71 x1.toNatClampNeg
def g_X13_hand (M : Mem) (x1 : Int32) : Prop := ((¬ ((gI M 54 32) = 0)) → (¬ ((v_X13_isStroke M x1) = 0)) → vp_in x1 160)
theorem ct_X13_hand {x1 : Int32}  (g : g_X13_hand M x1) (h : Q (.returned (some (.int (v_X13_hand M x1)))) M) : Cal l D ad kA mX13_hand [.ref (ad 54), .int x1] M Q := by
  refine Cal.of (lo := [some (.ref (ad 54)), some (.int x1)]) (by decide) rfl rfl (Nat.le_of_ble_eq_true rfl) ?_
  have g1 := g
  refine r_aload_n dX13_hand_0 rfl ?_
  refine r_getI dX13_hand_1 fs_54_32 fk_X13_240 ?_
  suffices hJ1 : Fw l D ad kA mX13_hand 25 [none, none] [.int (if (gI M 54 32) = 0 then (-1) else if (v_X13_isStroke M x1) = 0 then (-1) else gI M 71 x1.toNatClampNeg)] M Q by
    refine r_if_eq (tgt := 24) dX13_hand_4 (by decide) (fun c1 => ?_) (fun c1 => ?_)
    · skip
      refine r_iconst (v := (-1)) dX13_hand_24 kI_m1 ?_
      exact q_weak (lo' := [none, none]) trivial (by have h9 := hJ1; simp only [if_pos c1] at h9; first | exact h9 | (simp only [if_pos c1]; exact h9))
    · skip
      refine r_aload_n dX13_hand_7 rfl ?_
      refine r_iload_n dX13_hand_8 rfl ?_
      refine r_callV (x := 54) (As := [.int x1]) (rest := []) dX13_hand_9 mk_X13_271 mv_X13_isStroke rm_X13_hand_X13_isStroke rfl rfl (by decide +kernel) (Nat.le_of_ble_eq_true rfl) (ct_X13_isStroke (⟨_, rfl, ?_⟩))
      refine r_if_eq (tgt := 24) dX13_hand_12 (by decide) (fun c2 => ?_) (fun c2 => ?_)
      · skip
        refine r_iconst (v := (-1)) dX13_hand_24 kI_m1 ?_
        exact q_weak (lo' := [none, none]) trivial (by have h9 := hJ1; simp only [if_neg c1, if_pos c2] at h9; first | exact h9 | (simp only [if_neg c1, if_pos c2]; exact h9))
      · skip
        refine r_aload_n dX13_hand_15 rfl ?_
        refine r_getR dX13_hand_16 fs_54_29 fk_X13_163 ?_
        refine r_iload_n dX13_hand_19 rfl ?_
        refine r_iald dX13_hand_20 as_71 (g1 c1 c2) ?_
        refine r_goto (tgt := 25) dX13_hand_21 (by decide) ?_
        exact q_weak (lo' := [none, none]) trivial (by have h9 := hJ1; simp only [if_neg c1, if_neg c2] at h9; first | exact h9 | (simp only [if_neg c1, if_neg c2]; exact h9))
  exact r_iret dX13_hand_25 rfl h
end W_model2
