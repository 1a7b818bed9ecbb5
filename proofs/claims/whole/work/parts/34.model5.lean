/-! the model: heard: decode rows, links, walks from cut to cut (printed by wip/gen) -/
theorem dX13_pairPoints_0 : decode cX13_pairPoints 0 = .ok (.aload_n 0, 1) := by decide +kernel
theorem dX13_pairPoints_1 : decode cX13_pairPoints 1 = .ok (.getfield 190, 3) := by decide +kernel
theorem dX13_pairPoints_4 : decode cX13_pairPoints 4 = .ok (.iload_n 2, 1) := by decide +kernel
theorem dX13_pairPoints_5 : decode cX13_pairPoints 5 = .ok (.iaload, 1) := by decide +kernel
theorem dX13_pairPoints_6 : decode cX13_pairPoints 6 = .ok (.aload_n 0, 1) := by decide +kernel
theorem dX13_pairPoints_7 : decode cX13_pairPoints 7 = .ok (.getfield 125, 3) := by decide +kernel
theorem dX13_pairPoints_10 : decode cX13_pairPoints 10 = .ok (.iload_n 1, 1) := by decide +kernel
theorem dX13_pairPoints_11 : decode cX13_pairPoints 11 = .ok (.iaload, 1) := by decide +kernel
theorem dX13_pairPoints_12 : decode cX13_pairPoints 12 = .ok (.isub, 1) := by decide +kernel
theorem dX13_pairPoints_13 : decode cX13_pairPoints 13 = .ok (.invokestatic 371, 3) := by decide +kernel
theorem dX13_pairPoints_16 : decode cX13_pairPoints 16 = .ok (.istore_n 3, 1) := by decide +kernel
theorem dX13_pairPoints_17 : decode cX13_pairPoints 17 = .ok (.aload_n 0, 1) := by decide +kernel
theorem dX13_pairPoints_18 : decode cX13_pairPoints 18 = .ok (.getfield 193, 3) := by decide +kernel
theorem dX13_pairPoints_21 : decode cX13_pairPoints 21 = .ok (.iload_n 2, 1) := by decide +kernel
theorem dX13_pairPoints_22 : decode cX13_pairPoints 22 = .ok (.iaload, 1) := by decide +kernel
theorem dX13_pairPoints_23 : decode cX13_pairPoints 23 = .ok (.aload_n 0, 1) := by decide +kernel
theorem dX13_pairPoints_24 : decode cX13_pairPoints 24 = .ok (.getfield 128, 3) := by decide +kernel
theorem dX13_pairPoints_27 : decode cX13_pairPoints 27 = .ok (.iload_n 1, 1) := by decide +kernel
theorem dX13_pairPoints_28 : decode cX13_pairPoints 28 = .ok (.iaload, 1) := by decide +kernel
theorem dX13_pairPoints_29 : decode cX13_pairPoints 29 = .ok (.if_icmp .ne 16, 3) := by decide +kernel
theorem dX13_pairPoints_32 : decode cX13_pairPoints 32 = .ok (.iload_n 3, 1) := by decide +kernel
theorem dX13_pairPoints_33 : decode cX13_pairPoints 33 = .ok (.iconst 2, 1) := by decide +kernel
theorem dX13_pairPoints_34 : decode cX13_pairPoints 34 = .ok (.if_icmp .gt 7, 3) := by decide +kernel
theorem dX13_pairPoints_37 : decode cX13_pairPoints 37 = .ok (.iload_n 3, 1) := by decide +kernel
theorem dX13_pairPoints_38 : decode cX13_pairPoints 38 = .ok (.goto 6, 3) := by decide +kernel
theorem dX13_pairPoints_41 : decode cX13_pairPoints 41 = .ok (.ldc_w 282, 3) := by decide +kernel
theorem dX13_pairPoints_44 : decode cX13_pairPoints 44 = .ok (.ireturn, 1) := by decide +kernel
theorem dX13_pairPoints_45 : decode cX13_pairPoints 45 = .ok (.iload_n 3, 1) := by decide +kernel
theorem dX13_pairPoints_46 : decode cX13_pairPoints 46 = .ok (.ifCond .ne 7, 3) := by decide +kernel
theorem dX13_pairPoints_49 : decode cX13_pairPoints 49 = .ok (.iconst 2, 1) := by decide +kernel
theorem dX13_pairPoints_50 : decode cX13_pairPoints 50 = .ok (.goto 6, 3) := by decide +kernel
theorem dX13_pairPoints_53 : decode cX13_pairPoints 53 = .ok (.ldc_w 282, 3) := by decide +kernel
theorem dX13_pairPoints_56 : decode cX13_pairPoints 56 = .ok (.ireturn, 1) := by decide +kernel
theorem dX13_place_0 : decode cX13_place 0 = .ok (.sipush 161, 3) := by decide +kernel
theorem dX13_place_3 : decode cX13_place 3 = .ok (.iload_n 0, 1) := by decide +kernel
theorem dX13_place_4 : decode cX13_place 4 = .ok (.imul, 1) := by decide +kernel
theorem dX13_place_5 : decode cX13_place 5 = .ok (.iload_n 1, 1) := by decide +kernel
theorem dX13_place_6 : decode cX13_place 6 = .ok (.iadd, 1) := by decide +kernel
theorem dX13_place_7 : decode cX13_place 7 = .ok (.ireturn, 1) := by decide +kernel
theorem dX13_pairFrom_0 : decode cX13_pairFrom 0 = .ok (.iload_n 1, 1) := by decide +kernel
theorem dX13_pairFrom_1 : decode cX13_pairFrom 1 = .ok (.aload_n 0, 1) := by decide +kernel
theorem dX13_pairFrom_2 : decode cX13_pairFrom 2 = .ok (.getfield 233, 3) := by decide +kernel
theorem dX13_pairFrom_5 : decode cX13_pairFrom 5 = .ok (.if_icmp .ge 47, 3) := by decide +kernel
theorem dX13_pairFrom_8 : decode cX13_pairFrom 8 = .ok (.iload_n 2, 1) := by decide +kernel
theorem dX13_pairFrom_9 : decode cX13_pairFrom 9 = .ok (.aload_n 0, 1) := by decide +kernel
theorem dX13_pairFrom_10 : decode cX13_pairFrom 10 = .ok (.getfield 378, 3) := by decide +kernel
theorem dX13_pairFrom_13 : decode cX13_pairFrom 13 = .ok (.if_icmp .ge 39, 3) := by decide +kernel
theorem dX13_pairFrom_16 : decode cX13_pairFrom 16 = .ok (.aload_n 0, 1) := by decide +kernel
theorem dX13_pairFrom_17 : decode cX13_pairFrom 17 = .ok (.iload_n 1, 1) := by decide +kernel
theorem dX13_pairFrom_18 : decode cX13_pairFrom 18 = .ok (.iload_n 2, 1) := by decide +kernel
theorem dX13_pairFrom_19 : decode cX13_pairFrom 19 = .ok (.invokevirtual 381, 3) := by decide +kernel
theorem dX13_pairFrom_22 : decode cX13_pairFrom 22 = .ok (.ldc_w 282, 3) := by decide +kernel
theorem dX13_pairFrom_25 : decode cX13_pairFrom 25 = .ok (.if_icmp .ge 27, 3) := by decide +kernel
theorem dX13_pairFrom_28 : decode cX13_pairFrom 28 = .ok (.aload_n 0, 1) := by decide +kernel
theorem dX13_pairFrom_29 : decode cX13_pairFrom 29 = .ok (.iload_n 1, 1) := by decide +kernel
theorem dX13_pairFrom_30 : decode cX13_pairFrom 30 = .ok (.iload_n 2, 1) := by decide +kernel
theorem dX13_pairFrom_31 : decode cX13_pairFrom 31 = .ok (.invokevirtual 381, 3) := by decide +kernel
theorem dX13_pairFrom_34 : decode cX13_pairFrom 34 = .ok (.aload_n 0, 1) := by decide +kernel
theorem dX13_pairFrom_35 : decode cX13_pairFrom 35 = .ok (.getfield 199, 3) := by decide +kernel
theorem dX13_pairFrom_38 : decode cX13_pairFrom 38 = .ok (.iload_n 1, 1) := by decide +kernel
theorem dX13_pairFrom_39 : decode cX13_pairFrom 39 = .ok (.iconst 1, 1) := by decide +kernel
theorem dX13_pairFrom_40 : decode cX13_pairFrom 40 = .ok (.iadd, 1) := by decide +kernel
theorem dX13_pairFrom_41 : decode cX13_pairFrom 41 = .ok (.iload_n 2, 1) := by decide +kernel
theorem dX13_pairFrom_42 : decode cX13_pairFrom 42 = .ok (.iconst 1, 1) := by decide +kernel
theorem dX13_pairFrom_43 : decode cX13_pairFrom 43 = .ok (.iadd, 1) := by decide +kernel
theorem dX13_pairFrom_44 : decode cX13_pairFrom 44 = .ok (.invokestatic 384, 3) := by decide +kernel
theorem dX13_pairFrom_47 : decode cX13_pairFrom 47 = .ok (.iaload, 1) := by decide +kernel
theorem dX13_pairFrom_48 : decode cX13_pairFrom 48 = .ok (.iadd, 1) := by decide +kernel
theorem dX13_pairFrom_49 : decode cX13_pairFrom 49 = .ok (.goto 6, 3) := by decide +kernel
theorem dX13_pairFrom_52 : decode cX13_pairFrom 52 = .ok (.ldc_w 282, 3) := by decide +kernel
theorem dX13_pairFrom_55 : decode cX13_pairFrom 55 = .ok (.ireturn, 1) := by decide +kernel
theorem dX13_missedFrom_0 : decode cX13_missedFrom 0 = .ok (.iload_n 1, 1) := by decide +kernel
theorem dX13_missedFrom_1 : decode cX13_missedFrom 1 = .ok (.aload_n 0, 1) := by decide +kernel
theorem dX13_missedFrom_2 : decode cX13_missedFrom 2 = .ok (.getfield 233, 3) := by decide +kernel
theorem dX13_missedFrom_5 : decode cX13_missedFrom 5 = .ok (.if_icmp .ge 20, 3) := by decide +kernel
theorem dX13_missedFrom_8 : decode cX13_missedFrom 8 = .ok (.iconst 3, 1) := by decide +kernel
theorem dX13_missedFrom_9 : decode cX13_missedFrom 9 = .ok (.aload_n 0, 1) := by decide +kernel
theorem dX13_missedFrom_10 : decode cX13_missedFrom 10 = .ok (.getfield 199, 3) := by decide +kernel
theorem dX13_missedFrom_13 : decode cX13_missedFrom 13 = .ok (.iload_n 1, 1) := by decide +kernel
theorem dX13_missedFrom_14 : decode cX13_missedFrom 14 = .ok (.iconst 1, 1) := by decide +kernel
theorem dX13_missedFrom_15 : decode cX13_missedFrom 15 = .ok (.iadd, 1) := by decide +kernel
theorem dX13_missedFrom_16 : decode cX13_missedFrom 16 = .ok (.iload_n 2, 1) := by decide +kernel
theorem dX13_missedFrom_17 : decode cX13_missedFrom 17 = .ok (.invokestatic 384, 3) := by decide +kernel
theorem dX13_missedFrom_20 : decode cX13_missedFrom 20 = .ok (.iaload, 1) := by decide +kernel
theorem dX13_missedFrom_21 : decode cX13_missedFrom 21 = .ok (.iadd, 1) := by decide +kernel
theorem dX13_missedFrom_22 : decode cX13_missedFrom 22 = .ok (.goto 6, 3) := by decide +kernel
theorem dX13_missedFrom_25 : decode cX13_missedFrom 25 = .ok (.ldc_w 282, 3) := by decide +kernel
theorem dX13_missedFrom_28 : decode cX13_missedFrom 28 = .ok (.ireturn, 1) := by decide +kernel
theorem dX13_moreFrom_0 : decode cX13_moreFrom 0 = .ok (.iload_n 2, 1) := by decide +kernel
theorem dX13_moreFrom_1 : decode cX13_moreFrom 1 = .ok (.aload_n 0, 1) := by decide +kernel
theorem dX13_moreFrom_2 : decode cX13_moreFrom 2 = .ok (.getfield 378, 3) := by decide +kernel
theorem dX13_moreFrom_5 : decode cX13_moreFrom 5 = .ok (.if_icmp .ge 20, 3) := by decide +kernel
theorem dX13_moreFrom_8 : decode cX13_moreFrom 8 = .ok (.iconst 3, 1) := by decide +kernel
theorem dX13_moreFrom_9 : decode cX13_moreFrom 9 = .ok (.aload_n 0, 1) := by decide +kernel
theorem dX13_moreFrom_10 : decode cX13_moreFrom 10 = .ok (.getfield 199, 3) := by decide +kernel
theorem dX13_moreFrom_13 : decode cX13_moreFrom 13 = .ok (.iload_n 1, 1) := by decide +kernel
theorem dX13_moreFrom_14 : decode cX13_moreFrom 14 = .ok (.iload_n 2, 1) := by decide +kernel
theorem dX13_moreFrom_15 : decode cX13_moreFrom 15 = .ok (.iconst 1, 1) := by decide +kernel
theorem dX13_moreFrom_16 : decode cX13_moreFrom 16 = .ok (.iadd, 1) := by decide +kernel
theorem dX13_moreFrom_17 : decode cX13_moreFrom 17 = .ok (.invokestatic 384, 3) := by decide +kernel
theorem dX13_moreFrom_20 : decode cX13_moreFrom 20 = .ok (.iaload, 1) := by decide +kernel
theorem dX13_moreFrom_21 : decode cX13_moreFrom 21 = .ok (.iadd, 1) := by decide +kernel
theorem dX13_moreFrom_22 : decode cX13_moreFrom 22 = .ok (.goto 6, 3) := by decide +kernel
theorem dX13_moreFrom_25 : decode cX13_moreFrom 25 = .ok (.ldc_w 282, 3) := by decide +kernel
theorem dX13_moreFrom_28 : decode cX13_moreFrom 28 = .ok (.ireturn, 1) := by decide +kernel
theorem dX13_laid_0 : decode cX13_laid 0 = .ok (.aload_n 0, 1) := by decide +kernel
theorem dX13_laid_1 : decode cX13_laid 1 = .ok (.getfield 246, 3) := by decide +kernel
theorem dX13_laid_4 : decode cX13_laid 4 = .ok (.ifCond .eq 23, 3) := by decide +kernel
theorem dX13_laid_7 : decode cX13_laid 7 = .ok (.aload_n 0, 1) := by decide +kernel
theorem dX13_laid_8 : decode cX13_laid 8 = .ok (.iload_n 1, 1) := by decide +kernel
theorem dX13_laid_9 : decode cX13_laid 9 = .ok (.invokevirtual 271, 3) := by decide +kernel
theorem dX13_laid_12 : decode cX13_laid 12 = .ok (.ifCond .eq 15, 3) := by decide +kernel
theorem dX13_laid_15 : decode cX13_laid 15 = .ok (.iload_n 2, 1) := by decide +kernel
theorem dX13_laid_16 : decode cX13_laid 16 = .ok (.i2l, 1) := by decide +kernel
theorem dX13_laid_17 : decode cX13_laid 17 = .ok (.lconst 0, 1) := by decide +kernel
theorem dX13_laid_18 : decode cX13_laid 18 = .ok (.ldc2_w 399, 3) := by decide +kernel
theorem dX13_laid_21 : decode cX13_laid 21 = .ok (.invokestatic 5, 3) := by decide +kernel
theorem dX13_laid_24 : decode cX13_laid 24 = .ok (.ifCond .ne 6, 3) := by decide +kernel
theorem dX13_laid_27 : decode cX13_laid 27 = .ok (.bipush (-9), 2) := by decide +kernel
theorem dX13_laid_29 : decode cX13_laid 29 = .ok (.ireturn, 1) := by decide +kernel
theorem dX13_laid_30 : decode cX13_laid 30 = .ok (.aload_n 0, 1) := by decide +kernel
theorem dX13_laid_31 : decode cX13_laid 31 = .ok (.getfield 196, 3) := by decide +kernel
theorem dX13_laid_34 : decode cX13_laid 34 = .ok (.iload_n 1, 1) := by decide +kernel
theorem dX13_laid_35 : decode cX13_laid 35 = .ok (.iaload, 1) := by decide +kernel
theorem dX13_laid_36 : decode cX13_laid 36 = .ok (.istore_n 3, 1) := by decide +kernel
theorem dX13_laid_37 : decode cX13_laid 37 = .ok (.iload_n 3, 1) := by decide +kernel
theorem dX13_laid_38 : decode cX13_laid 38 = .ok (.iconst (-1), 1) := by decide +kernel
theorem dX13_laid_39 : decode cX13_laid 39 = .ok (.if_icmp .ne 14, 3) := by decide +kernel
theorem dX13_laid_42 : decode cX13_laid 42 = .ok (.iload_n 2, 1) := by decide +kernel
theorem dX13_laid_43 : decode cX13_laid 43 = .ok (.iconst 2, 1) := by decide +kernel
theorem dX13_laid_44 : decode cX13_laid 44 = .ok (.if_icmp .ne 7, 3) := by decide +kernel
theorem dX13_laid_47 : decode cX13_laid 47 = .ok (.iconst (-1), 1) := by decide +kernel
theorem dX13_laid_48 : decode cX13_laid 48 = .ok (.goto 4, 3) := by decide +kernel
theorem dX13_laid_51 : decode cX13_laid 51 = .ok (.iconst 0, 1) := by decide +kernel
theorem dX13_laid_52 : decode cX13_laid 52 = .ok (.ireturn, 1) := by decide +kernel
theorem dX13_laid_53 : decode cX13_laid 53 = .ok (.iload_n 2, 1) := by decide +kernel
theorem dX13_laid_54 : decode cX13_laid 54 = .ok (.ifCond .ne 7, 3) := by decide +kernel
theorem dX13_laid_57 : decode cX13_laid 57 = .ok (.iconst 1, 1) := by decide +kernel
theorem dX13_laid_58 : decode cX13_laid 58 = .ok (.goto 30, 3) := by decide +kernel
theorem dX13_laid_61 : decode cX13_laid 61 = .ok (.iload_n 2, 1) := by decide +kernel
theorem dX13_laid_62 : decode cX13_laid 62 = .ok (.iconst 1, 1) := by decide +kernel
theorem dX13_laid_63 : decode cX13_laid 63 = .ok (.if_icmp .ne 19, 3) := by decide +kernel
theorem dX13_laid_66 : decode cX13_laid 66 = .ok (.aload_n 0, 1) := by decide +kernel
theorem dX13_laid_67 : decode cX13_laid 67 = .ok (.getfield 190, 3) := by decide +kernel
theorem dX13_laid_70 : decode cX13_laid 70 = .ok (.iload_n 3, 1) := by decide +kernel
theorem dX13_laid_71 : decode cX13_laid 71 = .ok (.iaload, 1) := by decide +kernel
theorem dX13_laid_72 : decode cX13_laid 72 = .ok (.aload_n 0, 1) := by decide +kernel
theorem dX13_laid_73 : decode cX13_laid 73 = .ok (.getfield 125, 3) := by decide +kernel
theorem dX13_laid_76 : decode cX13_laid 76 = .ok (.iload_n 1, 1) := by decide +kernel
theorem dX13_laid_77 : decode cX13_laid 77 = .ok (.iaload, 1) := by decide +kernel
theorem dX13_laid_78 : decode cX13_laid 78 = .ok (.isub, 1) := by decide +kernel
theorem dX13_laid_79 : decode cX13_laid 79 = .ok (.goto 9, 3) := by decide +kernel
theorem dX13_laid_82 : decode cX13_laid 82 = .ok (.aload_n 0, 1) := by decide +kernel
theorem dX13_laid_83 : decode cX13_laid 83 = .ok (.getfield 193, 3) := by decide +kernel
theorem dX13_laid_86 : decode cX13_laid 86 = .ok (.iload_n 3, 1) := by decide +kernel
theorem dX13_laid_87 : decode cX13_laid 87 = .ok (.iaload, 1) := by decide +kernel
theorem dX13_laid_88 : decode cX13_laid 88 = .ok (.ireturn, 1) := by decide +kernel
theorem dX13_more_0 : decode cX13_more 0 = .ok (.aload_n 0, 1) := by decide +kernel
theorem dX13_more_1 : decode cX13_more 1 = .ok (.getfield 246, 3) := by decide +kernel
theorem dX13_more_4 : decode cX13_more 4 = .ok (.ifCond .eq 10, 3) := by decide +kernel
theorem dX13_more_7 : decode cX13_more 7 = .ok (.aload_n 0, 1) := by decide +kernel
theorem dX13_more_8 : decode cX13_more 8 = .ok (.getfield 396, 3) := by decide +kernel
theorem dX13_more_11 : decode cX13_more 11 = .ok (.goto 4, 3) := by decide +kernel
theorem dX13_more_14 : decode cX13_more 14 = .ok (.iconst (-1), 1) := by decide +kernel
theorem dX13_more_15 : decode cX13_more 15 = .ok (.ireturn, 1) := by decide +kernel
theorem dX13_blame_0 : decode cX13_blame 0 = .ok (.aload_n 0, 1) := by decide +kernel
theorem dX13_blame_1 : decode cX13_blame 1 = .ok (.iload_n 1, 1) := by decide +kernel
theorem dX13_blame_2 : decode cX13_blame 2 = .ok (.invokevirtual 279, 3) := by decide +kernel
theorem dX13_blame_5 : decode cX13_blame 5 = .ok (.ifCond .ne 6, 3) := by decide +kernel
theorem dX13_blame_8 : decode cX13_blame 8 = .ok (.bipush (-2), 2) := by decide +kernel
theorem dX13_blame_10 : decode cX13_blame 10 = .ok (.ireturn, 1) := by decide +kernel
theorem dX13_blame_11 : decode cX13_blame 11 = .ok (.aload_n 0, 1) := by decide +kernel
theorem dX13_blame_12 : decode cX13_blame 12 = .ok (.getfield 236, 3) := by decide +kernel
theorem dX13_blame_15 : decode cX13_blame 15 = .ok (.ifCond .eq 10, 3) := by decide +kernel
theorem dX13_blame_18 : decode cX13_blame 18 = .ok (.aload_n 0, 1) := by decide +kernel
theorem dX13_blame_19 : decode cX13_blame 19 = .ok (.getfield 246, 3) := by decide +kernel
theorem dX13_blame_22 : decode cX13_blame 22 = .ok (.ifCond .ne 6, 3) := by decide +kernel
theorem dX13_blame_25 : decode cX13_blame 25 = .ok (.bipush (-4), 2) := by decide +kernel
theorem dX13_blame_27 : decode cX13_blame 27 = .ok (.ireturn, 1) := by decide +kernel
theorem dX13_blame_28 : decode cX13_blame 28 = .ok (.iconst 0, 1) := by decide +kernel
theorem dX13_blame_29 : decode cX13_blame 29 = .ok (.istore_n 2, 1) := by decide +kernel
theorem dX13_blame_30 : decode cX13_blame 30 = .ok (.iconst 0, 1) := by decide +kernel
theorem dX13_blame_31 : decode cX13_blame 31 = .ok (.istore_n 3, 1) := by decide +kernel
theorem dX13_blame_32 : decode cX13_blame 32 = .ok (.iload_n 3, 1) := by decide +kernel
theorem dX13_blame_33 : decode cX13_blame 33 = .ok (.aload_n 0, 1) := by decide +kernel
theorem dX13_blame_34 : decode cX13_blame 34 = .ok (.getfield 233, 3) := by decide +kernel
theorem dX13_blame_37 : decode cX13_blame 37 = .ok (.if_icmp .ge 52, 3) := by decide +kernel
theorem dX13_blame_40 : decode cX13_blame 40 = .ok (.aload_n 0, 1) := by decide +kernel
theorem dX13_blame_41 : decode cX13_blame 41 = .ok (.getfield 153, 3) := by decide +kernel
theorem dX13_blame_44 : decode cX13_blame 44 = .ok (.aload_n 0, 1) := by decide +kernel
theorem dX13_blame_45 : decode cX13_blame 45 = .ok (.getfield 128, 3) := by decide +kernel
theorem dX13_blame_48 : decode cX13_blame 48 = .ok (.iload_n 3, 1) := by decide +kernel
theorem dX13_blame_49 : decode cX13_blame 49 = .ok (.iaload, 1) := by decide +kernel
theorem dX13_blame_50 : decode cX13_blame 50 = .ok (.iaload, 1) := by decide +kernel
theorem dX13_blame_51 : decode cX13_blame 51 = .ok (.iload_n 1, 1) := by decide +kernel
theorem dX13_blame_52 : decode cX13_blame 52 = .ok (.if_icmp .ne 31, 3) := by decide +kernel
theorem dX13_blame_55 : decode cX13_blame 55 = .ok (.iload_n 2, 1) := by decide +kernel
theorem dX13_blame_56 : decode cX13_blame 56 = .ok (.aload_n 0, 1) := by decide +kernel
theorem dX13_blame_57 : decode cX13_blame 57 = .ok (.getfield 196, 3) := by decide +kernel
theorem dX13_blame_60 : decode cX13_blame 60 = .ok (.iload_n 3, 1) := by decide +kernel
theorem dX13_blame_61 : decode cX13_blame 61 = .ok (.iaload, 1) := by decide +kernel
theorem dX13_blame_62 : decode cX13_blame 62 = .ok (.iconst (-1), 1) := by decide +kernel
theorem dX13_blame_63 : decode cX13_blame 63 = .ok (.if_icmp .ne 7, 3) := by decide +kernel
theorem dX13_blame_66 : decode cX13_blame 66 = .ok (.iconst 3, 1) := by decide +kernel
theorem dX13_blame_67 : decode cX13_blame 67 = .ok (.goto 14, 3) := by decide +kernel
theorem dX13_blame_70 : decode cX13_blame 70 = .ok (.aload_n 0, 1) := by decide +kernel
theorem dX13_blame_71 : decode cX13_blame 71 = .ok (.iload_n 3, 1) := by decide +kernel
theorem dX13_blame_72 : decode cX13_blame 72 = .ok (.aload_n 0, 1) := by decide +kernel
theorem dX13_blame_73 : decode cX13_blame 73 = .ok (.getfield 196, 3) := by decide +kernel
theorem dX13_blame_76 : decode cX13_blame 76 = .ok (.iload_n 3, 1) := by decide +kernel
theorem dX13_blame_77 : decode cX13_blame 77 = .ok (.iaload, 1) := by decide +kernel
theorem dX13_blame_78 : decode cX13_blame 78 = .ok (.invokevirtual 381, 3) := by decide +kernel
theorem dX13_blame_81 : decode cX13_blame 81 = .ok (.iadd, 1) := by decide +kernel
theorem dX13_blame_82 : decode cX13_blame 82 = .ok (.istore_n 2, 1) := by decide +kernel
theorem dX13_blame_83 : decode cX13_blame 83 = .ok (.iinc 3 1, 3) := by decide +kernel
theorem dX13_blame_86 : decode cX13_blame 86 = .ok (.goto (-54), 3) := by decide +kernel
theorem dX13_blame_89 : decode cX13_blame 89 = .ok (.iconst 0, 1) := by decide +kernel
theorem dX13_blame_90 : decode cX13_blame 90 = .ok (.istore_n 3, 1) := by decide +kernel
theorem dX13_blame_91 : decode cX13_blame 91 = .ok (.iload_n 3, 1) := by decide +kernel
theorem dX13_blame_92 : decode cX13_blame 92 = .ok (.aload_n 0, 1) := by decide +kernel
theorem dX13_blame_93 : decode cX13_blame 93 = .ok (.getfield 378, 3) := by decide +kernel
theorem dX13_blame_96 : decode cX13_blame 96 = .ok (.if_icmp .ge 36, 3) := by decide +kernel
theorem dX13_blame_99 : decode cX13_blame 99 = .ok (.aload_n 0, 1) := by decide +kernel
theorem dX13_blame_100 : decode cX13_blame 100 = .ok (.getfield 202, 3) := by decide +kernel
theorem dX13_blame_103 : decode cX13_blame 103 = .ok (.iload_n 3, 1) := by decide +kernel
theorem dX13_blame_104 : decode cX13_blame 104 = .ok (.baload, 1) := by decide +kernel
theorem dX13_blame_105 : decode cX13_blame 105 = .ok (.ifCond .eq 21, 3) := by decide +kernel
theorem dX13_blame_108 : decode cX13_blame 108 = .ok (.aload_n 0, 1) := by decide +kernel
theorem dX13_blame_109 : decode cX13_blame 109 = .ok (.getfield 153, 3) := by decide +kernel
theorem dX13_blame_112 : decode cX13_blame 112 = .ok (.aload_n 0, 1) := by decide +kernel
theorem dX13_blame_113 : decode cX13_blame 113 = .ok (.getfield 193, 3) := by decide +kernel
theorem dX13_blame_116 : decode cX13_blame 116 = .ok (.iload_n 3, 1) := by decide +kernel
theorem dX13_blame_117 : decode cX13_blame 117 = .ok (.iaload, 1) := by decide +kernel
theorem dX13_blame_118 : decode cX13_blame 118 = .ok (.iaload, 1) := by decide +kernel
theorem dX13_blame_119 : decode cX13_blame 119 = .ok (.iload_n 1, 1) := by decide +kernel
theorem dX13_blame_120 : decode cX13_blame 120 = .ok (.if_icmp .ne 6, 3) := by decide +kernel
theorem dX13_blame_123 : decode cX13_blame 123 = .ok (.iinc 2 3, 3) := by decide +kernel
theorem dX13_blame_126 : decode cX13_blame 126 = .ok (.iinc 3 1, 3) := by decide +kernel
theorem dX13_blame_129 : decode cX13_blame 129 = .ok (.goto (-38), 3) := by decide +kernel
theorem dX13_blame_132 : decode cX13_blame 132 = .ok (.iload_n 2, 1) := by decide +kernel
theorem dX13_blame_133 : decode cX13_blame 133 = .ok (.ireturn, 1) := by decide +kernel
abbrev mX13_pairPoints : MI := (yX13_pairPoints, cX13_pairPoints, 4, some .int, 1, 21, [])
abbrev mX13_place : MI := (yX13_place, cX13_place, 2, some .int, 1, 21, [])
abbrev mX13_pairFrom : MI := (yX13_pairFrom, cX13_pairFrom, 3, some .int, 2, 44, [])
abbrev mX13_missedFrom : MI := (yX13_missedFrom, cX13_missedFrom, 3, some .int, 2, 42, [])
abbrev mX13_moreFrom : MI := (yX13_moreFrom, cX13_moreFrom, 3, some .int, 2, 42, [])
abbrev mX13_laid : MI := (yX13_laid, cX13_laid, 4, some .int, 3, 67, [])
abbrev mX13_more : MI := (yX13_more, cX13_more, 1, some .int, 1, 21, [])
abbrev mX13_blame : MI := (yX13_blame, cX13_blame, 4, some .int, 3, 67, [])
theorem co_X13_399 : Cond.constantLong RX13 399 2 ∈ lw_w := lw_in (i := 1626) (by decide +kernel) (by decide +kernel)
theorem fk_X13_190 : Fk RX13 190 13 47 := ⟨RX13, TX13, 66, tyX13, rfl, inX13, by decide, lw_in (i := 1204) (by decide +kernel) (by decide +kernel), tyX13_ok, nmX13⟩
theorem fk_X13_193 : Fk RX13 193 13 48 := ⟨RX13, TX13, 66, tyX13, rfl, inX13, by decide, lw_in (i := 1205) (by decide +kernel) (by decide +kernel), tyX13_ok, nmX13⟩
theorem fk_X13_196 : Fk RX13 196 13 49 := ⟨RX13, TX13, 66, tyX13, rfl, inX13, by decide, lw_in (i := 1206) (by decide +kernel) (by decide +kernel), tyX13_ok, nmX13⟩
theorem fk_X13_199 : Fk RX13 199 13 50 := ⟨RX13, TX13, 66, tyX13, rfl, inX13, by decide, lw_in (i := 1207) (by decide +kernel) (by decide +kernel), tyX13_ok, nmX13⟩
theorem fk_X13_202 : Fk RX13 202 13 51 := ⟨RX13, TX13, 66, tyX13, rfl, inX13, by decide, lw_in (i := 1208) (by decide +kernel) (by decide +kernel), tyX13_ok, nmX13⟩
theorem fk_X13_246 : Fk RX13 246 13 52 := ⟨RX13, TX13, 66, tyX13, rfl, inX13, by decide, lw_in (i := 1209) (by decide +kernel) (by decide +kernel), tyX13_ok, nmX13⟩
theorem fk_X13_378 : Fk RX13 378 13 45 := ⟨RX13, TX13, 66, tyX13, rfl, inX13, by decide, lw_in (i := 1202) (by decide +kernel) (by decide +kernel), tyX13_ok, nmX13⟩
theorem fk_X13_396 : Fk RX13 396 13 46 := ⟨RX13, TX13, 66, tyX13, rfl, inX13, by decide, lw_in (i := 1203) (by decide +kernel) (by decide +kernel), tyX13_ok, nmX13⟩
theorem ms_X13_place : Cond.static mX13_place.y ∈ lw_w := lw_in (i := 1612) (by decide +kernel) (by decide +kernel)
theorem mv_X13_pairPoints : MkV mX13_pairPoints := ⟨lw_in (i := 1609) (by decide +kernel) (by decide +kernel), lw_se (i := 86) (by decide +kernel) (by decide +kernel)⟩
theorem mk_X13_381 : Mk RX13 381 mX13_pairPoints 2 := ⟨lw_in (i := 1607) (by decide +kernel) (by decide +kernel), lw_in (i := 14) (by decide +kernel) (by decide +kernel), lw_in (i := 1610) (by decide +kernel) (by decide +kernel), by decide +kernel⟩
theorem mk_X13_384 : Mk RX13 384 mX13_place 2 := ⟨lw_in (i := 1611) (by decide +kernel) (by decide +kernel), lw_in (i := 14) (by decide +kernel) (by decide +kernel), lw_in (i := 1613) (by decide +kernel) (by decide +kernel), by decide +kernel⟩
theorem rm_X13_blame_X13_isRinger : Rm mX13_blame mX13_isRinger := ⟨by decide, by decide⟩
theorem rm_X13_blame_X13_pairPoints : Rm mX13_blame mX13_pairPoints := ⟨by decide, by decide⟩
theorem rm_X13_laid_X13_in : Rm mX13_laid mX13_in := ⟨by decide, by decide⟩
theorem rm_X13_laid_X13_isStroke : Rm mX13_laid mX13_isStroke := ⟨by decide, by decide⟩
theorem rm_X13_missedFrom_X13_place : Rm mX13_missedFrom mX13_place := ⟨by decide, by decide⟩
theorem rm_X13_moreFrom_X13_place : Rm mX13_moreFrom mX13_place := ⟨by decide, by decide⟩
theorem rm_X13_pairFrom_X13_pairPoints : Rm mX13_pairFrom mX13_pairPoints := ⟨by decide, by decide⟩
theorem rm_X13_pairFrom_X13_place : Rm mX13_pairFrom mX13_place := ⟨by decide, by decide⟩
section W_model5
variable {l : Launch} {D : va_G} {ad : Nat → Nat} {kA : Nat → ClassId} {M : Mem} {Q : Outcome → Mem → Prop}
def v_X13_pairPoints (M : Mem) (x1 : Int32) (x2 : Int32) : Int32 := if (gI M 81 x2.toNatClampNeg) = (gI M 57 x1.toNatClampNeg) then if 2 < (iabs ((gI M 80 x2.toNatClampNeg) - (gI M 56 x1.toNatClampNeg))) then 1000000 else iabs ((gI M 80 x2.toNatClampNeg) - (gI M 56 x1.toNatClampNeg)) else if (iabs ((gI M 80 x2.toNatClampNeg) - (gI M 56 x1.toNatClampNeg))) = 0 then 2 else 1000000
def g_X13_pairPoints (M : Mem) (x1 : Int32) (x2 : Int32) : Prop := (vp_in x2 160) ∧ (vp_in x1 160)
theorem ct_X13_pairPoints {x1 : Int32} {x2 : Int32}  (g : g_X13_pairPoints M x1 x2) (h : Q (.returned (some (.int (v_X13_pairPoints M x1 x2)))) M) : Cal l D ad kA mX13_pairPoints [.ref (ad 54), .int x1, .int x2] M Q := by
  refine Cal.of (lo := [some (.ref (ad 54)), some (.int x1), some (.int x2), none]) (by decide) rfl rfl (Nat.le_of_ble_eq_true rfl) ?_
  obtain ⟨g1, g2⟩ := g
  refine r_aload_n dX13_pairPoints_0 rfl ?_
  refine r_getR dX13_pairPoints_1 fs_54_47 fk_X13_190 ?_
  refine r_iload_n dX13_pairPoints_4 rfl ?_
  refine r_iald dX13_pairPoints_5 as_80 g1 ?_
  refine r_aload_n dX13_pairPoints_6 rfl ?_
  refine r_getR dX13_pairPoints_7 fs_54_12 fk_X13_125 ?_
  refine r_iload_n dX13_pairPoints_10 rfl ?_
  refine r_iald dX13_pairPoints_11 as_56 g2 ?_
  refine r_isub dX13_pairPoints_12 ?_
  refine q_mabs dX13_pairPoints_13 mk_X13_371 (by decide) (Nat.le_of_ble_eq_true rfl) ?_
  refine q_istore_n (lo' := [some (.ref (ad 54)), some (.int x1), some (.int x2), some (.int (iabs ((gI M 80 x2.toNatClampNeg) - (gI M 56 x1.toNatClampNeg))))]) dX13_pairPoints_16 (by decide) rfl ?_
  refine r_aload_n dX13_pairPoints_17 rfl ?_
  refine r_getR dX13_pairPoints_18 fs_54_48 fk_X13_193 ?_
  refine r_iload_n dX13_pairPoints_21 rfl ?_
  refine r_iald dX13_pairPoints_22 as_81 g1 ?_
  refine r_aload_n dX13_pairPoints_23 rfl ?_
  refine r_getR dX13_pairPoints_24 fs_54_13 fk_X13_128 ?_
  refine r_iload_n dX13_pairPoints_27 rfl ?_
  refine r_iald dX13_pairPoints_28 as_57 g2 ?_
  refine r_icmp_ne (tgt := 45) dX13_pairPoints_29 (by decide) (fun c1 => ?_) (fun c1 => ?_)
  · skip
    refine r_iload_n dX13_pairPoints_45 rfl ?_
    suffices hJ1 : Fw l D ad kA mX13_pairPoints 56 [none, none, none, none] [.int (if (iabs ((gI M 80 x2.toNatClampNeg) - (gI M 56 x1.toNatClampNeg))) = 0 then 2 else 1000000)] M Q by
      refine r_if_ne (tgt := 53) dX13_pairPoints_46 (by decide) (fun c2 => ?_) (fun c2 => ?_)
      · skip
        refine r_ldcw (v := 1000000) dX13_pairPoints_53 co_X13_282 ?_
        exact q_weak (lo' := [none, none, none, none]) trivial (by have h9 := hJ1; simp only [if_neg c2] at h9; first | exact h9 | (simp only [if_neg c2]; exact h9))
      · skip
        refine r_iconst (v := 2) dX13_pairPoints_49 kI_2 ?_
        refine r_goto (tgt := 56) dX13_pairPoints_50 (by decide) ?_
        exact q_weak (lo' := [none, none, none, none]) trivial (by have h9 := hJ1; simp only [if_pos c2] at h9; first | exact h9 | (simp only [if_pos c2]; exact h9))
    exact r_iret dX13_pairPoints_56 rfl (by have h9 := h; simp only [v_X13_pairPoints, if_neg c1] at h9; first | exact h9 | (simp only [if_neg c1]; exact h9))
  · skip
    refine r_iload_n dX13_pairPoints_32 rfl ?_
    refine r_iconst (v := 2) dX13_pairPoints_33 kI_2 ?_
    suffices hJ2 : Fw l D ad kA mX13_pairPoints 44 [none, none, none, none] [.int (if 2 < (iabs ((gI M 80 x2.toNatClampNeg) - (gI M 56 x1.toNatClampNeg))) then 1000000 else iabs ((gI M 80 x2.toNatClampNeg) - (gI M 56 x1.toNatClampNeg)))] M Q by
      refine r_icmp_gt (tgt := 41) dX13_pairPoints_34 (by decide) (fun c3 => ?_) (fun c3 => ?_)
      · skip
        refine r_ldcw (v := 1000000) dX13_pairPoints_41 co_X13_282 ?_
        exact q_weak (lo' := [none, none, none, none]) trivial (by have h9 := hJ2; simp only [if_pos c3] at h9; first | exact h9 | (simp only [if_pos c3]; exact h9))
      · skip
        refine r_iload_n dX13_pairPoints_37 rfl ?_
        refine r_goto (tgt := 44) dX13_pairPoints_38 (by decide) ?_
        exact q_weak (lo' := [none, none, none, none]) trivial (by have h9 := hJ2; simp only [if_neg c3] at h9; first | exact h9 | (simp only [if_neg c3]; exact h9))
    exact r_iret dX13_pairPoints_44 rfl (by have h9 := h; simp only [v_X13_pairPoints, if_pos c1] at h9; first | exact h9 | (simp only [if_pos c1]; exact h9))
def v_X13_place (x0 : Int32) (x1 : Int32) : Int32 := (161 * x0) + x1
theorem ct_X13_place {x0 : Int32} {x1 : Int32}  (h : Q (.returned (some (.int (v_X13_place x0 x1)))) M) : Cal l D ad kA mX13_place [.int x0, .int x1] M Q := by
  refine Cal.of (lo := [some (.int x0), some (.int x1)]) (by decide) rfl rfl (Nat.le_of_ble_eq_true rfl) ?_
  refine r_sipush (v := 161) dX13_place_0 kS_161 ?_
  refine r_iload_n dX13_place_3 rfl ?_
  refine r_imul dX13_place_4 ?_
  refine r_iload_n dX13_place_5 rfl ?_
  refine r_iadd dX13_place_6 ?_
  exact r_iret dX13_place_7 rfl h
def v_X13_pairFrom (M : Mem) (x1 : Int32) (x2 : Int32) : Int32 := if (gI M 54 10) ≤ x1 then 1000000 else if (gI M 54 45) ≤ x2 then 1000000 else if 1000000 ≤ (v_X13_pairPoints M x1 x2) then 1000000 else (v_X13_pairPoints M x1 x2) + (gI M 83 (v_X13_place (x1 + 1) (x2 + 1)).toNatClampNeg)
def g_X13_pairFrom (M : Mem) (x1 : Int32) (x2 : Int32) : Prop := ((¬ ((gI M 54 10) ≤ x1)) → (¬ ((gI M 54 45) ≤ x2)) → g_X13_pairPoints M x1 x2) ∧ ((¬ ((gI M 54 10) ≤ x1)) → (¬ ((gI M 54 45) ≤ x2)) → (¬ (1000000 ≤ (v_X13_pairPoints M x1 x2))) → vp_in (v_X13_place (x1 + 1) (x2 + 1)) 25921)
theorem ct_X13_pairFrom {x1 : Int32} {x2 : Int32}  (g : g_X13_pairFrom M x1 x2) (h : Q (.returned (some (.int (v_X13_pairFrom M x1 x2)))) M) : Cal l D ad kA mX13_pairFrom [.ref (ad 54), .int x1, .int x2] M Q := by
  refine Cal.of (lo := [some (.ref (ad 54)), some (.int x1), some (.int x2)]) (by decide) rfl rfl (Nat.le_of_ble_eq_true rfl) ?_
  obtain ⟨g1, g2⟩ := g
  refine r_iload_n dX13_pairFrom_0 rfl ?_
  refine r_aload_n dX13_pairFrom_1 rfl ?_
  refine r_getI dX13_pairFrom_2 fs_54_10 fk_X13_233 ?_
  suffices hJ1 : Fw l D ad kA mX13_pairFrom 55 [none, none, none] [.int (if (gI M 54 10) ≤ x1 then 1000000 else if (gI M 54 45) ≤ x2 then 1000000 else if 1000000 ≤ (v_X13_pairPoints M x1 x2) then 1000000 else (v_X13_pairPoints M x1 x2) + (gI M 83 (v_X13_place (x1 + 1) (x2 + 1)).toNatClampNeg))] M Q by
    refine r_icmp_ge (tgt := 52) dX13_pairFrom_5 (by decide) (fun c1 => ?_) (fun c1 => ?_)
    · skip
      refine r_ldcw (v := 1000000) dX13_pairFrom_52 co_X13_282 ?_
      exact q_weak (lo' := [none, none, none]) trivial (by have h9 := hJ1; simp only [if_pos c1] at h9; first | exact h9 | (simp only [if_pos c1]; exact h9))
    · skip
      refine r_iload_n dX13_pairFrom_8 rfl ?_
      refine r_aload_n dX13_pairFrom_9 rfl ?_
      refine r_getI dX13_pairFrom_10 fs_54_45 fk_X13_378 ?_
      refine r_icmp_ge (tgt := 52) dX13_pairFrom_13 (by decide) (fun c2 => ?_) (fun c2 => ?_)
      · skip
        refine r_ldcw (v := 1000000) dX13_pairFrom_52 co_X13_282 ?_
        exact q_weak (lo' := [none, none, none]) trivial (by have h9 := hJ1; simp only [if_neg c1, if_pos c2] at h9; first | exact h9 | (simp only [if_neg c1, if_pos c2]; exact h9))
      · skip
        refine r_aload_n dX13_pairFrom_16 rfl ?_
        refine r_iload_n dX13_pairFrom_17 rfl ?_
        refine r_iload_n dX13_pairFrom_18 rfl ?_
        refine r_callV (x := 54) (As := [.int x1, .int x2]) (rest := []) dX13_pairFrom_19 mk_X13_381 mv_X13_pairPoints rm_X13_pairFrom_X13_pairPoints rfl rfl (by decide +kernel) (Nat.le_of_ble_eq_true rfl) (ct_X13_pairPoints (g1 c1 c2) (⟨_, rfl, ?_⟩))
        refine r_ldcw (v := 1000000) dX13_pairFrom_22 co_X13_282 ?_
        refine r_icmp_ge (tgt := 52) dX13_pairFrom_25 (by decide) (fun c3 => ?_) (fun c3 => ?_)
        · skip
          refine r_ldcw (v := 1000000) dX13_pairFrom_52 co_X13_282 ?_
          exact q_weak (lo' := [none, none, none]) trivial (by have h9 := hJ1; simp only [if_neg c1, if_neg c2, if_pos c3] at h9; first | exact h9 | (simp only [if_neg c1, if_neg c2, if_pos c3]; exact h9))
        · skip
          refine r_aload_n dX13_pairFrom_28 rfl ?_
          refine r_iload_n dX13_pairFrom_29 rfl ?_
          refine r_iload_n dX13_pairFrom_30 rfl ?_
          refine r_callV (x := 54) (As := [.int x1, .int x2]) (rest := []) dX13_pairFrom_31 mk_X13_381 mv_X13_pairPoints rm_X13_pairFrom_X13_pairPoints rfl rfl (by decide +kernel) (Nat.le_of_ble_eq_true rfl) (ct_X13_pairPoints (g1 c1 c2) (⟨_, rfl, ?_⟩))
          refine r_aload_n dX13_pairFrom_34 rfl ?_
          refine r_getR dX13_pairFrom_35 fs_54_50 fk_X13_199 ?_
          refine r_iload_n dX13_pairFrom_38 rfl ?_
          refine r_iconst (v := 1) dX13_pairFrom_39 kI_1 ?_
          refine r_iadd dX13_pairFrom_40 ?_
          refine r_iload_n dX13_pairFrom_41 rfl ?_
          refine r_iconst (v := 1) dX13_pairFrom_42 kI_1 ?_
          refine r_iadd dX13_pairFrom_43 ?_
          refine r_callS (As := [.int (x1 + 1), .int (x2 + 1)]) (rest := [.ref (ad 83), .int (v_X13_pairPoints M x1 x2)]) dX13_pairFrom_44 mk_X13_384 ms_X13_place rm_X13_pairFrom_X13_place rfl rfl (Nat.le_of_ble_eq_true rfl) (ct_X13_place (⟨_, rfl, ?_⟩))
          refine r_iald dX13_pairFrom_47 as_83 (g2 c1 c2 c3) ?_
          refine r_iadd dX13_pairFrom_48 ?_
          refine r_goto (tgt := 55) dX13_pairFrom_49 (by decide) ?_
          exact q_weak (lo' := [none, none, none]) trivial (by have h9 := hJ1; simp only [if_neg c1, if_neg c2, if_neg c3] at h9; first | exact h9 | (simp only [if_neg c1, if_neg c2, if_neg c3]; exact h9))
  exact r_iret dX13_pairFrom_55 rfl h
def v_X13_missedFrom (M : Mem) (x1 : Int32) (x2 : Int32) : Int32 := if (gI M 54 10) ≤ x1 then 1000000 else 3 + (gI M 83 (v_X13_place (x1 + 1) x2).toNatClampNeg)
def g_X13_missedFrom (M : Mem) (x1 : Int32) (x2 : Int32) : Prop := ((¬ ((gI M 54 10) ≤ x1)) → vp_in (v_X13_place (x1 + 1) x2) 25921)
theorem ct_X13_missedFrom {x1 : Int32} {x2 : Int32}  (g : g_X13_missedFrom M x1 x2) (h : Q (.returned (some (.int (v_X13_missedFrom M x1 x2)))) M) : Cal l D ad kA mX13_missedFrom [.ref (ad 54), .int x1, .int x2] M Q := by
  refine Cal.of (lo := [some (.ref (ad 54)), some (.int x1), some (.int x2)]) (by decide) rfl rfl (Nat.le_of_ble_eq_true rfl) ?_
  have g1 := g
  refine r_iload_n dX13_missedFrom_0 rfl ?_
  refine r_aload_n dX13_missedFrom_1 rfl ?_
  refine r_getI dX13_missedFrom_2 fs_54_10 fk_X13_233 ?_
  suffices hJ1 : Fw l D ad kA mX13_missedFrom 28 [none, none, none] [.int (if (gI M 54 10) ≤ x1 then 1000000 else 3 + (gI M 83 (v_X13_place (x1 + 1) x2).toNatClampNeg))] M Q by
    refine r_icmp_ge (tgt := 25) dX13_missedFrom_5 (by decide) (fun c1 => ?_) (fun c1 => ?_)
    · skip
      refine r_ldcw (v := 1000000) dX13_missedFrom_25 co_X13_282 ?_
      exact q_weak (lo' := [none, none, none]) trivial (by have h9 := hJ1; simp only [if_pos c1] at h9; first | exact h9 | (simp only [if_pos c1]; exact h9))
    · skip
      refine r_iconst (v := 3) dX13_missedFrom_8 kI_3 ?_
      refine r_aload_n dX13_missedFrom_9 rfl ?_
      refine r_getR dX13_missedFrom_10 fs_54_50 fk_X13_199 ?_
      refine r_iload_n dX13_missedFrom_13 rfl ?_
      refine r_iconst (v := 1) dX13_missedFrom_14 kI_1 ?_
      refine r_iadd dX13_missedFrom_15 ?_
      refine r_iload_n dX13_missedFrom_16 rfl ?_
      refine r_callS (As := [.int (x1 + 1), .int x2]) (rest := [.ref (ad 83), .int 3]) dX13_missedFrom_17 mk_X13_384 ms_X13_place rm_X13_missedFrom_X13_place rfl rfl (Nat.le_of_ble_eq_true rfl) (ct_X13_place (⟨_, rfl, ?_⟩))
      refine r_iald dX13_missedFrom_20 as_83 (g1 c1) ?_
      refine r_iadd dX13_missedFrom_21 ?_
      refine r_goto (tgt := 28) dX13_missedFrom_22 (by decide) ?_
      exact q_weak (lo' := [none, none, none]) trivial (by have h9 := hJ1; simp only [if_neg c1] at h9; first | exact h9 | (simp only [if_neg c1]; exact h9))
  exact r_iret dX13_missedFrom_28 rfl h
def v_X13_moreFrom (M : Mem) (x1 : Int32) (x2 : Int32) : Int32 := if (gI M 54 45) ≤ x2 then 1000000 else 3 + (gI M 83 (v_X13_place x1 (x2 + 1)).toNatClampNeg)
def g_X13_moreFrom (M : Mem) (x1 : Int32) (x2 : Int32) : Prop := ((¬ ((gI M 54 45) ≤ x2)) → vp_in (v_X13_place x1 (x2 + 1)) 25921)
theorem ct_X13_moreFrom {x1 : Int32} {x2 : Int32}  (g : g_X13_moreFrom M x1 x2) (h : Q (.returned (some (.int (v_X13_moreFrom M x1 x2)))) M) : Cal l D ad kA mX13_moreFrom [.ref (ad 54), .int x1, .int x2] M Q := by
  refine Cal.of (lo := [some (.ref (ad 54)), some (.int x1), some (.int x2)]) (by decide) rfl rfl (Nat.le_of_ble_eq_true rfl) ?_
  have g1 := g
  refine r_iload_n dX13_moreFrom_0 rfl ?_
  refine r_aload_n dX13_moreFrom_1 rfl ?_
  refine r_getI dX13_moreFrom_2 fs_54_45 fk_X13_378 ?_
  suffices hJ1 : Fw l D ad kA mX13_moreFrom 28 [none, none, none] [.int (if (gI M 54 45) ≤ x2 then 1000000 else 3 + (gI M 83 (v_X13_place x1 (x2 + 1)).toNatClampNeg))] M Q by
    refine r_icmp_ge (tgt := 25) dX13_moreFrom_5 (by decide) (fun c1 => ?_) (fun c1 => ?_)
    · skip
      refine r_ldcw (v := 1000000) dX13_moreFrom_25 co_X13_282 ?_
      exact q_weak (lo' := [none, none, none]) trivial (by have h9 := hJ1; simp only [if_pos c1] at h9; first | exact h9 | (simp only [if_pos c1]; exact h9))
    · skip
      refine r_iconst (v := 3) dX13_moreFrom_8 kI_3 ?_
      refine r_aload_n dX13_moreFrom_9 rfl ?_
      refine r_getR dX13_moreFrom_10 fs_54_50 fk_X13_199 ?_
      refine r_iload_n dX13_moreFrom_13 rfl ?_
      refine r_iload_n dX13_moreFrom_14 rfl ?_
      refine r_iconst (v := 1) dX13_moreFrom_15 kI_1 ?_
      refine r_iadd dX13_moreFrom_16 ?_
      refine r_callS (As := [.int x1, .int (x2 + 1)]) (rest := [.ref (ad 83), .int 3]) dX13_moreFrom_17 mk_X13_384 ms_X13_place rm_X13_moreFrom_X13_place rfl rfl (Nat.le_of_ble_eq_true rfl) (ct_X13_place (⟨_, rfl, ?_⟩))
      refine r_iald dX13_moreFrom_20 as_83 (g1 c1) ?_
      refine r_iadd dX13_moreFrom_21 ?_
      refine r_goto (tgt := 28) dX13_moreFrom_22 (by decide) ?_
      exact q_weak (lo' := [none, none, none]) trivial (by have h9 := hJ1; simp only [if_neg c1] at h9; first | exact h9 | (simp only [if_neg c1]; exact h9))
  exact r_iret dX13_moreFrom_28 rfl h
def v_X13_laid (M : Mem) (x1 : Int32) (x2 : Int32) : Int32 := if (gI M 54 52) = 0 then (-9) else if (v_X13_isStroke M x1) = 0 then (-9) else if (v_X13_in x2.toInt64 0 2) = 0 then (-9) else if (gI M 82 x1.toNatClampNeg) = (-1) then if x2 = 2 then (-1) else 0 else if x2 = 0 then 1 else if x2 = 1 then (gI M 80 (gI M 82 x1.toNatClampNeg).toNatClampNeg) - (gI M 56 x1.toNatClampNeg) else gI M 81 (gI M 82 x1.toNatClampNeg).toNatClampNeg
def g_X13_laid (M : Mem) (x1 : Int32) (x2 : Int32) : Prop := ((¬ ((gI M 54 52) = 0)) → (¬ ((v_X13_isStroke M x1) = 0)) → (¬ ((v_X13_in x2.toInt64 0 2) = 0)) → vp_in x1 160) ∧ ((¬ ((gI M 54 52) = 0)) → (¬ ((v_X13_isStroke M x1) = 0)) → (¬ ((v_X13_in x2.toInt64 0 2) = 0)) → (¬ ((gI M 82 x1.toNatClampNeg) = (-1))) → (¬ (x2 = 0)) → (¬ (x2 = 1)) → vp_in (gI M 82 x1.toNatClampNeg) 160) ∧ ((¬ ((gI M 54 52) = 0)) → (¬ ((v_X13_isStroke M x1) = 0)) → (¬ ((v_X13_in x2.toInt64 0 2) = 0)) → (¬ ((gI M 82 x1.toNatClampNeg) = (-1))) → (¬ (x2 = 0)) → (x2 = 1) → vp_in (gI M 82 x1.toNatClampNeg) 160)
theorem ct_X13_laid {x1 : Int32} {x2 : Int32}  (g : g_X13_laid M x1 x2) (h : Q (.returned (some (.int (v_X13_laid M x1 x2)))) M) : Cal l D ad kA mX13_laid [.ref (ad 54), .int x1, .int x2] M Q := by
  refine Cal.of (lo := [some (.ref (ad 54)), some (.int x1), some (.int x2), none]) (by decide) rfl rfl (Nat.le_of_ble_eq_true rfl) ?_
  obtain ⟨g1, g2, g3⟩ := g
  refine r_aload_n dX13_laid_0 rfl ?_
  refine r_getI dX13_laid_1 fs_54_52 fk_X13_246 ?_
  refine r_if_eq (tgt := 27) dX13_laid_4 (by decide) (fun c1 => ?_) (fun c1 => ?_)
  · skip
    refine r_bipush (v := (-9)) dX13_laid_27 kB_m9 ?_
    exact r_iret dX13_laid_29 rfl (by have h9 := h; simp only [v_X13_laid, if_pos c1] at h9; first | exact h9 | (simp only [if_pos c1]; exact h9))
  · skip
    refine r_aload_n dX13_laid_7 rfl ?_
    refine r_iload_n dX13_laid_8 rfl ?_
    refine r_callV (x := 54) (As := [.int x1]) (rest := []) dX13_laid_9 mk_X13_271 mv_X13_isStroke rm_X13_laid_X13_isStroke rfl rfl (by decide +kernel) (Nat.le_of_ble_eq_true rfl) (ct_X13_isStroke (⟨_, rfl, ?_⟩))
    refine r_if_eq (tgt := 27) dX13_laid_12 (by decide) (fun c2 => ?_) (fun c2 => ?_)
    · skip
      refine r_bipush (v := (-9)) dX13_laid_27 kB_m9 ?_
      exact r_iret dX13_laid_29 rfl (by have h9 := h; simp only [v_X13_laid, if_neg c1, if_pos c2] at h9; first | exact h9 | (simp only [if_neg c1, if_pos c2]; exact h9))
    · skip
      refine r_iload_n dX13_laid_15 rfl ?_
      refine r_i2l dX13_laid_16 ?_
      refine r_lconst (v := 0) dX13_laid_17 kL_0 ?_
      refine r_ldc2 (v := 2) dX13_laid_18 co_X13_399 ?_
      refine r_callS (As := [.long x2.toInt64, .long 0, .long 2]) (rest := []) dX13_laid_21 mk_X13_5 ms_X13_in rm_X13_laid_X13_in rfl rfl (Nat.le_of_ble_eq_true rfl) (ct_X13_in (⟨_, rfl, ?_⟩))
      refine r_if_ne (tgt := 30) dX13_laid_24 (by decide) (fun c3 => ?_) (fun c3 => ?_)
      · skip
        refine r_aload_n dX13_laid_30 rfl ?_
        refine r_getR dX13_laid_31 fs_54_49 fk_X13_196 ?_
        refine r_iload_n dX13_laid_34 rfl ?_
        refine r_iald dX13_laid_35 as_82 (g1 c1 c2 c3) ?_
        refine q_istore_n (lo' := [some (.ref (ad 54)), some (.int x1), some (.int x2), some (.int (gI M 82 x1.toNatClampNeg))]) dX13_laid_36 (by decide) rfl ?_
        refine r_iload_n dX13_laid_37 rfl ?_
        refine r_iconst (v := (-1)) dX13_laid_38 kI_m1 ?_
        refine r_icmp_ne (tgt := 53) dX13_laid_39 (by decide) (fun c4 => ?_) (fun c4 => ?_)
        · skip
          refine r_iload_n dX13_laid_53 rfl ?_
          suffices hJ1 : Fw l D ad kA mX13_laid 88 [none, none, none, none] [.int (if x2 = 0 then 1 else if x2 = 1 then (gI M 80 (gI M 82 x1.toNatClampNeg).toNatClampNeg) - (gI M 56 x1.toNatClampNeg) else gI M 81 (gI M 82 x1.toNatClampNeg).toNatClampNeg)] M Q by
            refine r_if_ne (tgt := 61) dX13_laid_54 (by decide) (fun c5 => ?_) (fun c5 => ?_)
            · skip
              refine r_iload_n dX13_laid_61 rfl ?_
              refine r_iconst (v := 1) dX13_laid_62 kI_1 ?_
              refine r_icmp_ne (tgt := 82) dX13_laid_63 (by decide) (fun c6 => ?_) (fun c6 => ?_)
              · skip
                refine r_aload_n dX13_laid_82 rfl ?_
                refine r_getR dX13_laid_83 fs_54_48 fk_X13_193 ?_
                refine r_iload_n dX13_laid_86 rfl ?_
                refine r_iald dX13_laid_87 as_81 (g2 c1 c2 c3 c4 c5 c6) ?_
                exact q_weak (lo' := [none, none, none, none]) trivial (by have h9 := hJ1; simp only [if_neg c5, if_neg c6] at h9; first | exact h9 | (simp only [if_neg c5, if_neg c6]; exact h9))
              · skip
                refine r_aload_n dX13_laid_66 rfl ?_
                refine r_getR dX13_laid_67 fs_54_47 fk_X13_190 ?_
                refine r_iload_n dX13_laid_70 rfl ?_
                refine r_iald dX13_laid_71 as_80 (g3 c1 c2 c3 c4 c5 c6) ?_
                refine r_aload_n dX13_laid_72 rfl ?_
                refine r_getR dX13_laid_73 fs_54_12 fk_X13_125 ?_
                refine r_iload_n dX13_laid_76 rfl ?_
                refine r_iald dX13_laid_77 as_56 (g1 c1 c2 c3) ?_
                refine r_isub dX13_laid_78 ?_
                refine r_goto (tgt := 88) dX13_laid_79 (by decide) ?_
                exact q_weak (lo' := [none, none, none, none]) trivial (by have h9 := hJ1; simp only [if_neg c5, if_pos c6] at h9; first | exact h9 | (simp only [if_neg c5, if_pos c6]; exact h9))
            · skip
              refine r_iconst (v := 1) dX13_laid_57 kI_1 ?_
              refine r_goto (tgt := 88) dX13_laid_58 (by decide) ?_
              exact q_weak (lo' := [none, none, none, none]) trivial (by have h9 := hJ1; simp only [if_pos c5] at h9; first | exact h9 | (simp only [if_pos c5]; exact h9))
          exact r_iret dX13_laid_88 rfl (by have h9 := h; simp only [v_X13_laid, if_neg c1, if_neg c2, if_neg c3, if_neg c4] at h9; first | exact h9 | (simp only [if_neg c1, if_neg c2, if_neg c3, if_neg c4]; exact h9))
        · skip
          refine r_iload_n dX13_laid_42 rfl ?_
          refine r_iconst (v := 2) dX13_laid_43 kI_2 ?_
          suffices hJ2 : Fw l D ad kA mX13_laid 52 [none, none, none, none] [.int (if x2 = 2 then (-1) else 0)] M Q by
            refine r_icmp_ne (tgt := 51) dX13_laid_44 (by decide) (fun c7 => ?_) (fun c7 => ?_)
            · skip
              refine r_iconst (v := 0) dX13_laid_51 kI_0 ?_
              exact q_weak (lo' := [none, none, none, none]) trivial (by have h9 := hJ2; simp only [if_neg c7] at h9; first | exact h9 | (simp only [if_neg c7]; exact h9))
            · skip
              refine r_iconst (v := (-1)) dX13_laid_47 kI_m1 ?_
              refine r_goto (tgt := 52) dX13_laid_48 (by decide) ?_
              exact q_weak (lo' := [none, none, none, none]) trivial (by have h9 := hJ2; simp only [if_pos c7] at h9; first | exact h9 | (simp only [if_pos c7]; exact h9))
          exact r_iret dX13_laid_52 rfl (by have h9 := h; simp only [v_X13_laid, if_neg c1, if_neg c2, if_neg c3, if_pos c4] at h9; first | exact h9 | (simp only [if_neg c1, if_neg c2, if_neg c3, if_pos c4]; exact h9))
      · skip
        refine r_bipush (v := (-9)) dX13_laid_27 kB_m9 ?_
        exact r_iret dX13_laid_29 rfl (by have h9 := h; simp only [v_X13_laid, if_neg c1, if_neg c2, if_pos c3] at h9; first | exact h9 | (simp only [if_neg c1, if_neg c2, if_pos c3]; exact h9))
def v_X13_more (M : Mem)  : Int32 := if (gI M 54 52) = 0 then (-1) else gI M 54 46
theorem ct_X13_more   (h : Q (.returned (some (.int (v_X13_more M )))) M) : Cal l D ad kA mX13_more [.ref (ad 54)] M Q := by
  refine Cal.of (lo := [some (.ref (ad 54))]) (by decide) rfl rfl (Nat.le_of_ble_eq_true rfl) ?_
  refine r_aload_n dX13_more_0 rfl ?_
  refine r_getI dX13_more_1 fs_54_52 fk_X13_246 ?_
  suffices hJ1 : Fw l D ad kA mX13_more 15 [none] [.int (if (gI M 54 52) = 0 then (-1) else gI M 54 46)] M Q by
    refine r_if_eq (tgt := 14) dX13_more_4 (by decide) (fun c1 => ?_) (fun c1 => ?_)
    · skip
      refine r_iconst (v := (-1)) dX13_more_14 kI_m1 ?_
      exact q_weak (lo' := [none]) trivial (by have h9 := hJ1; simp only [if_pos c1] at h9; first | exact h9 | (simp only [if_pos c1]; exact h9))
    · skip
      refine r_aload_n dX13_more_7 rfl ?_
      refine r_getI dX13_more_8 fs_54_46 fk_X13_396 ?_
      refine r_goto (tgt := 15) dX13_more_11 (by decide) ?_
      exact q_weak (lo' := [none]) trivial (by have h9 := hJ1; simp only [if_neg c1] at h9; first | exact h9 | (simp only [if_neg c1]; exact h9))
  exact r_iret dX13_more_15 rfl h
theorem t_X13_blame_0 {x1 : Int32} 
    (K1 : (¬ ((v_X13_isRinger M x1) = 0)) → ((gI M 54 26) = 0) → Q (.returned (some (.int (-4)))) M)
    (K2 : (¬ ((v_X13_isRinger M x1) = 0)) → (¬ ((gI M 54 26) = 0)) → (¬ ((gI M 54 52) = 0)) → Fw l D ad kA mX13_blame 32 [some (.ref (ad 54)), some (.int x1), some (.int 0), some (.int 0)] [] M Q)
    (K3 : (¬ ((v_X13_isRinger M x1) = 0)) → (¬ ((gI M 54 26) = 0)) → ((gI M 54 52) = 0) → Q (.returned (some (.int (-4)))) M)
    (K4 : ((v_X13_isRinger M x1) = 0) → Q (.returned (some (.int (-2)))) M) : Fw l D ad kA mX13_blame 0 [some (.ref (ad 54)), some (.int x1), none, none] [] M Q := by
  refine r_aload_n dX13_blame_0 rfl ?_
  refine r_iload_n dX13_blame_1 rfl ?_
  refine r_callV (x := 54) (As := [.int x1]) (rest := []) dX13_blame_2 mk_X13_279 mv_X13_isRinger rm_X13_blame_X13_isRinger rfl rfl (by decide +kernel) (Nat.le_of_ble_eq_true rfl) (ct_X13_isRinger (⟨_, rfl, ?_⟩))
  refine r_if_ne (tgt := 11) dX13_blame_5 (by decide) (fun c1 => ?_) (fun c1 => ?_)
  · skip
    refine r_aload_n dX13_blame_11 rfl ?_
    refine r_getI dX13_blame_12 fs_54_26 fk_X13_236 ?_
    refine r_if_eq (tgt := 25) dX13_blame_15 (by decide) (fun c2 => ?_) (fun c2 => ?_)
    · skip
      refine r_bipush (v := (-4)) dX13_blame_25 kB_m4 ?_
      exact r_iret dX13_blame_27 rfl (K1 c1 c2)
    · skip
      refine r_aload_n dX13_blame_18 rfl ?_
      refine r_getI dX13_blame_19 fs_54_52 fk_X13_246 ?_
      refine r_if_ne (tgt := 28) dX13_blame_22 (by decide) (fun c3 => ?_) (fun c3 => ?_)
      · skip
        refine r_iconst (v := 0) dX13_blame_28 kI_0 ?_
        refine q_istore_n (lo' := [some (.ref (ad 54)), some (.int x1), some (.int 0), none]) dX13_blame_29 (by decide) rfl ?_
        refine r_iconst (v := 0) dX13_blame_30 kI_0 ?_
        refine q_istore_n (lo' := [some (.ref (ad 54)), some (.int x1), some (.int 0), some (.int 0)]) dX13_blame_31 (by decide) rfl ?_
        exact (K2 c1 c2 c3)
      · skip
        refine r_bipush (v := (-4)) dX13_blame_25 kB_m4 ?_
        exact r_iret dX13_blame_27 rfl (K3 c1 c2 c3)
  · skip
    refine r_bipush (v := (-2)) dX13_blame_8 kB_m2 ?_
    exact r_iret dX13_blame_10 rfl (K4 c1)
theorem t_X13_blame_32 {x1 : Int32} {x2 : Int32} {x3 : Int32} 
    (g1 : (¬ ((gI M 54 10) ≤ x3)) → vp_in x3 160)
    (g2 : (¬ ((gI M 54 10) ≤ x3)) → vp_in (gI M 57 x3.toNatClampNeg) 48)
    (g3 : (¬ ((gI M 54 10) ≤ x3)) → ((gI M 68 (gI M 57 x3.toNatClampNeg).toNatClampNeg) = x1) → (¬ ((gI M 82 x3.toNatClampNeg) = (-1))) → g_X13_pairPoints M x3 (gI M 82 x3.toNatClampNeg))
    (K1 : ((gI M 54 10) ≤ x3) → Fw l D ad kA mX13_blame 91 [some (.ref (ad 54)), some (.int x1), some (.int x2), some (.int 0)] [] M Q)
    (K2 : (¬ ((gI M 54 10) ≤ x3)) → Fw l D ad kA mX13_blame 32 [some (.ref (ad 54)), some (.int x1), some (.int (if (gI M 68 (gI M 57 x3.toNatClampNeg).toNatClampNeg) = x1 then x2 + (if (gI M 82 x3.toNatClampNeg) = (-1) then 3 else v_X13_pairPoints M x3 (gI M 82 x3.toNatClampNeg)) else x2)), some (.int (x3 + 1))] [] M Q) : Fw l D ad kA mX13_blame 32 [some (.ref (ad 54)), some (.int x1), some (.int x2), some (.int x3)] [] M Q := by
  refine r_iload_n dX13_blame_32 rfl ?_
  refine r_aload_n dX13_blame_33 rfl ?_
  refine r_getI dX13_blame_34 fs_54_10 fk_X13_233 ?_
  refine r_icmp_ge (tgt := 89) dX13_blame_37 (by decide) (fun c1 => ?_) (fun c1 => ?_)
  · skip
    refine r_iconst (v := 0) dX13_blame_89 kI_0 ?_
    refine q_istore_n (lo' := [some (.ref (ad 54)), some (.int x1), some (.int x2), some (.int 0)]) dX13_blame_90 (by decide) rfl ?_
    exact (K1 c1)
  · skip
    refine r_aload_n dX13_blame_40 rfl ?_
    refine r_getR dX13_blame_41 fs_54_25 fk_X13_153 ?_
    refine r_aload_n dX13_blame_44 rfl ?_
    refine r_getR dX13_blame_45 fs_54_13 fk_X13_128 ?_
    refine r_iload_n dX13_blame_48 rfl ?_
    refine r_iald dX13_blame_49 as_57 (g1 c1) ?_
    refine r_iald dX13_blame_50 as_68 (g2 c1) ?_
    refine r_iload_n dX13_blame_51 rfl ?_
    suffices hJ1 : Fw l D ad kA mX13_blame 83 [some (.ref (ad 54)), some (.int x1), some (.int (if (gI M 68 (gI M 57 x3.toNatClampNeg).toNatClampNeg) = x1 then x2 + (if (gI M 82 x3.toNatClampNeg) = (-1) then 3 else v_X13_pairPoints M x3 (gI M 82 x3.toNatClampNeg)) else x2)), some (.int x3)] [] M Q by
      refine r_icmp_ne (tgt := 83) dX13_blame_52 (by decide) (fun c2 => ?_) (fun c2 => ?_)
      · skip
        exact q_weak (lo' := [some (.ref (ad 54)), some (.int x1), some (.int x2), some (.int x3)]) ⟨rfl, rfl, rfl, rfl, trivial⟩ (by have h9 := hJ1; simp only [if_neg c2] at h9; first | exact h9 | (simp only [if_neg c2]; exact h9))
      · skip
        refine r_iload_n dX13_blame_55 rfl ?_
        refine r_aload_n dX13_blame_56 rfl ?_
        refine r_getR dX13_blame_57 fs_54_49 fk_X13_196 ?_
        refine r_iload_n dX13_blame_60 rfl ?_
        refine r_iald dX13_blame_61 as_82 (g1 c1) ?_
        refine r_iconst (v := (-1)) dX13_blame_62 kI_m1 ?_
        suffices hJ2 : Fw l D ad kA mX13_blame 81 [some (.ref (ad 54)), some (.int x1), none, some (.int x3)] [.int (if (gI M 82 x3.toNatClampNeg) = (-1) then 3 else v_X13_pairPoints M x3 (gI M 82 x3.toNatClampNeg)), .int x2] M Q by
          refine r_icmp_ne (tgt := 70) dX13_blame_63 (by decide) (fun c3 => ?_) (fun c3 => ?_)
          · skip
            refine r_aload_n dX13_blame_70 rfl ?_
            refine r_iload_n dX13_blame_71 rfl ?_
            refine r_aload_n dX13_blame_72 rfl ?_
            refine r_getR dX13_blame_73 fs_54_49 fk_X13_196 ?_
            refine r_iload_n dX13_blame_76 rfl ?_
            refine r_iald dX13_blame_77 as_82 (g1 c1) ?_
            refine r_callV (x := 54) (As := [.int x3, .int (gI M 82 x3.toNatClampNeg)]) (rest := [.int x2]) dX13_blame_78 mk_X13_381 mv_X13_pairPoints rm_X13_blame_X13_pairPoints rfl rfl (by decide +kernel) (Nat.le_of_ble_eq_true rfl) (ct_X13_pairPoints (g3 c1 c2 c3) (⟨_, rfl, ?_⟩))
            exact q_weak (lo' := [some (.ref (ad 54)), some (.int x1), none, some (.int x3)]) ⟨rfl, rfl, rfl, trivial⟩ (by have h9 := hJ2; simp only [if_neg c3] at h9; first | exact h9 | (simp only [if_neg c3]; exact h9))
          · skip
            refine r_iconst (v := 3) dX13_blame_66 kI_3 ?_
            refine r_goto (tgt := 81) dX13_blame_67 (by decide) ?_
            exact q_weak (lo' := [some (.ref (ad 54)), some (.int x1), none, some (.int x3)]) ⟨rfl, rfl, rfl, trivial⟩ (by have h9 := hJ2; simp only [if_pos c3] at h9; first | exact h9 | (simp only [if_pos c3]; exact h9))
        refine r_iadd dX13_blame_81 ?_
        refine q_istore_n (lo' := [some (.ref (ad 54)), some (.int x1), some (.int (x2 + (if (gI M 82 x3.toNatClampNeg) = (-1) then 3 else v_X13_pairPoints M x3 (gI M 82 x3.toNatClampNeg)))), some (.int x3)]) dX13_blame_82 (by decide) rfl ?_
        exact q_weak (lo' := [some (.ref (ad 54)), some (.int x1), some (.int (x2 + (if (gI M 82 x3.toNatClampNeg) = (-1) then 3 else v_X13_pairPoints M x3 (gI M 82 x3.toNatClampNeg)))), some (.int x3)]) ⟨rfl, rfl, rfl, rfl, trivial⟩ (by have h9 := hJ1; simp only [if_pos c2] at h9; first | exact h9 | (simp only [if_pos c2]; exact h9))
    refine q_iinc (v := x3 + 1) (lo' := [some (.ref (ad 54)), some (.int x1), some (.int (if (gI M 68 (gI M 57 x3.toNatClampNeg).toNatClampNeg) = x1 then x2 + (if (gI M 82 x3.toNatClampNeg) = (-1) then 3 else v_X13_pairPoints M x3 (gI M 82 x3.toNatClampNeg)) else x2)), some (.int (x3 + 1))]) dX13_blame_83 rfl (congrArg (fun q => x3 + q) kI_1) (by decide) rfl ?_
    refine r_goto (tgt := 32) dX13_blame_86 (by decide) ?_
    exact (K2 c1)
theorem t_X13_blame_91 {x1 : Int32} {x2 : Int32} {x3 : Int32} 
    (g1 : (¬ ((gI M 54 45) ≤ x3)) → vp_in x3 160)
    (g2 : (¬ ((gI M 54 45) ≤ x3)) → (¬ ((gI M 84 x3.toNatClampNeg) = 0)) → vp_in (gI M 81 x3.toNatClampNeg) 48)
    (K1 : ((gI M 54 45) ≤ x3) → Q (.returned (some (.int x2))) M)
    (K2 : (¬ ((gI M 54 45) ≤ x3)) → Fw l D ad kA mX13_blame 91 [some (.ref (ad 54)), some (.int x1), some (.int (if (gI M 84 x3.toNatClampNeg) = 0 then x2 else if (gI M 68 (gI M 81 x3.toNatClampNeg).toNatClampNeg) = x1 then x2 + 3 else x2)), some (.int (x3 + 1))] [] M Q) : Fw l D ad kA mX13_blame 91 [some (.ref (ad 54)), some (.int x1), some (.int x2), some (.int x3)] [] M Q := by
  refine r_iload_n dX13_blame_91 rfl ?_
  refine r_aload_n dX13_blame_92 rfl ?_
  refine r_getI dX13_blame_93 fs_54_45 fk_X13_378 ?_
  refine r_icmp_ge (tgt := 132) dX13_blame_96 (by decide) (fun c1 => ?_) (fun c1 => ?_)
  · skip
    refine r_iload_n dX13_blame_132 rfl ?_
    exact r_iret dX13_blame_133 rfl (K1 c1)
  · skip
    refine r_aload_n dX13_blame_99 rfl ?_
    refine r_getR dX13_blame_100 fs_54_51 fk_X13_202 ?_
    refine r_iload_n dX13_blame_103 rfl ?_
    refine r_zald dX13_blame_104 as_84 (g1 c1) ?_
    suffices hJ1 : Fw l D ad kA mX13_blame 126 [some (.ref (ad 54)), some (.int x1), some (.int (if (gI M 84 x3.toNatClampNeg) = 0 then x2 else if (gI M 68 (gI M 81 x3.toNatClampNeg).toNatClampNeg) = x1 then x2 + 3 else x2)), some (.int x3)] [] M Q by
      refine r_if_eq (tgt := 126) dX13_blame_105 (by decide) (fun c2 => ?_) (fun c2 => ?_)
      · skip
        exact q_weak (lo' := [some (.ref (ad 54)), some (.int x1), some (.int x2), some (.int x3)]) ⟨rfl, rfl, rfl, rfl, trivial⟩ (by have h9 := hJ1; simp only [if_pos c2] at h9; first | exact h9 | (simp only [if_pos c2]; exact h9))
      · skip
        refine r_aload_n dX13_blame_108 rfl ?_
        refine r_getR dX13_blame_109 fs_54_25 fk_X13_153 ?_
        refine r_aload_n dX13_blame_112 rfl ?_
        refine r_getR dX13_blame_113 fs_54_48 fk_X13_193 ?_
        refine r_iload_n dX13_blame_116 rfl ?_
        refine r_iald dX13_blame_117 as_81 (g1 c1) ?_
        refine r_iald dX13_blame_118 as_68 (g2 c1 c2) ?_
        refine r_iload_n dX13_blame_119 rfl ?_
        refine r_icmp_ne (tgt := 126) dX13_blame_120 (by decide) (fun c3 => ?_) (fun c3 => ?_)
        · skip
          exact q_weak (lo' := [some (.ref (ad 54)), some (.int x1), some (.int x2), some (.int x3)]) ⟨rfl, rfl, rfl, rfl, trivial⟩ (by have h9 := hJ1; simp only [if_neg c2, if_neg c3] at h9; first | exact h9 | (simp only [if_neg c2, if_neg c3]; exact h9))
        · skip
          refine q_iinc (v := x2 + 3) (lo' := [some (.ref (ad 54)), some (.int x1), some (.int (x2 + 3)), some (.int x3)]) dX13_blame_123 rfl (congrArg (fun q => x2 + q) kI_3) (by decide) rfl ?_
          exact q_weak (lo' := [some (.ref (ad 54)), some (.int x1), some (.int (x2 + 3)), some (.int x3)]) ⟨rfl, rfl, rfl, rfl, trivial⟩ (by have h9 := hJ1; simp only [if_neg c2, if_pos c3] at h9; first | exact h9 | (simp only [if_neg c2, if_pos c3]; exact h9))
    refine q_iinc (v := x3 + 1) (lo' := [some (.ref (ad 54)), some (.int x1), some (.int (if (gI M 84 x3.toNatClampNeg) = 0 then x2 else if (gI M 68 (gI M 81 x3.toNatClampNeg).toNatClampNeg) = x1 then x2 + 3 else x2)), some (.int (x3 + 1))]) dX13_blame_126 rfl (congrArg (fun q => x3 + q) kI_1) (by decide) rfl ?_
    refine r_goto (tgt := 91) dX13_blame_129 (by decide) ?_
    exact (K2 c1)
theorem en_X13_blame {x1 : Int32} (K : Fw l D ad kA mX13_blame 0 [some (.ref (ad 54)), some (.int x1), none, none] [] M Q) : Cal l D ad kA mX13_blame [.ref (ad 54), .int x1] M Q := Cal.of (by decide) rfl rfl (Nat.le_of_ble_eq_true rfl) K
end W_model5
